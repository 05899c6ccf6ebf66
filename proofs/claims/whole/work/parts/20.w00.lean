def fX7_hasFace (a40_0 : Int32) (a40_1 : Int32) (p0 : Int32) (p1 : Int32) : Option (Bool) :=
  if p0 < 0 then
    some false
  else
    if (a40_0 - 1) ≤ p0 then
      some false
    else
      if 8 ≤ p0 then
        some false
      else
        if p1 < 0 then
          some false
        else
          if (a40_1 - 1) ≤ p1 then
            some false
          else
            if 8 ≤ p1 then
              some false
            else
              some true
set_option maxRecDepth 100000 in
theorem tX7_hasFace_40 {G : eG} (hG : e_GS G) {la : Launch} {h : Nat → eO} {nx : Nat} (hnx : 99 ≤ nx) {a40_0 : Int32} {a40_1 : Int32} {p0 : Int32} {p1 : Int32} (h40 : h 40 = o40 a40_0 a40_1) {R9 : Bool} (hf : fX7_hasFace a40_0 a40_1 p0 p1 = some R9) :
    eSem G la MX7_hasFace [.ref 40, .int p0, .int p1] h nx 0 0 (fun r9 h9 => r9 = some (.int (e_b R9)) ∧ h9 = h) := by
  refine eSem.of (k := 0) (L := [some (.ref 40), some (.int p0), some (.int p1)]) (by decide +kernel) rfl rfl (fun X F hxl hq hcR hsR => ?_)
  subst hxl
  unfold fX7_hasFace at hf
  refine r_iload_n F dX7_hasFace_0 rfl ?_
  refine r_if_lt F dX7_hasFace_1 (tgt := 44) (by decide) (fun hc => ?_) (fun hc => ?_)
  · have hf := e_t hc hf
    refine r_iconst F dX7_hasFace_44 (v := 0) (by decide) ?_
    obtain rfl := Option.some.inj hf
    exact r_zret F hq (v := false) dX7_hasFace_45 rfl rfl (Nat.le_refl _) (Nat.le_refl _) ⟨rfl, rfl⟩
  · have hf := e_f hc hf
    refine r_iload_n F dX7_hasFace_4 rfl ?_
    refine r_aload_n F dX7_hasFace_5 rfl ?_
    refine r_get F dX7_hasFace_6 flX7_15 h40 rfl (e_le rfl) (e_lt hnx rfl) ?_
    refine r_iconst F dX7_hasFace_9 (v := 1) (by decide) ?_
    refine r_isub F dX7_hasFace_10 ?_
    refine r_icmp_ge F dX7_hasFace_11 (tgt := 44) (by decide) (fun hc => ?_) (fun hc => ?_)
    · have hf := e_t hc hf
      refine r_iconst F dX7_hasFace_44 (v := 0) (by decide) ?_
      obtain rfl := Option.some.inj hf
      exact r_zret F hq (v := false) dX7_hasFace_45 rfl rfl (Nat.le_refl _) (Nat.le_refl _) ⟨rfl, rfl⟩
    · have hf := e_f hc hf
      refine r_iload_n F dX7_hasFace_14 rfl ?_
      refine r_bipush F dX7_hasFace_15 (v := 8) (by decide) ?_
      refine r_icmp_ge F dX7_hasFace_17 (tgt := 44) (by decide) (fun hc => ?_) (fun hc => ?_)
      · have hf := e_t hc hf
        refine r_iconst F dX7_hasFace_44 (v := 0) (by decide) ?_
        obtain rfl := Option.some.inj hf
        exact r_zret F hq (v := false) dX7_hasFace_45 rfl rfl (Nat.le_refl _) (Nat.le_refl _) ⟨rfl, rfl⟩
      · have hf := e_f hc hf
        refine r_iload_n F dX7_hasFace_20 rfl ?_
        refine r_if_lt F dX7_hasFace_21 (tgt := 44) (by decide) (fun hc => ?_) (fun hc => ?_)
        · have hf := e_t hc hf
          refine r_iconst F dX7_hasFace_44 (v := 0) (by decide) ?_
          obtain rfl := Option.some.inj hf
          exact r_zret F hq (v := false) dX7_hasFace_45 rfl rfl (Nat.le_refl _) (Nat.le_refl _) ⟨rfl, rfl⟩
        · have hf := e_f hc hf
          refine r_iload_n F dX7_hasFace_24 rfl ?_
          refine r_aload_n F dX7_hasFace_25 rfl ?_
          refine r_get F dX7_hasFace_26 flX7_19 h40 rfl (e_le rfl) (e_lt hnx rfl) ?_
          refine r_iconst F dX7_hasFace_29 (v := 1) (by decide) ?_
          refine r_isub F dX7_hasFace_30 ?_
          refine r_icmp_ge F dX7_hasFace_31 (tgt := 44) (by decide) (fun hc => ?_) (fun hc => ?_)
          · have hf := e_t hc hf
            refine r_iconst F dX7_hasFace_44 (v := 0) (by decide) ?_
            obtain rfl := Option.some.inj hf
            exact r_zret F hq (v := false) dX7_hasFace_45 rfl rfl (Nat.le_refl _) (Nat.le_refl _) ⟨rfl, rfl⟩
          · have hf := e_f hc hf
            refine r_iload_n F dX7_hasFace_34 rfl ?_
            refine r_bipush F dX7_hasFace_35 (v := 8) (by decide) ?_
            refine r_icmp_ge F dX7_hasFace_37 (tgt := 44) (by decide) (fun hc => ?_) (fun hc => ?_)
            · have hf := e_t hc hf
              refine r_iconst F dX7_hasFace_44 (v := 0) (by decide) ?_
              obtain rfl := Option.some.inj hf
              exact r_zret F hq (v := false) dX7_hasFace_45 rfl rfl (Nat.le_refl _) (Nat.le_refl _) ⟨rfl, rfl⟩
            · have hf := e_f hc hf
              refine r_iconst F dX7_hasFace_40 (v := 1) (by decide) ?_
              refine r_goto F dX7_hasFace_41 (tgt := 45) (by decide) ?_
              obtain rfl := Option.some.inj hf
              exact r_zret F hq (v := true) dX7_hasFace_45 rfl rfl (Nat.le_refl _) (Nat.le_refl _) ⟨rfl, rfl⟩

def fX7_placeOf  (p0 : Int32) (p1 : Int32) (p2 : Int32) : Option (Int32) :=
  some (((4 : Int32) * (((9 : Int32) * p1) + p0)) + ((2 : Int32) * p2))
set_option maxRecDepth 100000 in
theorem tX7_placeOf {G : eG} (hG : e_GS G) {la : Launch} {h : Nat → eO} {nx : Nat} (hnx : 99 ≤ nx)  {p0 : Int32} {p1 : Int32} {p2 : Int32}  {R9 : Int32} (hf : fX7_placeOf  p0 p1 p2 = some R9) :
    eSem G la MX7_placeOf [.int p0, .int p1, .int p2] h nx 0 0 (fun r9 h9 => r9 = some (.int R9) ∧ h9 = h) := by
  refine eSem.of (k := 0) (L := [some (.int p0), some (.int p1), some (.int p2)]) (by decide +kernel) rfl rfl (fun X F hxl hq hcR hsR => ?_)
  subst hxl
  unfold fX7_placeOf at hf
  refine r_iconst F dX7_placeOf_0 (v := 4) (by decide) ?_
  refine r_bipush F dX7_placeOf_1 (v := 9) (by decide) ?_
  refine r_iload_n F dX7_placeOf_3 rfl ?_
  refine r_imul F dX7_placeOf_4 ?_
  refine r_iload_n F dX7_placeOf_5 rfl ?_
  refine r_iadd F dX7_placeOf_6 ?_
  refine r_imul F dX7_placeOf_7 ?_
  refine r_iconst F dX7_placeOf_8 (v := 2) (by decide) ?_
  refine r_iload_n F dX7_placeOf_9 rfl ?_
  refine r_imul F dX7_placeOf_10 ?_
  refine r_iadd F dX7_placeOf_11 ?_
  obtain rfl := Option.some.inj hf
  exact r_iret F hq dX7_placeOf_12 rfl rfl (Nat.le_refl _) (Nat.le_refl _) ⟨rfl, rfl⟩

def fX7_vectorOf (a40_0 : Int32) (a40_1 : Int32) (A41 : Nat → Int32) (p0 : Int32) (p1 : Int32) (p2 : Int32) : Option (Int32) :=
  (fX7_hasFace a40_0 a40_1 p0 p1).bind (fun q1 =>
  if q1 = true then
    if p2 = 0 then
      (fX7_placeOf p0 p1 0).bind (fun q3 =>
      e_g (e_in (q3 + p2) 324) (
      (fX7_placeOf (p0 + 1) p1 1).bind (fun q5 =>
      e_g (e_in (q5 + p2) 324) (
      (fX7_placeOf p0 (p1 + 1) 0).bind (fun q7 =>
      e_g (e_in (q7 + p2) 324) (
      (fX7_placeOf p0 p1 1).bind (fun q9 =>
      e_g (e_in (q9 + p2) 324) (
      some ((((A41 (tn (q3 + p2))) + (A41 (tn (q5 + p2)))) - (A41 (tn (q7 + p2)))) - (A41 (tn (q9 + p2))))))))))))
    else
      if p2 = 1 then
        (fX7_placeOf p0 p1 0).bind (fun q11 =>
        e_g (e_in (q11 + p2) 324) (
        (fX7_placeOf (p0 + 1) p1 1).bind (fun q13 =>
        e_g (e_in (q13 + p2) 324) (
        (fX7_placeOf p0 (p1 + 1) 0).bind (fun q15 =>
        e_g (e_in (q15 + p2) 324) (
        (fX7_placeOf p0 p1 1).bind (fun q17 =>
        e_g (e_in (q17 + p2) 324) (
        some ((((A41 (tn (q11 + p2))) + (A41 (tn (q13 + p2)))) - (A41 (tn (q15 + p2)))) - (A41 (tn (q17 + p2))))))))))))
      else
        some 0
  else
    some 0)
set_option maxRecDepth 100000 in
theorem tX7_vectorOf_40 {G : eG} (hG : e_GS G) {la : Launch} {h : Nat → eO} {nx : Nat} (hnx : 99 ≤ nx) {a40_0 : Int32} {a40_1 : Int32} {A41 : Nat → Int32} {p0 : Int32} {p1 : Int32} {p2 : Int32} (h40 : h 40 = o40 a40_0 a40_1) (h41 : h 41 = o41 A41) {R9 : Int32} (hf : fX7_vectorOf a40_0 a40_1 A41 p0 p1 p2 = some R9) :
    eSem G la MX7_vectorOf [.ref 40, .int p0, .int p1, .int p2] h nx 0 0 (fun r9 h9 => r9 = some (.int R9) ∧ h9 = h) := by
  refine eSem.of (k := 0) (L := [some (.ref 40), some (.int p0), some (.int p1), some (.int p2)]) (by decide +kernel) rfl rfl (fun X F hxl hq hcR hsR => ?_)
  subst hxl
  unfold fX7_vectorOf at hf
  refine r_aload_n F dX7_vectorOf_0 rfl ?_
  refine r_iload_n F dX7_vectorOf_1 rfl ?_
  refine r_iload_n F dX7_vectorOf_2 rfl ?_
  obtain ⟨q1, hq2, hf⟩ := e_bd hf
  refine r_callV F dX7_vectorOf_3 (b := 40) (dc := 0) (ds := 0) (As := [.int p0, .int p1]) (S0 := []) lkX7_51 mX7_hasFace (tX7_hasFace_40 hG (la := x_l X) (h := e_up h []) hnx h40 hq2) rfl rfl rfl (e_le rfl) (e_le rfl) (e_le rfl) h40 (ci := 7) e_cl7.1 rfl (e_le rfl) (e_lt hnx rfl) (Nat.zero_le _) (Nat.zero_le _) (e_k ?_)
  refine r_wr0 ?_
  refine r_z_eq F dX7_vectorOf_6 (tgt := 18) (by decide) (fun hc => ?_) (fun hc => ?_)
  · have hf := e_t hc hf
    refine r_iload_n F dX7_vectorOf_9 rfl ?_
    refine r_if_eq F dX7_vectorOf_10 (tgt := 20) (by decide) (fun hc => ?_) (fun hc => ?_)
    · have hf := e_t hc hf
      refine r_aload_n F dX7_vectorOf_20 rfl ?_
      refine r_get F dX7_vectorOf_21 flX7_11 h40 rfl (e_le rfl) (e_lt hnx rfl) ?_
      refine r_iload_n F dX7_vectorOf_24 rfl ?_
      refine r_iload_n F dX7_vectorOf_25 rfl ?_
      refine r_iconst F dX7_vectorOf_26 (v := 0) (by decide) ?_
      obtain ⟨q3, hq4, hf⟩ := e_bd hf
      refine r_callS F dX7_vectorOf_27 (dc := 0) (ds := 0) (As := [.int p0, .int p1, .int 0]) (S0 := [.ref 41]) lkX7_32 mX7_placeOf (tX7_placeOf hG (la := x_l X) (h := e_up h []) hnx  hq4) rfl rfl rfl (e_le rfl) (e_le rfl) (e_le rfl) (Nat.zero_le _) (Nat.zero_le _) (e_k ?_)
      refine r_wr0 ?_
      refine r_iload_n F dX7_vectorOf_30 rfl ?_
      refine r_iadd F dX7_vectorOf_31 ?_
      obtain ⟨hg, hf⟩ := e_gd hf
      refine r_iald F dX7_vectorOf_32 (i := (q3 + p2)) h41 (e_le rfl) (e_lt hnx rfl) (e_vp hg) ?_
      refine r_aload_n F dX7_vectorOf_33 rfl ?_
      refine r_get F dX7_vectorOf_34 flX7_11 h40 rfl (e_le rfl) (e_lt hnx rfl) ?_
      refine r_iload_n F dX7_vectorOf_37 rfl ?_
      refine r_iconst F dX7_vectorOf_38 (v := 1) (by decide) ?_
      refine r_iadd F dX7_vectorOf_39 ?_
      refine r_iload_n F dX7_vectorOf_40 rfl ?_
      refine r_iconst F dX7_vectorOf_41 (v := 1) (by decide) ?_
      obtain ⟨q5, hq6, hf⟩ := e_bd hf
      refine r_callS F dX7_vectorOf_42 (dc := 0) (ds := 0) (As := [.int (p0 + 1), .int p1, .int 1]) (S0 := [.ref 41, .int (A41 (tn (q3 + p2)))]) lkX7_32 mX7_placeOf (tX7_placeOf hG (la := x_l X) (h := e_up h []) hnx  hq6) rfl rfl rfl (e_le rfl) (e_le rfl) (e_le rfl) (Nat.zero_le _) (Nat.zero_le _) (e_k ?_)
      refine r_wr0 ?_
      refine r_iload_n F dX7_vectorOf_45 rfl ?_
      refine r_iadd F dX7_vectorOf_46 ?_
      obtain ⟨hg, hf⟩ := e_gd hf
      refine r_iald F dX7_vectorOf_47 (i := (q5 + p2)) h41 (e_le rfl) (e_lt hnx rfl) (e_vp hg) ?_
      refine r_iadd F dX7_vectorOf_48 ?_
      refine r_aload_n F dX7_vectorOf_49 rfl ?_
      refine r_get F dX7_vectorOf_50 flX7_11 h40 rfl (e_le rfl) (e_lt hnx rfl) ?_
      refine r_iload_n F dX7_vectorOf_53 rfl ?_
      refine r_iload_n F dX7_vectorOf_54 rfl ?_
      refine r_iconst F dX7_vectorOf_55 (v := 1) (by decide) ?_
      refine r_iadd F dX7_vectorOf_56 ?_
      refine r_iconst F dX7_vectorOf_57 (v := 0) (by decide) ?_
      obtain ⟨q7, hq8, hf⟩ := e_bd hf
      refine r_callS F dX7_vectorOf_58 (dc := 0) (ds := 0) (As := [.int p0, .int (p1 + 1), .int 0]) (S0 := [.ref 41, .int ((A41 (tn (q3 + p2))) + (A41 (tn (q5 + p2))))]) lkX7_32 mX7_placeOf (tX7_placeOf hG (la := x_l X) (h := e_up h []) hnx  hq8) rfl rfl rfl (e_le rfl) (e_le rfl) (e_le rfl) (Nat.zero_le _) (Nat.zero_le _) (e_k ?_)
      refine r_wr0 ?_
      refine r_iload_n F dX7_vectorOf_61 rfl ?_
      refine r_iadd F dX7_vectorOf_62 ?_
      obtain ⟨hg, hf⟩ := e_gd hf
      refine r_iald F dX7_vectorOf_63 (i := (q7 + p2)) h41 (e_le rfl) (e_lt hnx rfl) (e_vp hg) ?_
      refine r_isub F dX7_vectorOf_64 ?_
      refine r_aload_n F dX7_vectorOf_65 rfl ?_
      refine r_get F dX7_vectorOf_66 flX7_11 h40 rfl (e_le rfl) (e_lt hnx rfl) ?_
      refine r_iload_n F dX7_vectorOf_69 rfl ?_
      refine r_iload_n F dX7_vectorOf_70 rfl ?_
      refine r_iconst F dX7_vectorOf_71 (v := 1) (by decide) ?_
      obtain ⟨q9, hq10, hf⟩ := e_bd hf
      refine r_callS F dX7_vectorOf_72 (dc := 0) (ds := 0) (As := [.int p0, .int p1, .int 1]) (S0 := [.ref 41, .int (((A41 (tn (q3 + p2))) + (A41 (tn (q5 + p2)))) - (A41 (tn (q7 + p2))))]) lkX7_32 mX7_placeOf (tX7_placeOf hG (la := x_l X) (h := e_up h []) hnx  hq10) rfl rfl rfl (e_le rfl) (e_le rfl) (e_le rfl) (Nat.zero_le _) (Nat.zero_le _) (e_k ?_)
      refine r_wr0 ?_
      refine r_iload_n F dX7_vectorOf_75 rfl ?_
      refine r_iadd F dX7_vectorOf_76 ?_
      obtain ⟨hg, hf⟩ := e_gd hf
      refine r_iald F dX7_vectorOf_77 (i := (q9 + p2)) h41 (e_le rfl) (e_lt hnx rfl) (e_vp hg) ?_
      refine r_isub F dX7_vectorOf_78 ?_
      obtain rfl := Option.some.inj hf
      exact r_iret F hq dX7_vectorOf_79 rfl rfl (Nat.le_refl _) (Nat.le_refl _) ⟨rfl, rfl⟩
    · have hf := e_f hc hf
      refine r_iload_n F dX7_vectorOf_13 rfl ?_
      refine r_iconst F dX7_vectorOf_14 (v := 1) (by decide) ?_
      refine r_icmp_eq F dX7_vectorOf_15 (tgt := 20) (by decide) (fun hc => ?_) (fun hc => ?_)
      · have hf := e_t hc hf
        refine r_aload_n F dX7_vectorOf_20 rfl ?_
        refine r_get F dX7_vectorOf_21 flX7_11 h40 rfl (e_le rfl) (e_lt hnx rfl) ?_
        refine r_iload_n F dX7_vectorOf_24 rfl ?_
        refine r_iload_n F dX7_vectorOf_25 rfl ?_
        refine r_iconst F dX7_vectorOf_26 (v := 0) (by decide) ?_
        obtain ⟨q11, hq12, hf⟩ := e_bd hf
        refine r_callS F dX7_vectorOf_27 (dc := 0) (ds := 0) (As := [.int p0, .int p1, .int 0]) (S0 := [.ref 41]) lkX7_32 mX7_placeOf (tX7_placeOf hG (la := x_l X) (h := e_up h []) hnx  hq12) rfl rfl rfl (e_le rfl) (e_le rfl) (e_le rfl) (Nat.zero_le _) (Nat.zero_le _) (e_k ?_)
        refine r_wr0 ?_
        refine r_iload_n F dX7_vectorOf_30 rfl ?_
        refine r_iadd F dX7_vectorOf_31 ?_
        obtain ⟨hg, hf⟩ := e_gd hf
        refine r_iald F dX7_vectorOf_32 (i := (q11 + p2)) h41 (e_le rfl) (e_lt hnx rfl) (e_vp hg) ?_
        refine r_aload_n F dX7_vectorOf_33 rfl ?_
        refine r_get F dX7_vectorOf_34 flX7_11 h40 rfl (e_le rfl) (e_lt hnx rfl) ?_
        refine r_iload_n F dX7_vectorOf_37 rfl ?_
        refine r_iconst F dX7_vectorOf_38 (v := 1) (by decide) ?_
        refine r_iadd F dX7_vectorOf_39 ?_
        refine r_iload_n F dX7_vectorOf_40 rfl ?_
        refine r_iconst F dX7_vectorOf_41 (v := 1) (by decide) ?_
        obtain ⟨q13, hq14, hf⟩ := e_bd hf
        refine r_callS F dX7_vectorOf_42 (dc := 0) (ds := 0) (As := [.int (p0 + 1), .int p1, .int 1]) (S0 := [.ref 41, .int (A41 (tn (q11 + p2)))]) lkX7_32 mX7_placeOf (tX7_placeOf hG (la := x_l X) (h := e_up h []) hnx  hq14) rfl rfl rfl (e_le rfl) (e_le rfl) (e_le rfl) (Nat.zero_le _) (Nat.zero_le _) (e_k ?_)
        refine r_wr0 ?_
        refine r_iload_n F dX7_vectorOf_45 rfl ?_
        refine r_iadd F dX7_vectorOf_46 ?_
        obtain ⟨hg, hf⟩ := e_gd hf
        refine r_iald F dX7_vectorOf_47 (i := (q13 + p2)) h41 (e_le rfl) (e_lt hnx rfl) (e_vp hg) ?_
        refine r_iadd F dX7_vectorOf_48 ?_
        refine r_aload_n F dX7_vectorOf_49 rfl ?_
        refine r_get F dX7_vectorOf_50 flX7_11 h40 rfl (e_le rfl) (e_lt hnx rfl) ?_
        refine r_iload_n F dX7_vectorOf_53 rfl ?_
        refine r_iload_n F dX7_vectorOf_54 rfl ?_
        refine r_iconst F dX7_vectorOf_55 (v := 1) (by decide) ?_
        refine r_iadd F dX7_vectorOf_56 ?_
        refine r_iconst F dX7_vectorOf_57 (v := 0) (by decide) ?_
        obtain ⟨q15, hq16, hf⟩ := e_bd hf
        refine r_callS F dX7_vectorOf_58 (dc := 0) (ds := 0) (As := [.int p0, .int (p1 + 1), .int 0]) (S0 := [.ref 41, .int ((A41 (tn (q11 + p2))) + (A41 (tn (q13 + p2))))]) lkX7_32 mX7_placeOf (tX7_placeOf hG (la := x_l X) (h := e_up h []) hnx  hq16) rfl rfl rfl (e_le rfl) (e_le rfl) (e_le rfl) (Nat.zero_le _) (Nat.zero_le _) (e_k ?_)
        refine r_wr0 ?_
        refine r_iload_n F dX7_vectorOf_61 rfl ?_
        refine r_iadd F dX7_vectorOf_62 ?_
        obtain ⟨hg, hf⟩ := e_gd hf
        refine r_iald F dX7_vectorOf_63 (i := (q15 + p2)) h41 (e_le rfl) (e_lt hnx rfl) (e_vp hg) ?_
        refine r_isub F dX7_vectorOf_64 ?_
        refine r_aload_n F dX7_vectorOf_65 rfl ?_
        refine r_get F dX7_vectorOf_66 flX7_11 h40 rfl (e_le rfl) (e_lt hnx rfl) ?_
        refine r_iload_n F dX7_vectorOf_69 rfl ?_
        refine r_iload_n F dX7_vectorOf_70 rfl ?_
        refine r_iconst F dX7_vectorOf_71 (v := 1) (by decide) ?_
        obtain ⟨q17, hq18, hf⟩ := e_bd hf
        refine r_callS F dX7_vectorOf_72 (dc := 0) (ds := 0) (As := [.int p0, .int p1, .int 1]) (S0 := [.ref 41, .int (((A41 (tn (q11 + p2))) + (A41 (tn (q13 + p2)))) - (A41 (tn (q15 + p2))))]) lkX7_32 mX7_placeOf (tX7_placeOf hG (la := x_l X) (h := e_up h []) hnx  hq18) rfl rfl rfl (e_le rfl) (e_le rfl) (e_le rfl) (Nat.zero_le _) (Nat.zero_le _) (e_k ?_)
        refine r_wr0 ?_
        refine r_iload_n F dX7_vectorOf_75 rfl ?_
        refine r_iadd F dX7_vectorOf_76 ?_
        obtain ⟨hg, hf⟩ := e_gd hf
        refine r_iald F dX7_vectorOf_77 (i := (q17 + p2)) h41 (e_le rfl) (e_lt hnx rfl) (e_vp hg) ?_
        refine r_isub F dX7_vectorOf_78 ?_
        obtain rfl := Option.some.inj hf
        exact r_iret F hq dX7_vectorOf_79 rfl rfl (Nat.le_refl _) (Nat.le_refl _) ⟨rfl, rfl⟩
      · have hf := e_f hc hf
        refine r_iconst F dX7_vectorOf_18 (v := 0) (by decide) ?_
        obtain rfl := Option.some.inj hf
        exact r_iret F hq dX7_vectorOf_19 rfl rfl (Nat.le_refl _) (Nat.le_refl _) ⟨rfl, rfl⟩
  · have hf := e_f hc hf
    refine r_iconst F dX7_vectorOf_18 (v := 0) (by decide) ?_
    obtain rfl := Option.some.inj hf
    exact r_iret F hq dX7_vectorOf_19 rfl rfl (Nat.le_refl _) (Nat.le_refl _) ⟨rfl, rfl⟩

def fX0_find (a40_0 : Int32) (a40_1 : Int32) (a42_0 : Int32) (A41 : Nat → Int32) (A43 : Nat → Int32) (A44 : Nat → Int32)  : Option (Int32 × (Nat → Int32) × (Nat → Int32)) :=
  (e_loop (fun (v3 : Int32 × Int32 × (Nat → Int32) × (Nat → Int32)) => (
      if (a40_1 - 1) ≤ v3.1 then
        some (.inr (v3.2.1, v3.2.2.1, v3.2.2.2))
      else
        (e_loop (fun (v8 : Int32 × Int32 × (Nat → Int32) × (Nat → Int32)) => (
            if (a40_0 - 1) ≤ v8.1 then
              some (.inr (v8.2.1, v8.2.2.1, v8.2.2.2))
            else
              (fX7_vectorOf a40_0 a40_1 A41 v8.1 v3.1 0).bind (fun q11 =>
              (fX7_vectorOf a40_0 a40_1 A41 v8.1 v3.1 1).bind (fun q13 =>
              Option.bind (α := Int32 × (Nat → Int32) × (Nat → Int32)) (
                if q11 = 0 then
                  if q13 = 0 then
                    some (v8.2.1, v8.2.2.1, v8.2.2.2)
                  else
                    if 12 ≤ v8.2.1 then
                      some (v8.2.1, v8.2.2.1, v8.2.2.2)
                    else
                      e_g (e_in ((2 : Int32) * v8.2.1) 24) (
                      e_g (e_in (((2 : Int32) * v8.2.1) + 1) 24) (
                      e_g (e_in ((2 : Int32) * v8.2.1) 24) (
                      e_g (e_in (((2 : Int32) * v8.2.1) + 1) 24) (
                      some (v8.2.1 + 1, upd (upd v8.2.2.1 (tn ((2 : Int32) * v8.2.1)) v8.1) (tn (((2 : Int32) * v8.2.1) + 1)) v3.1, upd (upd v8.2.2.2 (tn ((2 : Int32) * v8.2.1)) q11) (tn (((2 : Int32) * v8.2.1) + 1)) q13)))))
                else
                  if 12 ≤ v8.2.1 then
                    some (v8.2.1, v8.2.2.1, v8.2.2.2)
                  else
                    e_g (e_in ((2 : Int32) * v8.2.1) 24) (
                    e_g (e_in (((2 : Int32) * v8.2.1) + 1) 24) (
                    e_g (e_in ((2 : Int32) * v8.2.1) 24) (
                    e_g (e_in (((2 : Int32) * v8.2.1) + 1) 24) (
                    some (v8.2.1 + 1, upd (upd v8.2.2.1 (tn ((2 : Int32) * v8.2.1)) v8.1) (tn (((2 : Int32) * v8.2.1) + 1)) v3.1, upd (upd v8.2.2.2 (tn ((2 : Int32) * v8.2.1)) q11) (tn (((2 : Int32) * v8.2.1) + 1)) q13)))))) (fun q15 =>
              some (.inl (v8.1 + 1, q15.1, q15.2.1, q15.2.2))))) : Option ((Int32 × Int32 × (Nat → Int32) × (Nat → Int32)) ⊕ (Int32 × (Nat → Int32) × (Nat → Int32))))) e_fuel (0, v3.2.1, v3.2.2.1, v3.2.2.2)).bind (fun x9 =>
        some (.inl (v3.1 + 1, x9.1, x9.2.1, x9.2.2))) : Option ((Int32 × Int32 × (Nat → Int32) × (Nat → Int32)) ⊕ (Int32 × (Nat → Int32) × (Nat → Int32))))) e_fuel (0, 0, A43, A44)).bind (fun x4 =>
  some (x4.1, x4.2.1, x4.2.2))
set_option maxRecDepth 100000 in
theorem tX0_find_42_40 {G : eG} (hG : e_GS G) {la : Launch} {h : Nat → eO} {nx : Nat} (hnx : 99 ≤ nx) {a40_0 : Int32} {a40_1 : Int32} {A41 : Nat → Int32} {a42_0 : Int32} {A43 : Nat → Int32} {A44 : Nat → Int32}  (h40 : h 40 = o40 a40_0 a40_1) (h41 : h 41 = o41 A41) (h42 : h 42 = o42 a42_0) (h43 : h 43 = o43 A43) (h44 : h 44 = o44 A44) {R9 : Int32 × (Nat → Int32) × (Nat → Int32)} (hf : fX0_find a40_0 a40_1 a42_0 A41 A43 A44  = some R9) :
    eSem G la MX0_find [.ref 42, .ref 40] h nx 0 0 (fun r9 h9 => r9 = none ∧ h9 = e_up h [(42, o42 R9.1), (43, o43 R9.2.1), (44, o44 R9.2.2)]) := by
  refine eSem.of (k := 4) (L := [some (.ref 42), some (.ref 40), none, none, none, none]) (by decide +kernel) rfl rfl (fun X F hxl hq hcR hsR => ?_)
  subst hxl
  unfold fX0_find at hf
  refine r_aload_n F dX0_find_0 rfl ?_
  refine r_iconst F dX0_find_1 (v := 0) (by decide) ?_
  refine r_put F dX0_find_2 flX0_18 rfl rfl rfl h42 (e_le rfl) (e_le rfl) (e_lt hnx rfl) (l' := [(42, o42 0)]) rfl ?_
  refine r_iconst F dX0_find_5 (v := 0) (by decide) ?_
  refine r_istore_n F dX0_find_6 (e_le rfl) (L' := [some (.ref 42), some (.ref 40), some (.int 0), none, none, none]) rfl ?_
  refine r_mat (k := 43) h43 (l' := [(42, o42 0), (43, o43 A43)]) rfl ?_
  refine r_mat (k := 44) h44 (l' := [(42, o42 0), (43, o43 A43), (44, o44 A44)]) rfl ?_
  obtain ⟨x4, hx5, hf⟩ := e_bd hf
  refine (e_loop_ok (P := fun (v3 : Int32 × Int32 × (Nat → Int32) × (Nat → Int32)) => eRun G X 7 [some (.ref 42), some (.ref 40), some (.int v3.1), none, none, none] [] h [(42, o42 v3.2.1), (43, o43 v3.2.2.1), (44, o44 v3.2.2.2)] nx 0 0) (K := fun (x4 : Int32 × (Nat → Int32) × (Nat → Int32)) => eRun G X 142 [none, none, none, none, none, none] [] h [(42, o42 x4.1), (43, o43 x4.2.1), (44, o44 x4.2.2)] nx 0 0) ?_ e_fuel (0, 0, A43, A44) x4 hx5 ?_ : _)
  · intro v3 z hz ih hx
    refine r_iload_n F dX0_find_7 rfl ?_
    refine r_aload_n F dX0_find_8 rfl ?_
    refine r_get F dX0_find_9 flX0_22 h40 rfl (e_le rfl) (e_lt hnx rfl) ?_
    refine r_iconst F dX0_find_12 (v := 1) (by decide) ?_
    refine r_isub F dX0_find_13 ?_
    refine r_icmp_ge F dX0_find_14 (tgt := 142) (by decide) (fun hc => ?_) (fun hc => ?_)
    · have hz := e_t hc hz
      refine r_drop 0 (L' := [none, some (.ref 40), some (.int v3.1), none, none, none]) rfl ?_
      refine r_drop 1 (L' := [none, none, some (.int v3.1), none, none, none]) rfl ?_
      refine r_drop 2 (L' := [none, none, none, none, none, none]) rfl ?_
      obtain rfl := Option.some.inj hz
      exact hx (v3.2.1, v3.2.2.1, v3.2.2.2) rfl
    · have hz := e_f hc hz
      refine r_iconst F dX0_find_17 (v := 0) (by decide) ?_
      refine r_istore_n F dX0_find_18 (e_le rfl) (L' := [some (.ref 42), some (.ref 40), some (.int v3.1), some (.int 0), none, none]) rfl ?_
      obtain ⟨x9, hx10, hz⟩ := e_bd hz
      refine (e_loop_ok (P := fun (v8 : Int32 × Int32 × (Nat → Int32) × (Nat → Int32)) => eRun G X 19 [some (.ref 42), some (.ref 40), some (.int v3.1), some (.int v8.1), none, none] [] h [(42, o42 v8.2.1), (43, o43 v8.2.2.1), (44, o44 v8.2.2.2)] nx 0 0) (K := fun (x9 : Int32 × (Nat → Int32) × (Nat → Int32)) => eRun G X 136 [some (.ref 42), some (.ref 40), some (.int v3.1), none, none, none] [] h [(42, o42 x9.1), (43, o43 x9.2.1), (44, o44 x9.2.2)] nx 0 0) ?_ e_fuel (0, v3.2.1, v3.2.2.1, v3.2.2.2) x9 hx10 ?_ : _)
      · intro v8 z hz ih hx
        refine r_iload_n F dX0_find_19 rfl ?_
        refine r_aload_n F dX0_find_20 rfl ?_
        refine r_get F dX0_find_21 flX0_27 h40 rfl (e_le rfl) (e_lt hnx rfl) ?_
        refine r_iconst F dX0_find_24 (v := 1) (by decide) ?_
        refine r_isub F dX0_find_25 ?_
        refine r_icmp_ge F dX0_find_26 (tgt := 136) (by decide) (fun hc => ?_) (fun hc => ?_)
        · have hz := e_t hc hz
          refine r_drop 3 (L' := [some (.ref 42), some (.ref 40), some (.int v3.1), none, none, none]) rfl ?_
          obtain rfl := Option.some.inj hz
          exact hx (v8.2.1, v8.2.2.1, v8.2.2.2) rfl
        · have hz := e_f hc hz
          refine r_aload_n F dX0_find_29 rfl ?_
          refine r_iload_n F dX0_find_30 rfl ?_
          refine r_iload_n F dX0_find_31 rfl ?_
          refine r_iconst F dX0_find_32 (v := 0) (by decide) ?_
          obtain ⟨q11, hq12, hz⟩ := e_bd hz
          refine r_callV F dX0_find_33 (b := 40) (dc := 0) (ds := 0) (As := [.int v8.1, .int v3.1, .int 0]) (S0 := []) lkX0_30 mX7_vectorOf (tX7_vectorOf_40 hG (la := x_l X) (h := e_up h [(42, o42 v8.2.1), (43, o43 v8.2.2.1), (44, o44 v8.2.2.2)]) hnx h40 h41 hq12) rfl rfl rfl (e_le rfl) (e_le rfl) (e_le rfl) h40 (ci := 7) e_cl7.1 rfl (e_le rfl) (e_lt hnx rfl) (Nat.zero_le _) (Nat.zero_le _) (e_k ?_)
          refine r_wr0 ?_
          refine r_istore F dX0_find_36 (e_le rfl) (L' := [some (.ref 42), some (.ref 40), some (.int v3.1), some (.int v8.1), some (.int q11), none]) rfl ?_
          refine r_aload_n F dX0_find_38 rfl ?_
          refine r_iload_n F dX0_find_39 rfl ?_
          refine r_iload_n F dX0_find_40 rfl ?_
          refine r_iconst F dX0_find_41 (v := 1) (by decide) ?_
          obtain ⟨q13, hq14, hz⟩ := e_bd hz
          refine r_callV F dX0_find_42 (b := 40) (dc := 0) (ds := 0) (As := [.int v8.1, .int v3.1, .int 1]) (S0 := []) lkX0_30 mX7_vectorOf (tX7_vectorOf_40 hG (la := x_l X) (h := e_up h [(42, o42 v8.2.1), (43, o43 v8.2.2.1), (44, o44 v8.2.2.2)]) hnx h40 h41 hq14) rfl rfl rfl (e_le rfl) (e_le rfl) (e_le rfl) h40 (ci := 7) e_cl7.1 rfl (e_le rfl) (e_lt hnx rfl) (Nat.zero_le _) (Nat.zero_le _) (e_k ?_)
          refine r_wr0 ?_
          refine r_istore F dX0_find_45 (e_le rfl) (L' := [some (.ref 42), some (.ref 40), some (.int v3.1), some (.int v8.1), some (.int q11), some (.int q13)]) rfl ?_
          refine r_iload F dX0_find_47 rfl ?_
          obtain ⟨q15, hq16, hz⟩ := e_bd hz
          have Jq15 : eRun G X 130 [some (.ref 42), some (.ref 40), some (.int v3.1), some (.int v8.1), none, none] [] h [(42, o42 q15.1), (43, o43 q15.2.1), (44, o44 q15.2.2)] nx 0 0 := by
            refine r_inc F dX0_find_130 (k9 := 1) (by decide) rfl (L' := [some (.ref 42), some (.ref 40), some (.int v3.1), some (.int (v8.1 + 1)), none, none]) rfl ?_
            refine r_goto F dX0_find_133 (tgt := 19) (by decide) ?_
            obtain rfl := Option.some.inj hz
            exact ih (v8.1 + 1, q15.1, q15.2.1, q15.2.2) rfl
          refine r_if_ne F dX0_find_49 (tgt := 57) (by decide) (fun hc => ?_) (fun hc => ?_)
          · have hq16 := e_f hc hq16
            refine r_aload_n F dX0_find_57 rfl ?_
            refine r_get F dX0_find_58 flX0_18 rfl rfl (e_le rfl) (e_lt hnx rfl) ?_
            refine r_bipush F dX0_find_61 (v := 12) (by decide) ?_
            refine r_icmp_ge F dX0_find_63 (tgt := 130) (by decide) (fun hc => ?_) (fun hc => ?_)
            · have hq16 := e_t hc hq16
              refine r_drop 4 (L' := [some (.ref 42), some (.ref 40), some (.int v3.1), some (.int v8.1), none, some (.int q13)]) rfl ?_
              refine r_drop 5 (L' := [some (.ref 42), some (.ref 40), some (.int v3.1), some (.int v8.1), none, none]) rfl ?_
              obtain rfl := Option.some.inj hq16
              exact Jq15
            · have hq16 := e_f hc hq16
              refine r_aload_n F dX0_find_66 rfl ?_
              refine r_get F dX0_find_67 flX0_9 rfl rfl (e_le rfl) (e_lt hnx rfl) ?_
              refine r_iconst F dX0_find_70 (v := 2) (by decide) ?_
              refine r_aload_n F dX0_find_71 rfl ?_
              refine r_get F dX0_find_72 flX0_18 rfl rfl (e_le rfl) (e_lt hnx rfl) ?_
              refine r_imul F dX0_find_75 ?_
              refine r_iload_n F dX0_find_76 rfl ?_
              obtain ⟨hg, hq16⟩ := e_gd hq16
              refine r_iast F dX0_find_77 rfl (e_le rfl) (e_lt hnx rfl) (e_vp hg) (l' := [(42, o42 v8.2.1), (43, o43 (upd v8.2.2.1 (tn ((2 : Int32) * v8.2.1)) v8.1)), (44, o44 v8.2.2.2)]) rfl ?_
              refine r_aload_n F dX0_find_78 rfl ?_
              refine r_get F dX0_find_79 flX0_9 rfl rfl (e_le rfl) (e_lt hnx rfl) ?_
              refine r_iconst F dX0_find_82 (v := 2) (by decide) ?_
              refine r_aload_n F dX0_find_83 rfl ?_
              refine r_get F dX0_find_84 flX0_18 rfl rfl (e_le rfl) (e_lt hnx rfl) ?_
              refine r_imul F dX0_find_87 ?_
              refine r_iconst F dX0_find_88 (v := 1) (by decide) ?_
              refine r_iadd F dX0_find_89 ?_
              refine r_iload_n F dX0_find_90 rfl ?_
              obtain ⟨hg, hq16⟩ := e_gd hq16
              refine r_iast F dX0_find_91 rfl (e_le rfl) (e_lt hnx rfl) (e_vp hg) (l' := [(42, o42 v8.2.1), (43, o43 (upd (upd v8.2.2.1 (tn ((2 : Int32) * v8.2.1)) v8.1) (tn (((2 : Int32) * v8.2.1) + 1)) v3.1)), (44, o44 v8.2.2.2)]) rfl ?_
              refine r_aload_n F dX0_find_92 rfl ?_
              refine r_get F dX0_find_93 flX0_15 rfl rfl (e_le rfl) (e_lt hnx rfl) ?_
              refine r_iconst F dX0_find_96 (v := 2) (by decide) ?_
              refine r_aload_n F dX0_find_97 rfl ?_
              refine r_get F dX0_find_98 flX0_18 rfl rfl (e_le rfl) (e_lt hnx rfl) ?_
              refine r_imul F dX0_find_101 ?_
              refine r_iload F dX0_find_102 rfl ?_
              obtain ⟨hg, hq16⟩ := e_gd hq16
              refine r_iast F dX0_find_104 rfl (e_le rfl) (e_lt hnx rfl) (e_vp hg) (l' := [(42, o42 v8.2.1), (43, o43 (upd (upd v8.2.2.1 (tn ((2 : Int32) * v8.2.1)) v8.1) (tn (((2 : Int32) * v8.2.1) + 1)) v3.1)), (44, o44 (upd v8.2.2.2 (tn ((2 : Int32) * v8.2.1)) q11))]) rfl ?_
              refine r_aload_n F dX0_find_105 rfl ?_
              refine r_get F dX0_find_106 flX0_15 rfl rfl (e_le rfl) (e_lt hnx rfl) ?_
              refine r_iconst F dX0_find_109 (v := 2) (by decide) ?_
              refine r_aload_n F dX0_find_110 rfl ?_
              refine r_get F dX0_find_111 flX0_18 rfl rfl (e_le rfl) (e_lt hnx rfl) ?_
              refine r_imul F dX0_find_114 ?_
              refine r_iconst F dX0_find_115 (v := 1) (by decide) ?_
              refine r_iadd F dX0_find_116 ?_
              refine r_iload F dX0_find_117 rfl ?_
              obtain ⟨hg, hq16⟩ := e_gd hq16
              refine r_iast F dX0_find_119 rfl (e_le rfl) (e_lt hnx rfl) (e_vp hg) (l' := [(42, o42 v8.2.1), (43, o43 (upd (upd v8.2.2.1 (tn ((2 : Int32) * v8.2.1)) v8.1) (tn (((2 : Int32) * v8.2.1) + 1)) v3.1)), (44, o44 (upd (upd v8.2.2.2 (tn ((2 : Int32) * v8.2.1)) q11) (tn (((2 : Int32) * v8.2.1) + 1)) q13))]) rfl ?_
              refine r_aload_n F dX0_find_120 rfl ?_
              refine r_dup F dX0_find_121 rfl ?_
              refine r_get F dX0_find_122 flX0_18 rfl rfl (e_le rfl) (e_lt hnx rfl) ?_
              refine r_iconst F dX0_find_125 (v := 1) (by decide) ?_
              refine r_iadd F dX0_find_126 ?_
              refine r_put F dX0_find_127 flX0_18 rfl rfl rfl rfl (e_le rfl) (e_le rfl) (e_lt hnx rfl) (l' := [(42, o42 (v8.2.1 + 1)), (43, o43 (upd (upd v8.2.2.1 (tn ((2 : Int32) * v8.2.1)) v8.1) (tn (((2 : Int32) * v8.2.1) + 1)) v3.1)), (44, o44 (upd (upd v8.2.2.2 (tn ((2 : Int32) * v8.2.1)) q11) (tn (((2 : Int32) * v8.2.1) + 1)) q13))]) rfl ?_
              refine r_drop 4 (L' := [some (.ref 42), some (.ref 40), some (.int v3.1), some (.int v8.1), none, some (.int q13)]) rfl ?_
              refine r_drop 5 (L' := [some (.ref 42), some (.ref 40), some (.int v3.1), some (.int v8.1), none, none]) rfl ?_
              obtain rfl := Option.some.inj hq16
              exact Jq15
          · have hq16 := e_t hc hq16
            refine r_iload F dX0_find_52 rfl ?_
            refine r_if_eq F dX0_find_54 (tgt := 130) (by decide) (fun hc => ?_) (fun hc => ?_)
            · have hq16 := e_t hc hq16
              refine r_drop 4 (L' := [some (.ref 42), some (.ref 40), some (.int v3.1), some (.int v8.1), none, some (.int q13)]) rfl ?_
              refine r_drop 5 (L' := [some (.ref 42), some (.ref 40), some (.int v3.1), some (.int v8.1), none, none]) rfl ?_
              obtain rfl := Option.some.inj hq16
              exact Jq15
            · have hq16 := e_f hc hq16
              refine r_aload_n F dX0_find_57 rfl ?_
              refine r_get F dX0_find_58 flX0_18 rfl rfl (e_le rfl) (e_lt hnx rfl) ?_
              refine r_bipush F dX0_find_61 (v := 12) (by decide) ?_
              refine r_icmp_ge F dX0_find_63 (tgt := 130) (by decide) (fun hc => ?_) (fun hc => ?_)
              · have hq16 := e_t hc hq16
                refine r_drop 4 (L' := [some (.ref 42), some (.ref 40), some (.int v3.1), some (.int v8.1), none, some (.int q13)]) rfl ?_
                refine r_drop 5 (L' := [some (.ref 42), some (.ref 40), some (.int v3.1), some (.int v8.1), none, none]) rfl ?_
                obtain rfl := Option.some.inj hq16
                exact Jq15
              · have hq16 := e_f hc hq16
                refine r_aload_n F dX0_find_66 rfl ?_
                refine r_get F dX0_find_67 flX0_9 rfl rfl (e_le rfl) (e_lt hnx rfl) ?_
                refine r_iconst F dX0_find_70 (v := 2) (by decide) ?_
                refine r_aload_n F dX0_find_71 rfl ?_
                refine r_get F dX0_find_72 flX0_18 rfl rfl (e_le rfl) (e_lt hnx rfl) ?_
                refine r_imul F dX0_find_75 ?_
                refine r_iload_n F dX0_find_76 rfl ?_
                obtain ⟨hg, hq16⟩ := e_gd hq16
                refine r_iast F dX0_find_77 rfl (e_le rfl) (e_lt hnx rfl) (e_vp hg) (l' := [(42, o42 v8.2.1), (43, o43 (upd v8.2.2.1 (tn ((2 : Int32) * v8.2.1)) v8.1)), (44, o44 v8.2.2.2)]) rfl ?_
                refine r_aload_n F dX0_find_78 rfl ?_
                refine r_get F dX0_find_79 flX0_9 rfl rfl (e_le rfl) (e_lt hnx rfl) ?_
                refine r_iconst F dX0_find_82 (v := 2) (by decide) ?_
                refine r_aload_n F dX0_find_83 rfl ?_
                refine r_get F dX0_find_84 flX0_18 rfl rfl (e_le rfl) (e_lt hnx rfl) ?_
                refine r_imul F dX0_find_87 ?_
                refine r_iconst F dX0_find_88 (v := 1) (by decide) ?_
                refine r_iadd F dX0_find_89 ?_
                refine r_iload_n F dX0_find_90 rfl ?_
                obtain ⟨hg, hq16⟩ := e_gd hq16
                refine r_iast F dX0_find_91 rfl (e_le rfl) (e_lt hnx rfl) (e_vp hg) (l' := [(42, o42 v8.2.1), (43, o43 (upd (upd v8.2.2.1 (tn ((2 : Int32) * v8.2.1)) v8.1) (tn (((2 : Int32) * v8.2.1) + 1)) v3.1)), (44, o44 v8.2.2.2)]) rfl ?_
                refine r_aload_n F dX0_find_92 rfl ?_
                refine r_get F dX0_find_93 flX0_15 rfl rfl (e_le rfl) (e_lt hnx rfl) ?_
                refine r_iconst F dX0_find_96 (v := 2) (by decide) ?_
                refine r_aload_n F dX0_find_97 rfl ?_
                refine r_get F dX0_find_98 flX0_18 rfl rfl (e_le rfl) (e_lt hnx rfl) ?_
                refine r_imul F dX0_find_101 ?_
                refine r_iload F dX0_find_102 rfl ?_
                obtain ⟨hg, hq16⟩ := e_gd hq16
                refine r_iast F dX0_find_104 rfl (e_le rfl) (e_lt hnx rfl) (e_vp hg) (l' := [(42, o42 v8.2.1), (43, o43 (upd (upd v8.2.2.1 (tn ((2 : Int32) * v8.2.1)) v8.1) (tn (((2 : Int32) * v8.2.1) + 1)) v3.1)), (44, o44 (upd v8.2.2.2 (tn ((2 : Int32) * v8.2.1)) q11))]) rfl ?_
                refine r_aload_n F dX0_find_105 rfl ?_
                refine r_get F dX0_find_106 flX0_15 rfl rfl (e_le rfl) (e_lt hnx rfl) ?_
                refine r_iconst F dX0_find_109 (v := 2) (by decide) ?_
                refine r_aload_n F dX0_find_110 rfl ?_
                refine r_get F dX0_find_111 flX0_18 rfl rfl (e_le rfl) (e_lt hnx rfl) ?_
                refine r_imul F dX0_find_114 ?_
                refine r_iconst F dX0_find_115 (v := 1) (by decide) ?_
                refine r_iadd F dX0_find_116 ?_
                refine r_iload F dX0_find_117 rfl ?_
                obtain ⟨hg, hq16⟩ := e_gd hq16
                refine r_iast F dX0_find_119 rfl (e_le rfl) (e_lt hnx rfl) (e_vp hg) (l' := [(42, o42 v8.2.1), (43, o43 (upd (upd v8.2.2.1 (tn ((2 : Int32) * v8.2.1)) v8.1) (tn (((2 : Int32) * v8.2.1) + 1)) v3.1)), (44, o44 (upd (upd v8.2.2.2 (tn ((2 : Int32) * v8.2.1)) q11) (tn (((2 : Int32) * v8.2.1) + 1)) q13))]) rfl ?_
                refine r_aload_n F dX0_find_120 rfl ?_
                refine r_dup F dX0_find_121 rfl ?_
                refine r_get F dX0_find_122 flX0_18 rfl rfl (e_le rfl) (e_lt hnx rfl) ?_
                refine r_iconst F dX0_find_125 (v := 1) (by decide) ?_
                refine r_iadd F dX0_find_126 ?_
                refine r_put F dX0_find_127 flX0_18 rfl rfl rfl rfl (e_le rfl) (e_le rfl) (e_lt hnx rfl) (l' := [(42, o42 (v8.2.1 + 1)), (43, o43 (upd (upd v8.2.2.1 (tn ((2 : Int32) * v8.2.1)) v8.1) (tn (((2 : Int32) * v8.2.1) + 1)) v3.1)), (44, o44 (upd (upd v8.2.2.2 (tn ((2 : Int32) * v8.2.1)) q11) (tn (((2 : Int32) * v8.2.1) + 1)) q13))]) rfl ?_
                refine r_drop 4 (L' := [some (.ref 42), some (.ref 40), some (.int v3.1), some (.int v8.1), none, some (.int q13)]) rfl ?_
                refine r_drop 5 (L' := [some (.ref 42), some (.ref 40), some (.int v3.1), some (.int v8.1), none, none]) rfl ?_
                obtain rfl := Option.some.inj hq16
                exact Jq15
      · show eRun G X 136 [some (.ref 42), some (.ref 40), some (.int v3.1), none, none, none] [] h [(42, o42 x9.1), (43, o43 x9.2.1), (44, o44 x9.2.2)] nx 0 0
        refine r_inc F dX0_find_136 (k9 := 1) (by decide) rfl (L' := [some (.ref 42), some (.ref 40), some (.int (v3.1 + 1)), none, none, none]) rfl ?_
        refine r_goto F dX0_find_139 (tgt := 7) (by decide) ?_
        obtain rfl := Option.some.inj hz
        exact ih (v3.1 + 1, x9.1, x9.2.1, x9.2.2) rfl
  · show eRun G X 142 [none, none, none, none, none, none] [] h [(42, o42 x4.1), (43, o43 x4.2.1), (44, o44 x4.2.2)] nx 0 0
    obtain rfl := Option.some.inj hf
    exact r_vret F hq dX0_find_142 rfl rfl (Nat.le_refl _) (Nat.le_refl _) ⟨rfl, rfl⟩

def fX11_afterReturn (a40_0 : Int32) (a40_1 : Int32) (a42_0 : Int32) (A41 : Nat → Int32) (A43 : Nat → Int32) (A44 : Nat → Int32) (p0 : Int32) : Option (Int32 × Int32 × (Nat → Int32) × (Nat → Int32)) :=
  (fX0_find a40_0 a40_1 a42_0 A41 A43 A44).bind (fun q1 =>
  some (p0, q1.1, q1.2.1, q1.2.2))
set_option maxRecDepth 100000 in
theorem tX11_afterReturn_32 {G : eG} (hG : e_GS G) {la : Launch} {h : Nat → eO} {nx : Nat} (hnx : 99 ≤ nx) {a32_8 : Bool} {a32_10 : Bool} {a40_0 : Int32} {a40_1 : Int32} {A41 : Nat → Int32} {a42_0 : Int32} {A43 : Nat → Int32} {A44 : Nat → Int32} {p0 : Int32} (h32 : h 32 = o32 a32_8 a32_10) (h39 : h 39 = o39) (h40 : h 40 = o40 a40_0 a40_1) (h41 : h 41 = o41 A41) (h42 : h 42 = o42 a42_0) (h43 : h 43 = o43 A43) (h44 : h 44 = o44 A44) {R9 : Int32 × Int32 × (Nat → Int32) × (Nat → Int32)} (hf : fX11_afterReturn a40_0 a40_1 a42_0 A41 A43 A44 p0 = some R9) :
    eSem G la MX11_afterReturn [.ref 32, .int p0] h nx 0 0 (fun r9 h9 => r9 = some (.int R9.1) ∧ h9 = e_up h [(42, o42 R9.2.1), (43, o43 R9.2.2.1), (44, o44 R9.2.2.2)]) := by
  refine eSem.of (k := 0) (L := [some (.ref 32), some (.int p0)]) (by decide +kernel) rfl rfl (fun X F hxl hq hcR hsR => ?_)
  subst hxl
  unfold fX11_afterReturn at hf
  refine r_aload_n F dX11_afterReturn_0 rfl ?_
  refine r_get F dX11_afterReturn_1 flX11_28 h32 rfl (e_le rfl) (e_lt hnx rfl) ?_
  refine r_get F dX11_afterReturn_4 flX11_127 h39 rfl (e_le rfl) (e_lt hnx rfl) ?_
  refine r_aload_n F dX11_afterReturn_7 rfl ?_
  refine r_get F dX11_afterReturn_8 flX11_28 h32 rfl (e_le rfl) (e_lt hnx rfl) ?_
  refine r_get F dX11_afterReturn_11 flX11_141 h39 rfl (e_le rfl) (e_lt hnx rfl) ?_
  obtain ⟨q1, hq2, hf⟩ := e_bd hf
  refine r_callV F dX11_afterReturn_14 (b := 42) (dc := 0) (ds := 0) (As := [.ref 40]) (S0 := []) lkX11_257 mX0_find (tX0_find_42_40 hG (la := x_l X) (h := e_up h []) hnx h40 h41 h42 h43 h44 hq2) rfl rfl rfl (e_le rfl) (e_le rfl) (e_le rfl) h42 (ci := 0) e_cl0.1 rfl (e_le rfl) (e_lt hnx rfl) (Nat.zero_le _) (Nat.zero_le _) (e_k ?_)
  refine r_wr (l' := [(42, o42 q1.1), (43, o43 q1.2.1), (44, o44 q1.2.2)]) rfl rfl ?_
  refine r_iload_n F dX11_afterReturn_17 rfl ?_
  obtain rfl := Option.some.inj hf
  exact r_iret F hq dX11_afterReturn_18 rfl rfl (Nat.le_refl _) (Nat.le_refl _) ⟨rfl, rfl⟩

def fX11_isEmpty (a40_0 : Int32)  : Option (Bool) :=
  if a40_0 = 0 then
    some true
  else
    some false
set_option maxRecDepth 100000 in
theorem tX11_isEmpty_32 {G : eG} (hG : e_GS G) {la : Launch} {h : Nat → eO} {nx : Nat} (hnx : 99 ≤ nx) {a32_8 : Bool} {a32_10 : Bool} {a40_0 : Int32} {a40_1 : Int32}  (h32 : h 32 = o32 a32_8 a32_10) (h39 : h 39 = o39) (h40 : h 40 = o40 a40_0 a40_1) {R9 : Bool} (hf : fX11_isEmpty a40_0  = some R9) :
    eSem G la MX11_isEmpty [.ref 32] h nx 0 0 (fun r9 h9 => r9 = some (.int (e_b R9)) ∧ h9 = h) := by
  refine eSem.of (k := 0) (L := [some (.ref 32)]) (by decide +kernel) rfl rfl (fun X F hxl hq hcR hsR => ?_)
  subst hxl
  unfold fX11_isEmpty at hf
  refine r_aload_n F dX11_isEmpty_0 rfl ?_
  refine r_get F dX11_isEmpty_1 flX11_28 h32 rfl (e_le rfl) (e_lt hnx rfl) ?_
  refine r_get F dX11_isEmpty_4 flX11_141 h39 rfl (e_le rfl) (e_lt hnx rfl) ?_
  refine r_get F dX11_isEmpty_7 flX11_145 h40 rfl (e_le rfl) (e_lt hnx rfl) ?_
  refine r_if_ne F dX11_isEmpty_10 (tgt := 17) (by decide) (fun hc => ?_) (fun hc => ?_)
  · have hf := e_f hc hf
    refine r_iconst F dX11_isEmpty_17 (v := 0) (by decide) ?_
    obtain rfl := Option.some.inj hf
    exact r_zret F hq (v := false) dX11_isEmpty_18 rfl rfl (Nat.le_refl _) (Nat.le_refl _) ⟨rfl, rfl⟩
  · have hf := e_t hc hf
    refine r_iconst F dX11_isEmpty_13 (v := 1) (by decide) ?_
    refine r_goto F dX11_isEmpty_14 (tgt := 18) (by decide) ?_
    obtain rfl := Option.some.inj hf
    exact r_zret F hq (v := true) dX11_isEmpty_18 rfl rfl (Nat.le_refl _) (Nat.le_refl _) ⟨rfl, rfl⟩

def fX7_copy (a40_0 : Int32) (a40_1 : Int32) (a47_0 : Int32) (a47_1 : Int32) (A41 : Nat → Int32) (A48 : Nat → Int32)  : Option (Int32 × Int32 × (Nat → Int32)) :=
  some (a40_0, a40_1, va_cpy A41 A48 (tn 0) (tn 0) (tn 324))
set_option maxRecDepth 100000 in
theorem tX7_copy_47_40 {G : eG} (hG : e_GS G) {la : Launch} {h : Nat → eO} {nx : Nat} (hnx : 99 ≤ nx) {a40_0 : Int32} {a40_1 : Int32} {A41 : Nat → Int32} {a47_0 : Int32} {a47_1 : Int32} {A48 : Nat → Int32}  (h40 : h 40 = o40 a40_0 a40_1) (h41 : h 41 = o41 A41) (h47 : h 47 = o47 a47_0 a47_1) (h48 : h 48 = o48 A48) {R9 : Int32 × Int32 × (Nat → Int32)} (hf : fX7_copy a40_0 a40_1 a47_0 a47_1 A41 A48  = some R9) :
    eSem G la MX7_copy [.ref 47, .ref 40] h nx 0 0 (fun r9 h9 => r9 = none ∧ h9 = e_up h [(47, o47 R9.1 R9.2.1), (48, o48 R9.2.2)]) := by
  refine eSem.of (k := 0) (L := [some (.ref 47), some (.ref 40)]) (by decide +kernel) rfl rfl (fun X F hxl hq hcR hsR => ?_)
  subst hxl
  unfold fX7_copy at hf
  refine r_aload_n F dX7_copy_0 rfl ?_
  refine r_aload_n F dX7_copy_1 rfl ?_
  refine r_get F dX7_copy_2 flX7_15 h40 rfl (e_le rfl) (e_lt hnx rfl) ?_
  refine r_put F dX7_copy_5 flX7_15 rfl rfl rfl h47 (e_le rfl) (e_le rfl) (e_lt hnx rfl) (l' := [(47, o47 a40_0 a47_1)]) rfl ?_
  refine r_aload_n F dX7_copy_8 rfl ?_
  refine r_aload_n F dX7_copy_9 rfl ?_
  refine r_get F dX7_copy_10 flX7_19 h40 rfl (e_le rfl) (e_lt hnx rfl) ?_
  refine r_put F dX7_copy_13 flX7_19 rfl rfl rfl rfl (e_le rfl) (e_le rfl) (e_lt hnx rfl) (l' := [(47, o47 a40_0 a40_1)]) rfl ?_
  refine r_aload_n F dX7_copy_16 rfl ?_
  refine r_get F dX7_copy_17 flX7_11 h40 rfl (e_le rfl) (e_lt hnx rfl) ?_
  refine r_iconst F dX7_copy_20 (v := 0) (by decide) ?_
  refine r_aload_n F dX7_copy_21 rfl ?_
  refine r_get F dX7_copy_22 flX7_11 rfl rfl (e_le rfl) (e_lt hnx rfl) ?_
  refine r_iconst F dX7_copy_25 (v := 0) (by decide) ?_
  refine r_aload_n F dX7_copy_26 rfl ?_
  refine r_get F dX7_copy_27 flX7_11 rfl rfl (e_le rfl) (e_lt hnx rfl) ?_
  refine r_alen F dX7_copy_30 h48 (e_le rfl) (e_lt hnx rfl) (v := 324) rfl ?_
  refine r_copy F dX7_copy_31 lnX7_22 k_an k_as k_ai h41 (e_le rfl) (e_lt hnx rfl) h48 (e_le rfl) (e_lt hnx rfl) (by decide) (by decide) (by decide) (by decide) (by decide) rfl (e_le rfl) (e_le rfl) (by decide) (l' := [(47, o47 a40_0 a40_1), (48, o48 (va_cpy A41 A48 (tn 0) (tn 0) (tn 324)))]) rfl ?_
  obtain rfl := Option.some.inj hf
  exact r_vret F hq dX7_copy_34 rfl rfl (Nat.le_refl _) (Nat.le_refl _) ⟨rfl, rfl⟩

set_option maxRecDepth 100000 in
theorem tX7_hasFace_47 {G : eG} (hG : e_GS G) {la : Launch} {h : Nat → eO} {nx : Nat} (hnx : 99 ≤ nx) {a47_0 : Int32} {a47_1 : Int32} {p0 : Int32} {p1 : Int32} (h47 : h 47 = o47 a47_0 a47_1) {R9 : Bool} (hf : fX7_hasFace a47_0 a47_1 p0 p1 = some R9) :
    eSem G la MX7_hasFace [.ref 47, .int p0, .int p1] h nx 0 0 (fun r9 h9 => r9 = some (.int (e_b R9)) ∧ h9 = h) := by
  refine eSem.of (k := 0) (L := [some (.ref 47), some (.int p0), some (.int p1)]) (by decide +kernel) rfl rfl (fun X F hxl hq hcR hsR => ?_)
  subst hxl
  unfold fX7_hasFace at hf
  refine r_iload_n F dX7_hasFace_0 rfl ?_
  refine r_if_lt F dX7_hasFace_1 (tgt := 44) (by decide) (fun hc => ?_) (fun hc => ?_)
  · have hf := e_t hc hf
    refine r_iconst F dX7_hasFace_44 (v := 0) (by decide) ?_
    obtain rfl := Option.some.inj hf
    exact r_zret F hq (v := false) dX7_hasFace_45 rfl rfl (Nat.le_refl _) (Nat.le_refl _) ⟨rfl, rfl⟩
  · have hf := e_f hc hf
    refine r_iload_n F dX7_hasFace_4 rfl ?_
    refine r_aload_n F dX7_hasFace_5 rfl ?_
    refine r_get F dX7_hasFace_6 flX7_15 h47 rfl (e_le rfl) (e_lt hnx rfl) ?_
    refine r_iconst F dX7_hasFace_9 (v := 1) (by decide) ?_
    refine r_isub F dX7_hasFace_10 ?_
    refine r_icmp_ge F dX7_hasFace_11 (tgt := 44) (by decide) (fun hc => ?_) (fun hc => ?_)
    · have hf := e_t hc hf
      refine r_iconst F dX7_hasFace_44 (v := 0) (by decide) ?_
      obtain rfl := Option.some.inj hf
      exact r_zret F hq (v := false) dX7_hasFace_45 rfl rfl (Nat.le_refl _) (Nat.le_refl _) ⟨rfl, rfl⟩
    · have hf := e_f hc hf
      refine r_iload_n F dX7_hasFace_14 rfl ?_
      refine r_bipush F dX7_hasFace_15 (v := 8) (by decide) ?_
      refine r_icmp_ge F dX7_hasFace_17 (tgt := 44) (by decide) (fun hc => ?_) (fun hc => ?_)
      · have hf := e_t hc hf
        refine r_iconst F dX7_hasFace_44 (v := 0) (by decide) ?_
        obtain rfl := Option.some.inj hf
        exact r_zret F hq (v := false) dX7_hasFace_45 rfl rfl (Nat.le_refl _) (Nat.le_refl _) ⟨rfl, rfl⟩
      · have hf := e_f hc hf
        refine r_iload_n F dX7_hasFace_20 rfl ?_
        refine r_if_lt F dX7_hasFace_21 (tgt := 44) (by decide) (fun hc => ?_) (fun hc => ?_)
        · have hf := e_t hc hf
          refine r_iconst F dX7_hasFace_44 (v := 0) (by decide) ?_
          obtain rfl := Option.some.inj hf
          exact r_zret F hq (v := false) dX7_hasFace_45 rfl rfl (Nat.le_refl _) (Nat.le_refl _) ⟨rfl, rfl⟩
        · have hf := e_f hc hf
          refine r_iload_n F dX7_hasFace_24 rfl ?_
          refine r_aload_n F dX7_hasFace_25 rfl ?_
          refine r_get F dX7_hasFace_26 flX7_19 h47 rfl (e_le rfl) (e_lt hnx rfl) ?_
          refine r_iconst F dX7_hasFace_29 (v := 1) (by decide) ?_
          refine r_isub F dX7_hasFace_30 ?_
          refine r_icmp_ge F dX7_hasFace_31 (tgt := 44) (by decide) (fun hc => ?_) (fun hc => ?_)
          · have hf := e_t hc hf
            refine r_iconst F dX7_hasFace_44 (v := 0) (by decide) ?_
            obtain rfl := Option.some.inj hf
            exact r_zret F hq (v := false) dX7_hasFace_45 rfl rfl (Nat.le_refl _) (Nat.le_refl _) ⟨rfl, rfl⟩
          · have hf := e_f hc hf
            refine r_iload_n F dX7_hasFace_34 rfl ?_
            refine r_bipush F dX7_hasFace_35 (v := 8) (by decide) ?_
            refine r_icmp_ge F dX7_hasFace_37 (tgt := 44) (by decide) (fun hc => ?_) (fun hc => ?_)
            · have hf := e_t hc hf
              refine r_iconst F dX7_hasFace_44 (v := 0) (by decide) ?_
              obtain rfl := Option.some.inj hf
              exact r_zret F hq (v := false) dX7_hasFace_45 rfl rfl (Nat.le_refl _) (Nat.le_refl _) ⟨rfl, rfl⟩
            · have hf := e_f hc hf
              refine r_iconst F dX7_hasFace_40 (v := 1) (by decide) ?_
              refine r_goto F dX7_hasFace_41 (tgt := 45) (by decide) ?_
              obtain rfl := Option.some.inj hf
              exact r_zret F hq (v := true) dX7_hasFace_45 rfl rfl (Nat.le_refl _) (Nat.le_refl _) ⟨rfl, rfl⟩

set_option maxRecDepth 100000 in
theorem tX7_vectorOf_47 {G : eG} (hG : e_GS G) {la : Launch} {h : Nat → eO} {nx : Nat} (hnx : 99 ≤ nx) {a47_0 : Int32} {a47_1 : Int32} {A48 : Nat → Int32} {p0 : Int32} {p1 : Int32} {p2 : Int32} (h47 : h 47 = o47 a47_0 a47_1) (h48 : h 48 = o48 A48) {R9 : Int32} (hf : fX7_vectorOf a47_0 a47_1 A48 p0 p1 p2 = some R9) :
    eSem G la MX7_vectorOf [.ref 47, .int p0, .int p1, .int p2] h nx 0 0 (fun r9 h9 => r9 = some (.int R9) ∧ h9 = h) := by
  refine eSem.of (k := 0) (L := [some (.ref 47), some (.int p0), some (.int p1), some (.int p2)]) (by decide +kernel) rfl rfl (fun X F hxl hq hcR hsR => ?_)
  subst hxl
  unfold fX7_vectorOf at hf
  refine r_aload_n F dX7_vectorOf_0 rfl ?_
  refine r_iload_n F dX7_vectorOf_1 rfl ?_
  refine r_iload_n F dX7_vectorOf_2 rfl ?_
  obtain ⟨q1, hq2, hf⟩ := e_bd hf
  refine r_callV F dX7_vectorOf_3 (b := 47) (dc := 0) (ds := 0) (As := [.int p0, .int p1]) (S0 := []) lkX7_51 mX7_hasFace (tX7_hasFace_47 hG (la := x_l X) (h := e_up h []) hnx h47 hq2) rfl rfl rfl (e_le rfl) (e_le rfl) (e_le rfl) h47 (ci := 7) e_cl7.1 rfl (e_le rfl) (e_lt hnx rfl) (Nat.zero_le _) (Nat.zero_le _) (e_k ?_)
  refine r_wr0 ?_
  refine r_z_eq F dX7_vectorOf_6 (tgt := 18) (by decide) (fun hc => ?_) (fun hc => ?_)
  · have hf := e_t hc hf
    refine r_iload_n F dX7_vectorOf_9 rfl ?_
    refine r_if_eq F dX7_vectorOf_10 (tgt := 20) (by decide) (fun hc => ?_) (fun hc => ?_)
    · have hf := e_t hc hf
      refine r_aload_n F dX7_vectorOf_20 rfl ?_
      refine r_get F dX7_vectorOf_21 flX7_11 h47 rfl (e_le rfl) (e_lt hnx rfl) ?_
      refine r_iload_n F dX7_vectorOf_24 rfl ?_
      refine r_iload_n F dX7_vectorOf_25 rfl ?_
      refine r_iconst F dX7_vectorOf_26 (v := 0) (by decide) ?_
      obtain ⟨q3, hq4, hf⟩ := e_bd hf
      refine r_callS F dX7_vectorOf_27 (dc := 0) (ds := 0) (As := [.int p0, .int p1, .int 0]) (S0 := [.ref 48]) lkX7_32 mX7_placeOf (tX7_placeOf hG (la := x_l X) (h := e_up h []) hnx  hq4) rfl rfl rfl (e_le rfl) (e_le rfl) (e_le rfl) (Nat.zero_le _) (Nat.zero_le _) (e_k ?_)
      refine r_wr0 ?_
      refine r_iload_n F dX7_vectorOf_30 rfl ?_
      refine r_iadd F dX7_vectorOf_31 ?_
      obtain ⟨hg, hf⟩ := e_gd hf
      refine r_iald F dX7_vectorOf_32 (i := (q3 + p2)) h48 (e_le rfl) (e_lt hnx rfl) (e_vp hg) ?_
      refine r_aload_n F dX7_vectorOf_33 rfl ?_
      refine r_get F dX7_vectorOf_34 flX7_11 h47 rfl (e_le rfl) (e_lt hnx rfl) ?_
      refine r_iload_n F dX7_vectorOf_37 rfl ?_
      refine r_iconst F dX7_vectorOf_38 (v := 1) (by decide) ?_
      refine r_iadd F dX7_vectorOf_39 ?_
      refine r_iload_n F dX7_vectorOf_40 rfl ?_
      refine r_iconst F dX7_vectorOf_41 (v := 1) (by decide) ?_
      obtain ⟨q5, hq6, hf⟩ := e_bd hf
      refine r_callS F dX7_vectorOf_42 (dc := 0) (ds := 0) (As := [.int (p0 + 1), .int p1, .int 1]) (S0 := [.ref 48, .int (A48 (tn (q3 + p2)))]) lkX7_32 mX7_placeOf (tX7_placeOf hG (la := x_l X) (h := e_up h []) hnx  hq6) rfl rfl rfl (e_le rfl) (e_le rfl) (e_le rfl) (Nat.zero_le _) (Nat.zero_le _) (e_k ?_)
      refine r_wr0 ?_
      refine r_iload_n F dX7_vectorOf_45 rfl ?_
      refine r_iadd F dX7_vectorOf_46 ?_
      obtain ⟨hg, hf⟩ := e_gd hf
      refine r_iald F dX7_vectorOf_47 (i := (q5 + p2)) h48 (e_le rfl) (e_lt hnx rfl) (e_vp hg) ?_
      refine r_iadd F dX7_vectorOf_48 ?_
      refine r_aload_n F dX7_vectorOf_49 rfl ?_
      refine r_get F dX7_vectorOf_50 flX7_11 h47 rfl (e_le rfl) (e_lt hnx rfl) ?_
      refine r_iload_n F dX7_vectorOf_53 rfl ?_
      refine r_iload_n F dX7_vectorOf_54 rfl ?_
      refine r_iconst F dX7_vectorOf_55 (v := 1) (by decide) ?_
      refine r_iadd F dX7_vectorOf_56 ?_
      refine r_iconst F dX7_vectorOf_57 (v := 0) (by decide) ?_
      obtain ⟨q7, hq8, hf⟩ := e_bd hf
      refine r_callS F dX7_vectorOf_58 (dc := 0) (ds := 0) (As := [.int p0, .int (p1 + 1), .int 0]) (S0 := [.ref 48, .int ((A48 (tn (q3 + p2))) + (A48 (tn (q5 + p2))))]) lkX7_32 mX7_placeOf (tX7_placeOf hG (la := x_l X) (h := e_up h []) hnx  hq8) rfl rfl rfl (e_le rfl) (e_le rfl) (e_le rfl) (Nat.zero_le _) (Nat.zero_le _) (e_k ?_)
      refine r_wr0 ?_
      refine r_iload_n F dX7_vectorOf_61 rfl ?_
      refine r_iadd F dX7_vectorOf_62 ?_
      obtain ⟨hg, hf⟩ := e_gd hf
      refine r_iald F dX7_vectorOf_63 (i := (q7 + p2)) h48 (e_le rfl) (e_lt hnx rfl) (e_vp hg) ?_
      refine r_isub F dX7_vectorOf_64 ?_
      refine r_aload_n F dX7_vectorOf_65 rfl ?_
      refine r_get F dX7_vectorOf_66 flX7_11 h47 rfl (e_le rfl) (e_lt hnx rfl) ?_
      refine r_iload_n F dX7_vectorOf_69 rfl ?_
      refine r_iload_n F dX7_vectorOf_70 rfl ?_
      refine r_iconst F dX7_vectorOf_71 (v := 1) (by decide) ?_
      obtain ⟨q9, hq10, hf⟩ := e_bd hf
      refine r_callS F dX7_vectorOf_72 (dc := 0) (ds := 0) (As := [.int p0, .int p1, .int 1]) (S0 := [.ref 48, .int (((A48 (tn (q3 + p2))) + (A48 (tn (q5 + p2)))) - (A48 (tn (q7 + p2))))]) lkX7_32 mX7_placeOf (tX7_placeOf hG (la := x_l X) (h := e_up h []) hnx  hq10) rfl rfl rfl (e_le rfl) (e_le rfl) (e_le rfl) (Nat.zero_le _) (Nat.zero_le _) (e_k ?_)
      refine r_wr0 ?_
      refine r_iload_n F dX7_vectorOf_75 rfl ?_
      refine r_iadd F dX7_vectorOf_76 ?_
      obtain ⟨hg, hf⟩ := e_gd hf
      refine r_iald F dX7_vectorOf_77 (i := (q9 + p2)) h48 (e_le rfl) (e_lt hnx rfl) (e_vp hg) ?_
      refine r_isub F dX7_vectorOf_78 ?_
      obtain rfl := Option.some.inj hf
      exact r_iret F hq dX7_vectorOf_79 rfl rfl (Nat.le_refl _) (Nat.le_refl _) ⟨rfl, rfl⟩
    · have hf := e_f hc hf
      refine r_iload_n F dX7_vectorOf_13 rfl ?_
      refine r_iconst F dX7_vectorOf_14 (v := 1) (by decide) ?_
      refine r_icmp_eq F dX7_vectorOf_15 (tgt := 20) (by decide) (fun hc => ?_) (fun hc => ?_)
      · have hf := e_t hc hf
        refine r_aload_n F dX7_vectorOf_20 rfl ?_
        refine r_get F dX7_vectorOf_21 flX7_11 h47 rfl (e_le rfl) (e_lt hnx rfl) ?_
        refine r_iload_n F dX7_vectorOf_24 rfl ?_
        refine r_iload_n F dX7_vectorOf_25 rfl ?_
        refine r_iconst F dX7_vectorOf_26 (v := 0) (by decide) ?_
        obtain ⟨q11, hq12, hf⟩ := e_bd hf
        refine r_callS F dX7_vectorOf_27 (dc := 0) (ds := 0) (As := [.int p0, .int p1, .int 0]) (S0 := [.ref 48]) lkX7_32 mX7_placeOf (tX7_placeOf hG (la := x_l X) (h := e_up h []) hnx  hq12) rfl rfl rfl (e_le rfl) (e_le rfl) (e_le rfl) (Nat.zero_le _) (Nat.zero_le _) (e_k ?_)
        refine r_wr0 ?_
        refine r_iload_n F dX7_vectorOf_30 rfl ?_
        refine r_iadd F dX7_vectorOf_31 ?_
        obtain ⟨hg, hf⟩ := e_gd hf
        refine r_iald F dX7_vectorOf_32 (i := (q11 + p2)) h48 (e_le rfl) (e_lt hnx rfl) (e_vp hg) ?_
        refine r_aload_n F dX7_vectorOf_33 rfl ?_
        refine r_get F dX7_vectorOf_34 flX7_11 h47 rfl (e_le rfl) (e_lt hnx rfl) ?_
        refine r_iload_n F dX7_vectorOf_37 rfl ?_
        refine r_iconst F dX7_vectorOf_38 (v := 1) (by decide) ?_
        refine r_iadd F dX7_vectorOf_39 ?_
        refine r_iload_n F dX7_vectorOf_40 rfl ?_
        refine r_iconst F dX7_vectorOf_41 (v := 1) (by decide) ?_
        obtain ⟨q13, hq14, hf⟩ := e_bd hf
        refine r_callS F dX7_vectorOf_42 (dc := 0) (ds := 0) (As := [.int (p0 + 1), .int p1, .int 1]) (S0 := [.ref 48, .int (A48 (tn (q11 + p2)))]) lkX7_32 mX7_placeOf (tX7_placeOf hG (la := x_l X) (h := e_up h []) hnx  hq14) rfl rfl rfl (e_le rfl) (e_le rfl) (e_le rfl) (Nat.zero_le _) (Nat.zero_le _) (e_k ?_)
        refine r_wr0 ?_
        refine r_iload_n F dX7_vectorOf_45 rfl ?_
        refine r_iadd F dX7_vectorOf_46 ?_
        obtain ⟨hg, hf⟩ := e_gd hf
        refine r_iald F dX7_vectorOf_47 (i := (q13 + p2)) h48 (e_le rfl) (e_lt hnx rfl) (e_vp hg) ?_
        refine r_iadd F dX7_vectorOf_48 ?_
        refine r_aload_n F dX7_vectorOf_49 rfl ?_
        refine r_get F dX7_vectorOf_50 flX7_11 h47 rfl (e_le rfl) (e_lt hnx rfl) ?_
        refine r_iload_n F dX7_vectorOf_53 rfl ?_
        refine r_iload_n F dX7_vectorOf_54 rfl ?_
        refine r_iconst F dX7_vectorOf_55 (v := 1) (by decide) ?_
        refine r_iadd F dX7_vectorOf_56 ?_
        refine r_iconst F dX7_vectorOf_57 (v := 0) (by decide) ?_
        obtain ⟨q15, hq16, hf⟩ := e_bd hf
        refine r_callS F dX7_vectorOf_58 (dc := 0) (ds := 0) (As := [.int p0, .int (p1 + 1), .int 0]) (S0 := [.ref 48, .int ((A48 (tn (q11 + p2))) + (A48 (tn (q13 + p2))))]) lkX7_32 mX7_placeOf (tX7_placeOf hG (la := x_l X) (h := e_up h []) hnx  hq16) rfl rfl rfl (e_le rfl) (e_le rfl) (e_le rfl) (Nat.zero_le _) (Nat.zero_le _) (e_k ?_)
        refine r_wr0 ?_
        refine r_iload_n F dX7_vectorOf_61 rfl ?_
        refine r_iadd F dX7_vectorOf_62 ?_
        obtain ⟨hg, hf⟩ := e_gd hf
        refine r_iald F dX7_vectorOf_63 (i := (q15 + p2)) h48 (e_le rfl) (e_lt hnx rfl) (e_vp hg) ?_
        refine r_isub F dX7_vectorOf_64 ?_
        refine r_aload_n F dX7_vectorOf_65 rfl ?_
        refine r_get F dX7_vectorOf_66 flX7_11 h47 rfl (e_le rfl) (e_lt hnx rfl) ?_
        refine r_iload_n F dX7_vectorOf_69 rfl ?_
        refine r_iload_n F dX7_vectorOf_70 rfl ?_
        refine r_iconst F dX7_vectorOf_71 (v := 1) (by decide) ?_
        obtain ⟨q17, hq18, hf⟩ := e_bd hf
        refine r_callS F dX7_vectorOf_72 (dc := 0) (ds := 0) (As := [.int p0, .int p1, .int 1]) (S0 := [.ref 48, .int (((A48 (tn (q11 + p2))) + (A48 (tn (q13 + p2)))) - (A48 (tn (q15 + p2))))]) lkX7_32 mX7_placeOf (tX7_placeOf hG (la := x_l X) (h := e_up h []) hnx  hq18) rfl rfl rfl (e_le rfl) (e_le rfl) (e_le rfl) (Nat.zero_le _) (Nat.zero_le _) (e_k ?_)
        refine r_wr0 ?_
        refine r_iload_n F dX7_vectorOf_75 rfl ?_
        refine r_iadd F dX7_vectorOf_76 ?_
        obtain ⟨hg, hf⟩ := e_gd hf
        refine r_iald F dX7_vectorOf_77 (i := (q17 + p2)) h48 (e_le rfl) (e_lt hnx rfl) (e_vp hg) ?_
        refine r_isub F dX7_vectorOf_78 ?_
        obtain rfl := Option.some.inj hf
        exact r_iret F hq dX7_vectorOf_79 rfl rfl (Nat.le_refl _) (Nat.le_refl _) ⟨rfl, rfl⟩
      · have hf := e_f hc hf
        refine r_iconst F dX7_vectorOf_18 (v := 0) (by decide) ?_
        obtain rfl := Option.some.inj hf
        exact r_iret F hq dX7_vectorOf_19 rfl rfl (Nat.le_refl _) (Nat.le_refl _) ⟨rfl, rfl⟩
  · have hf := e_f hc hf
    refine r_iconst F dX7_vectorOf_18 (v := 0) (by decide) ?_
    obtain rfl := Option.some.inj hf
    exact r_iret F hq dX7_vectorOf_19 rfl rfl (Nat.le_refl _) (Nat.le_refl _) ⟨rfl, rfl⟩

set_option maxRecDepth 100000 in
theorem tX0_find_49_47 {G : eG} (hG : e_GS G) {la : Launch} {h : Nat → eO} {nx : Nat} (hnx : 99 ≤ nx) {a47_0 : Int32} {a47_1 : Int32} {A48 : Nat → Int32} {a49_0 : Int32} {A50 : Nat → Int32} {A51 : Nat → Int32}  (h47 : h 47 = o47 a47_0 a47_1) (h48 : h 48 = o48 A48) (h49 : h 49 = o49 a49_0) (h50 : h 50 = o50 A50) (h51 : h 51 = o51 A51) {R9 : Int32 × (Nat → Int32) × (Nat → Int32)} (hf : fX0_find a47_0 a47_1 a49_0 A48 A50 A51  = some R9) :
    eSem G la MX0_find [.ref 49, .ref 47] h nx 0 0 (fun r9 h9 => r9 = none ∧ h9 = e_up h [(49, o49 R9.1), (50, o50 R9.2.1), (51, o51 R9.2.2)]) := by
  refine eSem.of (k := 4) (L := [some (.ref 49), some (.ref 47), none, none, none, none]) (by decide +kernel) rfl rfl (fun X F hxl hq hcR hsR => ?_)
  subst hxl
  unfold fX0_find at hf
  refine r_aload_n F dX0_find_0 rfl ?_
  refine r_iconst F dX0_find_1 (v := 0) (by decide) ?_
  refine r_put F dX0_find_2 flX0_18 rfl rfl rfl h49 (e_le rfl) (e_le rfl) (e_lt hnx rfl) (l' := [(49, o49 0)]) rfl ?_
  refine r_iconst F dX0_find_5 (v := 0) (by decide) ?_
  refine r_istore_n F dX0_find_6 (e_le rfl) (L' := [some (.ref 49), some (.ref 47), some (.int 0), none, none, none]) rfl ?_
  refine r_mat (k := 50) h50 (l' := [(49, o49 0), (50, o50 A50)]) rfl ?_
  refine r_mat (k := 51) h51 (l' := [(49, o49 0), (50, o50 A50), (51, o51 A51)]) rfl ?_
  obtain ⟨x4, hx5, hf⟩ := e_bd hf
  refine (e_loop_ok (P := fun (v3 : Int32 × Int32 × (Nat → Int32) × (Nat → Int32)) => eRun G X 7 [some (.ref 49), some (.ref 47), some (.int v3.1), none, none, none] [] h [(49, o49 v3.2.1), (50, o50 v3.2.2.1), (51, o51 v3.2.2.2)] nx 0 0) (K := fun (x4 : Int32 × (Nat → Int32) × (Nat → Int32)) => eRun G X 142 [none, none, none, none, none, none] [] h [(49, o49 x4.1), (50, o50 x4.2.1), (51, o51 x4.2.2)] nx 0 0) ?_ e_fuel (0, 0, A50, A51) x4 hx5 ?_ : _)
  · intro v3 z hz ih hx
    refine r_iload_n F dX0_find_7 rfl ?_
    refine r_aload_n F dX0_find_8 rfl ?_
    refine r_get F dX0_find_9 flX0_22 h47 rfl (e_le rfl) (e_lt hnx rfl) ?_
    refine r_iconst F dX0_find_12 (v := 1) (by decide) ?_
    refine r_isub F dX0_find_13 ?_
    refine r_icmp_ge F dX0_find_14 (tgt := 142) (by decide) (fun hc => ?_) (fun hc => ?_)
    · have hz := e_t hc hz
      refine r_drop 0 (L' := [none, some (.ref 47), some (.int v3.1), none, none, none]) rfl ?_
      refine r_drop 1 (L' := [none, none, some (.int v3.1), none, none, none]) rfl ?_
      refine r_drop 2 (L' := [none, none, none, none, none, none]) rfl ?_
      obtain rfl := Option.some.inj hz
      exact hx (v3.2.1, v3.2.2.1, v3.2.2.2) rfl
    · have hz := e_f hc hz
      refine r_iconst F dX0_find_17 (v := 0) (by decide) ?_
      refine r_istore_n F dX0_find_18 (e_le rfl) (L' := [some (.ref 49), some (.ref 47), some (.int v3.1), some (.int 0), none, none]) rfl ?_
      obtain ⟨x9, hx10, hz⟩ := e_bd hz
      refine (e_loop_ok (P := fun (v8 : Int32 × Int32 × (Nat → Int32) × (Nat → Int32)) => eRun G X 19 [some (.ref 49), some (.ref 47), some (.int v3.1), some (.int v8.1), none, none] [] h [(49, o49 v8.2.1), (50, o50 v8.2.2.1), (51, o51 v8.2.2.2)] nx 0 0) (K := fun (x9 : Int32 × (Nat → Int32) × (Nat → Int32)) => eRun G X 136 [some (.ref 49), some (.ref 47), some (.int v3.1), none, none, none] [] h [(49, o49 x9.1), (50, o50 x9.2.1), (51, o51 x9.2.2)] nx 0 0) ?_ e_fuel (0, v3.2.1, v3.2.2.1, v3.2.2.2) x9 hx10 ?_ : _)
      · intro v8 z hz ih hx
        refine r_iload_n F dX0_find_19 rfl ?_
        refine r_aload_n F dX0_find_20 rfl ?_
        refine r_get F dX0_find_21 flX0_27 h47 rfl (e_le rfl) (e_lt hnx rfl) ?_
        refine r_iconst F dX0_find_24 (v := 1) (by decide) ?_
        refine r_isub F dX0_find_25 ?_
        refine r_icmp_ge F dX0_find_26 (tgt := 136) (by decide) (fun hc => ?_) (fun hc => ?_)
        · have hz := e_t hc hz
          refine r_drop 3 (L' := [some (.ref 49), some (.ref 47), some (.int v3.1), none, none, none]) rfl ?_
          obtain rfl := Option.some.inj hz
          exact hx (v8.2.1, v8.2.2.1, v8.2.2.2) rfl
        · have hz := e_f hc hz
          refine r_aload_n F dX0_find_29 rfl ?_
          refine r_iload_n F dX0_find_30 rfl ?_
          refine r_iload_n F dX0_find_31 rfl ?_
          refine r_iconst F dX0_find_32 (v := 0) (by decide) ?_
          obtain ⟨q11, hq12, hz⟩ := e_bd hz
          refine r_callV F dX0_find_33 (b := 47) (dc := 0) (ds := 0) (As := [.int v8.1, .int v3.1, .int 0]) (S0 := []) lkX0_30 mX7_vectorOf (tX7_vectorOf_47 hG (la := x_l X) (h := e_up h [(49, o49 v8.2.1), (50, o50 v8.2.2.1), (51, o51 v8.2.2.2)]) hnx h47 h48 hq12) rfl rfl rfl (e_le rfl) (e_le rfl) (e_le rfl) h47 (ci := 7) e_cl7.1 rfl (e_le rfl) (e_lt hnx rfl) (Nat.zero_le _) (Nat.zero_le _) (e_k ?_)
          refine r_wr0 ?_
          refine r_istore F dX0_find_36 (e_le rfl) (L' := [some (.ref 49), some (.ref 47), some (.int v3.1), some (.int v8.1), some (.int q11), none]) rfl ?_
          refine r_aload_n F dX0_find_38 rfl ?_
          refine r_iload_n F dX0_find_39 rfl ?_
          refine r_iload_n F dX0_find_40 rfl ?_
          refine r_iconst F dX0_find_41 (v := 1) (by decide) ?_
          obtain ⟨q13, hq14, hz⟩ := e_bd hz
          refine r_callV F dX0_find_42 (b := 47) (dc := 0) (ds := 0) (As := [.int v8.1, .int v3.1, .int 1]) (S0 := []) lkX0_30 mX7_vectorOf (tX7_vectorOf_47 hG (la := x_l X) (h := e_up h [(49, o49 v8.2.1), (50, o50 v8.2.2.1), (51, o51 v8.2.2.2)]) hnx h47 h48 hq14) rfl rfl rfl (e_le rfl) (e_le rfl) (e_le rfl) h47 (ci := 7) e_cl7.1 rfl (e_le rfl) (e_lt hnx rfl) (Nat.zero_le _) (Nat.zero_le _) (e_k ?_)
          refine r_wr0 ?_
          refine r_istore F dX0_find_45 (e_le rfl) (L' := [some (.ref 49), some (.ref 47), some (.int v3.1), some (.int v8.1), some (.int q11), some (.int q13)]) rfl ?_
          refine r_iload F dX0_find_47 rfl ?_
          obtain ⟨q15, hq16, hz⟩ := e_bd hz
          have Jq15 : eRun G X 130 [some (.ref 49), some (.ref 47), some (.int v3.1), some (.int v8.1), none, none] [] h [(49, o49 q15.1), (50, o50 q15.2.1), (51, o51 q15.2.2)] nx 0 0 := by
            refine r_inc F dX0_find_130 (k9 := 1) (by decide) rfl (L' := [some (.ref 49), some (.ref 47), some (.int v3.1), some (.int (v8.1 + 1)), none, none]) rfl ?_
            refine r_goto F dX0_find_133 (tgt := 19) (by decide) ?_
            obtain rfl := Option.some.inj hz
            exact ih (v8.1 + 1, q15.1, q15.2.1, q15.2.2) rfl
          refine r_if_ne F dX0_find_49 (tgt := 57) (by decide) (fun hc => ?_) (fun hc => ?_)
          · have hq16 := e_f hc hq16
            refine r_aload_n F dX0_find_57 rfl ?_
            refine r_get F dX0_find_58 flX0_18 rfl rfl (e_le rfl) (e_lt hnx rfl) ?_
            refine r_bipush F dX0_find_61 (v := 12) (by decide) ?_
            refine r_icmp_ge F dX0_find_63 (tgt := 130) (by decide) (fun hc => ?_) (fun hc => ?_)
            · have hq16 := e_t hc hq16
              refine r_drop 4 (L' := [some (.ref 49), some (.ref 47), some (.int v3.1), some (.int v8.1), none, some (.int q13)]) rfl ?_
              refine r_drop 5 (L' := [some (.ref 49), some (.ref 47), some (.int v3.1), some (.int v8.1), none, none]) rfl ?_
              obtain rfl := Option.some.inj hq16
              exact Jq15
            · have hq16 := e_f hc hq16
              refine r_aload_n F dX0_find_66 rfl ?_
              refine r_get F dX0_find_67 flX0_9 rfl rfl (e_le rfl) (e_lt hnx rfl) ?_
              refine r_iconst F dX0_find_70 (v := 2) (by decide) ?_
              refine r_aload_n F dX0_find_71 rfl ?_
              refine r_get F dX0_find_72 flX0_18 rfl rfl (e_le rfl) (e_lt hnx rfl) ?_
              refine r_imul F dX0_find_75 ?_
              refine r_iload_n F dX0_find_76 rfl ?_
              obtain ⟨hg, hq16⟩ := e_gd hq16
              refine r_iast F dX0_find_77 rfl (e_le rfl) (e_lt hnx rfl) (e_vp hg) (l' := [(49, o49 v8.2.1), (50, o50 (upd v8.2.2.1 (tn ((2 : Int32) * v8.2.1)) v8.1)), (51, o51 v8.2.2.2)]) rfl ?_
              refine r_aload_n F dX0_find_78 rfl ?_
              refine r_get F dX0_find_79 flX0_9 rfl rfl (e_le rfl) (e_lt hnx rfl) ?_
              refine r_iconst F dX0_find_82 (v := 2) (by decide) ?_
              refine r_aload_n F dX0_find_83 rfl ?_
              refine r_get F dX0_find_84 flX0_18 rfl rfl (e_le rfl) (e_lt hnx rfl) ?_
              refine r_imul F dX0_find_87 ?_
              refine r_iconst F dX0_find_88 (v := 1) (by decide) ?_
              refine r_iadd F dX0_find_89 ?_
              refine r_iload_n F dX0_find_90 rfl ?_
              obtain ⟨hg, hq16⟩ := e_gd hq16
              refine r_iast F dX0_find_91 rfl (e_le rfl) (e_lt hnx rfl) (e_vp hg) (l' := [(49, o49 v8.2.1), (50, o50 (upd (upd v8.2.2.1 (tn ((2 : Int32) * v8.2.1)) v8.1) (tn (((2 : Int32) * v8.2.1) + 1)) v3.1)), (51, o51 v8.2.2.2)]) rfl ?_
              refine r_aload_n F dX0_find_92 rfl ?_
              refine r_get F dX0_find_93 flX0_15 rfl rfl (e_le rfl) (e_lt hnx rfl) ?_
              refine r_iconst F dX0_find_96 (v := 2) (by decide) ?_
              refine r_aload_n F dX0_find_97 rfl ?_
              refine r_get F dX0_find_98 flX0_18 rfl rfl (e_le rfl) (e_lt hnx rfl) ?_
              refine r_imul F dX0_find_101 ?_
              refine r_iload F dX0_find_102 rfl ?_
              obtain ⟨hg, hq16⟩ := e_gd hq16
              refine r_iast F dX0_find_104 rfl (e_le rfl) (e_lt hnx rfl) (e_vp hg) (l' := [(49, o49 v8.2.1), (50, o50 (upd (upd v8.2.2.1 (tn ((2 : Int32) * v8.2.1)) v8.1) (tn (((2 : Int32) * v8.2.1) + 1)) v3.1)), (51, o51 (upd v8.2.2.2 (tn ((2 : Int32) * v8.2.1)) q11))]) rfl ?_
              refine r_aload_n F dX0_find_105 rfl ?_
              refine r_get F dX0_find_106 flX0_15 rfl rfl (e_le rfl) (e_lt hnx rfl) ?_
              refine r_iconst F dX0_find_109 (v := 2) (by decide) ?_
              refine r_aload_n F dX0_find_110 rfl ?_
              refine r_get F dX0_find_111 flX0_18 rfl rfl (e_le rfl) (e_lt hnx rfl) ?_
              refine r_imul F dX0_find_114 ?_
              refine r_iconst F dX0_find_115 (v := 1) (by decide) ?_
              refine r_iadd F dX0_find_116 ?_
              refine r_iload F dX0_find_117 rfl ?_
              obtain ⟨hg, hq16⟩ := e_gd hq16
              refine r_iast F dX0_find_119 rfl (e_le rfl) (e_lt hnx rfl) (e_vp hg) (l' := [(49, o49 v8.2.1), (50, o50 (upd (upd v8.2.2.1 (tn ((2 : Int32) * v8.2.1)) v8.1) (tn (((2 : Int32) * v8.2.1) + 1)) v3.1)), (51, o51 (upd (upd v8.2.2.2 (tn ((2 : Int32) * v8.2.1)) q11) (tn (((2 : Int32) * v8.2.1) + 1)) q13))]) rfl ?_
              refine r_aload_n F dX0_find_120 rfl ?_
              refine r_dup F dX0_find_121 rfl ?_
              refine r_get F dX0_find_122 flX0_18 rfl rfl (e_le rfl) (e_lt hnx rfl) ?_
              refine r_iconst F dX0_find_125 (v := 1) (by decide) ?_
              refine r_iadd F dX0_find_126 ?_
              refine r_put F dX0_find_127 flX0_18 rfl rfl rfl rfl (e_le rfl) (e_le rfl) (e_lt hnx rfl) (l' := [(49, o49 (v8.2.1 + 1)), (50, o50 (upd (upd v8.2.2.1 (tn ((2 : Int32) * v8.2.1)) v8.1) (tn (((2 : Int32) * v8.2.1) + 1)) v3.1)), (51, o51 (upd (upd v8.2.2.2 (tn ((2 : Int32) * v8.2.1)) q11) (tn (((2 : Int32) * v8.2.1) + 1)) q13))]) rfl ?_
              refine r_drop 4 (L' := [some (.ref 49), some (.ref 47), some (.int v3.1), some (.int v8.1), none, some (.int q13)]) rfl ?_
              refine r_drop 5 (L' := [some (.ref 49), some (.ref 47), some (.int v3.1), some (.int v8.1), none, none]) rfl ?_
              obtain rfl := Option.some.inj hq16
              exact Jq15
          · have hq16 := e_t hc hq16
            refine r_iload F dX0_find_52 rfl ?_
            refine r_if_eq F dX0_find_54 (tgt := 130) (by decide) (fun hc => ?_) (fun hc => ?_)
            · have hq16 := e_t hc hq16
              refine r_drop 4 (L' := [some (.ref 49), some (.ref 47), some (.int v3.1), some (.int v8.1), none, some (.int q13)]) rfl ?_
              refine r_drop 5 (L' := [some (.ref 49), some (.ref 47), some (.int v3.1), some (.int v8.1), none, none]) rfl ?_
              obtain rfl := Option.some.inj hq16
              exact Jq15
            · have hq16 := e_f hc hq16
              refine r_aload_n F dX0_find_57 rfl ?_
              refine r_get F dX0_find_58 flX0_18 rfl rfl (e_le rfl) (e_lt hnx rfl) ?_
              refine r_bipush F dX0_find_61 (v := 12) (by decide) ?_
              refine r_icmp_ge F dX0_find_63 (tgt := 130) (by decide) (fun hc => ?_) (fun hc => ?_)
              · have hq16 := e_t hc hq16
                refine r_drop 4 (L' := [some (.ref 49), some (.ref 47), some (.int v3.1), some (.int v8.1), none, some (.int q13)]) rfl ?_
                refine r_drop 5 (L' := [some (.ref 49), some (.ref 47), some (.int v3.1), some (.int v8.1), none, none]) rfl ?_
                obtain rfl := Option.some.inj hq16
                exact Jq15
              · have hq16 := e_f hc hq16
                refine r_aload_n F dX0_find_66 rfl ?_
                refine r_get F dX0_find_67 flX0_9 rfl rfl (e_le rfl) (e_lt hnx rfl) ?_
                refine r_iconst F dX0_find_70 (v := 2) (by decide) ?_
                refine r_aload_n F dX0_find_71 rfl ?_
                refine r_get F dX0_find_72 flX0_18 rfl rfl (e_le rfl) (e_lt hnx rfl) ?_
                refine r_imul F dX0_find_75 ?_
                refine r_iload_n F dX0_find_76 rfl ?_
                obtain ⟨hg, hq16⟩ := e_gd hq16
                refine r_iast F dX0_find_77 rfl (e_le rfl) (e_lt hnx rfl) (e_vp hg) (l' := [(49, o49 v8.2.1), (50, o50 (upd v8.2.2.1 (tn ((2 : Int32) * v8.2.1)) v8.1)), (51, o51 v8.2.2.2)]) rfl ?_
                refine r_aload_n F dX0_find_78 rfl ?_
                refine r_get F dX0_find_79 flX0_9 rfl rfl (e_le rfl) (e_lt hnx rfl) ?_
                refine r_iconst F dX0_find_82 (v := 2) (by decide) ?_
                refine r_aload_n F dX0_find_83 rfl ?_
                refine r_get F dX0_find_84 flX0_18 rfl rfl (e_le rfl) (e_lt hnx rfl) ?_
                refine r_imul F dX0_find_87 ?_
                refine r_iconst F dX0_find_88 (v := 1) (by decide) ?_
                refine r_iadd F dX0_find_89 ?_
                refine r_iload_n F dX0_find_90 rfl ?_
                obtain ⟨hg, hq16⟩ := e_gd hq16
                refine r_iast F dX0_find_91 rfl (e_le rfl) (e_lt hnx rfl) (e_vp hg) (l' := [(49, o49 v8.2.1), (50, o50 (upd (upd v8.2.2.1 (tn ((2 : Int32) * v8.2.1)) v8.1) (tn (((2 : Int32) * v8.2.1) + 1)) v3.1)), (51, o51 v8.2.2.2)]) rfl ?_
                refine r_aload_n F dX0_find_92 rfl ?_
                refine r_get F dX0_find_93 flX0_15 rfl rfl (e_le rfl) (e_lt hnx rfl) ?_
                refine r_iconst F dX0_find_96 (v := 2) (by decide) ?_
                refine r_aload_n F dX0_find_97 rfl ?_
                refine r_get F dX0_find_98 flX0_18 rfl rfl (e_le rfl) (e_lt hnx rfl) ?_
                refine r_imul F dX0_find_101 ?_
                refine r_iload F dX0_find_102 rfl ?_
                obtain ⟨hg, hq16⟩ := e_gd hq16
                refine r_iast F dX0_find_104 rfl (e_le rfl) (e_lt hnx rfl) (e_vp hg) (l' := [(49, o49 v8.2.1), (50, o50 (upd (upd v8.2.2.1 (tn ((2 : Int32) * v8.2.1)) v8.1) (tn (((2 : Int32) * v8.2.1) + 1)) v3.1)), (51, o51 (upd v8.2.2.2 (tn ((2 : Int32) * v8.2.1)) q11))]) rfl ?_
                refine r_aload_n F dX0_find_105 rfl ?_
                refine r_get F dX0_find_106 flX0_15 rfl rfl (e_le rfl) (e_lt hnx rfl) ?_
                refine r_iconst F dX0_find_109 (v := 2) (by decide) ?_
                refine r_aload_n F dX0_find_110 rfl ?_
                refine r_get F dX0_find_111 flX0_18 rfl rfl (e_le rfl) (e_lt hnx rfl) ?_
                refine r_imul F dX0_find_114 ?_
                refine r_iconst F dX0_find_115 (v := 1) (by decide) ?_
                refine r_iadd F dX0_find_116 ?_
                refine r_iload F dX0_find_117 rfl ?_
                obtain ⟨hg, hq16⟩ := e_gd hq16
                refine r_iast F dX0_find_119 rfl (e_le rfl) (e_lt hnx rfl) (e_vp hg) (l' := [(49, o49 v8.2.1), (50, o50 (upd (upd v8.2.2.1 (tn ((2 : Int32) * v8.2.1)) v8.1) (tn (((2 : Int32) * v8.2.1) + 1)) v3.1)), (51, o51 (upd (upd v8.2.2.2 (tn ((2 : Int32) * v8.2.1)) q11) (tn (((2 : Int32) * v8.2.1) + 1)) q13))]) rfl ?_
                refine r_aload_n F dX0_find_120 rfl ?_
                refine r_dup F dX0_find_121 rfl ?_
                refine r_get F dX0_find_122 flX0_18 rfl rfl (e_le rfl) (e_lt hnx rfl) ?_
                refine r_iconst F dX0_find_125 (v := 1) (by decide) ?_
                refine r_iadd F dX0_find_126 ?_
                refine r_put F dX0_find_127 flX0_18 rfl rfl rfl rfl (e_le rfl) (e_le rfl) (e_lt hnx rfl) (l' := [(49, o49 (v8.2.1 + 1)), (50, o50 (upd (upd v8.2.2.1 (tn ((2 : Int32) * v8.2.1)) v8.1) (tn (((2 : Int32) * v8.2.1) + 1)) v3.1)), (51, o51 (upd (upd v8.2.2.2 (tn ((2 : Int32) * v8.2.1)) q11) (tn (((2 : Int32) * v8.2.1) + 1)) q13))]) rfl ?_
                refine r_drop 4 (L' := [some (.ref 49), some (.ref 47), some (.int v3.1), some (.int v8.1), none, some (.int q13)]) rfl ?_
                refine r_drop 5 (L' := [some (.ref 49), some (.ref 47), some (.int v3.1), some (.int v8.1), none, none]) rfl ?_
                obtain rfl := Option.some.inj hq16
                exact Jq15
      · show eRun G X 136 [some (.ref 49), some (.ref 47), some (.int v3.1), none, none, none] [] h [(49, o49 x9.1), (50, o50 x9.2.1), (51, o51 x9.2.2)] nx 0 0
        refine r_inc F dX0_find_136 (k9 := 1) (by decide) rfl (L' := [some (.ref 49), some (.ref 47), some (.int (v3.1 + 1)), none, none, none]) rfl ?_
        refine r_goto F dX0_find_139 (tgt := 7) (by decide) ?_
        obtain rfl := Option.some.inj hz
        exact ih (v3.1 + 1, x9.1, x9.2.1, x9.2.2) rfl
  · show eRun G X 142 [none, none, none, none, none, none] [] h [(49, o49 x4.1), (50, o50 x4.2.1), (51, o51 x4.2.2)] nx 0 0
    obtain rfl := Option.some.inj hf
    exact r_vret F hq dX0_find_142 rfl rfl (Nat.le_refl _) (Nat.le_refl _) ⟨rfl, rfl⟩

def fX1_copy (a40_0 : Int32) (a40_1 : Int32) (a47_0 : Int32) (a47_1 : Int32) (a49_0 : Int32) (A41 : Nat → Int32) (A48 : Nat → Int32) (A50 : Nat → Int32) (A51 : Nat → Int32)  : Option (Int32 × Int32 × Int32 × (Nat → Int32) × (Nat → Int32) × (Nat → Int32)) :=
  (fX7_copy a40_0 a40_1 a47_0 a47_1 A41 A48).bind (fun q1 =>
  (fX0_find q1.1 q1.2.1 a49_0 q1.2.2 A50 A51).bind (fun q3 =>
  some (q1.1, q1.2.1, q3.1, q1.2.2, q3.2.1, q3.2.2)))
set_option maxRecDepth 100000 in
theorem tX1_copy_46_39 {G : eG} (hG : e_GS G) {la : Launch} {h : Nat → eO} {nx : Nat} (hnx : 99 ≤ nx) {a40_0 : Int32} {a40_1 : Int32} {A41 : Nat → Int32} {a47_0 : Int32} {a47_1 : Int32} {A48 : Nat → Int32} {a49_0 : Int32} {A50 : Nat → Int32} {A51 : Nat → Int32}  (h39 : h 39 = o39) (h40 : h 40 = o40 a40_0 a40_1) (h41 : h 41 = o41 A41) (h46 : h 46 = o46) (h47 : h 47 = o47 a47_0 a47_1) (h48 : h 48 = o48 A48) (h49 : h 49 = o49 a49_0) (h50 : h 50 = o50 A50) (h51 : h 51 = o51 A51) {R9 : Int32 × Int32 × Int32 × (Nat → Int32) × (Nat → Int32) × (Nat → Int32)} (hf : fX1_copy a40_0 a40_1 a47_0 a47_1 a49_0 A41 A48 A50 A51  = some R9) :
    eSem G la MX1_copy [.ref 46, .ref 39] h nx 0 0 (fun r9 h9 => r9 = none ∧ h9 = e_up h [(47, o47 R9.1 R9.2.1), (48, o48 R9.2.2.2.1), (49, o49 R9.2.2.1), (50, o50 R9.2.2.2.2.1), (51, o51 R9.2.2.2.2.2)]) := by
  refine eSem.of (k := 0) (L := [some (.ref 46), some (.ref 39)]) (by decide +kernel) rfl rfl (fun X F hxl hq hcR hsR => ?_)
  subst hxl
  unfold fX1_copy at hf
  refine r_aload_n F dX1_copy_0 rfl ?_
  refine r_get F dX1_copy_1 flX1_12 h46 rfl (e_le rfl) (e_lt hnx rfl) ?_
  refine r_aload_n F dX1_copy_4 rfl ?_
  refine r_get F dX1_copy_5 flX1_12 h39 rfl (e_le rfl) (e_lt hnx rfl) ?_
  obtain ⟨q1, hq2, hf⟩ := e_bd hf
  refine r_callV F dX1_copy_8 (b := 47) (dc := 0) (ds := 0) (As := [.ref 40]) (S0 := []) lkX1_58 mX7_copy (tX7_copy_47_40 hG (la := x_l X) (h := e_up h []) hnx h40 h41 h47 h48 hq2) rfl rfl rfl (e_le rfl) (e_le rfl) (e_le rfl) h47 (ci := 7) e_cl7.1 rfl (e_le rfl) (e_lt hnx rfl) (Nat.zero_le _) (Nat.zero_le _) (e_k ?_)
  refine r_wr (l' := [(47, o47 q1.1 q1.2.1), (48, o48 q1.2.2)]) rfl rfl ?_
  refine r_aload_n F dX1_copy_11 rfl ?_
  refine r_get F dX1_copy_12 flX1_21 h46 rfl (e_le rfl) (e_lt hnx rfl) ?_
  refine r_aload_n F dX1_copy_15 rfl ?_
  refine r_get F dX1_copy_16 flX1_12 h46 rfl (e_le rfl) (e_lt hnx rfl) ?_
  obtain ⟨q3, hq4, hf⟩ := e_bd hf
  refine r_callV F dX1_copy_19 (b := 49) (dc := 0) (ds := 0) (As := [.ref 47]) (S0 := []) lkX1_54 mX0_find (tX0_find_49_47 hG (la := x_l X) (h := e_up h [(47, o47 q1.1 q1.2.1), (48, o48 q1.2.2)]) hnx rfl rfl h49 h50 h51 hq4) rfl rfl rfl (e_le rfl) (e_le rfl) (e_le rfl) h49 (ci := 0) e_cl0.1 rfl (e_le rfl) (e_lt hnx rfl) (Nat.zero_le _) (Nat.zero_le _) (e_k ?_)
  refine r_wr (l' := [(47, o47 q1.1 q1.2.1), (48, o48 q1.2.2), (49, o49 q3.1), (50, o50 q3.2.1), (51, o51 q3.2.2)]) rfl rfl ?_
  obtain rfl := Option.some.inj hf
  exact r_vret F hq dX1_copy_22 rfl rfl (Nat.le_refl _) (Nat.le_refl _) ⟨rfl, rfl⟩

def fX1_clearTally (A52 : Nat → Int32)  : Option ((Nat → Int32)) :=
  (e_loop (fun (v3 : Int32 × (Nat → Int32)) => (
      if 3 ≤ v3.1 then
        some (.inr v3.2)
      else
        e_g (e_in v3.1 3) (
        some (.inl (v3.1 + 1, upd v3.2 (tn v3.1) 0))) : Option ((Int32 × (Nat → Int32)) ⊕ ((Nat → Int32))))) e_fuel (0, A52)).bind (fun x4 =>
  some x4)
set_option maxRecDepth 100000 in
theorem tX1_clearTally_46 {G : eG} (hG : e_GS G) {la : Launch} {h : Nat → eO} {nx : Nat} (hnx : 99 ≤ nx) {A52 : Nat → Int32}  (h46 : h 46 = o46) (h52 : h 52 = o52 A52) {R9 : (Nat → Int32)} (hf : fX1_clearTally A52  = some R9) :
    eSem G la MX1_clearTally [.ref 46] h nx 0 0 (fun r9 h9 => r9 = none ∧ h9 = e_up h [(52, o52 R9)]) := by
  refine eSem.of (k := 1) (L := [some (.ref 46), none]) (by decide +kernel) rfl rfl (fun X F hxl hq hcR hsR => ?_)
  subst hxl
  unfold fX1_clearTally at hf
  refine r_iconst F dX1_clearTally_0 (v := 0) (by decide) ?_
  refine r_istore_n F dX1_clearTally_1 (e_le rfl) (L' := [some (.ref 46), some (.int 0)]) rfl ?_
  refine r_mat (k := 52) h52 (l' := [(52, o52 A52)]) rfl ?_
  obtain ⟨x4, hx5, hf⟩ := e_bd hf
  refine (e_loop_ok (P := fun (v3 : Int32 × (Nat → Int32)) => eRun G X 2 [some (.ref 46), some (.int v3.1)] [] h [(52, o52 v3.2)] nx 0 0) (K := fun (x4 : (Nat → Int32)) => eRun G X 24 [none, none] [] h [(52, o52 x4)] nx 0 0) ?_ e_fuel (0, A52) x4 hx5 ?_ : _)
  · intro v3 z hz ih hx
    refine r_iload_n F dX1_clearTally_2 rfl ?_
    refine r_aload_n F dX1_clearTally_3 rfl ?_
    refine r_get F dX1_clearTally_4 flX1_25 h46 rfl (e_le rfl) (e_lt hnx rfl) ?_
    refine r_alen F dX1_clearTally_7 rfl (e_le rfl) (e_lt hnx rfl) (v := 3) rfl ?_
    refine r_icmp_ge F dX1_clearTally_8 (tgt := 24) (by decide) (fun hc => ?_) (fun hc => ?_)
    · have hz := e_t hc hz
      refine r_drop 0 (L' := [none, some (.int v3.1)]) rfl ?_
      refine r_drop 1 (L' := [none, none]) rfl ?_
      obtain rfl := Option.some.inj hz
      exact hx v3.2 rfl
    · have hz := e_f hc hz
      refine r_aload_n F dX1_clearTally_11 rfl ?_
      refine r_get F dX1_clearTally_12 flX1_25 h46 rfl (e_le rfl) (e_lt hnx rfl) ?_
      refine r_iload_n F dX1_clearTally_15 rfl ?_
      refine r_iconst F dX1_clearTally_16 (v := 0) (by decide) ?_
      obtain ⟨hg, hz⟩ := e_gd hz
      refine r_iast F dX1_clearTally_17 rfl (e_le rfl) (e_lt hnx rfl) (e_vp hg) (l' := [(52, o52 (upd v3.2 (tn v3.1) 0))]) rfl ?_
      refine r_inc F dX1_clearTally_18 (k9 := 1) (by decide) rfl (L' := [some (.ref 46), some (.int (v3.1 + 1))]) rfl ?_
      refine r_goto F dX1_clearTally_21 (tgt := 2) (by decide) ?_
      obtain rfl := Option.some.inj hz
      exact ih (v3.1 + 1, upd v3.2 (tn v3.1) 0) rfl
  · show eRun G X 24 [none, none] [] h [(52, o52 x4)] nx 0 0
    obtain rfl := Option.some.inj hf
    exact r_vret F hq dX1_clearTally_24 rfl rfl (Nat.le_refl _) (Nat.le_refl _) ⟨rfl, rfl⟩

def fX0_has (a49_0 : Int32) (p0 : Int32) (p1 : Int32) : Option (Bool) :=
  if p0 < 0 then
    some false
  else
    if a49_0 ≤ p0 then
      some false
    else
      if 12 ≤ p0 then
        some false
      else
        if p1 = 0 then
          some true
        else
          if p1 = 1 then
            some true
          else
            some false
set_option maxRecDepth 100000 in
theorem tX0_has_49 {G : eG} (hG : e_GS G) {la : Launch} {h : Nat → eO} {nx : Nat} (hnx : 99 ≤ nx) {a49_0 : Int32} {p0 : Int32} {p1 : Int32} (h49 : h 49 = o49 a49_0) {R9 : Bool} (hf : fX0_has a49_0 p0 p1 = some R9) :
    eSem G la MX0_has [.ref 49, .int p0, .int p1] h nx 0 0 (fun r9 h9 => r9 = some (.int (e_b R9)) ∧ h9 = h) := by
  refine eSem.of (k := 0) (L := [some (.ref 49), some (.int p0), some (.int p1)]) (by decide +kernel) rfl rfl (fun X F hxl hq hcR hsR => ?_)
  subst hxl
  unfold fX0_has at hf
  refine r_iload_n F dX0_has_0 rfl ?_
  refine r_if_lt F dX0_has_1 (tgt := 31) (by decide) (fun hc => ?_) (fun hc => ?_)
  · have hf := e_t hc hf
    refine r_iconst F dX0_has_31 (v := 0) (by decide) ?_
    obtain rfl := Option.some.inj hf
    exact r_zret F hq (v := false) dX0_has_32 rfl rfl (Nat.le_refl _) (Nat.le_refl _) ⟨rfl, rfl⟩
  · have hf := e_f hc hf
    refine r_iload_n F dX0_has_4 rfl ?_
    refine r_aload_n F dX0_has_5 rfl ?_
    refine r_get F dX0_has_6 flX0_18 h49 rfl (e_le rfl) (e_lt hnx rfl) ?_
    refine r_icmp_ge F dX0_has_9 (tgt := 31) (by decide) (fun hc => ?_) (fun hc => ?_)
    · have hf := e_t hc hf
      refine r_iconst F dX0_has_31 (v := 0) (by decide) ?_
      obtain rfl := Option.some.inj hf
      exact r_zret F hq (v := false) dX0_has_32 rfl rfl (Nat.le_refl _) (Nat.le_refl _) ⟨rfl, rfl⟩
    · have hf := e_f hc hf
      refine r_iload_n F dX0_has_12 rfl ?_
      refine r_bipush F dX0_has_13 (v := 12) (by decide) ?_
      refine r_icmp_ge F dX0_has_15 (tgt := 31) (by decide) (fun hc => ?_) (fun hc => ?_)
      · have hf := e_t hc hf
        refine r_iconst F dX0_has_31 (v := 0) (by decide) ?_
        obtain rfl := Option.some.inj hf
        exact r_zret F hq (v := false) dX0_has_32 rfl rfl (Nat.le_refl _) (Nat.le_refl _) ⟨rfl, rfl⟩
      · have hf := e_f hc hf
        refine r_iload_n F dX0_has_18 rfl ?_
        refine r_if_eq F dX0_has_19 (tgt := 27) (by decide) (fun hc => ?_) (fun hc => ?_)
        · have hf := e_t hc hf
          refine r_iconst F dX0_has_27 (v := 1) (by decide) ?_
          refine r_goto F dX0_has_28 (tgt := 32) (by decide) ?_
          obtain rfl := Option.some.inj hf
          exact r_zret F hq (v := true) dX0_has_32 rfl rfl (Nat.le_refl _) (Nat.le_refl _) ⟨rfl, rfl⟩
        · have hf := e_f hc hf
          refine r_iload_n F dX0_has_22 rfl ?_
          refine r_iconst F dX0_has_23 (v := 1) (by decide) ?_
          refine r_icmp_ne F dX0_has_24 (tgt := 31) (by decide) (fun hc => ?_) (fun hc => ?_)
          · have hf := e_f hc hf
            refine r_iconst F dX0_has_31 (v := 0) (by decide) ?_
            obtain rfl := Option.some.inj hf
            exact r_zret F hq (v := false) dX0_has_32 rfl rfl (Nat.le_refl _) (Nat.le_refl _) ⟨rfl, rfl⟩
          · have hf := e_t hc hf
            refine r_iconst F dX0_has_27 (v := 1) (by decide) ?_
            refine r_goto F dX0_has_28 (tgt := 32) (by decide) ?_
            obtain rfl := Option.some.inj hf
            exact r_zret F hq (v := true) dX0_has_32 rfl rfl (Nat.le_refl _) (Nat.le_refl _) ⟨rfl, rfl⟩

def fX0_numberOf (a49_0 : Int32) (A51 : Nat → Int32) (p0 : Int32) (p1 : Int32) : Option (Int32) :=
  (fX0_has a49_0 p0 p1).bind (fun q1 =>
  if q1 = true then
    e_g (e_in (((2 : Int32) * p0) + p1) 24) (
    some (A51 (tn (((2 : Int32) * p0) + p1))))
  else
    some 0)
set_option maxRecDepth 100000 in
theorem tX0_numberOf_49 {G : eG} (hG : e_GS G) {la : Launch} {h : Nat → eO} {nx : Nat} (hnx : 99 ≤ nx) {a49_0 : Int32} {A51 : Nat → Int32} {p0 : Int32} {p1 : Int32} (h49 : h 49 = o49 a49_0) (h51 : h 51 = o51 A51) {R9 : Int32} (hf : fX0_numberOf a49_0 A51 p0 p1 = some R9) :
    eSem G la MX0_numberOf [.ref 49, .int p0, .int p1] h nx 0 0 (fun r9 h9 => r9 = some (.int R9) ∧ h9 = h) := by
  refine eSem.of (k := 0) (L := [some (.ref 49), some (.int p0), some (.int p1)]) (by decide +kernel) rfl rfl (fun X F hxl hq hcR hsR => ?_)
  subst hxl
  unfold fX0_numberOf at hf
  refine r_aload_n F dX0_numberOf_0 rfl ?_
  refine r_iload_n F dX0_numberOf_1 rfl ?_
  refine r_iload_n F dX0_numberOf_2 rfl ?_
  obtain ⟨q1, hq2, hf⟩ := e_bd hf
  refine r_callV F dX0_numberOf_3 (b := 49) (dc := 0) (ds := 0) (As := [.int p0, .int p1]) (S0 := []) lkX0_34 mX0_has (tX0_has_49 hG (la := x_l X) (h := e_up h []) hnx h49 hq2) rfl rfl rfl (e_le rfl) (e_le rfl) (e_le rfl) h49 (ci := 0) e_cl0.1 rfl (e_le rfl) (e_lt hnx rfl) (Nat.zero_le _) (Nat.zero_le _) (e_k ?_)
  refine r_wr0 ?_
  refine r_z_eq F dX0_numberOf_6 (tgt := 22) (by decide) (fun hc => ?_) (fun hc => ?_)
  · have hf := e_t hc hf
    refine r_aload_n F dX0_numberOf_9 rfl ?_
    refine r_get F dX0_numberOf_10 flX0_15 h49 rfl (e_le rfl) (e_lt hnx rfl) ?_
    refine r_iconst F dX0_numberOf_13 (v := 2) (by decide) ?_
    refine r_iload_n F dX0_numberOf_14 rfl ?_
    refine r_imul F dX0_numberOf_15 ?_
    refine r_iload_n F dX0_numberOf_16 rfl ?_
    refine r_iadd F dX0_numberOf_17 ?_
    obtain ⟨hg, hf⟩ := e_gd hf
    refine r_iald F dX0_numberOf_18 (i := (((2 : Int32) * p0) + p1)) h51 (e_le rfl) (e_lt hnx rfl) (e_vp hg) ?_
    refine r_goto F dX0_numberOf_19 (tgt := 23) (by decide) ?_
    obtain rfl := Option.some.inj hf
    exact r_iret F hq dX0_numberOf_23 rfl rfl (Nat.le_refl _) (Nat.le_refl _) ⟨rfl, rfl⟩
  · have hf := e_f hc hf
    refine r_iconst F dX0_numberOf_22 (v := 0) (by decide) ?_
    obtain rfl := Option.some.inj hf
    exact r_iret F hq dX0_numberOf_23 rfl rfl (Nat.le_refl _) (Nat.le_refl _) ⟨rfl, rfl⟩

def fX11_wayOfVector  (p0 : Int32) (p1 : Int32) : Option (Int32) :=
  if p1 = 0 then
    if p0 = 0 then
      some (-1)
    else
      some 0
  else
    if p0 = 0 then
      some 1
    else
      some (-1)
set_option maxRecDepth 100000 in
theorem tX11_wayOfVector {G : eG} (hG : e_GS G) {la : Launch} {h : Nat → eO} {nx : Nat} (hnx : 99 ≤ nx)  {p0 : Int32} {p1 : Int32}  {R9 : Int32} (hf : fX11_wayOfVector  p0 p1 = some R9) :
    eSem G la MX11_wayOfVector [.int p0, .int p1] h nx 0 0 (fun r9 h9 => r9 = some (.int R9) ∧ h9 = h) := by
  refine eSem.of (k := 0) (L := [some (.int p0), some (.int p1)]) (by decide +kernel) rfl rfl (fun X F hxl hq hcR hsR => ?_)
  subst hxl
  unfold fX11_wayOfVector at hf
  refine r_iload_n F dX11_wayOfVector_0 rfl ?_
  refine r_if_ne F dX11_wayOfVector_1 (tgt := 14) (by decide) (fun hc => ?_) (fun hc => ?_)
  · have hf := e_f hc hf
    refine r_iload_n F dX11_wayOfVector_14 rfl ?_
    refine r_if_ne F dX11_wayOfVector_15 (tgt := 22) (by decide) (fun hc => ?_) (fun hc => ?_)
    · have hf := e_f hc hf
      refine r_iconst F dX11_wayOfVector_22 (v := (-1)) (by decide) ?_
      obtain rfl := Option.some.inj hf
      exact r_iret F hq dX11_wayOfVector_23 rfl rfl (Nat.le_refl _) (Nat.le_refl _) ⟨rfl, rfl⟩
    · have hf := e_t hc hf
      refine r_iconst F dX11_wayOfVector_18 (v := 1) (by decide) ?_
      refine r_goto F dX11_wayOfVector_19 (tgt := 23) (by decide) ?_
      obtain rfl := Option.some.inj hf
      exact r_iret F hq dX11_wayOfVector_23 rfl rfl (Nat.le_refl _) (Nat.le_refl _) ⟨rfl, rfl⟩
  · have hf := e_t hc hf
    refine r_iload_n F dX11_wayOfVector_4 rfl ?_
    refine r_if_ne F dX11_wayOfVector_5 (tgt := 12) (by decide) (fun hc => ?_) (fun hc => ?_)
    · have hf := e_f hc hf
      refine r_iconst F dX11_wayOfVector_12 (v := 0) (by decide) ?_
      obtain rfl := Option.some.inj hf
      exact r_iret F hq dX11_wayOfVector_13 rfl rfl (Nat.le_refl _) (Nat.le_refl _) ⟨rfl, rfl⟩
    · have hf := e_t hc hf
      refine r_iconst F dX11_wayOfVector_8 (v := (-1)) (by decide) ?_
      refine r_goto F dX11_wayOfVector_9 (tgt := 13) (by decide) ?_
      obtain rfl := Option.some.inj hf
      exact r_iret F hq dX11_wayOfVector_13 rfl rfl (Nat.le_refl _) (Nat.le_refl _) ⟨rfl, rfl⟩

def fX0_wayOf (a49_0 : Int32) (A51 : Nat → Int32) (p0 : Int32) : Option (Int32) :=
  (fX0_numberOf a49_0 A51 p0 0).bind (fun q1 =>
  (fX0_numberOf a49_0 A51 p0 1).bind (fun q3 =>
  (fX11_wayOfVector q1 q3).bind (fun q5 =>
  some q5)))
set_option maxRecDepth 100000 in
theorem tX0_wayOf_49 {G : eG} (hG : e_GS G) {la : Launch} {h : Nat → eO} {nx : Nat} (hnx : 99 ≤ nx) {a49_0 : Int32} {A51 : Nat → Int32} {p0 : Int32} (h49 : h 49 = o49 a49_0) (h51 : h 51 = o51 A51) {R9 : Int32} (hf : fX0_wayOf a49_0 A51 p0 = some R9) :
    eSem G la MX0_wayOf [.ref 49, .int p0] h nx 0 0 (fun r9 h9 => r9 = some (.int R9) ∧ h9 = h) := by
  refine eSem.of (k := 0) (L := [some (.ref 49), some (.int p0)]) (by decide +kernel) rfl rfl (fun X F hxl hq hcR hsR => ?_)
  subst hxl
  unfold fX0_wayOf at hf
  refine r_aload_n F dX0_wayOf_0 rfl ?_
  refine r_iload_n F dX0_wayOf_1 rfl ?_
  refine r_iconst F dX0_wayOf_2 (v := 0) (by decide) ?_
  obtain ⟨q1, hq2, hf⟩ := e_bd hf
  refine r_callV F dX0_wayOf_3 (b := 49) (dc := 0) (ds := 0) (As := [.int p0, .int 0]) (S0 := []) lkX0_38 mX0_numberOf (tX0_numberOf_49 hG (la := x_l X) (h := e_up h []) hnx h49 h51 hq2) rfl rfl rfl (e_le rfl) (e_le rfl) (e_le rfl) h49 (ci := 0) e_cl0.1 rfl (e_le rfl) (e_lt hnx rfl) (Nat.zero_le _) (Nat.zero_le _) (e_k ?_)
  refine r_wr0 ?_
  refine r_aload_n F dX0_wayOf_6 rfl ?_
  refine r_iload_n F dX0_wayOf_7 rfl ?_
  refine r_iconst F dX0_wayOf_8 (v := 1) (by decide) ?_
  obtain ⟨q3, hq4, hf⟩ := e_bd hf
  refine r_callV F dX0_wayOf_9 (b := 49) (dc := 0) (ds := 0) (As := [.int p0, .int 1]) (S0 := [.int q1]) lkX0_38 mX0_numberOf (tX0_numberOf_49 hG (la := x_l X) (h := e_up h []) hnx h49 h51 hq4) rfl rfl rfl (e_le rfl) (e_le rfl) (e_le rfl) h49 (ci := 0) e_cl0.1 rfl (e_le rfl) (e_lt hnx rfl) (Nat.zero_le _) (Nat.zero_le _) (e_k ?_)
  refine r_wr0 ?_
  obtain ⟨q5, hq6, hf⟩ := e_bd hf
  refine r_callSN F dX0_wayOf_12 (dc := 0) (ds := 0) (As := [.int q1, .int q3]) (S0 := []) lkX0_42 mX11_wayOfVector (tX11_wayOfVector hG (la := x_l X) (h := e_up h []) hnx  hq6) rfl rfl rfl (e_le rfl) (e_le rfl) (e_le rfl) (Nat.zero_le _) (Nat.zero_le _) (e_k ?_)
  refine r_wr0 ?_
  obtain rfl := Option.some.inj hf
  exact r_iret F hq dX0_wayOf_15 rfl rfl (Nat.le_refl _) (Nat.le_refl _) ⟨rfl, rfl⟩

def fX0_placeOf (a49_0 : Int32) (A50 : Nat → Int32) (p0 : Int32) (p1 : Int32) : Option (Int32) :=
  (fX0_has a49_0 p0 p1).bind (fun q1 =>
  if q1 = true then
    e_g (e_in (((2 : Int32) * p0) + p1) 24) (
    some (A50 (tn (((2 : Int32) * p0) + p1))))
  else
    some 0)
set_option maxRecDepth 100000 in
theorem tX0_placeOf_49 {G : eG} (hG : e_GS G) {la : Launch} {h : Nat → eO} {nx : Nat} (hnx : 99 ≤ nx) {a49_0 : Int32} {A50 : Nat → Int32} {p0 : Int32} {p1 : Int32} (h49 : h 49 = o49 a49_0) (h50 : h 50 = o50 A50) {R9 : Int32} (hf : fX0_placeOf a49_0 A50 p0 p1 = some R9) :
    eSem G la MX0_placeOf [.ref 49, .int p0, .int p1] h nx 0 0 (fun r9 h9 => r9 = some (.int R9) ∧ h9 = h) := by
  refine eSem.of (k := 0) (L := [some (.ref 49), some (.int p0), some (.int p1)]) (by decide +kernel) rfl rfl (fun X F hxl hq hcR hsR => ?_)
  subst hxl
  unfold fX0_placeOf at hf
  refine r_aload_n F dX0_placeOf_0 rfl ?_
  refine r_iload_n F dX0_placeOf_1 rfl ?_
  refine r_iload_n F dX0_placeOf_2 rfl ?_
  obtain ⟨q1, hq2, hf⟩ := e_bd hf
  refine r_callV F dX0_placeOf_3 (b := 49) (dc := 0) (ds := 0) (As := [.int p0, .int p1]) (S0 := []) lkX0_34 mX0_has (tX0_has_49 hG (la := x_l X) (h := e_up h []) hnx h49 hq2) rfl rfl rfl (e_le rfl) (e_le rfl) (e_le rfl) h49 (ci := 0) e_cl0.1 rfl (e_le rfl) (e_lt hnx rfl) (Nat.zero_le _) (Nat.zero_le _) (e_k ?_)
  refine r_wr0 ?_
  refine r_z_eq F dX0_placeOf_6 (tgt := 22) (by decide) (fun hc => ?_) (fun hc => ?_)
  · have hf := e_t hc hf
    refine r_aload_n F dX0_placeOf_9 rfl ?_
    refine r_get F dX0_placeOf_10 flX0_9 h49 rfl (e_le rfl) (e_lt hnx rfl) ?_
    refine r_iconst F dX0_placeOf_13 (v := 2) (by decide) ?_
    refine r_iload_n F dX0_placeOf_14 rfl ?_
    refine r_imul F dX0_placeOf_15 ?_
    refine r_iload_n F dX0_placeOf_16 rfl ?_
    refine r_iadd F dX0_placeOf_17 ?_
    obtain ⟨hg, hf⟩ := e_gd hf
    refine r_iald F dX0_placeOf_18 (i := (((2 : Int32) * p0) + p1)) h50 (e_le rfl) (e_lt hnx rfl) (e_vp hg) ?_
    refine r_goto F dX0_placeOf_19 (tgt := 23) (by decide) ?_
    obtain rfl := Option.some.inj hf
    exact r_iret F hq dX0_placeOf_23 rfl rfl (Nat.le_refl _) (Nat.le_refl _) ⟨rfl, rfl⟩
  · have hf := e_f hc hf
    refine r_iconst F dX0_placeOf_22 (v := 0) (by decide) ?_
    obtain rfl := Option.some.inj hf
    exact r_iret F hq dX0_placeOf_23 rfl rfl (Nat.le_refl _) (Nat.le_refl _) ⟨rfl, rfl⟩

def fJ6_signum_0f7a4  (p0 : Int32) : Option (Int32) :=
  some ((p0 >>> (31 &&& 31)) ||| ((Int32.toUInt32 ((0 : Int32) - p0) >>> (Int32.toUInt32 31 &&& Int32.toUInt32 31)).toInt32))
set_option maxRecDepth 100000 in
theorem tJ6_signum_0f7a4 {G : eG} (hG : e_GS G) {la : Launch} {h : Nat → eO} {nx : Nat} (hnx : 99 ≤ nx)  {p0 : Int32}  {R9 : Int32} (hf : fJ6_signum_0f7a4  p0 = some R9) :
    eSem G la MJ6_signum_0f7a4 [.int p0] h nx 0 0 (fun r9 h9 => r9 = some (.int R9) ∧ h9 = h) := by
  refine eSem.of (k := 0) (L := [some (.int p0)]) (by decide +kernel) rfl rfl (fun X F hxl hq hcR hsR => ?_)
  subst hxl
  unfold fJ6_signum_0f7a4 at hf
  refine r_iload_n F dJ6_signum_0f7a4_0 rfl ?_
  refine r_bipush F dJ6_signum_0f7a4_1 (v := 31) (by decide) ?_
  refine r_ishr F dJ6_signum_0f7a4_3 ?_
  refine r_iload_n F dJ6_signum_0f7a4_4 rfl ?_
  refine r_ineg F dJ6_signum_0f7a4_5 ?_
  refine r_bipush F dJ6_signum_0f7a4_6 (v := 31) (by decide) ?_
  refine r_iushr F dJ6_signum_0f7a4_8 ?_
  refine r_ior F dJ6_signum_0f7a4_9 ?_
  obtain rfl := Option.some.inj hf
  exact r_iret F hq dJ6_signum_0f7a4_10 rfl rfl (Nat.le_refl _) (Nat.le_refl _) ⟨rfl, rfl⟩

def fJ9_abs_0f7a4  (p0 : Int32) : Option (Int32) :=
  if 0 ≤ p0 then
    some p0
  else
    some ((0 : Int32) - p0)
set_option maxRecDepth 100000 in
theorem tJ9_abs_0f7a4 {G : eG} (hG : e_GS G) {la : Launch} {h : Nat → eO} {nx : Nat} (hnx : 99 ≤ nx)  {p0 : Int32}  {R9 : Int32} (hf : fJ9_abs_0f7a4  p0 = some R9) :
    eSem G la MJ9_abs_0f7a4 [.int p0] h nx 0 0 (fun r9 h9 => r9 = some (.int R9) ∧ h9 = h) := by
  refine eSem.of (k := 0) (L := [some (.int p0)]) (by decide +kernel) rfl rfl (fun X F hxl hq hcR hsR => ?_)
  subst hxl
  unfold fJ9_abs_0f7a4 at hf
  refine r_iload_n F dJ9_abs_0f7a4_0 rfl ?_
  refine r_if_ge F dJ9_abs_0f7a4_1 (tgt := 9) (by decide) (fun hc => ?_) (fun hc => ?_)
  · have hf := e_t hc hf
    refine r_iload_n F dJ9_abs_0f7a4_9 rfl ?_
    obtain rfl := Option.some.inj hf
    exact r_iret F hq dJ9_abs_0f7a4_10 rfl rfl (Nat.le_refl _) (Nat.le_refl _) ⟨rfl, rfl⟩
  · have hf := e_f hc hf
    refine r_iload_n F dJ9_abs_0f7a4_4 rfl ?_
    refine r_ineg F dJ9_abs_0f7a4_5 ?_
    refine r_goto F dJ9_abs_0f7a4_6 (tgt := 10) (by decide) ?_
    obtain rfl := Option.some.inj hf
    exact r_iret F hq dJ9_abs_0f7a4_10 rfl rfl (Nat.le_refl _) (Nat.le_refl _) ⟨rfl, rfl⟩

def fX0_pull  (p0 : Int32) (p1 : Int32) (p2 : Int32) (p3 : Int32) : Option (Int32) :=
  if 0 < ((p2 * p2) + (p3 * p3)) then
    if p0 = 0 then
      e_g (e_nz (((p2 * p2) + (p3 * p3)) * ((p2 * p2) + (p3 * p3)))) (
      some (((((1000 : Int32) * p1) * p2) * ((p2 * p2) - (p3 * p3))) / (((p2 * p2) + (p3 * p3)) * ((p2 * p2) + (p3 * p3)))))
    else
      if p0 = 1 then
        (fJ6_signum_0f7a4 p2).bind (fun q1 =>
        (fJ9_abs_0f7a4 p2).bind (fun q3 =>
        (fJ9_abs_0f7a4 p3).bind (fun q5 =>
        e_g (e_nz (q3 + q5)) (
        some ((((100 : Int32) * p1) * q1) / (q3 + q5))))))
      else
        e_g (e_nz ((p2 * p2) + (p3 * p3))) (
        some ((((60 : Int32) * p1) * p2) / ((p2 * p2) + (p3 * p3))))
  else
    some 0
set_option maxRecDepth 100000 in
theorem tX0_pull {G : eG} (hG : e_GS G) {la : Launch} {h : Nat → eO} {nx : Nat} (hnx : 99 ≤ nx)  {p0 : Int32} {p1 : Int32} {p2 : Int32} {p3 : Int32}  {R9 : Int32} (hf : fX0_pull  p0 p1 p2 p3 = some R9) :
    eSem G la MX0_pull [.int p0, .int p1, .int p2, .int p3] h nx 0 0 (fun r9 h9 => r9 = some (.int R9) ∧ h9 = h) := by
  refine eSem.of (k := 1) (L := [some (.int p0), some (.int p1), some (.int p2), some (.int p3), none]) (by decide +kernel) rfl rfl (fun X F hxl hq hcR hsR => ?_)
  subst hxl
  unfold fX0_pull at hf
  refine r_iload_n F dX0_pull_0 rfl ?_
  refine r_iload_n F dX0_pull_1 rfl ?_
  refine r_imul F dX0_pull_2 ?_
  refine r_iload_n F dX0_pull_3 rfl ?_
  refine r_iload_n F dX0_pull_4 rfl ?_
  refine r_imul F dX0_pull_5 ?_
  refine r_iadd F dX0_pull_6 ?_
  refine r_istore F dX0_pull_7 (e_le rfl) (L' := [some (.int p0), some (.int p1), some (.int p2), some (.int p3), some (.int ((p2 * p2) + (p3 * p3)))]) rfl ?_
  refine r_iload F dX0_pull_9 rfl ?_
  refine r_if_gt F dX0_pull_11 (tgt := 16) (by decide) (fun hc => ?_) (fun hc => ?_)
  · have hf := e_t hc hf
    refine r_iload_n F dX0_pull_16 rfl ?_
    refine r_if_ne F dX0_pull_17 (tgt := 42) (by decide) (fun hc => ?_) (fun hc => ?_)
    · have hf := e_f hc hf
      refine r_iload_n F dX0_pull_42 rfl ?_
      refine r_iconst F dX0_pull_43 (v := 1) (by decide) ?_
      refine r_icmp_ne F dX0_pull_44 (tgt := 67) (by decide) (fun hc => ?_) (fun hc => ?_)
      · have hf := e_f hc hf
        refine r_bipush F dX0_pull_67 (v := 60) (by decide) ?_
        refine r_iload_n F dX0_pull_69 rfl ?_
        refine r_imul F dX0_pull_70 ?_
        refine r_iload_n F dX0_pull_71 rfl ?_
        refine r_imul F dX0_pull_72 ?_
        refine r_iload F dX0_pull_73 rfl ?_
        obtain ⟨hg, hf⟩ := e_gd hf
        refine r_idiv F dX0_pull_75 (e_nz_ne hg) ?_
        obtain rfl := Option.some.inj hf
        exact r_iret F hq dX0_pull_76 rfl rfl (Nat.le_refl _) (Nat.le_refl _) ⟨rfl, rfl⟩
      · have hf := e_t hc hf
        refine r_bipush F dX0_pull_47 (v := 100) (by decide) ?_
        refine r_iload_n F dX0_pull_49 rfl ?_
        refine r_imul F dX0_pull_50 ?_
        refine r_iload_n F dX0_pull_51 rfl ?_
        obtain ⟨q1, hq2, hf⟩ := e_bd hf
        refine r_callS F dX0_pull_52 (dc := 0) (ds := 0) (As := [.int p2]) (S0 := [.int ((100 : Int32) * p1)]) lkX0_56 mJ6_signum_0f7a4 (tJ6_signum_0f7a4 hG (la := x_l X) (h := e_up h []) hnx  hq2) rfl rfl rfl (e_le rfl) (e_le rfl) (e_le rfl) (Nat.zero_le _) (Nat.zero_le _) (e_k ?_)
        refine r_wr0 ?_
        refine r_imul F dX0_pull_55 ?_
        refine r_iload_n F dX0_pull_56 rfl ?_
        obtain ⟨q3, hq4, hf⟩ := e_bd hf
        refine r_callS F dX0_pull_57 (dc := 0) (ds := 0) (As := [.int p2]) (S0 := [.int (((100 : Int32) * p1) * q1)]) lkX0_61 mJ9_abs_0f7a4 (tJ9_abs_0f7a4 hG (la := x_l X) (h := e_up h []) hnx  hq4) rfl rfl rfl (e_le rfl) (e_le rfl) (e_le rfl) (Nat.zero_le _) (Nat.zero_le _) (e_k ?_)
        refine r_wr0 ?_
        refine r_iload_n F dX0_pull_60 rfl ?_
        obtain ⟨q5, hq6, hf⟩ := e_bd hf
        refine r_callS F dX0_pull_61 (dc := 0) (ds := 0) (As := [.int p3]) (S0 := [.int q3, .int (((100 : Int32) * p1) * q1)]) lkX0_61 mJ9_abs_0f7a4 (tJ9_abs_0f7a4 hG (la := x_l X) (h := e_up h []) hnx  hq6) rfl rfl rfl (e_le rfl) (e_le rfl) (e_le rfl) (Nat.zero_le _) (Nat.zero_le _) (e_k ?_)
        refine r_wr0 ?_
        refine r_iadd F dX0_pull_64 ?_
        obtain ⟨hg, hf⟩ := e_gd hf
        refine r_idiv F dX0_pull_65 (e_nz_ne hg) ?_
        obtain rfl := Option.some.inj hf
        exact r_iret F hq dX0_pull_66 rfl rfl (Nat.le_refl _) (Nat.le_refl _) ⟨rfl, rfl⟩
    · have hf := e_t hc hf
      refine r_sipush F dX0_pull_20 (v := 1000) (by decide) ?_
      refine r_iload_n F dX0_pull_23 rfl ?_
      refine r_imul F dX0_pull_24 ?_
      refine r_iload_n F dX0_pull_25 rfl ?_
      refine r_imul F dX0_pull_26 ?_
      refine r_iload_n F dX0_pull_27 rfl ?_
      refine r_iload_n F dX0_pull_28 rfl ?_
      refine r_imul F dX0_pull_29 ?_
      refine r_iload_n F dX0_pull_30 rfl ?_
      refine r_iload_n F dX0_pull_31 rfl ?_
      refine r_imul F dX0_pull_32 ?_
      refine r_isub F dX0_pull_33 ?_
      refine r_imul F dX0_pull_34 ?_
      refine r_iload F dX0_pull_35 rfl ?_
      refine r_iload F dX0_pull_37 rfl ?_
      refine r_imul F dX0_pull_39 ?_
      obtain ⟨hg, hf⟩ := e_gd hf
      refine r_idiv F dX0_pull_40 (e_nz_ne hg) ?_
      obtain rfl := Option.some.inj hf
      exact r_iret F hq dX0_pull_41 rfl rfl (Nat.le_refl _) (Nat.le_refl _) ⟨rfl, rfl⟩
  · have hf := e_f hc hf
    refine r_iconst F dX0_pull_14 (v := 0) (by decide) ?_
    obtain rfl := Option.some.inj hf
    exact r_iret F hq dX0_pull_15 rfl rfl (Nat.le_refl _) (Nat.le_refl _) ⟨rfl, rfl⟩

def fX0_forceOn (a49_0 : Int32) (A50 : Nat → Int32) (A51 : Nat → Int32) (A53 : Nat → Int32) (p0 : Int32) : Option (Int32) :=
  (fX0_wayOf a49_0 A51 p0).bind (fun q1 =>
  if q1 < 0 then
    some 0
  else
    (fX0_numberOf a49_0 A51 p0 q1).bind (fun q3 =>
    e_g (e_in q1 4) (
    (e_loop (fun (v7 : Int32 × Int32) => (
        if a49_0 ≤ v7.2 then
          some (.inr v7.1)
        else
          Option.bind (α := Int32) (
            if v7.2 = p0 then
              some v7.1
            else
              (fX0_placeOf a49_0 A50 p0 q1).bind (fun q12 =>
              (fX0_placeOf a49_0 A50 v7.2 q1).bind (fun q14 =>
              (fX0_placeOf a49_0 A50 p0 ((1 : Int32) - q1)).bind (fun q16 =>
              (fX0_placeOf a49_0 A50 v7.2 ((1 : Int32) - q1)).bind (fun q18 =>
              (fX0_numberOf a49_0 A51 v7.2 q1).bind (fun q20 =>
              (fX0_pull (A53 (tn 3)) (q3 * q20) (q12 - q14) (q16 - q18)).bind (fun q22 =>
              some (v7.1 + q22)))))))) (fun q10 =>
          some (.inl (q10, v7.2 + 1))) : Option ((Int32 × Int32) ⊕ (Int32)))) e_fuel ((A53 (tn q1)) * q3, 0)).bind (fun x8 =>
    some x8))))
set_option maxRecDepth 100000 in
theorem tX0_forceOn_49_53 {G : eG} (hG : e_GS G) {la : Launch} {h : Nat → eO} {nx : Nat} (hnx : 99 ≤ nx) {a49_0 : Int32} {A50 : Nat → Int32} {A51 : Nat → Int32} {A53 : Nat → Int32} {p0 : Int32} (h49 : h 49 = o49 a49_0) (h50 : h 50 = o50 A50) (h51 : h 51 = o51 A51) (h53 : h 53 = o53 A53) {R9 : Int32} (hf : fX0_forceOn a49_0 A50 A51 A53 p0 = some R9) :
    eSem G la MX0_forceOn [.ref 49, .int p0, .ref 53] h nx 0 0 (fun r9 h9 => r9 = some (.int R9) ∧ h9 = h) := by
  refine eSem.of (k := 6) (L := [some (.ref 49), some (.int p0), some (.ref 53), none, none, none, none, none, none]) (by decide +kernel) rfl rfl (fun X F hxl hq hcR hsR => ?_)
  subst hxl
  unfold fX0_forceOn at hf
  refine r_aload_n F dX0_forceOn_0 rfl ?_
  refine r_iload_n F dX0_forceOn_1 rfl ?_
  obtain ⟨q1, hq2, hf⟩ := e_bd hf
  refine r_callV F dX0_forceOn_2 (b := 49) (dc := 0) (ds := 0) (As := [.int p0]) (S0 := []) lkX0_48 mX0_wayOf (tX0_wayOf_49 hG (la := x_l X) (h := e_up h []) hnx h49 h51 hq2) rfl rfl rfl (e_le rfl) (e_le rfl) (e_le rfl) h49 (ci := 0) e_cl0.1 rfl (e_le rfl) (e_lt hnx rfl) (Nat.zero_le _) (Nat.zero_le _) (e_k ?_)
  refine r_wr0 ?_
  refine r_istore_n F dX0_forceOn_5 (e_le rfl) (L' := [some (.ref 49), some (.int p0), some (.ref 53), some (.int q1), none, none, none, none, none]) rfl ?_
  refine r_iload_n F dX0_forceOn_6 rfl ?_
  refine r_if_lt F dX0_forceOn_7 (tgt := 16) (by decide) (fun hc => ?_) (fun hc => ?_)
  · have hf := e_t hc hf
    refine r_iconst F dX0_forceOn_16 (v := 0) (by decide) ?_
    obtain rfl := Option.some.inj hf
    exact r_iret F hq dX0_forceOn_17 rfl rfl (Nat.le_refl _) (Nat.le_refl _) ⟨rfl, rfl⟩
  · have hf := e_f hc hf
    refine r_aload_n F dX0_forceOn_10 rfl ?_
    refine r_alen F dX0_forceOn_11 h53 (e_le rfl) (e_lt hnx rfl) (v := 4) rfl ?_
    refine r_iconst F dX0_forceOn_12 (v := 3) (by decide) ?_
    refine r_icmp_gt_t F dX0_forceOn_13 (tgt := 18) (by decide) (by decide) ?_
    refine r_aload_n F dX0_forceOn_18 rfl ?_
    refine r_iload_n F dX0_forceOn_19 rfl ?_
    refine r_iload_n F dX0_forceOn_20 rfl ?_
    obtain ⟨q3, hq4, hf⟩ := e_bd hf
    refine r_callV F dX0_forceOn_21 (b := 49) (dc := 0) (ds := 0) (As := [.int p0, .int q1]) (S0 := []) lkX0_38 mX0_numberOf (tX0_numberOf_49 hG (la := x_l X) (h := e_up h []) hnx h49 h51 hq4) rfl rfl rfl (e_le rfl) (e_le rfl) (e_le rfl) h49 (ci := 0) e_cl0.1 rfl (e_le rfl) (e_lt hnx rfl) (Nat.zero_le _) (Nat.zero_le _) (e_k ?_)
    refine r_wr0 ?_
    refine r_istore F dX0_forceOn_24 (e_le rfl) (L' := [some (.ref 49), some (.int p0), some (.ref 53), some (.int q1), some (.int q3), none, none, none, none]) rfl ?_
    refine r_aload_n F dX0_forceOn_26 rfl ?_
    refine r_iload_n F dX0_forceOn_27 rfl ?_
    obtain ⟨hg, hf⟩ := e_gd hf
    refine r_iald F dX0_forceOn_28 (i := q1) h53 (e_le rfl) (e_lt hnx rfl) (e_vp hg) ?_
    refine r_iload F dX0_forceOn_29 rfl ?_
    refine r_imul F dX0_forceOn_31 ?_
    refine r_istore F dX0_forceOn_32 (e_le rfl) (L' := [some (.ref 49), some (.int p0), some (.ref 53), some (.int q1), some (.int q3), some (.int ((A53 (tn q1)) * q3)), none, none, none]) rfl ?_
    refine r_iconst F dX0_forceOn_34 (v := 0) (by decide) ?_
    refine r_istore F dX0_forceOn_35 (e_le rfl) (L' := [some (.ref 49), some (.int p0), some (.ref 53), some (.int q1), some (.int q3), some (.int ((A53 (tn q1)) * q3)), some (.int 0), none, none]) rfl ?_
    obtain ⟨x8, hx9, hf⟩ := e_bd hf
    refine (e_loop_ok (P := fun (v7 : Int32 × Int32) => eRun G X 37 [some (.ref 49), some (.int p0), some (.ref 53), some (.int q1), some (.int q3), some (.int v7.1), some (.int v7.2), none, none] [] h [] nx 0 0) (K := fun (x8 : Int32) => eRun G X 119 [none, none, none, none, none, some (.int x8), none, none, none] [] h [] nx 0 0) ?_ e_fuel ((A53 (tn q1)) * q3, 0) x8 hx9 ?_ : _)
    · intro v7 z hz ih hx
      refine r_iload F dX0_forceOn_37 rfl ?_
      refine r_aload_n F dX0_forceOn_39 rfl ?_
      refine r_get F dX0_forceOn_40 flX0_18 h49 rfl (e_le rfl) (e_lt hnx rfl) ?_
      refine r_icmp_ge F dX0_forceOn_43 (tgt := 119) (by decide) (fun hc => ?_) (fun hc => ?_)
      · have hz := e_t hc hz
        refine r_drop 0 (L' := [none, some (.int p0), some (.ref 53), some (.int q1), some (.int q3), some (.int v7.1), some (.int v7.2), none, none]) rfl ?_
        refine r_drop 1 (L' := [none, none, some (.ref 53), some (.int q1), some (.int q3), some (.int v7.1), some (.int v7.2), none, none]) rfl ?_
        refine r_drop 2 (L' := [none, none, none, some (.int q1), some (.int q3), some (.int v7.1), some (.int v7.2), none, none]) rfl ?_
        refine r_drop 3 (L' := [none, none, none, none, some (.int q3), some (.int v7.1), some (.int v7.2), none, none]) rfl ?_
        refine r_drop 4 (L' := [none, none, none, none, none, some (.int v7.1), some (.int v7.2), none, none]) rfl ?_
        refine r_drop 6 (L' := [none, none, none, none, none, some (.int v7.1), none, none, none]) rfl ?_
        obtain rfl := Option.some.inj hz
        exact hx v7.1 rfl
      · have hz := e_f hc hz
        refine r_iload F dX0_forceOn_46 rfl ?_
        refine r_iload_n F dX0_forceOn_48 rfl ?_
        obtain ⟨q10, hq11, hz⟩ := e_bd hz
        have Jq10 : eRun G X 113 [some (.ref 49), some (.int p0), some (.ref 53), some (.int q1), some (.int q3), some (.int q10), some (.int v7.2), none, none] [] h [] nx 0 0 := by
          refine r_inc F dX0_forceOn_113 (k9 := 1) (by decide) rfl (L' := [some (.ref 49), some (.int p0), some (.ref 53), some (.int q1), some (.int q3), some (.int q10), some (.int (v7.2 + 1)), none, none]) rfl ?_
          refine r_goto F dX0_forceOn_116 (tgt := 37) (by decide) ?_
          obtain rfl := Option.some.inj hz
          exact ih (q10, v7.2 + 1) rfl
        refine r_icmp_eq F dX0_forceOn_49 (tgt := 113) (by decide) (fun hc => ?_) (fun hc => ?_)
        · have hq11 := e_t hc hq11
          obtain rfl := Option.some.inj hq11
          exact Jq10
        · have hq11 := e_f hc hq11
          refine r_aload_n F dX0_forceOn_52 rfl ?_
          refine r_iload_n F dX0_forceOn_53 rfl ?_
          refine r_iload_n F dX0_forceOn_54 rfl ?_
          obtain ⟨q12, hq13, hq11⟩ := e_bd hq11
          refine r_callV F dX0_forceOn_55 (b := 49) (dc := 0) (ds := 0) (As := [.int p0, .int q1]) (S0 := []) lkX0_45 mX0_placeOf (tX0_placeOf_49 hG (la := x_l X) (h := e_up h []) hnx h49 h50 hq13) rfl rfl rfl (e_le rfl) (e_le rfl) (e_le rfl) h49 (ci := 0) e_cl0.1 rfl (e_le rfl) (e_lt hnx rfl) (Nat.zero_le _) (Nat.zero_le _) (e_k ?_)
          refine r_wr0 ?_
          refine r_aload_n F dX0_forceOn_58 rfl ?_
          refine r_iload F dX0_forceOn_59 rfl ?_
          refine r_iload_n F dX0_forceOn_61 rfl ?_
          obtain ⟨q14, hq15, hq11⟩ := e_bd hq11
          refine r_callV F dX0_forceOn_62 (b := 49) (dc := 0) (ds := 0) (As := [.int v7.2, .int q1]) (S0 := [.int q12]) lkX0_45 mX0_placeOf (tX0_placeOf_49 hG (la := x_l X) (h := e_up h []) hnx h49 h50 hq15) rfl rfl rfl (e_le rfl) (e_le rfl) (e_le rfl) h49 (ci := 0) e_cl0.1 rfl (e_le rfl) (e_lt hnx rfl) (Nat.zero_le _) (Nat.zero_le _) (e_k ?_)
          refine r_wr0 ?_
          refine r_isub F dX0_forceOn_65 ?_
          refine r_istore F dX0_forceOn_66 (e_le rfl) (L' := [some (.ref 49), some (.int p0), some (.ref 53), some (.int q1), some (.int q3), some (.int v7.1), some (.int v7.2), some (.int (q12 - q14)), none]) rfl ?_
          refine r_aload_n F dX0_forceOn_68 rfl ?_
          refine r_iload_n F dX0_forceOn_69 rfl ?_
          refine r_iconst F dX0_forceOn_70 (v := 1) (by decide) ?_
          refine r_iload_n F dX0_forceOn_71 rfl ?_
          refine r_isub F dX0_forceOn_72 ?_
          obtain ⟨q16, hq17, hq11⟩ := e_bd hq11
          refine r_callV F dX0_forceOn_73 (b := 49) (dc := 0) (ds := 0) (As := [.int p0, .int ((1 : Int32) - q1)]) (S0 := []) lkX0_45 mX0_placeOf (tX0_placeOf_49 hG (la := x_l X) (h := e_up h []) hnx h49 h50 hq17) rfl rfl rfl (e_le rfl) (e_le rfl) (e_le rfl) h49 (ci := 0) e_cl0.1 rfl (e_le rfl) (e_lt hnx rfl) (Nat.zero_le _) (Nat.zero_le _) (e_k ?_)
          refine r_wr0 ?_
          refine r_aload_n F dX0_forceOn_76 rfl ?_
          refine r_iload F dX0_forceOn_77 rfl ?_
          refine r_iconst F dX0_forceOn_79 (v := 1) (by decide) ?_
          refine r_iload_n F dX0_forceOn_80 rfl ?_
          refine r_isub F dX0_forceOn_81 ?_
          obtain ⟨q18, hq19, hq11⟩ := e_bd hq11
          refine r_callV F dX0_forceOn_82 (b := 49) (dc := 0) (ds := 0) (As := [.int v7.2, .int ((1 : Int32) - q1)]) (S0 := [.int q16]) lkX0_45 mX0_placeOf (tX0_placeOf_49 hG (la := x_l X) (h := e_up h []) hnx h49 h50 hq19) rfl rfl rfl (e_le rfl) (e_le rfl) (e_le rfl) h49 (ci := 0) e_cl0.1 rfl (e_le rfl) (e_lt hnx rfl) (Nat.zero_le _) (Nat.zero_le _) (e_k ?_)
          refine r_wr0 ?_
          refine r_isub F dX0_forceOn_85 ?_
          refine r_istore F dX0_forceOn_86 (e_le rfl) (L' := [some (.ref 49), some (.int p0), some (.ref 53), some (.int q1), some (.int q3), some (.int v7.1), some (.int v7.2), some (.int (q12 - q14)), some (.int (q16 - q18))]) rfl ?_
          refine r_iload F dX0_forceOn_88 rfl ?_
          refine r_aload_n F dX0_forceOn_90 rfl ?_
          refine r_iconst F dX0_forceOn_91 (v := 3) (by decide) ?_
          refine r_iald F dX0_forceOn_92 (i := 3) h53 (e_le rfl) (e_lt hnx rfl) (e_vp (by decide)) ?_
          refine r_iload F dX0_forceOn_93 rfl ?_
          refine r_aload_n F dX0_forceOn_95 rfl ?_
          refine r_iload F dX0_forceOn_96 rfl ?_
          refine r_iload_n F dX0_forceOn_98 rfl ?_
          obtain ⟨q20, hq21, hq11⟩ := e_bd hq11
          refine r_callV F dX0_forceOn_99 (b := 49) (dc := 0) (ds := 0) (As := [.int v7.2, .int q1]) (S0 := [.int q3, .int (A53 (tn 3)), .int v7.1]) lkX0_38 mX0_numberOf (tX0_numberOf_49 hG (la := x_l X) (h := e_up h []) hnx h49 h51 hq21) rfl rfl rfl (e_le rfl) (e_le rfl) (e_le rfl) h49 (ci := 0) e_cl0.1 rfl (e_le rfl) (e_lt hnx rfl) (Nat.zero_le _) (Nat.zero_le _) (e_k ?_)
          refine r_wr0 ?_
          refine r_imul F dX0_forceOn_102 ?_
          refine r_iload F dX0_forceOn_103 rfl ?_
          refine r_iload F dX0_forceOn_105 rfl ?_
          obtain ⟨q22, hq23, hq11⟩ := e_bd hq11
          refine r_callS F dX0_forceOn_107 (dc := 0) (ds := 0) (As := [.int (A53 (tn 3)), .int (q3 * q20), .int (q12 - q14), .int (q16 - q18)]) (S0 := [.int v7.1]) lkX0_52 mX0_pull (tX0_pull hG (la := x_l X) (h := e_up h []) hnx  hq23) rfl rfl rfl (e_le rfl) (e_le rfl) (e_le rfl) (Nat.zero_le _) (Nat.zero_le _) (e_k ?_)
          refine r_wr0 ?_
          refine r_iadd F dX0_forceOn_110 ?_
          refine r_istore F dX0_forceOn_111 (e_le rfl) (L' := [some (.ref 49), some (.int p0), some (.ref 53), some (.int q1), some (.int q3), some (.int (v7.1 + q22)), some (.int v7.2), some (.int (q12 - q14)), some (.int (q16 - q18))]) rfl ?_
          refine r_drop 7 (L' := [some (.ref 49), some (.int p0), some (.ref 53), some (.int q1), some (.int q3), some (.int (v7.1 + q22)), some (.int v7.2), none, some (.int (q16 - q18))]) rfl ?_
          refine r_drop 8 (L' := [some (.ref 49), some (.int p0), some (.ref 53), some (.int q1), some (.int q3), some (.int (v7.1 + q22)), some (.int v7.2), none, none]) rfl ?_
          obtain rfl := Option.some.inj hq11
          exact Jq10
    · show eRun G X 119 [none, none, none, none, none, some (.int x8), none, none, none] [] h [] nx 0 0
      refine r_iload F dX0_forceOn_119 rfl ?_
      obtain rfl := Option.some.inj hf
      exact r_iret F hq dX0_forceOn_121 rfl rfl (Nat.le_refl _) (Nat.le_refl _) ⟨rfl, rfl⟩

def fX1_isUnchanged (a47_0 : Int32) (a47_1 : Int32) (a49_0 : Int32) (A48 : Nat → Int32) (A50 : Nat → Int32) (A51 : Nat → Int32) (p0 : Int32) : Option (Bool) :=
  (fX0_placeOf a49_0 A50 p0 0).bind (fun q1 =>
  (fX0_placeOf a49_0 A50 p0 1).bind (fun q3 =>
  (fX7_vectorOf a47_0 a47_1 A48 q1 q3 0).bind (fun q5 =>
  (fX0_numberOf a49_0 A51 p0 0).bind (fun q7 =>
  if q5 = q7 then
    (fX7_vectorOf a47_0 a47_1 A48 q1 q3 1).bind (fun q9 =>
    (fX0_numberOf a49_0 A51 p0 1).bind (fun q11 =>
    if q9 = q11 then
      some true
    else
      some false))
  else
    some false))))
set_option maxRecDepth 100000 in
theorem tX1_isUnchanged_46 {G : eG} (hG : e_GS G) {la : Launch} {h : Nat → eO} {nx : Nat} (hnx : 99 ≤ nx) {a47_0 : Int32} {a47_1 : Int32} {A48 : Nat → Int32} {a49_0 : Int32} {A50 : Nat → Int32} {A51 : Nat → Int32} {p0 : Int32} (h46 : h 46 = o46) (h47 : h 47 = o47 a47_0 a47_1) (h48 : h 48 = o48 A48) (h49 : h 49 = o49 a49_0) (h50 : h 50 = o50 A50) (h51 : h 51 = o51 A51) {R9 : Bool} (hf : fX1_isUnchanged a47_0 a47_1 a49_0 A48 A50 A51 p0 = some R9) :
    eSem G la MX1_isUnchanged [.ref 46, .int p0] h nx 0 0 (fun r9 h9 => r9 = some (.int (e_b R9)) ∧ h9 = h) := by
  refine eSem.of (k := 2) (L := [some (.ref 46), some (.int p0), none, none]) (by decide +kernel) rfl rfl (fun X F hxl hq hcR hsR => ?_)
  subst hxl
  unfold fX1_isUnchanged at hf
  refine r_aload_n F dX1_isUnchanged_0 rfl ?_
  refine r_get F dX1_isUnchanged_1 flX1_21 h46 rfl (e_le rfl) (e_lt hnx rfl) ?_
  refine r_iload_n F dX1_isUnchanged_4 rfl ?_
  refine r_iconst F dX1_isUnchanged_5 (v := 0) (by decide) ?_
  obtain ⟨q1, hq2, hf⟩ := e_bd hf
  refine r_callV F dX1_isUnchanged_6 (b := 49) (dc := 0) (ds := 0) (As := [.int p0, .int 0]) (S0 := []) lkX1_82 mX0_placeOf (tX0_placeOf_49 hG (la := x_l X) (h := e_up h []) hnx h49 h50 hq2) rfl rfl rfl (e_le rfl) (e_le rfl) (e_le rfl) h49 (ci := 0) e_cl0.1 rfl (e_le rfl) (e_lt hnx rfl) (Nat.zero_le _) (Nat.zero_le _) (e_k ?_)
  refine r_wr0 ?_
  refine r_istore_n F dX1_isUnchanged_9 (e_le rfl) (L' := [some (.ref 46), some (.int p0), some (.int q1), none]) rfl ?_
  refine r_aload_n F dX1_isUnchanged_10 rfl ?_
  refine r_get F dX1_isUnchanged_11 flX1_21 h46 rfl (e_le rfl) (e_lt hnx rfl) ?_
  refine r_iload_n F dX1_isUnchanged_14 rfl ?_
  refine r_iconst F dX1_isUnchanged_15 (v := 1) (by decide) ?_
  obtain ⟨q3, hq4, hf⟩ := e_bd hf
  refine r_callV F dX1_isUnchanged_16 (b := 49) (dc := 0) (ds := 0) (As := [.int p0, .int 1]) (S0 := []) lkX1_82 mX0_placeOf (tX0_placeOf_49 hG (la := x_l X) (h := e_up h []) hnx h49 h50 hq4) rfl rfl rfl (e_le rfl) (e_le rfl) (e_le rfl) h49 (ci := 0) e_cl0.1 rfl (e_le rfl) (e_lt hnx rfl) (Nat.zero_le _) (Nat.zero_le _) (e_k ?_)
  refine r_wr0 ?_
  refine r_istore_n F dX1_isUnchanged_19 (e_le rfl) (L' := [some (.ref 46), some (.int p0), some (.int q1), some (.int q3)]) rfl ?_
  refine r_aload_n F dX1_isUnchanged_20 rfl ?_
  refine r_get F dX1_isUnchanged_21 flX1_12 h46 rfl (e_le rfl) (e_lt hnx rfl) ?_
  refine r_iload_n F dX1_isUnchanged_24 rfl ?_
  refine r_iload_n F dX1_isUnchanged_25 rfl ?_
  refine r_iconst F dX1_isUnchanged_26 (v := 0) (by decide) ?_
  obtain ⟨q5, hq6, hf⟩ := e_bd hf
  refine r_callV F dX1_isUnchanged_27 (b := 47) (dc := 0) (ds := 0) (As := [.int q1, .int q3, .int 0]) (S0 := []) lkX1_86 mX7_vectorOf (tX7_vectorOf_47 hG (la := x_l X) (h := e_up h []) hnx h47 h48 hq6) rfl rfl rfl (e_le rfl) (e_le rfl) (e_le rfl) h47 (ci := 7) e_cl7.1 rfl (e_le rfl) (e_lt hnx rfl) (Nat.zero_le _) (Nat.zero_le _) (e_k ?_)
  refine r_wr0 ?_
  refine r_aload_n F dX1_isUnchanged_30 rfl ?_
  refine r_get F dX1_isUnchanged_31 flX1_21 h46 rfl (e_le rfl) (e_lt hnx rfl) ?_
  refine r_iload_n F dX1_isUnchanged_34 rfl ?_
  refine r_iconst F dX1_isUnchanged_35 (v := 0) (by decide) ?_
  obtain ⟨q7, hq8, hf⟩ := e_bd hf
  refine r_callV F dX1_isUnchanged_36 (b := 49) (dc := 0) (ds := 0) (As := [.int p0, .int 0]) (S0 := [.int q5]) lkX1_90 mX0_numberOf (tX0_numberOf_49 hG (la := x_l X) (h := e_up h []) hnx h49 h51 hq8) rfl rfl rfl (e_le rfl) (e_le rfl) (e_le rfl) h49 (ci := 0) e_cl0.1 rfl (e_le rfl) (e_lt hnx rfl) (Nat.zero_le _) (Nat.zero_le _) (e_k ?_)
  refine r_wr0 ?_
  refine r_icmp_ne F dX1_isUnchanged_39 (tgt := 68) (by decide) (fun hc => ?_) (fun hc => ?_)
  · have hf := e_f hc hf
    refine r_iconst F dX1_isUnchanged_68 (v := 0) (by decide) ?_
    obtain rfl := Option.some.inj hf
    exact r_zret F hq (v := false) dX1_isUnchanged_69 rfl rfl (Nat.le_refl _) (Nat.le_refl _) ⟨rfl, rfl⟩
  · have hf := e_t hc hf
    refine r_aload_n F dX1_isUnchanged_42 rfl ?_
    refine r_get F dX1_isUnchanged_43 flX1_12 h46 rfl (e_le rfl) (e_lt hnx rfl) ?_
    refine r_iload_n F dX1_isUnchanged_46 rfl ?_
    refine r_iload_n F dX1_isUnchanged_47 rfl ?_
    refine r_iconst F dX1_isUnchanged_48 (v := 1) (by decide) ?_
    obtain ⟨q9, hq10, hf⟩ := e_bd hf
    refine r_callV F dX1_isUnchanged_49 (b := 47) (dc := 0) (ds := 0) (As := [.int q1, .int q3, .int 1]) (S0 := []) lkX1_86 mX7_vectorOf (tX7_vectorOf_47 hG (la := x_l X) (h := e_up h []) hnx h47 h48 hq10) rfl rfl rfl (e_le rfl) (e_le rfl) (e_le rfl) h47 (ci := 7) e_cl7.1 rfl (e_le rfl) (e_lt hnx rfl) (Nat.zero_le _) (Nat.zero_le _) (e_k ?_)
    refine r_wr0 ?_
    refine r_aload_n F dX1_isUnchanged_52 rfl ?_
    refine r_get F dX1_isUnchanged_53 flX1_21 h46 rfl (e_le rfl) (e_lt hnx rfl) ?_
    refine r_iload_n F dX1_isUnchanged_56 rfl ?_
    refine r_iconst F dX1_isUnchanged_57 (v := 1) (by decide) ?_
    obtain ⟨q11, hq12, hf⟩ := e_bd hf
    refine r_callV F dX1_isUnchanged_58 (b := 49) (dc := 0) (ds := 0) (As := [.int p0, .int 1]) (S0 := [.int q9]) lkX1_90 mX0_numberOf (tX0_numberOf_49 hG (la := x_l X) (h := e_up h []) hnx h49 h51 hq12) rfl rfl rfl (e_le rfl) (e_le rfl) (e_le rfl) h49 (ci := 0) e_cl0.1 rfl (e_le rfl) (e_lt hnx rfl) (Nat.zero_le _) (Nat.zero_le _) (e_k ?_)
    refine r_wr0 ?_
    refine r_icmp_ne F dX1_isUnchanged_61 (tgt := 68) (by decide) (fun hc => ?_) (fun hc => ?_)
    · have hf := e_f hc hf
      refine r_iconst F dX1_isUnchanged_68 (v := 0) (by decide) ?_
      obtain rfl := Option.some.inj hf
      exact r_zret F hq (v := false) dX1_isUnchanged_69 rfl rfl (Nat.le_refl _) (Nat.le_refl _) ⟨rfl, rfl⟩
    · have hf := e_t hc hf
      refine r_iconst F dX1_isUnchanged_64 (v := 1) (by decide) ?_
      refine r_goto F dX1_isUnchanged_65 (tgt := 69) (by decide) ?_
      obtain rfl := Option.some.inj hf
      exact r_zret F hq (v := true) dX1_isUnchanged_69 rfl rfl (Nat.le_refl _) (Nat.le_refl _) ⟨rfl, rfl⟩

def fX7_hasLink (a47_0 : Int32) (a47_1 : Int32) (p0 : Int32) (p1 : Int32) (p2 : Int32) : Option (Bool) :=
  if p2 = 0 then
    if p0 < 0 then
      some false
    else
      if ((a47_0 - 1) + p2) ≤ p0 then
        some false
      else
        if 9 ≤ p0 then
          some false
        else
          if p1 < 0 then
            some false
          else
            if (a47_1 - p2) ≤ p1 then
              some false
            else
              if 9 ≤ p1 then
                some false
              else
                some true
  else
    if p2 = 1 then
      if p0 < 0 then
        some false
      else
        if ((a47_0 - 1) + p2) ≤ p0 then
          some false
        else
          if 9 ≤ p0 then
            some false
          else
            if p1 < 0 then
              some false
            else
              if (a47_1 - p2) ≤ p1 then
                some false
              else
                if 9 ≤ p1 then
                  some false
                else
                  some true
    else
      some false
set_option maxRecDepth 100000 in
theorem tX7_hasLink_47 {G : eG} (hG : e_GS G) {la : Launch} {h : Nat → eO} {nx : Nat} (hnx : 99 ≤ nx) {a47_0 : Int32} {a47_1 : Int32} {p0 : Int32} {p1 : Int32} {p2 : Int32} (h47 : h 47 = o47 a47_0 a47_1) {R9 : Bool} (hf : fX7_hasLink a47_0 a47_1 p0 p1 p2 = some R9) :
    eSem G la MX7_hasLink [.ref 47, .int p0, .int p1, .int p2] h nx 0 0 (fun r9 h9 => r9 = some (.int (e_b R9)) ∧ h9 = h) := by
  refine eSem.of (k := 0) (L := [some (.ref 47), some (.int p0), some (.int p1), some (.int p2)]) (by decide +kernel) rfl rfl (fun X F hxl hq hcR hsR => ?_)
  subst hxl
  unfold fX7_hasLink at hf
  refine r_iload_n F dX7_hasLink_0 rfl ?_
  refine r_if_eq F dX7_hasLink_1 (tgt := 9) (by decide) (fun hc => ?_) (fun hc => ?_)
  · have hf := e_t hc hf
    refine r_iload_n F dX7_hasLink_9 rfl ?_
    refine r_if_lt F dX7_hasLink_10 (tgt := 55) (by decide) (fun hc => ?_) (fun hc => ?_)
    · have hf := e_t hc hf
      refine r_iconst F dX7_hasLink_55 (v := 0) (by decide) ?_
      obtain rfl := Option.some.inj hf
      exact r_zret F hq (v := false) dX7_hasLink_56 rfl rfl (Nat.le_refl _) (Nat.le_refl _) ⟨rfl, rfl⟩
    · have hf := e_f hc hf
      refine r_iload_n F dX7_hasLink_13 rfl ?_
      refine r_aload_n F dX7_hasLink_14 rfl ?_
      refine r_get F dX7_hasLink_15 flX7_15 h47 rfl (e_le rfl) (e_lt hnx rfl) ?_
      refine r_iconst F dX7_hasLink_18 (v := 1) (by decide) ?_
      refine r_isub F dX7_hasLink_19 ?_
      refine r_iload_n F dX7_hasLink_20 rfl ?_
      refine r_iadd F dX7_hasLink_21 ?_
      refine r_icmp_ge F dX7_hasLink_22 (tgt := 55) (by decide) (fun hc => ?_) (fun hc => ?_)
      · have hf := e_t hc hf
        refine r_iconst F dX7_hasLink_55 (v := 0) (by decide) ?_
        obtain rfl := Option.some.inj hf
        exact r_zret F hq (v := false) dX7_hasLink_56 rfl rfl (Nat.le_refl _) (Nat.le_refl _) ⟨rfl, rfl⟩
      · have hf := e_f hc hf
        refine r_iload_n F dX7_hasLink_25 rfl ?_
        refine r_bipush F dX7_hasLink_26 (v := 9) (by decide) ?_
        refine r_icmp_ge F dX7_hasLink_28 (tgt := 55) (by decide) (fun hc => ?_) (fun hc => ?_)
        · have hf := e_t hc hf
          refine r_iconst F dX7_hasLink_55 (v := 0) (by decide) ?_
          obtain rfl := Option.some.inj hf
          exact r_zret F hq (v := false) dX7_hasLink_56 rfl rfl (Nat.le_refl _) (Nat.le_refl _) ⟨rfl, rfl⟩
        · have hf := e_f hc hf
          refine r_iload_n F dX7_hasLink_31 rfl ?_
          refine r_if_lt F dX7_hasLink_32 (tgt := 55) (by decide) (fun hc => ?_) (fun hc => ?_)
          · have hf := e_t hc hf
            refine r_iconst F dX7_hasLink_55 (v := 0) (by decide) ?_
            obtain rfl := Option.some.inj hf
            exact r_zret F hq (v := false) dX7_hasLink_56 rfl rfl (Nat.le_refl _) (Nat.le_refl _) ⟨rfl, rfl⟩
          · have hf := e_f hc hf
            refine r_iload_n F dX7_hasLink_35 rfl ?_
            refine r_aload_n F dX7_hasLink_36 rfl ?_
            refine r_get F dX7_hasLink_37 flX7_19 h47 rfl (e_le rfl) (e_lt hnx rfl) ?_
            refine r_iload_n F dX7_hasLink_40 rfl ?_
            refine r_isub F dX7_hasLink_41 ?_
            refine r_icmp_ge F dX7_hasLink_42 (tgt := 55) (by decide) (fun hc => ?_) (fun hc => ?_)
            · have hf := e_t hc hf
              refine r_iconst F dX7_hasLink_55 (v := 0) (by decide) ?_
              obtain rfl := Option.some.inj hf
              exact r_zret F hq (v := false) dX7_hasLink_56 rfl rfl (Nat.le_refl _) (Nat.le_refl _) ⟨rfl, rfl⟩
            · have hf := e_f hc hf
              refine r_iload_n F dX7_hasLink_45 rfl ?_
              refine r_bipush F dX7_hasLink_46 (v := 9) (by decide) ?_
              refine r_icmp_ge F dX7_hasLink_48 (tgt := 55) (by decide) (fun hc => ?_) (fun hc => ?_)
              · have hf := e_t hc hf
                refine r_iconst F dX7_hasLink_55 (v := 0) (by decide) ?_
                obtain rfl := Option.some.inj hf
                exact r_zret F hq (v := false) dX7_hasLink_56 rfl rfl (Nat.le_refl _) (Nat.le_refl _) ⟨rfl, rfl⟩
              · have hf := e_f hc hf
                refine r_iconst F dX7_hasLink_51 (v := 1) (by decide) ?_
                refine r_goto F dX7_hasLink_52 (tgt := 56) (by decide) ?_
                obtain rfl := Option.some.inj hf
                exact r_zret F hq (v := true) dX7_hasLink_56 rfl rfl (Nat.le_refl _) (Nat.le_refl _) ⟨rfl, rfl⟩
  · have hf := e_f hc hf
    refine r_iload_n F dX7_hasLink_4 rfl ?_
    refine r_iconst F dX7_hasLink_5 (v := 1) (by decide) ?_
    refine r_icmp_ne F dX7_hasLink_6 (tgt := 55) (by decide) (fun hc => ?_) (fun hc => ?_)
    · have hf := e_f hc hf
      refine r_iconst F dX7_hasLink_55 (v := 0) (by decide) ?_
      obtain rfl := Option.some.inj hf
      exact r_zret F hq (v := false) dX7_hasLink_56 rfl rfl (Nat.le_refl _) (Nat.le_refl _) ⟨rfl, rfl⟩
    · have hf := e_t hc hf
      refine r_iload_n F dX7_hasLink_9 rfl ?_
      refine r_if_lt F dX7_hasLink_10 (tgt := 55) (by decide) (fun hc => ?_) (fun hc => ?_)
      · have hf := e_t hc hf
        refine r_iconst F dX7_hasLink_55 (v := 0) (by decide) ?_
        obtain rfl := Option.some.inj hf
        exact r_zret F hq (v := false) dX7_hasLink_56 rfl rfl (Nat.le_refl _) (Nat.le_refl _) ⟨rfl, rfl⟩
      · have hf := e_f hc hf
        refine r_iload_n F dX7_hasLink_13 rfl ?_
        refine r_aload_n F dX7_hasLink_14 rfl ?_
        refine r_get F dX7_hasLink_15 flX7_15 h47 rfl (e_le rfl) (e_lt hnx rfl) ?_
        refine r_iconst F dX7_hasLink_18 (v := 1) (by decide) ?_
        refine r_isub F dX7_hasLink_19 ?_
        refine r_iload_n F dX7_hasLink_20 rfl ?_
        refine r_iadd F dX7_hasLink_21 ?_
        refine r_icmp_ge F dX7_hasLink_22 (tgt := 55) (by decide) (fun hc => ?_) (fun hc => ?_)
        · have hf := e_t hc hf
          refine r_iconst F dX7_hasLink_55 (v := 0) (by decide) ?_
          obtain rfl := Option.some.inj hf
          exact r_zret F hq (v := false) dX7_hasLink_56 rfl rfl (Nat.le_refl _) (Nat.le_refl _) ⟨rfl, rfl⟩
        · have hf := e_f hc hf
          refine r_iload_n F dX7_hasLink_25 rfl ?_
          refine r_bipush F dX7_hasLink_26 (v := 9) (by decide) ?_
          refine r_icmp_ge F dX7_hasLink_28 (tgt := 55) (by decide) (fun hc => ?_) (fun hc => ?_)
          · have hf := e_t hc hf
            refine r_iconst F dX7_hasLink_55 (v := 0) (by decide) ?_
            obtain rfl := Option.some.inj hf
            exact r_zret F hq (v := false) dX7_hasLink_56 rfl rfl (Nat.le_refl _) (Nat.le_refl _) ⟨rfl, rfl⟩
          · have hf := e_f hc hf
            refine r_iload_n F dX7_hasLink_31 rfl ?_
            refine r_if_lt F dX7_hasLink_32 (tgt := 55) (by decide) (fun hc => ?_) (fun hc => ?_)
            · have hf := e_t hc hf
              refine r_iconst F dX7_hasLink_55 (v := 0) (by decide) ?_
              obtain rfl := Option.some.inj hf
              exact r_zret F hq (v := false) dX7_hasLink_56 rfl rfl (Nat.le_refl _) (Nat.le_refl _) ⟨rfl, rfl⟩
            · have hf := e_f hc hf
              refine r_iload_n F dX7_hasLink_35 rfl ?_
              refine r_aload_n F dX7_hasLink_36 rfl ?_
              refine r_get F dX7_hasLink_37 flX7_19 h47 rfl (e_le rfl) (e_lt hnx rfl) ?_
              refine r_iload_n F dX7_hasLink_40 rfl ?_
              refine r_isub F dX7_hasLink_41 ?_
              refine r_icmp_ge F dX7_hasLink_42 (tgt := 55) (by decide) (fun hc => ?_) (fun hc => ?_)
              · have hf := e_t hc hf
                refine r_iconst F dX7_hasLink_55 (v := 0) (by decide) ?_
                obtain rfl := Option.some.inj hf
                exact r_zret F hq (v := false) dX7_hasLink_56 rfl rfl (Nat.le_refl _) (Nat.le_refl _) ⟨rfl, rfl⟩
              · have hf := e_f hc hf
                refine r_iload_n F dX7_hasLink_45 rfl ?_
                refine r_bipush F dX7_hasLink_46 (v := 9) (by decide) ?_
                refine r_icmp_ge F dX7_hasLink_48 (tgt := 55) (by decide) (fun hc => ?_) (fun hc => ?_)
                · have hf := e_t hc hf
                  refine r_iconst F dX7_hasLink_55 (v := 0) (by decide) ?_
                  obtain rfl := Option.some.inj hf
                  exact r_zret F hq (v := false) dX7_hasLink_56 rfl rfl (Nat.le_refl _) (Nat.le_refl _) ⟨rfl, rfl⟩
                · have hf := e_f hc hf
                  refine r_iconst F dX7_hasLink_51 (v := 1) (by decide) ?_
                  refine r_goto F dX7_hasLink_52 (tgt := 56) (by decide) ?_
                  obtain rfl := Option.some.inj hf
                  exact r_zret F hq (v := true) dX7_hasLink_56 rfl rfl (Nat.le_refl _) (Nat.le_refl _) ⟨rfl, rfl⟩

def fX7_addTo (a47_0 : Int32) (a47_1 : Int32) (A48 : Nat → Int32) (p0 : Int32) (p1 : Int32) (p2 : Int32) (p3 : Int32) (p4 : Int32) : Option ((Nat → Int32)) :=
  (fX7_hasLink a47_0 a47_1 p0 p1 p2).bind (fun q1 =>
  if q1 = true then
    (fX7_placeOf p0 p1 p2).bind (fun q3 =>
    e_g (e_in q3 324) (
    e_g (e_in q3 324) (
    (fX7_placeOf p0 p1 p2).bind (fun q5 =>
    e_g (e_in (q5 + 1) 324) (
    e_g (e_in (q5 + 1) 324) (
    some (upd (upd A48 (tn q3) ((A48 (tn q3)) + p3)) (tn (q5 + 1)) (((upd A48 (tn q3) ((A48 (tn q3)) + p3)) (tn (q5 + 1))) + p4))))))))
  else
    some A48)
set_option maxRecDepth 100000 in
theorem tX7_addTo_47 {G : eG} (hG : e_GS G) {la : Launch} {h : Nat → eO} {nx : Nat} (hnx : 99 ≤ nx) {a47_0 : Int32} {a47_1 : Int32} {A48 : Nat → Int32} {p0 : Int32} {p1 : Int32} {p2 : Int32} {p3 : Int32} {p4 : Int32} (h47 : h 47 = o47 a47_0 a47_1) (h48 : h 48 = o48 A48) {R9 : (Nat → Int32)} (hf : fX7_addTo a47_0 a47_1 A48 p0 p1 p2 p3 p4 = some R9) :
    eSem G la MX7_addTo [.ref 47, .int p0, .int p1, .int p2, .int p3, .int p4] h nx 0 0 (fun r9 h9 => r9 = none ∧ h9 = e_up h [(48, o48 R9)]) := by
  refine eSem.of (k := 0) (L := [some (.ref 47), some (.int p0), some (.int p1), some (.int p2), some (.int p3), some (.int p4)]) (by decide +kernel) rfl rfl (fun X F hxl hq hcR hsR => ?_)
  subst hxl
  unfold fX7_addTo at hf
  refine r_aload_n F dX7_addTo_0 rfl ?_
  refine r_iload_n F dX7_addTo_1 rfl ?_
  refine r_iload_n F dX7_addTo_2 rfl ?_
  refine r_iload_n F dX7_addTo_3 rfl ?_
  obtain ⟨q1, hq2, hf⟩ := e_bd hf
  refine r_callV F dX7_addTo_4 (b := 47) (dc := 0) (ds := 0) (As := [.int p0, .int p1, .int p2]) (S0 := []) lkX7_28 mX7_hasLink (tX7_hasLink_47 hG (la := x_l X) (h := e_up h []) hnx h47 hq2) rfl rfl rfl (e_le rfl) (e_le rfl) (e_le rfl) h47 (ci := 7) e_cl7.1 rfl (e_le rfl) (e_lt hnx rfl) (Nat.zero_le _) (Nat.zero_le _) (e_k ?_)
  refine r_wr0 ?_
  refine r_z_eq F dX7_addTo_7 (tgt := 44) (by decide) (fun hc => ?_) (fun hc => ?_)
  · have hf := e_t hc hf
    refine r_aload_n F dX7_addTo_10 rfl ?_
    refine r_get F dX7_addTo_11 flX7_11 h47 rfl (e_le rfl) (e_lt hnx rfl) ?_
    refine r_iload_n F dX7_addTo_14 rfl ?_
    refine r_iload_n F dX7_addTo_15 rfl ?_
    refine r_iload_n F dX7_addTo_16 rfl ?_
    obtain ⟨q3, hq4, hf⟩ := e_bd hf
    refine r_callS F dX7_addTo_17 (dc := 0) (ds := 0) (As := [.int p0, .int p1, .int p2]) (S0 := [.ref 48]) lkX7_32 mX7_placeOf (tX7_placeOf hG (la := x_l X) (h := e_up h []) hnx  hq4) rfl rfl rfl (e_le rfl) (e_le rfl) (e_le rfl) (Nat.zero_le _) (Nat.zero_le _) (e_k ?_)
    refine r_wr0 ?_
    refine r_dup2 F dX7_addTo_20 rfl rfl ?_
    obtain ⟨hg, hf⟩ := e_gd hf
    refine r_iald F dX7_addTo_21 (i := q3) h48 (e_le rfl) (e_lt hnx rfl) (e_vp hg) ?_
    refine r_iload F dX7_addTo_22 rfl ?_
    refine r_iadd F dX7_addTo_24 ?_
    obtain ⟨hg, hf⟩ := e_gd hf
    refine r_iast F dX7_addTo_25 h48 (e_le rfl) (e_lt hnx rfl) (e_vp hg) (l' := [(48, o48 (upd A48 (tn q3) ((A48 (tn q3)) + p3)))]) rfl ?_
    refine r_aload_n F dX7_addTo_26 rfl ?_
    refine r_get F dX7_addTo_27 flX7_11 h47 rfl (e_le rfl) (e_lt hnx rfl) ?_
    refine r_iload_n F dX7_addTo_30 rfl ?_
    refine r_iload_n F dX7_addTo_31 rfl ?_
    refine r_iload_n F dX7_addTo_32 rfl ?_
    obtain ⟨q5, hq6, hf⟩ := e_bd hf
    refine r_callS F dX7_addTo_33 (dc := 0) (ds := 0) (As := [.int p0, .int p1, .int p2]) (S0 := [.ref 48]) lkX7_32 mX7_placeOf (tX7_placeOf hG (la := x_l X) (h := e_up h [(48, o48 (upd A48 (tn q3) ((A48 (tn q3)) + p3)))]) hnx  hq6) rfl rfl rfl (e_le rfl) (e_le rfl) (e_le rfl) (Nat.zero_le _) (Nat.zero_le _) (e_k ?_)
    refine r_wr0 ?_
    refine r_iconst F dX7_addTo_36 (v := 1) (by decide) ?_
    refine r_iadd F dX7_addTo_37 ?_
    refine r_dup2 F dX7_addTo_38 rfl rfl ?_
    obtain ⟨hg, hf⟩ := e_gd hf
    refine r_iald F dX7_addTo_39 (i := (q5 + 1)) rfl (e_le rfl) (e_lt hnx rfl) (e_vp hg) ?_
    refine r_iload F dX7_addTo_40 rfl ?_
    refine r_iadd F dX7_addTo_42 ?_
    obtain ⟨hg, hf⟩ := e_gd hf
    refine r_iast F dX7_addTo_43 rfl (e_le rfl) (e_lt hnx rfl) (e_vp hg) (l' := [(48, o48 (upd (upd A48 (tn q3) ((A48 (tn q3)) + p3)) (tn (q5 + 1)) (((upd A48 (tn q3) ((A48 (tn q3)) + p3)) (tn (q5 + 1))) + p4)))]) rfl ?_
    obtain rfl := Option.some.inj hf
    exact r_vret F hq dX7_addTo_44 rfl rfl (Nat.le_refl _) (Nat.le_refl _) ⟨rfl, rfl⟩
  · have hf := e_f hc hf
    refine r_mat (k := 48) h48 (l' := [(48, o48 A48)]) rfl ?_
    obtain rfl := Option.some.inj hf
    exact r_vret F hq dX7_addTo_44 rfl rfl (Nat.le_refl _) (Nat.le_refl _) ⟨rfl, rfl⟩

def fX7_isPlain (a47_0 : Int32) (a47_1 : Int32) (A48 : Nat → Int32) (p0 : Int32) (p1 : Int32) : Option (Bool) :=
  (fX7_vectorOf a47_0 a47_1 A48 p0 p1 0).bind (fun q1 =>
  if q1 = 0 then
    (fX7_vectorOf a47_0 a47_1 A48 p0 p1 1).bind (fun q3 =>
    if q3 = 0 then
      some true
    else
      some false)
  else
    some false)
set_option maxRecDepth 100000 in
theorem tX7_isPlain_47 {G : eG} (hG : e_GS G) {la : Launch} {h : Nat → eO} {nx : Nat} (hnx : 99 ≤ nx) {a47_0 : Int32} {a47_1 : Int32} {A48 : Nat → Int32} {p0 : Int32} {p1 : Int32} (h47 : h 47 = o47 a47_0 a47_1) (h48 : h 48 = o48 A48) {R9 : Bool} (hf : fX7_isPlain a47_0 a47_1 A48 p0 p1 = some R9) :
    eSem G la MX7_isPlain [.ref 47, .int p0, .int p1] h nx 0 0 (fun r9 h9 => r9 = some (.int (e_b R9)) ∧ h9 = h) := by
  refine eSem.of (k := 0) (L := [some (.ref 47), some (.int p0), some (.int p1)]) (by decide +kernel) rfl rfl (fun X F hxl hq hcR hsR => ?_)
  subst hxl
  unfold fX7_isPlain at hf
  refine r_aload_n F dX7_isPlain_0 rfl ?_
  refine r_iload_n F dX7_isPlain_1 rfl ?_
  refine r_iload_n F dX7_isPlain_2 rfl ?_
  refine r_iconst F dX7_isPlain_3 (v := 0) (by decide) ?_
  obtain ⟨q1, hq2, hf⟩ := e_bd hf
  refine r_callV F dX7_isPlain_4 (b := 47) (dc := 0) (ds := 0) (As := [.int p0, .int p1, .int 0]) (S0 := []) lkX7_55 mX7_vectorOf (tX7_vectorOf_47 hG (la := x_l X) (h := e_up h []) hnx h47 h48 hq2) rfl rfl rfl (e_le rfl) (e_le rfl) (e_le rfl) h47 (ci := 7) e_cl7.1 rfl (e_le rfl) (e_lt hnx rfl) (Nat.zero_le _) (Nat.zero_le _) (e_k ?_)
  refine r_wr0 ?_
  refine r_if_ne F dX7_isPlain_7 (tgt := 24) (by decide) (fun hc => ?_) (fun hc => ?_)
  · have hf := e_f hc hf
    refine r_iconst F dX7_isPlain_24 (v := 0) (by decide) ?_
    obtain rfl := Option.some.inj hf
    exact r_zret F hq (v := false) dX7_isPlain_25 rfl rfl (Nat.le_refl _) (Nat.le_refl _) ⟨rfl, rfl⟩
  · have hf := e_t hc hf
    refine r_aload_n F dX7_isPlain_10 rfl ?_
    refine r_iload_n F dX7_isPlain_11 rfl ?_
    refine r_iload_n F dX7_isPlain_12 rfl ?_
    refine r_iconst F dX7_isPlain_13 (v := 1) (by decide) ?_
    obtain ⟨q3, hq4, hf⟩ := e_bd hf
    refine r_callV F dX7_isPlain_14 (b := 47) (dc := 0) (ds := 0) (As := [.int p0, .int p1, .int 1]) (S0 := []) lkX7_55 mX7_vectorOf (tX7_vectorOf_47 hG (la := x_l X) (h := e_up h []) hnx h47 h48 hq4) rfl rfl rfl (e_le rfl) (e_le rfl) (e_le rfl) h47 (ci := 7) e_cl7.1 rfl (e_le rfl) (e_lt hnx rfl) (Nat.zero_le _) (Nat.zero_le _) (e_k ?_)
    refine r_wr0 ?_
    refine r_if_ne F dX7_isPlain_17 (tgt := 24) (by decide) (fun hc => ?_) (fun hc => ?_)
    · have hf := e_f hc hf
      refine r_iconst F dX7_isPlain_24 (v := 0) (by decide) ?_
      obtain rfl := Option.some.inj hf
      exact r_zret F hq (v := false) dX7_isPlain_25 rfl rfl (Nat.le_refl _) (Nat.le_refl _) ⟨rfl, rfl⟩
    · have hf := e_t hc hf
      refine r_iconst F dX7_isPlain_20 (v := 1) (by decide) ?_
      refine r_goto F dX7_isPlain_21 (tgt := 25) (by decide) ?_
      obtain rfl := Option.some.inj hf
      exact r_zret F hq (v := true) dX7_isPlain_25 rfl rfl (Nat.le_refl _) (Nat.le_refl _) ⟨rfl, rfl⟩
