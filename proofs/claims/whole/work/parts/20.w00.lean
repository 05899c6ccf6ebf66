def fX7_hasFace (a40_0 : Int32) (a40_1 : Int32) (p0 : Int32) (p1 : Int32) : Option (Bool) :=
  if p0 < 0 then
    some false
  else
    if (a40_0 - 1) ≤ p0 then
      some false
    else
      if 8 ≤ p0 then
        some false
      else
        if p1 < 0 then
          some false
        else
          if (a40_1 - 1) ≤ p1 then
            some false
          else
            if 8 ≤ p1 then
              some false
            else
              some true
set_option maxRecDepth 100000 in
theorem tX7_hasFace_40 {G : eG} (hG : e_GS G) {la : Launch} {h : Nat → eO} {nx : Nat} (hnx : 99 ≤ nx) {a40_0 : Int32} {a40_1 : Int32} {p0 : Int32} {p1 : Int32} (h40 : h 40 = o40 a40_0 a40_1) {R9 : Bool} (hf : fX7_hasFace a40_0 a40_1 p0 p1 = some R9) :
    eSem G la MX7_hasFace [.ref 40, .int p0, .int p1] h nx 0 0 (fun r9 h9 => r9 = some (.int (e_b R9)) ∧ h9 = h) := by
  refine eSem.of (k := 0) (L := [some (.ref 40), some (.int p0), some (.int p1)]) (by decide) rfl rfl (fun X F hxl hq hcR hsR => ?_)
  subst hxl
  unfold fX7_hasFace at hf
  refine r_iload_n F dX7_hasFace_0 rfl ?_
  refine r_if_lt F dX7_hasFace_1 (tgt := 44) (by decide) (fun hc => ?_) (fun hc => ?_)
  · have hf := e_t hc hf
    refine r_iconst F dX7_hasFace_44 (v := 0) (by decide) ?_
    cases hf
    exact r_zret F hq (v := false) dX7_hasFace_45 rfl rfl (Nat.le_refl _) (Nat.le_refl _) ⟨rfl, rfl⟩
  · have hf := e_f hc hf
    refine r_iload_n F dX7_hasFace_4 rfl ?_
    refine r_aload_n F dX7_hasFace_5 rfl ?_
    refine r_get F dX7_hasFace_6 flX7_15 h40 rfl (e_le rfl) (e_lt hnx rfl) ?_
    refine r_iconst F dX7_hasFace_9 (v := 1) (by decide) ?_
    refine r_isub F dX7_hasFace_10 ?_
    refine r_icmp_ge F dX7_hasFace_11 (tgt := 44) (by decide) (fun hc => ?_) (fun hc => ?_)
    · have hf := e_t hc hf
      refine r_iconst F dX7_hasFace_44 (v := 0) (by decide) ?_
      cases hf
      exact r_zret F hq (v := false) dX7_hasFace_45 rfl rfl (Nat.le_refl _) (Nat.le_refl _) ⟨rfl, rfl⟩
    · have hf := e_f hc hf
      refine r_iload_n F dX7_hasFace_14 rfl ?_
      refine r_bipush F dX7_hasFace_15 (v := 8) (by decide) ?_
      refine r_icmp_ge F dX7_hasFace_17 (tgt := 44) (by decide) (fun hc => ?_) (fun hc => ?_)
      · have hf := e_t hc hf
        refine r_iconst F dX7_hasFace_44 (v := 0) (by decide) ?_
        cases hf
        exact r_zret F hq (v := false) dX7_hasFace_45 rfl rfl (Nat.le_refl _) (Nat.le_refl _) ⟨rfl, rfl⟩
      · have hf := e_f hc hf
        refine r_iload_n F dX7_hasFace_20 rfl ?_
        refine r_if_lt F dX7_hasFace_21 (tgt := 44) (by decide) (fun hc => ?_) (fun hc => ?_)
        · have hf := e_t hc hf
          refine r_iconst F dX7_hasFace_44 (v := 0) (by decide) ?_
          cases hf
          exact r_zret F hq (v := false) dX7_hasFace_45 rfl rfl (Nat.le_refl _) (Nat.le_refl _) ⟨rfl, rfl⟩
        · have hf := e_f hc hf
          refine r_iload_n F dX7_hasFace_24 rfl ?_
          refine r_aload_n F dX7_hasFace_25 rfl ?_
          refine r_get F dX7_hasFace_26 flX7_19 h40 rfl (e_le rfl) (e_lt hnx rfl) ?_
          refine r_iconst F dX7_hasFace_29 (v := 1) (by decide) ?_
          refine r_isub F dX7_hasFace_30 ?_
          refine r_icmp_ge F dX7_hasFace_31 (tgt := 44) (by decide) (fun hc => ?_) (fun hc => ?_)
          · have hf := e_t hc hf
            refine r_iconst F dX7_hasFace_44 (v := 0) (by decide) ?_
            cases hf
            exact r_zret F hq (v := false) dX7_hasFace_45 rfl rfl (Nat.le_refl _) (Nat.le_refl _) ⟨rfl, rfl⟩
          · have hf := e_f hc hf
            refine r_iload_n F dX7_hasFace_34 rfl ?_
            refine r_bipush F dX7_hasFace_35 (v := 8) (by decide) ?_
            refine r_icmp_ge F dX7_hasFace_37 (tgt := 44) (by decide) (fun hc => ?_) (fun hc => ?_)
            · have hf := e_t hc hf
              refine r_iconst F dX7_hasFace_44 (v := 0) (by decide) ?_
              cases hf
              exact r_zret F hq (v := false) dX7_hasFace_45 rfl rfl (Nat.le_refl _) (Nat.le_refl _) ⟨rfl, rfl⟩
            · have hf := e_f hc hf
              refine r_iconst F dX7_hasFace_40 (v := 1) (by decide) ?_
              refine r_goto F dX7_hasFace_41 (tgt := 45) (by decide) ?_
              cases hf
              exact r_zret F hq (v := true) dX7_hasFace_45 rfl rfl (Nat.le_refl _) (Nat.le_refl _) ⟨rfl, rfl⟩

def fX7_placeOf  (p0 : Int32) (p1 : Int32) (p2 : Int32) : Option (Int32) :=
  some ((4 * ((9 * p1) + p0)) + (2 * p2))
set_option maxRecDepth 100000 in
theorem tX7_placeOf {G : eG} (hG : e_GS G) {la : Launch} {h : Nat → eO} {nx : Nat} (hnx : 99 ≤ nx)  {p0 : Int32} {p1 : Int32} {p2 : Int32}  {R9 : Int32} (hf : fX7_placeOf  p0 p1 p2 = some R9) :
    eSem G la MX7_placeOf [.int p0, .int p1, .int p2] h nx 0 0 (fun r9 h9 => r9 = some (.int R9) ∧ h9 = h) := by
  refine eSem.of (k := 0) (L := [some (.int p0), some (.int p1), some (.int p2)]) (by decide) rfl rfl (fun X F hxl hq hcR hsR => ?_)
  subst hxl
  unfold fX7_placeOf at hf
  refine r_iconst F dX7_placeOf_0 (v := 4) (by decide) ?_
  refine r_bipush F dX7_placeOf_1 (v := 9) (by decide) ?_
  refine r_iload_n F dX7_placeOf_3 rfl ?_
  refine r_imul F dX7_placeOf_4 ?_
  refine r_iload_n F dX7_placeOf_5 rfl ?_
  refine r_iadd F dX7_placeOf_6 ?_
  refine r_imul F dX7_placeOf_7 ?_
  refine r_iconst F dX7_placeOf_8 (v := 2) (by decide) ?_
  refine r_iload_n F dX7_placeOf_9 rfl ?_
  refine r_imul F dX7_placeOf_10 ?_
  refine r_iadd F dX7_placeOf_11 ?_
  cases hf
  exact r_iret F hq dX7_placeOf_12 rfl rfl (Nat.le_refl _) (Nat.le_refl _) ⟨rfl, rfl⟩

def fX7_vectorOf (a40_0 : Int32) (a40_1 : Int32) (A41 : Nat → Int32) (p0 : Int32) (p1 : Int32) (p2 : Int32) : Option (Int32) :=
  (fX7_hasFace a40_0 a40_1 p0 p1).bind (fun q1 =>
  if q1 = true then
    if p2 = 0 then
      (fX7_placeOf p0 p1 0).bind (fun q3 =>
      e_g (e_in (q3 + p2) 324) (
      (fX7_placeOf (p0 + 1) p1 1).bind (fun q5 =>
      e_g (e_in (q5 + p2) 324) (
      (fX7_placeOf p0 (p1 + 1) 0).bind (fun q7 =>
      e_g (e_in (q7 + p2) 324) (
      (fX7_placeOf p0 p1 1).bind (fun q9 =>
      e_g (e_in (q9 + p2) 324) (
      some ((((A41 (tn (q3 + p2))) + (A41 (tn (q5 + p2)))) - (A41 (tn (q7 + p2)))) - (A41 (tn (q9 + p2))))))))))))
    else
      if p2 = 1 then
        (fX7_placeOf p0 p1 0).bind (fun q11 =>
        e_g (e_in (q11 + p2) 324) (
        (fX7_placeOf (p0 + 1) p1 1).bind (fun q13 =>
        e_g (e_in (q13 + p2) 324) (
        (fX7_placeOf p0 (p1 + 1) 0).bind (fun q15 =>
        e_g (e_in (q15 + p2) 324) (
        (fX7_placeOf p0 p1 1).bind (fun q17 =>
        e_g (e_in (q17 + p2) 324) (
        some ((((A41 (tn (q11 + p2))) + (A41 (tn (q13 + p2)))) - (A41 (tn (q15 + p2)))) - (A41 (tn (q17 + p2))))))))))))
      else
        some 0
  else
    some 0)
set_option maxRecDepth 100000 in
theorem tX7_vectorOf_40 {G : eG} (hG : e_GS G) {la : Launch} {h : Nat → eO} {nx : Nat} (hnx : 99 ≤ nx) {a40_0 : Int32} {a40_1 : Int32} {A41 : Nat → Int32} {p0 : Int32} {p1 : Int32} {p2 : Int32} (h40 : h 40 = o40 a40_0 a40_1) (h41 : h 41 = o41 A41) {R9 : Int32} (hf : fX7_vectorOf a40_0 a40_1 A41 p0 p1 p2 = some R9) :
    eSem G la MX7_vectorOf [.ref 40, .int p0, .int p1, .int p2] h nx 0 0 (fun r9 h9 => r9 = some (.int R9) ∧ h9 = h) := by
  refine eSem.of (k := 0) (L := [some (.ref 40), some (.int p0), some (.int p1), some (.int p2)]) (by decide) rfl rfl (fun X F hxl hq hcR hsR => ?_)
  subst hxl
  unfold fX7_vectorOf at hf
  refine r_aload_n F dX7_vectorOf_0 rfl ?_
  refine r_iload_n F dX7_vectorOf_1 rfl ?_
  refine r_iload_n F dX7_vectorOf_2 rfl ?_
  obtain ⟨q1, hq2, hf⟩ := e_bd hf
  refine r_callV F dX7_vectorOf_3 (b := 40) (dc := 0) (ds := 0) (As := [.int p0, .int p1]) (S0 := []) lkX7_51 mX7_hasFace (tX7_hasFace_40 hG (la := x_l X) (h := e_up h []) hnx h40 hq2) rfl rfl rfl (e_le rfl) (e_le rfl) (e_le rfl) h40 (ci := 7) e_cl7.1 rfl (e_le rfl) (e_lt hnx rfl) (Nat.zero_le _) (Nat.zero_le _) (e_k ?_)
  refine r_pic2 (h' := h) (l' := []) rfl ?_
  refine r_z_eq F dX7_vectorOf_6 (tgt := 18) (by decide) (fun hc => ?_) (fun hc => ?_)
  · have hf := e_t hc hf
    refine r_iload_n F dX7_vectorOf_9 rfl ?_
    refine r_if_eq F dX7_vectorOf_10 (tgt := 20) (by decide) (fun hc => ?_) (fun hc => ?_)
    · have hf := e_t hc hf
      refine r_aload_n F dX7_vectorOf_20 rfl ?_
      refine r_get F dX7_vectorOf_21 flX7_11 h40 rfl (e_le rfl) (e_lt hnx rfl) ?_
      refine r_iload_n F dX7_vectorOf_24 rfl ?_
      refine r_iload_n F dX7_vectorOf_25 rfl ?_
      refine r_iconst F dX7_vectorOf_26 (v := 0) (by decide) ?_
      obtain ⟨q3, hq4, hf⟩ := e_bd hf
      refine r_callS F dX7_vectorOf_27 (dc := 0) (ds := 0) (As := [.int p0, .int p1, .int 0]) (S0 := [.ref 41]) lkX7_32 mX7_placeOf (tX7_placeOf hG (la := x_l X) (h := e_up h []) hnx  hq4) rfl rfl rfl (e_le rfl) (e_le rfl) (e_le rfl) (Nat.zero_le _) (Nat.zero_le _) (e_k ?_)
      refine r_pic2 (h' := h) (l' := []) rfl ?_
      refine r_iload_n F dX7_vectorOf_30 rfl ?_
      refine r_iadd F dX7_vectorOf_31 ?_
      obtain ⟨hg, hf⟩ := e_gd hf
      refine r_iald F dX7_vectorOf_32 (i := (q3 + p2)) h41 (e_le rfl) (e_lt hnx rfl) (e_vp hg) ?_
      refine r_aload_n F dX7_vectorOf_33 rfl ?_
      refine r_get F dX7_vectorOf_34 flX7_11 h40 rfl (e_le rfl) (e_lt hnx rfl) ?_
      refine r_iload_n F dX7_vectorOf_37 rfl ?_
      refine r_iconst F dX7_vectorOf_38 (v := 1) (by decide) ?_
      refine r_iadd F dX7_vectorOf_39 ?_
      refine r_iload_n F dX7_vectorOf_40 rfl ?_
      refine r_iconst F dX7_vectorOf_41 (v := 1) (by decide) ?_
      obtain ⟨q5, hq6, hf⟩ := e_bd hf
      refine r_callS F dX7_vectorOf_42 (dc := 0) (ds := 0) (As := [.int (p0 + 1), .int p1, .int 1]) (S0 := [.ref 41, .int (A41 (tn (q3 + p2)))]) lkX7_32 mX7_placeOf (tX7_placeOf hG (la := x_l X) (h := e_up h []) hnx  hq6) rfl rfl rfl (e_le rfl) (e_le rfl) (e_le rfl) (Nat.zero_le _) (Nat.zero_le _) (e_k ?_)
      refine r_pic2 (h' := h) (l' := []) rfl ?_
      refine r_iload_n F dX7_vectorOf_45 rfl ?_
      refine r_iadd F dX7_vectorOf_46 ?_
      obtain ⟨hg, hf⟩ := e_gd hf
      refine r_iald F dX7_vectorOf_47 (i := (q5 + p2)) h41 (e_le rfl) (e_lt hnx rfl) (e_vp hg) ?_
      refine r_iadd F dX7_vectorOf_48 ?_
      refine r_aload_n F dX7_vectorOf_49 rfl ?_
      refine r_get F dX7_vectorOf_50 flX7_11 h40 rfl (e_le rfl) (e_lt hnx rfl) ?_
      refine r_iload_n F dX7_vectorOf_53 rfl ?_
      refine r_iload_n F dX7_vectorOf_54 rfl ?_
      refine r_iconst F dX7_vectorOf_55 (v := 1) (by decide) ?_
      refine r_iadd F dX7_vectorOf_56 ?_
      refine r_iconst F dX7_vectorOf_57 (v := 0) (by decide) ?_
      obtain ⟨q7, hq8, hf⟩ := e_bd hf
      refine r_callS F dX7_vectorOf_58 (dc := 0) (ds := 0) (As := [.int p0, .int (p1 + 1), .int 0]) (S0 := [.ref 41, .int ((A41 (tn (q3 + p2))) + (A41 (tn (q5 + p2))))]) lkX7_32 mX7_placeOf (tX7_placeOf hG (la := x_l X) (h := e_up h []) hnx  hq8) rfl rfl rfl (e_le rfl) (e_le rfl) (e_le rfl) (Nat.zero_le _) (Nat.zero_le _) (e_k ?_)
      refine r_pic2 (h' := h) (l' := []) rfl ?_
      refine r_iload_n F dX7_vectorOf_61 rfl ?_
      refine r_iadd F dX7_vectorOf_62 ?_
      obtain ⟨hg, hf⟩ := e_gd hf
      refine r_iald F dX7_vectorOf_63 (i := (q7 + p2)) h41 (e_le rfl) (e_lt hnx rfl) (e_vp hg) ?_
      refine r_isub F dX7_vectorOf_64 ?_
      refine r_aload_n F dX7_vectorOf_65 rfl ?_
      refine r_get F dX7_vectorOf_66 flX7_11 h40 rfl (e_le rfl) (e_lt hnx rfl) ?_
      refine r_iload_n F dX7_vectorOf_69 rfl ?_
      refine r_iload_n F dX7_vectorOf_70 rfl ?_
      refine r_iconst F dX7_vectorOf_71 (v := 1) (by decide) ?_
      obtain ⟨q9, hq10, hf⟩ := e_bd hf
      refine r_callS F dX7_vectorOf_72 (dc := 0) (ds := 0) (As := [.int p0, .int p1, .int 1]) (S0 := [.ref 41, .int (((A41 (tn (q3 + p2))) + (A41 (tn (q5 + p2)))) - (A41 (tn (q7 + p2))))]) lkX7_32 mX7_placeOf (tX7_placeOf hG (la := x_l X) (h := e_up h []) hnx  hq10) rfl rfl rfl (e_le rfl) (e_le rfl) (e_le rfl) (Nat.zero_le _) (Nat.zero_le _) (e_k ?_)
      refine r_pic2 (h' := h) (l' := []) rfl ?_
      refine r_iload_n F dX7_vectorOf_75 rfl ?_
      refine r_iadd F dX7_vectorOf_76 ?_
      obtain ⟨hg, hf⟩ := e_gd hf
      refine r_iald F dX7_vectorOf_77 (i := (q9 + p2)) h41 (e_le rfl) (e_lt hnx rfl) (e_vp hg) ?_
      refine r_isub F dX7_vectorOf_78 ?_
      cases hf
      exact r_iret F hq dX7_vectorOf_79 rfl rfl (Nat.le_refl _) (Nat.le_refl _) ⟨rfl, rfl⟩
    · have hf := e_f hc hf
      refine r_iload_n F dX7_vectorOf_13 rfl ?_
      refine r_iconst F dX7_vectorOf_14 (v := 1) (by decide) ?_
      refine r_icmp_eq F dX7_vectorOf_15 (tgt := 20) (by decide) (fun hc => ?_) (fun hc => ?_)
      · have hf := e_t hc hf
        refine r_aload_n F dX7_vectorOf_20 rfl ?_
        refine r_get F dX7_vectorOf_21 flX7_11 h40 rfl (e_le rfl) (e_lt hnx rfl) ?_
        refine r_iload_n F dX7_vectorOf_24 rfl ?_
        refine r_iload_n F dX7_vectorOf_25 rfl ?_
        refine r_iconst F dX7_vectorOf_26 (v := 0) (by decide) ?_
        obtain ⟨q11, hq12, hf⟩ := e_bd hf
        refine r_callS F dX7_vectorOf_27 (dc := 0) (ds := 0) (As := [.int p0, .int p1, .int 0]) (S0 := [.ref 41]) lkX7_32 mX7_placeOf (tX7_placeOf hG (la := x_l X) (h := e_up h []) hnx  hq12) rfl rfl rfl (e_le rfl) (e_le rfl) (e_le rfl) (Nat.zero_le _) (Nat.zero_le _) (e_k ?_)
        refine r_pic2 (h' := h) (l' := []) rfl ?_
        refine r_iload_n F dX7_vectorOf_30 rfl ?_
        refine r_iadd F dX7_vectorOf_31 ?_
        obtain ⟨hg, hf⟩ := e_gd hf
        refine r_iald F dX7_vectorOf_32 (i := (q11 + p2)) h41 (e_le rfl) (e_lt hnx rfl) (e_vp hg) ?_
        refine r_aload_n F dX7_vectorOf_33 rfl ?_
        refine r_get F dX7_vectorOf_34 flX7_11 h40 rfl (e_le rfl) (e_lt hnx rfl) ?_
        refine r_iload_n F dX7_vectorOf_37 rfl ?_
        refine r_iconst F dX7_vectorOf_38 (v := 1) (by decide) ?_
        refine r_iadd F dX7_vectorOf_39 ?_
        refine r_iload_n F dX7_vectorOf_40 rfl ?_
        refine r_iconst F dX7_vectorOf_41 (v := 1) (by decide) ?_
        obtain ⟨q13, hq14, hf⟩ := e_bd hf
        refine r_callS F dX7_vectorOf_42 (dc := 0) (ds := 0) (As := [.int (p0 + 1), .int p1, .int 1]) (S0 := [.ref 41, .int (A41 (tn (q11 + p2)))]) lkX7_32 mX7_placeOf (tX7_placeOf hG (la := x_l X) (h := e_up h []) hnx  hq14) rfl rfl rfl (e_le rfl) (e_le rfl) (e_le rfl) (Nat.zero_le _) (Nat.zero_le _) (e_k ?_)
        refine r_pic2 (h' := h) (l' := []) rfl ?_
        refine r_iload_n F dX7_vectorOf_45 rfl ?_
        refine r_iadd F dX7_vectorOf_46 ?_
        obtain ⟨hg, hf⟩ := e_gd hf
        refine r_iald F dX7_vectorOf_47 (i := (q13 + p2)) h41 (e_le rfl) (e_lt hnx rfl) (e_vp hg) ?_
        refine r_iadd F dX7_vectorOf_48 ?_
        refine r_aload_n F dX7_vectorOf_49 rfl ?_
        refine r_get F dX7_vectorOf_50 flX7_11 h40 rfl (e_le rfl) (e_lt hnx rfl) ?_
        refine r_iload_n F dX7_vectorOf_53 rfl ?_
        refine r_iload_n F dX7_vectorOf_54 rfl ?_
        refine r_iconst F dX7_vectorOf_55 (v := 1) (by decide) ?_
        refine r_iadd F dX7_vectorOf_56 ?_
        refine r_iconst F dX7_vectorOf_57 (v := 0) (by decide) ?_
        obtain ⟨q15, hq16, hf⟩ := e_bd hf
        refine r_callS F dX7_vectorOf_58 (dc := 0) (ds := 0) (As := [.int p0, .int (p1 + 1), .int 0]) (S0 := [.ref 41, .int ((A41 (tn (q11 + p2))) + (A41 (tn (q13 + p2))))]) lkX7_32 mX7_placeOf (tX7_placeOf hG (la := x_l X) (h := e_up h []) hnx  hq16) rfl rfl rfl (e_le rfl) (e_le rfl) (e_le rfl) (Nat.zero_le _) (Nat.zero_le _) (e_k ?_)
        refine r_pic2 (h' := h) (l' := []) rfl ?_
        refine r_iload_n F dX7_vectorOf_61 rfl ?_
        refine r_iadd F dX7_vectorOf_62 ?_
        obtain ⟨hg, hf⟩ := e_gd hf
        refine r_iald F dX7_vectorOf_63 (i := (q15 + p2)) h41 (e_le rfl) (e_lt hnx rfl) (e_vp hg) ?_
        refine r_isub F dX7_vectorOf_64 ?_
        refine r_aload_n F dX7_vectorOf_65 rfl ?_
        refine r_get F dX7_vectorOf_66 flX7_11 h40 rfl (e_le rfl) (e_lt hnx rfl) ?_
        refine r_iload_n F dX7_vectorOf_69 rfl ?_
        refine r_iload_n F dX7_vectorOf_70 rfl ?_
        refine r_iconst F dX7_vectorOf_71 (v := 1) (by decide) ?_
        obtain ⟨q17, hq18, hf⟩ := e_bd hf
        refine r_callS F dX7_vectorOf_72 (dc := 0) (ds := 0) (As := [.int p0, .int p1, .int 1]) (S0 := [.ref 41, .int (((A41 (tn (q11 + p2))) + (A41 (tn (q13 + p2)))) - (A41 (tn (q15 + p2))))]) lkX7_32 mX7_placeOf (tX7_placeOf hG (la := x_l X) (h := e_up h []) hnx  hq18) rfl rfl rfl (e_le rfl) (e_le rfl) (e_le rfl) (Nat.zero_le _) (Nat.zero_le _) (e_k ?_)
        refine r_pic2 (h' := h) (l' := []) rfl ?_
        refine r_iload_n F dX7_vectorOf_75 rfl ?_
        refine r_iadd F dX7_vectorOf_76 ?_
        obtain ⟨hg, hf⟩ := e_gd hf
        refine r_iald F dX7_vectorOf_77 (i := (q17 + p2)) h41 (e_le rfl) (e_lt hnx rfl) (e_vp hg) ?_
        refine r_isub F dX7_vectorOf_78 ?_
        cases hf
        exact r_iret F hq dX7_vectorOf_79 rfl rfl (Nat.le_refl _) (Nat.le_refl _) ⟨rfl, rfl⟩
      · have hf := e_f hc hf
        refine r_iconst F dX7_vectorOf_18 (v := 0) (by decide) ?_
        cases hf
        exact r_iret F hq dX7_vectorOf_19 rfl rfl (Nat.le_refl _) (Nat.le_refl _) ⟨rfl, rfl⟩
  · have hf := e_f hc hf
    refine r_iconst F dX7_vectorOf_18 (v := 0) (by decide) ?_
    cases hf
    exact r_iret F hq dX7_vectorOf_19 rfl rfl (Nat.le_refl _) (Nat.le_refl _) ⟨rfl, rfl⟩

def fX0_find (a40_0 : Int32) (a40_1 : Int32) (a42_0 : Int32) (A41 : Nat → Int32) (A43 : Nat → Int32) (A44 : Nat → Int32)  : Option (Int32 × (Nat → Int32) × (Nat → Int32)) :=
  (e_loop (fun (v3 : Int32 × Int32 × (Nat → Int32) × (Nat → Int32)) => (
      if (a40_1 - 1) ≤ v3.1 then
        some (.inr (v3.2.1, v3.2.2.1, v3.2.2.2))
      else
        (e_loop (fun (v8 : Int32 × Int32 × (Nat → Int32) × (Nat → Int32)) => (
            if (a40_0 - 1) ≤ v8.1 then
              some (.inr (v8.2.1, v8.2.2.1, v8.2.2.2))
            else
              (fX7_vectorOf a40_0 a40_1 A41 v8.1 v3.1 0).bind (fun q11 =>
              (fX7_vectorOf a40_0 a40_1 A41 v8.1 v3.1 1).bind (fun q13 =>
              Option.bind (α := Int32 × (Nat → Int32) × (Nat → Int32)) (
                if q11 = 0 then
                  if q13 = 0 then
                    some (v8.2.1, v8.2.2.1, v8.2.2.2)
                  else
                    if 12 ≤ v8.2.1 then
                      some (v8.2.1, v8.2.2.1, v8.2.2.2)
                    else
                      e_g (e_in (2 * v8.2.1) 24) (
                      e_g (e_in ((2 * v8.2.1) + 1) 24) (
                      e_g (e_in (2 * v8.2.1) 24) (
                      e_g (e_in ((2 * v8.2.1) + 1) 24) (
                      some (v8.2.1 + 1, upd (upd v8.2.2.1 (tn (2 * v8.2.1)) v8.1) (tn ((2 * v8.2.1) + 1)) v3.1, upd (upd v8.2.2.2 (tn (2 * v8.2.1)) q11) (tn ((2 * v8.2.1) + 1)) q13)))))
                else
                  if 12 ≤ v8.2.1 then
                    some (v8.2.1, v8.2.2.1, v8.2.2.2)
                  else
                    e_g (e_in (2 * v8.2.1) 24) (
                    e_g (e_in ((2 * v8.2.1) + 1) 24) (
                    e_g (e_in (2 * v8.2.1) 24) (
                    e_g (e_in ((2 * v8.2.1) + 1) 24) (
                    some (v8.2.1 + 1, upd (upd v8.2.2.1 (tn (2 * v8.2.1)) v8.1) (tn ((2 * v8.2.1) + 1)) v3.1, upd (upd v8.2.2.2 (tn (2 * v8.2.1)) q11) (tn ((2 * v8.2.1) + 1)) q13)))))) (fun q15 =>
              some (.inl (v8.1 + 1, q15.1, q15.2.1, q15.2.2))))) : Option ((Int32 × Int32 × (Nat → Int32) × (Nat → Int32)) ⊕ (Int32 × (Nat → Int32) × (Nat → Int32))))) e_fuel (0, v3.2.1, v3.2.2.1, v3.2.2.2)).bind (fun x9 =>
        some (.inl (v3.1 + 1, x9.1, x9.2.1, x9.2.2))) : Option ((Int32 × Int32 × (Nat → Int32) × (Nat → Int32)) ⊕ (Int32 × (Nat → Int32) × (Nat → Int32))))) e_fuel (0, 0, A43, A44)).bind (fun x4 =>
  some (x4.1, x4.2.1, x4.2.2))
set_option maxRecDepth 100000 in
theorem tX0_find_42_40 {G : eG} (hG : e_GS G) {la : Launch} {h : Nat → eO} {nx : Nat} (hnx : 99 ≤ nx) {a40_0 : Int32} {a40_1 : Int32} {A41 : Nat → Int32} {a42_0 : Int32} {A43 : Nat → Int32} {A44 : Nat → Int32}  (h40 : h 40 = o40 a40_0 a40_1) (h41 : h 41 = o41 A41) (h42 : h 42 = o42 a42_0) (h43 : h 43 = o43 A43) (h44 : h 44 = o44 A44) {R9 : Int32 × (Nat → Int32) × (Nat → Int32)} (hf : fX0_find a40_0 a40_1 a42_0 A41 A43 A44  = some R9) :
    eSem G la MX0_find [.ref 42, .ref 40] h nx 0 0 (fun r9 h9 => r9 = none ∧ h9 = e_up h [(42, o42 R9.1), (43, o43 R9.2.1), (44, o44 R9.2.2)]) := by
  refine eSem.of (k := 4) (L := [some (.ref 42), some (.ref 40), none, none, none, none]) (by decide) rfl rfl (fun X F hxl hq hcR hsR => ?_)
  subst hxl
  unfold fX0_find at hf
  refine r_aload_n F dX0_find_0 rfl ?_
  refine r_iconst F dX0_find_1 (v := 0) (by decide) ?_
  refine r_put F dX0_find_2 flX0_18 rfl rfl rfl h42 (e_le rfl) (e_le rfl) (e_lt hnx rfl) (l' := [(42, o42 0)]) rfl ?_
  refine r_iconst F dX0_find_5 (v := 0) (by decide) ?_
  refine r_istore_n F dX0_find_6 (e_le rfl) (L' := [some (.ref 42), some (.ref 40), some (.int 0), none, none, none]) rfl ?_
  refine r_mat (k := 43) h43 (l' := [(42, o42 0), (43, o43 A43)]) rfl ?_
  refine r_mat (k := 44) h44 (l' := [(42, o42 0), (43, o43 A43), (44, o44 A44)]) rfl ?_
  obtain ⟨x4, hx5, hf⟩ := e_bd hf
  refine (e_loop_ok (P := fun (v3 : Int32 × Int32 × (Nat → Int32) × (Nat → Int32)) => eRun G X 7 [some (.ref 42), some (.ref 40), some (.int v3.1), none, none, none] [] h [(42, o42 v3.2.1), (43, o43 v3.2.2.1), (44, o44 v3.2.2.2)] nx 0 0) (K := fun (x4 : Int32 × (Nat → Int32) × (Nat → Int32)) => eRun G X 142 [none, none, none, none, none, none] [] h [(42, o42 x4.1), (43, o43 x4.2.1), (44, o44 x4.2.2)] nx 0 0) ?_ e_fuel (0, 0, A43, A44) x4 hx5 ?_ : _)
  · intro v3 z hz ih hx
    refine r_iload_n F dX0_find_7 rfl ?_
    refine r_aload_n F dX0_find_8 rfl ?_
    refine r_get F dX0_find_9 flX0_22 h40 rfl (e_le rfl) (e_lt hnx rfl) ?_
    refine r_iconst F dX0_find_12 (v := 1) (by decide) ?_
    refine r_isub F dX0_find_13 ?_
    refine r_icmp_ge F dX0_find_14 (tgt := 142) (by decide) (fun hc => ?_) (fun hc => ?_)
    · have hz := e_t hc hz
      refine r_drop 0 (L' := [none, some (.ref 40), some (.int v3.1), none, none, none]) rfl ?_
      refine r_drop 1 (L' := [none, none, some (.int v3.1), none, none, none]) rfl ?_
      refine r_drop 2 (L' := [none, none, none, none, none, none]) rfl ?_
      cases hz
      exact hx _ rfl
    · have hz := e_f hc hz
      refine r_iconst F dX0_find_17 (v := 0) (by decide) ?_
      refine r_istore_n F dX0_find_18 (e_le rfl) (L' := [some (.ref 42), some (.ref 40), some (.int v3.1), some (.int 0), none, none]) rfl ?_
      obtain ⟨x9, hx10, hz⟩ := e_bd hz
      refine (e_loop_ok (P := fun (v8 : Int32 × Int32 × (Nat → Int32) × (Nat → Int32)) => eRun G X 19 [some (.ref 42), some (.ref 40), some (.int v3.1), some (.int v8.1), none, none] [] h [(42, o42 v8.2.1), (43, o43 v8.2.2.1), (44, o44 v8.2.2.2)] nx 0 0) (K := fun (x9 : Int32 × (Nat → Int32) × (Nat → Int32)) => eRun G X 136 [some (.ref 42), some (.ref 40), some (.int v3.1), none, none, none] [] h [(42, o42 x9.1), (43, o43 x9.2.1), (44, o44 x9.2.2)] nx 0 0) ?_ e_fuel (0, v3.2.1, v3.2.2.1, v3.2.2.2) x9 hx10 ?_ : _)
      · intro v8 z hz ih hx
        refine r_iload_n F dX0_find_19 rfl ?_
        refine r_aload_n F dX0_find_20 rfl ?_
        refine r_get F dX0_find_21 flX0_27 h40 rfl (e_le rfl) (e_lt hnx rfl) ?_
        refine r_iconst F dX0_find_24 (v := 1) (by decide) ?_
        refine r_isub F dX0_find_25 ?_
        refine r_icmp_ge F dX0_find_26 (tgt := 136) (by decide) (fun hc => ?_) (fun hc => ?_)
        · have hz := e_t hc hz
          refine r_drop 3 (L' := [some (.ref 42), some (.ref 40), some (.int v3.1), none, none, none]) rfl ?_
          cases hz
          exact hx _ rfl
        · have hz := e_f hc hz
          refine r_aload_n F dX0_find_29 rfl ?_
          refine r_iload_n F dX0_find_30 rfl ?_
          refine r_iload_n F dX0_find_31 rfl ?_
          refine r_iconst F dX0_find_32 (v := 0) (by decide) ?_
          obtain ⟨q11, hq12, hz⟩ := e_bd hz
          refine r_callV F dX0_find_33 (b := 40) (dc := 0) (ds := 0) (As := [.int v8.1, .int v3.1, .int 0]) (S0 := []) lkX0_30 mX7_vectorOf (tX7_vectorOf_40 hG (la := x_l X) (h := e_up h [(42, o42 v8.2.1), (43, o43 v8.2.2.1), (44, o44 v8.2.2.2)]) hnx h40 h41 hq12) rfl rfl rfl (e_le rfl) (e_le rfl) (e_le rfl) h40 (ci := 7) e_cl7.1 rfl (e_le rfl) (e_lt hnx rfl) (Nat.zero_le _) (Nat.zero_le _) (e_k ?_)
          refine r_pic2 (h' := h) (l' := [(42, o42 v8.2.1), (43, o43 v8.2.2.1), (44, o44 v8.2.2.2)]) rfl ?_
          refine r_istore F dX0_find_36 (e_le rfl) (L' := [some (.ref 42), some (.ref 40), some (.int v3.1), some (.int v8.1), some (.int q11), none]) rfl ?_
          refine r_aload_n F dX0_find_38 rfl ?_
          refine r_iload_n F dX0_find_39 rfl ?_
          refine r_iload_n F dX0_find_40 rfl ?_
          refine r_iconst F dX0_find_41 (v := 1) (by decide) ?_
          obtain ⟨q13, hq14, hz⟩ := e_bd hz
          refine r_callV F dX0_find_42 (b := 40) (dc := 0) (ds := 0) (As := [.int v8.1, .int v3.1, .int 1]) (S0 := []) lkX0_30 mX7_vectorOf (tX7_vectorOf_40 hG (la := x_l X) (h := e_up h [(42, o42 v8.2.1), (43, o43 v8.2.2.1), (44, o44 v8.2.2.2)]) hnx h40 h41 hq14) rfl rfl rfl (e_le rfl) (e_le rfl) (e_le rfl) h40 (ci := 7) e_cl7.1 rfl (e_le rfl) (e_lt hnx rfl) (Nat.zero_le _) (Nat.zero_le _) (e_k ?_)
          refine r_pic2 (h' := h) (l' := [(42, o42 v8.2.1), (43, o43 v8.2.2.1), (44, o44 v8.2.2.2)]) rfl ?_
          refine r_istore F dX0_find_45 (e_le rfl) (L' := [some (.ref 42), some (.ref 40), some (.int v3.1), some (.int v8.1), some (.int q11), some (.int q13)]) rfl ?_
          refine r_iload F dX0_find_47 rfl ?_
          obtain ⟨q15, hq16, hz⟩ := e_bd hz
          have Jq15 : eRun G X 130 [some (.ref 42), some (.ref 40), some (.int v3.1), some (.int v8.1), none, none] [] h [(42, o42 q15.1), (43, o43 q15.2.1), (44, o44 q15.2.2)] nx 0 0 := by
            refine r_inc F dX0_find_130 (k9 := 1) (by decide) rfl (L' := [some (.ref 42), some (.ref 40), some (.int v3.1), some (.int (v8.1 + 1)), none, none]) rfl ?_
            refine r_goto F dX0_find_133 (tgt := 19) (by decide) ?_
            cases hz
            exact ih _ rfl
          refine r_if_ne F dX0_find_49 (tgt := 57) (by decide) (fun hc => ?_) (fun hc => ?_)
          · have hq16 := e_f hc hq16
            refine r_aload_n F dX0_find_57 rfl ?_
            refine r_get F dX0_find_58 flX0_18 rfl rfl (e_le rfl) (e_lt hnx rfl) ?_
            refine r_bipush F dX0_find_61 (v := 12) (by decide) ?_
            refine r_icmp_ge F dX0_find_63 (tgt := 130) (by decide) (fun hc => ?_) (fun hc => ?_)
            · have hq16 := e_t hc hq16
              refine r_drop 4 (L' := [some (.ref 42), some (.ref 40), some (.int v3.1), some (.int v8.1), none, some (.int q13)]) rfl ?_
              refine r_drop 5 (L' := [some (.ref 42), some (.ref 40), some (.int v3.1), some (.int v8.1), none, none]) rfl ?_
              cases hq16
              exact Jq15
            · have hq16 := e_f hc hq16
              refine r_aload_n F dX0_find_66 rfl ?_
              refine r_get F dX0_find_67 flX0_9 rfl rfl (e_le rfl) (e_lt hnx rfl) ?_
              refine r_iconst F dX0_find_70 (v := 2) (by decide) ?_
              refine r_aload_n F dX0_find_71 rfl ?_
              refine r_get F dX0_find_72 flX0_18 rfl rfl (e_le rfl) (e_lt hnx rfl) ?_
              refine r_imul F dX0_find_75 ?_
              refine r_iload_n F dX0_find_76 rfl ?_
              obtain ⟨hg, hq16⟩ := e_gd hq16
              refine r_iast F dX0_find_77 rfl (e_le rfl) (e_lt hnx rfl) (e_vp hg) (l' := [(42, o42 v8.2.1), (43, o43 (upd v8.2.2.1 (tn (2 * v8.2.1)) v8.1)), (44, o44 v8.2.2.2)]) rfl ?_
              refine r_aload_n F dX0_find_78 rfl ?_
              refine r_get F dX0_find_79 flX0_9 rfl rfl (e_le rfl) (e_lt hnx rfl) ?_
              refine r_iconst F dX0_find_82 (v := 2) (by decide) ?_
              refine r_aload_n F dX0_find_83 rfl ?_
              refine r_get F dX0_find_84 flX0_18 rfl rfl (e_le rfl) (e_lt hnx rfl) ?_
              refine r_imul F dX0_find_87 ?_
              refine r_iconst F dX0_find_88 (v := 1) (by decide) ?_
              refine r_iadd F dX0_find_89 ?_
              refine r_iload_n F dX0_find_90 rfl ?_
              obtain ⟨hg, hq16⟩ := e_gd hq16
              refine r_iast F dX0_find_91 rfl (e_le rfl) (e_lt hnx rfl) (e_vp hg) (l' := [(42, o42 v8.2.1), (43, o43 (upd (upd v8.2.2.1 (tn (2 * v8.2.1)) v8.1) (tn ((2 * v8.2.1) + 1)) v3.1)), (44, o44 v8.2.2.2)]) rfl ?_
              refine r_aload_n F dX0_find_92 rfl ?_
              refine r_get F dX0_find_93 flX0_15 rfl rfl (e_le rfl) (e_lt hnx rfl) ?_
              refine r_iconst F dX0_find_96 (v := 2) (by decide) ?_
              refine r_aload_n F dX0_find_97 rfl ?_
              refine r_get F dX0_find_98 flX0_18 rfl rfl (e_le rfl) (e_lt hnx rfl) ?_
              refine r_imul F dX0_find_101 ?_
              refine r_iload F dX0_find_102 rfl ?_
              obtain ⟨hg, hq16⟩ := e_gd hq16
              refine r_iast F dX0_find_104 rfl (e_le rfl) (e_lt hnx rfl) (e_vp hg) (l' := [(42, o42 v8.2.1), (43, o43 (upd (upd v8.2.2.1 (tn (2 * v8.2.1)) v8.1) (tn ((2 * v8.2.1) + 1)) v3.1)), (44, o44 (upd v8.2.2.2 (tn (2 * v8.2.1)) q11))]) rfl ?_
              refine r_aload_n F dX0_find_105 rfl ?_
              refine r_get F dX0_find_106 flX0_15 rfl rfl (e_le rfl) (e_lt hnx rfl) ?_
              refine r_iconst F dX0_find_109 (v := 2) (by decide) ?_
              refine r_aload_n F dX0_find_110 rfl ?_
              refine r_get F dX0_find_111 flX0_18 rfl rfl (e_le rfl) (e_lt hnx rfl) ?_
              refine r_imul F dX0_find_114 ?_
              refine r_iconst F dX0_find_115 (v := 1) (by decide) ?_
              refine r_iadd F dX0_find_116 ?_
              refine r_iload F dX0_find_117 rfl ?_
              obtain ⟨hg, hq16⟩ := e_gd hq16
              refine r_iast F dX0_find_119 rfl (e_le rfl) (e_lt hnx rfl) (e_vp hg) (l' := [(42, o42 v8.2.1), (43, o43 (upd (upd v8.2.2.1 (tn (2 * v8.2.1)) v8.1) (tn ((2 * v8.2.1) + 1)) v3.1)), (44, o44 (upd (upd v8.2.2.2 (tn (2 * v8.2.1)) q11) (tn ((2 * v8.2.1) + 1)) q13))]) rfl ?_
              refine r_aload_n F dX0_find_120 rfl ?_
              refine r_dup F dX0_find_121 rfl ?_
              refine r_get F dX0_find_122 flX0_18 rfl rfl (e_le rfl) (e_lt hnx rfl) ?_
              refine r_iconst F dX0_find_125 (v := 1) (by decide) ?_
              refine r_iadd F dX0_find_126 ?_
              refine r_put F dX0_find_127 flX0_18 rfl rfl rfl rfl (e_le rfl) (e_le rfl) (e_lt hnx rfl) (l' := [(42, o42 (v8.2.1 + 1)), (43, o43 (upd (upd v8.2.2.1 (tn (2 * v8.2.1)) v8.1) (tn ((2 * v8.2.1) + 1)) v3.1)), (44, o44 (upd (upd v8.2.2.2 (tn (2 * v8.2.1)) q11) (tn ((2 * v8.2.1) + 1)) q13))]) rfl ?_
              refine r_drop 4 (L' := [some (.ref 42), some (.ref 40), some (.int v3.1), some (.int v8.1), none, some (.int q13)]) rfl ?_
              refine r_drop 5 (L' := [some (.ref 42), some (.ref 40), some (.int v3.1), some (.int v8.1), none, none]) rfl ?_
              cases hq16
              exact Jq15
          · have hq16 := e_t hc hq16
            refine r_iload F dX0_find_52 rfl ?_
            refine r_if_eq F dX0_find_54 (tgt := 130) (by decide) (fun hc => ?_) (fun hc => ?_)
            · have hq16 := e_t hc hq16
              refine r_drop 4 (L' := [some (.ref 42), some (.ref 40), some (.int v3.1), some (.int v8.1), none, some (.int q13)]) rfl ?_
              refine r_drop 5 (L' := [some (.ref 42), some (.ref 40), some (.int v3.1), some (.int v8.1), none, none]) rfl ?_
              cases hq16
              exact Jq15
            · have hq16 := e_f hc hq16
              refine r_aload_n F dX0_find_57 rfl ?_
              refine r_get F dX0_find_58 flX0_18 rfl rfl (e_le rfl) (e_lt hnx rfl) ?_
              refine r_bipush F dX0_find_61 (v := 12) (by decide) ?_
              refine r_icmp_ge F dX0_find_63 (tgt := 130) (by decide) (fun hc => ?_) (fun hc => ?_)
              · have hq16 := e_t hc hq16
                refine r_drop 4 (L' := [some (.ref 42), some (.ref 40), some (.int v3.1), some (.int v8.1), none, some (.int q13)]) rfl ?_
                refine r_drop 5 (L' := [some (.ref 42), some (.ref 40), some (.int v3.1), some (.int v8.1), none, none]) rfl ?_
                cases hq16
                exact Jq15
              · have hq16 := e_f hc hq16
                refine r_aload_n F dX0_find_66 rfl ?_
                refine r_get F dX0_find_67 flX0_9 rfl rfl (e_le rfl) (e_lt hnx rfl) ?_
                refine r_iconst F dX0_find_70 (v := 2) (by decide) ?_
                refine r_aload_n F dX0_find_71 rfl ?_
                refine r_get F dX0_find_72 flX0_18 rfl rfl (e_le rfl) (e_lt hnx rfl) ?_
                refine r_imul F dX0_find_75 ?_
                refine r_iload_n F dX0_find_76 rfl ?_
                obtain ⟨hg, hq16⟩ := e_gd hq16
                refine r_iast F dX0_find_77 rfl (e_le rfl) (e_lt hnx rfl) (e_vp hg) (l' := [(42, o42 v8.2.1), (43, o43 (upd v8.2.2.1 (tn (2 * v8.2.1)) v8.1)), (44, o44 v8.2.2.2)]) rfl ?_
                refine r_aload_n F dX0_find_78 rfl ?_
                refine r_get F dX0_find_79 flX0_9 rfl rfl (e_le rfl) (e_lt hnx rfl) ?_
                refine r_iconst F dX0_find_82 (v := 2) (by decide) ?_
                refine r_aload_n F dX0_find_83 rfl ?_
                refine r_get F dX0_find_84 flX0_18 rfl rfl (e_le rfl) (e_lt hnx rfl) ?_
                refine r_imul F dX0_find_87 ?_
                refine r_iconst F dX0_find_88 (v := 1) (by decide) ?_
                refine r_iadd F dX0_find_89 ?_
                refine r_iload_n F dX0_find_90 rfl ?_
                obtain ⟨hg, hq16⟩ := e_gd hq16
                refine r_iast F dX0_find_91 rfl (e_le rfl) (e_lt hnx rfl) (e_vp hg) (l' := [(42, o42 v8.2.1), (43, o43 (upd (upd v8.2.2.1 (tn (2 * v8.2.1)) v8.1) (tn ((2 * v8.2.1) + 1)) v3.1)), (44, o44 v8.2.2.2)]) rfl ?_
                refine r_aload_n F dX0_find_92 rfl ?_
                refine r_get F dX0_find_93 flX0_15 rfl rfl (e_le rfl) (e_lt hnx rfl) ?_
                refine r_iconst F dX0_find_96 (v := 2) (by decide) ?_
                refine r_aload_n F dX0_find_97 rfl ?_
                refine r_get F dX0_find_98 flX0_18 rfl rfl (e_le rfl) (e_lt hnx rfl) ?_
                refine r_imul F dX0_find_101 ?_
                refine r_iload F dX0_find_102 rfl ?_
                obtain ⟨hg, hq16⟩ := e_gd hq16
                refine r_iast F dX0_find_104 rfl (e_le rfl) (e_lt hnx rfl) (e_vp hg) (l' := [(42, o42 v8.2.1), (43, o43 (upd (upd v8.2.2.1 (tn (2 * v8.2.1)) v8.1) (tn ((2 * v8.2.1) + 1)) v3.1)), (44, o44 (upd v8.2.2.2 (tn (2 * v8.2.1)) q11))]) rfl ?_
                refine r_aload_n F dX0_find_105 rfl ?_
                refine r_get F dX0_find_106 flX0_15 rfl rfl (e_le rfl) (e_lt hnx rfl) ?_
                refine r_iconst F dX0_find_109 (v := 2) (by decide) ?_
                refine r_aload_n F dX0_find_110 rfl ?_
                refine r_get F dX0_find_111 flX0_18 rfl rfl (e_le rfl) (e_lt hnx rfl) ?_
                refine r_imul F dX0_find_114 ?_
                refine r_iconst F dX0_find_115 (v := 1) (by decide) ?_
                refine r_iadd F dX0_find_116 ?_
                refine r_iload F dX0_find_117 rfl ?_
                obtain ⟨hg, hq16⟩ := e_gd hq16
                refine r_iast F dX0_find_119 rfl (e_le rfl) (e_lt hnx rfl) (e_vp hg) (l' := [(42, o42 v8.2.1), (43, o43 (upd (upd v8.2.2.1 (tn (2 * v8.2.1)) v8.1) (tn ((2 * v8.2.1) + 1)) v3.1)), (44, o44 (upd (upd v8.2.2.2 (tn (2 * v8.2.1)) q11) (tn ((2 * v8.2.1) + 1)) q13))]) rfl ?_
                refine r_aload_n F dX0_find_120 rfl ?_
                refine r_dup F dX0_find_121 rfl ?_
                refine r_get F dX0_find_122 flX0_18 rfl rfl (e_le rfl) (e_lt hnx rfl) ?_
                refine r_iconst F dX0_find_125 (v := 1) (by decide) ?_
                refine r_iadd F dX0_find_126 ?_
                refine r_put F dX0_find_127 flX0_18 rfl rfl rfl rfl (e_le rfl) (e_le rfl) (e_lt hnx rfl) (l' := [(42, o42 (v8.2.1 + 1)), (43, o43 (upd (upd v8.2.2.1 (tn (2 * v8.2.1)) v8.1) (tn ((2 * v8.2.1) + 1)) v3.1)), (44, o44 (upd (upd v8.2.2.2 (tn (2 * v8.2.1)) q11) (tn ((2 * v8.2.1) + 1)) q13))]) rfl ?_
                refine r_drop 4 (L' := [some (.ref 42), some (.ref 40), some (.int v3.1), some (.int v8.1), none, some (.int q13)]) rfl ?_
                refine r_drop 5 (L' := [some (.ref 42), some (.ref 40), some (.int v3.1), some (.int v8.1), none, none]) rfl ?_
                cases hq16
                exact Jq15
      · show eRun G X 136 [some (.ref 42), some (.ref 40), some (.int v3.1), none, none, none] [] h [(42, o42 x9.1), (43, o43 x9.2.1), (44, o44 x9.2.2)] nx 0 0
        refine r_inc F dX0_find_136 (k9 := 1) (by decide) rfl (L' := [some (.ref 42), some (.ref 40), some (.int (v3.1 + 1)), none, none, none]) rfl ?_
        refine r_goto F dX0_find_139 (tgt := 7) (by decide) ?_
        cases hz
        exact ih _ rfl
  · show eRun G X 142 [none, none, none, none, none, none] [] h [(42, o42 x4.1), (43, o43 x4.2.1), (44, o44 x4.2.2)] nx 0 0
    cases hf
    exact r_vret F hq dX0_find_142 rfl rfl (Nat.le_refl _) (Nat.le_refl _) ⟨rfl, rfl⟩

set_option maxRecDepth 100000 in
theorem tX7_hasFace_47 {G : eG} (hG : e_GS G) {la : Launch} {h : Nat → eO} {nx : Nat} (hnx : 99 ≤ nx) {a47_0 : Int32} {a47_1 : Int32} {p0 : Int32} {p1 : Int32} (h47 : h 47 = o47 a47_0 a47_1) {R9 : Bool} (hf : fX7_hasFace a47_0 a47_1 p0 p1 = some R9) :
    eSem G la MX7_hasFace [.ref 47, .int p0, .int p1] h nx 0 0 (fun r9 h9 => r9 = some (.int (e_b R9)) ∧ h9 = h) := by
  refine eSem.of (k := 0) (L := [some (.ref 47), some (.int p0), some (.int p1)]) (by decide) rfl rfl (fun X F hxl hq hcR hsR => ?_)
  subst hxl
  unfold fX7_hasFace at hf
  refine r_iload_n F dX7_hasFace_0 rfl ?_
  refine r_if_lt F dX7_hasFace_1 (tgt := 44) (by decide) (fun hc => ?_) (fun hc => ?_)
  · have hf := e_t hc hf
    refine r_iconst F dX7_hasFace_44 (v := 0) (by decide) ?_
    cases hf
    exact r_zret F hq (v := false) dX7_hasFace_45 rfl rfl (Nat.le_refl _) (Nat.le_refl _) ⟨rfl, rfl⟩
  · have hf := e_f hc hf
    refine r_iload_n F dX7_hasFace_4 rfl ?_
    refine r_aload_n F dX7_hasFace_5 rfl ?_
    refine r_get F dX7_hasFace_6 flX7_15 h47 rfl (e_le rfl) (e_lt hnx rfl) ?_
    refine r_iconst F dX7_hasFace_9 (v := 1) (by decide) ?_
    refine r_isub F dX7_hasFace_10 ?_
    refine r_icmp_ge F dX7_hasFace_11 (tgt := 44) (by decide) (fun hc => ?_) (fun hc => ?_)
    · have hf := e_t hc hf
      refine r_iconst F dX7_hasFace_44 (v := 0) (by decide) ?_
      cases hf
      exact r_zret F hq (v := false) dX7_hasFace_45 rfl rfl (Nat.le_refl _) (Nat.le_refl _) ⟨rfl, rfl⟩
    · have hf := e_f hc hf
      refine r_iload_n F dX7_hasFace_14 rfl ?_
      refine r_bipush F dX7_hasFace_15 (v := 8) (by decide) ?_
      refine r_icmp_ge F dX7_hasFace_17 (tgt := 44) (by decide) (fun hc => ?_) (fun hc => ?_)
      · have hf := e_t hc hf
        refine r_iconst F dX7_hasFace_44 (v := 0) (by decide) ?_
        cases hf
        exact r_zret F hq (v := false) dX7_hasFace_45 rfl rfl (Nat.le_refl _) (Nat.le_refl _) ⟨rfl, rfl⟩
      · have hf := e_f hc hf
        refine r_iload_n F dX7_hasFace_20 rfl ?_
        refine r_if_lt F dX7_hasFace_21 (tgt := 44) (by decide) (fun hc => ?_) (fun hc => ?_)
        · have hf := e_t hc hf
          refine r_iconst F dX7_hasFace_44 (v := 0) (by decide) ?_
          cases hf
          exact r_zret F hq (v := false) dX7_hasFace_45 rfl rfl (Nat.le_refl _) (Nat.le_refl _) ⟨rfl, rfl⟩
        · have hf := e_f hc hf
          refine r_iload_n F dX7_hasFace_24 rfl ?_
          refine r_aload_n F dX7_hasFace_25 rfl ?_
          refine r_get F dX7_hasFace_26 flX7_19 h47 rfl (e_le rfl) (e_lt hnx rfl) ?_
          refine r_iconst F dX7_hasFace_29 (v := 1) (by decide) ?_
          refine r_isub F dX7_hasFace_30 ?_
          refine r_icmp_ge F dX7_hasFace_31 (tgt := 44) (by decide) (fun hc => ?_) (fun hc => ?_)
          · have hf := e_t hc hf
            refine r_iconst F dX7_hasFace_44 (v := 0) (by decide) ?_
            cases hf
            exact r_zret F hq (v := false) dX7_hasFace_45 rfl rfl (Nat.le_refl _) (Nat.le_refl _) ⟨rfl, rfl⟩
          · have hf := e_f hc hf
            refine r_iload_n F dX7_hasFace_34 rfl ?_
            refine r_bipush F dX7_hasFace_35 (v := 8) (by decide) ?_
            refine r_icmp_ge F dX7_hasFace_37 (tgt := 44) (by decide) (fun hc => ?_) (fun hc => ?_)
            · have hf := e_t hc hf
              refine r_iconst F dX7_hasFace_44 (v := 0) (by decide) ?_
              cases hf
              exact r_zret F hq (v := false) dX7_hasFace_45 rfl rfl (Nat.le_refl _) (Nat.le_refl _) ⟨rfl, rfl⟩
            · have hf := e_f hc hf
              refine r_iconst F dX7_hasFace_40 (v := 1) (by decide) ?_
              refine r_goto F dX7_hasFace_41 (tgt := 45) (by decide) ?_
              cases hf
              exact r_zret F hq (v := true) dX7_hasFace_45 rfl rfl (Nat.le_refl _) (Nat.le_refl _) ⟨rfl, rfl⟩

set_option maxRecDepth 100000 in
theorem tX7_vectorOf_47 {G : eG} (hG : e_GS G) {la : Launch} {h : Nat → eO} {nx : Nat} (hnx : 99 ≤ nx) {a47_0 : Int32} {a47_1 : Int32} {A48 : Nat → Int32} {p0 : Int32} {p1 : Int32} {p2 : Int32} (h47 : h 47 = o47 a47_0 a47_1) (h48 : h 48 = o48 A48) {R9 : Int32} (hf : fX7_vectorOf a47_0 a47_1 A48 p0 p1 p2 = some R9) :
    eSem G la MX7_vectorOf [.ref 47, .int p0, .int p1, .int p2] h nx 0 0 (fun r9 h9 => r9 = some (.int R9) ∧ h9 = h) := by
  refine eSem.of (k := 0) (L := [some (.ref 47), some (.int p0), some (.int p1), some (.int p2)]) (by decide) rfl rfl (fun X F hxl hq hcR hsR => ?_)
  subst hxl
  unfold fX7_vectorOf at hf
  refine r_aload_n F dX7_vectorOf_0 rfl ?_
  refine r_iload_n F dX7_vectorOf_1 rfl ?_
  refine r_iload_n F dX7_vectorOf_2 rfl ?_
  obtain ⟨q1, hq2, hf⟩ := e_bd hf
  refine r_callV F dX7_vectorOf_3 (b := 47) (dc := 0) (ds := 0) (As := [.int p0, .int p1]) (S0 := []) lkX7_51 mX7_hasFace (tX7_hasFace_47 hG (la := x_l X) (h := e_up h []) hnx h47 hq2) rfl rfl rfl (e_le rfl) (e_le rfl) (e_le rfl) h47 (ci := 7) e_cl7.1 rfl (e_le rfl) (e_lt hnx rfl) (Nat.zero_le _) (Nat.zero_le _) (e_k ?_)
  refine r_pic2 (h' := h) (l' := []) rfl ?_
  refine r_z_eq F dX7_vectorOf_6 (tgt := 18) (by decide) (fun hc => ?_) (fun hc => ?_)
  · have hf := e_t hc hf
    refine r_iload_n F dX7_vectorOf_9 rfl ?_
    refine r_if_eq F dX7_vectorOf_10 (tgt := 20) (by decide) (fun hc => ?_) (fun hc => ?_)
    · have hf := e_t hc hf
      refine r_aload_n F dX7_vectorOf_20 rfl ?_
      refine r_get F dX7_vectorOf_21 flX7_11 h47 rfl (e_le rfl) (e_lt hnx rfl) ?_
      refine r_iload_n F dX7_vectorOf_24 rfl ?_
      refine r_iload_n F dX7_vectorOf_25 rfl ?_
      refine r_iconst F dX7_vectorOf_26 (v := 0) (by decide) ?_
      obtain ⟨q3, hq4, hf⟩ := e_bd hf
      refine r_callS F dX7_vectorOf_27 (dc := 0) (ds := 0) (As := [.int p0, .int p1, .int 0]) (S0 := [.ref 48]) lkX7_32 mX7_placeOf (tX7_placeOf hG (la := x_l X) (h := e_up h []) hnx  hq4) rfl rfl rfl (e_le rfl) (e_le rfl) (e_le rfl) (Nat.zero_le _) (Nat.zero_le _) (e_k ?_)
      refine r_pic2 (h' := h) (l' := []) rfl ?_
      refine r_iload_n F dX7_vectorOf_30 rfl ?_
      refine r_iadd F dX7_vectorOf_31 ?_
      obtain ⟨hg, hf⟩ := e_gd hf
      refine r_iald F dX7_vectorOf_32 (i := (q3 + p2)) h48 (e_le rfl) (e_lt hnx rfl) (e_vp hg) ?_
      refine r_aload_n F dX7_vectorOf_33 rfl ?_
      refine r_get F dX7_vectorOf_34 flX7_11 h47 rfl (e_le rfl) (e_lt hnx rfl) ?_
      refine r_iload_n F dX7_vectorOf_37 rfl ?_
      refine r_iconst F dX7_vectorOf_38 (v := 1) (by decide) ?_
      refine r_iadd F dX7_vectorOf_39 ?_
      refine r_iload_n F dX7_vectorOf_40 rfl ?_
      refine r_iconst F dX7_vectorOf_41 (v := 1) (by decide) ?_
      obtain ⟨q5, hq6, hf⟩ := e_bd hf
      refine r_callS F dX7_vectorOf_42 (dc := 0) (ds := 0) (As := [.int (p0 + 1), .int p1, .int 1]) (S0 := [.ref 48, .int (A48 (tn (q3 + p2)))]) lkX7_32 mX7_placeOf (tX7_placeOf hG (la := x_l X) (h := e_up h []) hnx  hq6) rfl rfl rfl (e_le rfl) (e_le rfl) (e_le rfl) (Nat.zero_le _) (Nat.zero_le _) (e_k ?_)
      refine r_pic2 (h' := h) (l' := []) rfl ?_
      refine r_iload_n F dX7_vectorOf_45 rfl ?_
      refine r_iadd F dX7_vectorOf_46 ?_
      obtain ⟨hg, hf⟩ := e_gd hf
      refine r_iald F dX7_vectorOf_47 (i := (q5 + p2)) h48 (e_le rfl) (e_lt hnx rfl) (e_vp hg) ?_
      refine r_iadd F dX7_vectorOf_48 ?_
      refine r_aload_n F dX7_vectorOf_49 rfl ?_
      refine r_get F dX7_vectorOf_50 flX7_11 h47 rfl (e_le rfl) (e_lt hnx rfl) ?_
      refine r_iload_n F dX7_vectorOf_53 rfl ?_
      refine r_iload_n F dX7_vectorOf_54 rfl ?_
      refine r_iconst F dX7_vectorOf_55 (v := 1) (by decide) ?_
      refine r_iadd F dX7_vectorOf_56 ?_
      refine r_iconst F dX7_vectorOf_57 (v := 0) (by decide) ?_
      obtain ⟨q7, hq8, hf⟩ := e_bd hf
      refine r_callS F dX7_vectorOf_58 (dc := 0) (ds := 0) (As := [.int p0, .int (p1 + 1), .int 0]) (S0 := [.ref 48, .int ((A48 (tn (q3 + p2))) + (A48 (tn (q5 + p2))))]) lkX7_32 mX7_placeOf (tX7_placeOf hG (la := x_l X) (h := e_up h []) hnx  hq8) rfl rfl rfl (e_le rfl) (e_le rfl) (e_le rfl) (Nat.zero_le _) (Nat.zero_le _) (e_k ?_)
      refine r_pic2 (h' := h) (l' := []) rfl ?_
      refine r_iload_n F dX7_vectorOf_61 rfl ?_
      refine r_iadd F dX7_vectorOf_62 ?_
      obtain ⟨hg, hf⟩ := e_gd hf
      refine r_iald F dX7_vectorOf_63 (i := (q7 + p2)) h48 (e_le rfl) (e_lt hnx rfl) (e_vp hg) ?_
      refine r_isub F dX7_vectorOf_64 ?_
      refine r_aload_n F dX7_vectorOf_65 rfl ?_
      refine r_get F dX7_vectorOf_66 flX7_11 h47 rfl (e_le rfl) (e_lt hnx rfl) ?_
      refine r_iload_n F dX7_vectorOf_69 rfl ?_
      refine r_iload_n F dX7_vectorOf_70 rfl ?_
      refine r_iconst F dX7_vectorOf_71 (v := 1) (by decide) ?_
      obtain ⟨q9, hq10, hf⟩ := e_bd hf
      refine r_callS F dX7_vectorOf_72 (dc := 0) (ds := 0) (As := [.int p0, .int p1, .int 1]) (S0 := [.ref 48, .int (((A48 (tn (q3 + p2))) + (A48 (tn (q5 + p2)))) - (A48 (tn (q7 + p2))))]) lkX7_32 mX7_placeOf (tX7_placeOf hG (la := x_l X) (h := e_up h []) hnx  hq10) rfl rfl rfl (e_le rfl) (e_le rfl) (e_le rfl) (Nat.zero_le _) (Nat.zero_le _) (e_k ?_)
      refine r_pic2 (h' := h) (l' := []) rfl ?_
      refine r_iload_n F dX7_vectorOf_75 rfl ?_
      refine r_iadd F dX7_vectorOf_76 ?_
      obtain ⟨hg, hf⟩ := e_gd hf
      refine r_iald F dX7_vectorOf_77 (i := (q9 + p2)) h48 (e_le rfl) (e_lt hnx rfl) (e_vp hg) ?_
      refine r_isub F dX7_vectorOf_78 ?_
      cases hf
      exact r_iret F hq dX7_vectorOf_79 rfl rfl (Nat.le_refl _) (Nat.le_refl _) ⟨rfl, rfl⟩
    · have hf := e_f hc hf
      refine r_iload_n F dX7_vectorOf_13 rfl ?_
      refine r_iconst F dX7_vectorOf_14 (v := 1) (by decide) ?_
      refine r_icmp_eq F dX7_vectorOf_15 (tgt := 20) (by decide) (fun hc => ?_) (fun hc => ?_)
      · have hf := e_t hc hf
        refine r_aload_n F dX7_vectorOf_20 rfl ?_
        refine r_get F dX7_vectorOf_21 flX7_11 h47 rfl (e_le rfl) (e_lt hnx rfl) ?_
        refine r_iload_n F dX7_vectorOf_24 rfl ?_
        refine r_iload_n F dX7_vectorOf_25 rfl ?_
        refine r_iconst F dX7_vectorOf_26 (v := 0) (by decide) ?_
        obtain ⟨q11, hq12, hf⟩ := e_bd hf
        refine r_callS F dX7_vectorOf_27 (dc := 0) (ds := 0) (As := [.int p0, .int p1, .int 0]) (S0 := [.ref 48]) lkX7_32 mX7_placeOf (tX7_placeOf hG (la := x_l X) (h := e_up h []) hnx  hq12) rfl rfl rfl (e_le rfl) (e_le rfl) (e_le rfl) (Nat.zero_le _) (Nat.zero_le _) (e_k ?_)
        refine r_pic2 (h' := h) (l' := []) rfl ?_
        refine r_iload_n F dX7_vectorOf_30 rfl ?_
        refine r_iadd F dX7_vectorOf_31 ?_
        obtain ⟨hg, hf⟩ := e_gd hf
        refine r_iald F dX7_vectorOf_32 (i := (q11 + p2)) h48 (e_le rfl) (e_lt hnx rfl) (e_vp hg) ?_
        refine r_aload_n F dX7_vectorOf_33 rfl ?_
        refine r_get F dX7_vectorOf_34 flX7_11 h47 rfl (e_le rfl) (e_lt hnx rfl) ?_
        refine r_iload_n F dX7_vectorOf_37 rfl ?_
        refine r_iconst F dX7_vectorOf_38 (v := 1) (by decide) ?_
        refine r_iadd F dX7_vectorOf_39 ?_
        refine r_iload_n F dX7_vectorOf_40 rfl ?_
        refine r_iconst F dX7_vectorOf_41 (v := 1) (by decide) ?_
        obtain ⟨q13, hq14, hf⟩ := e_bd hf
        refine r_callS F dX7_vectorOf_42 (dc := 0) (ds := 0) (As := [.int (p0 + 1), .int p1, .int 1]) (S0 := [.ref 48, .int (A48 (tn (q11 + p2)))]) lkX7_32 mX7_placeOf (tX7_placeOf hG (la := x_l X) (h := e_up h []) hnx  hq14) rfl rfl rfl (e_le rfl) (e_le rfl) (e_le rfl) (Nat.zero_le _) (Nat.zero_le _) (e_k ?_)
        refine r_pic2 (h' := h) (l' := []) rfl ?_
        refine r_iload_n F dX7_vectorOf_45 rfl ?_
        refine r_iadd F dX7_vectorOf_46 ?_
        obtain ⟨hg, hf⟩ := e_gd hf
        refine r_iald F dX7_vectorOf_47 (i := (q13 + p2)) h48 (e_le rfl) (e_lt hnx rfl) (e_vp hg) ?_
        refine r_iadd F dX7_vectorOf_48 ?_
        refine r_aload_n F dX7_vectorOf_49 rfl ?_
        refine r_get F dX7_vectorOf_50 flX7_11 h47 rfl (e_le rfl) (e_lt hnx rfl) ?_
        refine r_iload_n F dX7_vectorOf_53 rfl ?_
        refine r_iload_n F dX7_vectorOf_54 rfl ?_
        refine r_iconst F dX7_vectorOf_55 (v := 1) (by decide) ?_
        refine r_iadd F dX7_vectorOf_56 ?_
        refine r_iconst F dX7_vectorOf_57 (v := 0) (by decide) ?_
        obtain ⟨q15, hq16, hf⟩ := e_bd hf
        refine r_callS F dX7_vectorOf_58 (dc := 0) (ds := 0) (As := [.int p0, .int (p1 + 1), .int 0]) (S0 := [.ref 48, .int ((A48 (tn (q11 + p2))) + (A48 (tn (q13 + p2))))]) lkX7_32 mX7_placeOf (tX7_placeOf hG (la := x_l X) (h := e_up h []) hnx  hq16) rfl rfl rfl (e_le rfl) (e_le rfl) (e_le rfl) (Nat.zero_le _) (Nat.zero_le _) (e_k ?_)
        refine r_pic2 (h' := h) (l' := []) rfl ?_
        refine r_iload_n F dX7_vectorOf_61 rfl ?_
        refine r_iadd F dX7_vectorOf_62 ?_
        obtain ⟨hg, hf⟩ := e_gd hf
        refine r_iald F dX7_vectorOf_63 (i := (q15 + p2)) h48 (e_le rfl) (e_lt hnx rfl) (e_vp hg) ?_
        refine r_isub F dX7_vectorOf_64 ?_
        refine r_aload_n F dX7_vectorOf_65 rfl ?_
        refine r_get F dX7_vectorOf_66 flX7_11 h47 rfl (e_le rfl) (e_lt hnx rfl) ?_
        refine r_iload_n F dX7_vectorOf_69 rfl ?_
        refine r_iload_n F dX7_vectorOf_70 rfl ?_
        refine r_iconst F dX7_vectorOf_71 (v := 1) (by decide) ?_
        obtain ⟨q17, hq18, hf⟩ := e_bd hf
        refine r_callS F dX7_vectorOf_72 (dc := 0) (ds := 0) (As := [.int p0, .int p1, .int 1]) (S0 := [.ref 48, .int (((A48 (tn (q11 + p2))) + (A48 (tn (q13 + p2)))) - (A48 (tn (q15 + p2))))]) lkX7_32 mX7_placeOf (tX7_placeOf hG (la := x_l X) (h := e_up h []) hnx  hq18) rfl rfl rfl (e_le rfl) (e_le rfl) (e_le rfl) (Nat.zero_le _) (Nat.zero_le _) (e_k ?_)
        refine r_pic2 (h' := h) (l' := []) rfl ?_
        refine r_iload_n F dX7_vectorOf_75 rfl ?_
        refine r_iadd F dX7_vectorOf_76 ?_
        obtain ⟨hg, hf⟩ := e_gd hf
        refine r_iald F dX7_vectorOf_77 (i := (q17 + p2)) h48 (e_le rfl) (e_lt hnx rfl) (e_vp hg) ?_
        refine r_isub F dX7_vectorOf_78 ?_
        cases hf
        exact r_iret F hq dX7_vectorOf_79 rfl rfl (Nat.le_refl _) (Nat.le_refl _) ⟨rfl, rfl⟩
      · have hf := e_f hc hf
        refine r_iconst F dX7_vectorOf_18 (v := 0) (by decide) ?_
        cases hf
        exact r_iret F hq dX7_vectorOf_19 rfl rfl (Nat.le_refl _) (Nat.le_refl _) ⟨rfl, rfl⟩
  · have hf := e_f hc hf
    refine r_iconst F dX7_vectorOf_18 (v := 0) (by decide) ?_
    cases hf
    exact r_iret F hq dX7_vectorOf_19 rfl rfl (Nat.le_refl _) (Nat.le_refl _) ⟨rfl, rfl⟩

set_option maxRecDepth 100000 in
theorem tX0_find_49_47 {G : eG} (hG : e_GS G) {la : Launch} {h : Nat → eO} {nx : Nat} (hnx : 99 ≤ nx) {a47_0 : Int32} {a47_1 : Int32} {A48 : Nat → Int32} {a49_0 : Int32} {A50 : Nat → Int32} {A51 : Nat → Int32}  (h47 : h 47 = o47 a47_0 a47_1) (h48 : h 48 = o48 A48) (h49 : h 49 = o49 a49_0) (h50 : h 50 = o50 A50) (h51 : h 51 = o51 A51) {R9 : Int32 × (Nat → Int32) × (Nat → Int32)} (hf : fX0_find a47_0 a47_1 a49_0 A48 A50 A51  = some R9) :
    eSem G la MX0_find [.ref 49, .ref 47] h nx 0 0 (fun r9 h9 => r9 = none ∧ h9 = e_up h [(49, o49 R9.1), (50, o50 R9.2.1), (51, o51 R9.2.2)]) := by
  refine eSem.of (k := 4) (L := [some (.ref 49), some (.ref 47), none, none, none, none]) (by decide) rfl rfl (fun X F hxl hq hcR hsR => ?_)
  subst hxl
  unfold fX0_find at hf
  refine r_aload_n F dX0_find_0 rfl ?_
  refine r_iconst F dX0_find_1 (v := 0) (by decide) ?_
  refine r_put F dX0_find_2 flX0_18 rfl rfl rfl h49 (e_le rfl) (e_le rfl) (e_lt hnx rfl) (l' := [(49, o49 0)]) rfl ?_
  refine r_iconst F dX0_find_5 (v := 0) (by decide) ?_
  refine r_istore_n F dX0_find_6 (e_le rfl) (L' := [some (.ref 49), some (.ref 47), some (.int 0), none, none, none]) rfl ?_
  refine r_mat (k := 50) h50 (l' := [(49, o49 0), (50, o50 A50)]) rfl ?_
  refine r_mat (k := 51) h51 (l' := [(49, o49 0), (50, o50 A50), (51, o51 A51)]) rfl ?_
  obtain ⟨x4, hx5, hf⟩ := e_bd hf
  refine (e_loop_ok (P := fun (v3 : Int32 × Int32 × (Nat → Int32) × (Nat → Int32)) => eRun G X 7 [some (.ref 49), some (.ref 47), some (.int v3.1), none, none, none] [] h [(49, o49 v3.2.1), (50, o50 v3.2.2.1), (51, o51 v3.2.2.2)] nx 0 0) (K := fun (x4 : Int32 × (Nat → Int32) × (Nat → Int32)) => eRun G X 142 [none, none, none, none, none, none] [] h [(49, o49 x4.1), (50, o50 x4.2.1), (51, o51 x4.2.2)] nx 0 0) ?_ e_fuel (0, 0, A50, A51) x4 hx5 ?_ : _)
  · intro v3 z hz ih hx
    refine r_iload_n F dX0_find_7 rfl ?_
    refine r_aload_n F dX0_find_8 rfl ?_
    refine r_get F dX0_find_9 flX0_22 h47 rfl (e_le rfl) (e_lt hnx rfl) ?_
    refine r_iconst F dX0_find_12 (v := 1) (by decide) ?_
    refine r_isub F dX0_find_13 ?_
    refine r_icmp_ge F dX0_find_14 (tgt := 142) (by decide) (fun hc => ?_) (fun hc => ?_)
    · have hz := e_t hc hz
      refine r_drop 0 (L' := [none, some (.ref 47), some (.int v3.1), none, none, none]) rfl ?_
      refine r_drop 1 (L' := [none, none, some (.int v3.1), none, none, none]) rfl ?_
      refine r_drop 2 (L' := [none, none, none, none, none, none]) rfl ?_
      cases hz
      exact hx _ rfl
    · have hz := e_f hc hz
      refine r_iconst F dX0_find_17 (v := 0) (by decide) ?_
      refine r_istore_n F dX0_find_18 (e_le rfl) (L' := [some (.ref 49), some (.ref 47), some (.int v3.1), some (.int 0), none, none]) rfl ?_
      obtain ⟨x9, hx10, hz⟩ := e_bd hz
      refine (e_loop_ok (P := fun (v8 : Int32 × Int32 × (Nat → Int32) × (Nat → Int32)) => eRun G X 19 [some (.ref 49), some (.ref 47), some (.int v3.1), some (.int v8.1), none, none] [] h [(49, o49 v8.2.1), (50, o50 v8.2.2.1), (51, o51 v8.2.2.2)] nx 0 0) (K := fun (x9 : Int32 × (Nat → Int32) × (Nat → Int32)) => eRun G X 136 [some (.ref 49), some (.ref 47), some (.int v3.1), none, none, none] [] h [(49, o49 x9.1), (50, o50 x9.2.1), (51, o51 x9.2.2)] nx 0 0) ?_ e_fuel (0, v3.2.1, v3.2.2.1, v3.2.2.2) x9 hx10 ?_ : _)
      · intro v8 z hz ih hx
        refine r_iload_n F dX0_find_19 rfl ?_
        refine r_aload_n F dX0_find_20 rfl ?_
        refine r_get F dX0_find_21 flX0_27 h47 rfl (e_le rfl) (e_lt hnx rfl) ?_
        refine r_iconst F dX0_find_24 (v := 1) (by decide) ?_
        refine r_isub F dX0_find_25 ?_
        refine r_icmp_ge F dX0_find_26 (tgt := 136) (by decide) (fun hc => ?_) (fun hc => ?_)
        · have hz := e_t hc hz
          refine r_drop 3 (L' := [some (.ref 49), some (.ref 47), some (.int v3.1), none, none, none]) rfl ?_
          cases hz
          exact hx _ rfl
        · have hz := e_f hc hz
          refine r_aload_n F dX0_find_29 rfl ?_
          refine r_iload_n F dX0_find_30 rfl ?_
          refine r_iload_n F dX0_find_31 rfl ?_
          refine r_iconst F dX0_find_32 (v := 0) (by decide) ?_
          obtain ⟨q11, hq12, hz⟩ := e_bd hz
          refine r_callV F dX0_find_33 (b := 47) (dc := 0) (ds := 0) (As := [.int v8.1, .int v3.1, .int 0]) (S0 := []) lkX0_30 mX7_vectorOf (tX7_vectorOf_47 hG (la := x_l X) (h := e_up h [(49, o49 v8.2.1), (50, o50 v8.2.2.1), (51, o51 v8.2.2.2)]) hnx h47 h48 hq12) rfl rfl rfl (e_le rfl) (e_le rfl) (e_le rfl) h47 (ci := 7) e_cl7.1 rfl (e_le rfl) (e_lt hnx rfl) (Nat.zero_le _) (Nat.zero_le _) (e_k ?_)
          refine r_pic2 (h' := h) (l' := [(49, o49 v8.2.1), (50, o50 v8.2.2.1), (51, o51 v8.2.2.2)]) rfl ?_
          refine r_istore F dX0_find_36 (e_le rfl) (L' := [some (.ref 49), some (.ref 47), some (.int v3.1), some (.int v8.1), some (.int q11), none]) rfl ?_
          refine r_aload_n F dX0_find_38 rfl ?_
          refine r_iload_n F dX0_find_39 rfl ?_
          refine r_iload_n F dX0_find_40 rfl ?_
          refine r_iconst F dX0_find_41 (v := 1) (by decide) ?_
          obtain ⟨q13, hq14, hz⟩ := e_bd hz
          refine r_callV F dX0_find_42 (b := 47) (dc := 0) (ds := 0) (As := [.int v8.1, .int v3.1, .int 1]) (S0 := []) lkX0_30 mX7_vectorOf (tX7_vectorOf_47 hG (la := x_l X) (h := e_up h [(49, o49 v8.2.1), (50, o50 v8.2.2.1), (51, o51 v8.2.2.2)]) hnx h47 h48 hq14) rfl rfl rfl (e_le rfl) (e_le rfl) (e_le rfl) h47 (ci := 7) e_cl7.1 rfl (e_le rfl) (e_lt hnx rfl) (Nat.zero_le _) (Nat.zero_le _) (e_k ?_)
          refine r_pic2 (h' := h) (l' := [(49, o49 v8.2.1), (50, o50 v8.2.2.1), (51, o51 v8.2.2.2)]) rfl ?_
          refine r_istore F dX0_find_45 (e_le rfl) (L' := [some (.ref 49), some (.ref 47), some (.int v3.1), some (.int v8.1), some (.int q11), some (.int q13)]) rfl ?_
          refine r_iload F dX0_find_47 rfl ?_
          obtain ⟨q15, hq16, hz⟩ := e_bd hz
          have Jq15 : eRun G X 130 [some (.ref 49), some (.ref 47), some (.int v3.1), some (.int v8.1), none, none] [] h [(49, o49 q15.1), (50, o50 q15.2.1), (51, o51 q15.2.2)] nx 0 0 := by
            refine r_inc F dX0_find_130 (k9 := 1) (by decide) rfl (L' := [some (.ref 49), some (.ref 47), some (.int v3.1), some (.int (v8.1 + 1)), none, none]) rfl ?_
            refine r_goto F dX0_find_133 (tgt := 19) (by decide) ?_
            cases hz
            exact ih _ rfl
          refine r_if_ne F dX0_find_49 (tgt := 57) (by decide) (fun hc => ?_) (fun hc => ?_)
          · have hq16 := e_f hc hq16
            refine r_aload_n F dX0_find_57 rfl ?_
            refine r_get F dX0_find_58 flX0_18 rfl rfl (e_le rfl) (e_lt hnx rfl) ?_
            refine r_bipush F dX0_find_61 (v := 12) (by decide) ?_
            refine r_icmp_ge F dX0_find_63 (tgt := 130) (by decide) (fun hc => ?_) (fun hc => ?_)
            · have hq16 := e_t hc hq16
              refine r_drop 4 (L' := [some (.ref 49), some (.ref 47), some (.int v3.1), some (.int v8.1), none, some (.int q13)]) rfl ?_
              refine r_drop 5 (L' := [some (.ref 49), some (.ref 47), some (.int v3.1), some (.int v8.1), none, none]) rfl ?_
              cases hq16
              exact Jq15
            · have hq16 := e_f hc hq16
              refine r_aload_n F dX0_find_66 rfl ?_
              refine r_get F dX0_find_67 flX0_9 rfl rfl (e_le rfl) (e_lt hnx rfl) ?_
              refine r_iconst F dX0_find_70 (v := 2) (by decide) ?_
              refine r_aload_n F dX0_find_71 rfl ?_
              refine r_get F dX0_find_72 flX0_18 rfl rfl (e_le rfl) (e_lt hnx rfl) ?_
              refine r_imul F dX0_find_75 ?_
              refine r_iload_n F dX0_find_76 rfl ?_
              obtain ⟨hg, hq16⟩ := e_gd hq16
              refine r_iast F dX0_find_77 rfl (e_le rfl) (e_lt hnx rfl) (e_vp hg) (l' := [(49, o49 v8.2.1), (50, o50 (upd v8.2.2.1 (tn (2 * v8.2.1)) v8.1)), (51, o51 v8.2.2.2)]) rfl ?_
              refine r_aload_n F dX0_find_78 rfl ?_
              refine r_get F dX0_find_79 flX0_9 rfl rfl (e_le rfl) (e_lt hnx rfl) ?_
              refine r_iconst F dX0_find_82 (v := 2) (by decide) ?_
              refine r_aload_n F dX0_find_83 rfl ?_
              refine r_get F dX0_find_84 flX0_18 rfl rfl (e_le rfl) (e_lt hnx rfl) ?_
              refine r_imul F dX0_find_87 ?_
              refine r_iconst F dX0_find_88 (v := 1) (by decide) ?_
              refine r_iadd F dX0_find_89 ?_
              refine r_iload_n F dX0_find_90 rfl ?_
              obtain ⟨hg, hq16⟩ := e_gd hq16
              refine r_iast F dX0_find_91 rfl (e_le rfl) (e_lt hnx rfl) (e_vp hg) (l' := [(49, o49 v8.2.1), (50, o50 (upd (upd v8.2.2.1 (tn (2 * v8.2.1)) v8.1) (tn ((2 * v8.2.1) + 1)) v3.1)), (51, o51 v8.2.2.2)]) rfl ?_
              refine r_aload_n F dX0_find_92 rfl ?_
              refine r_get F dX0_find_93 flX0_15 rfl rfl (e_le rfl) (e_lt hnx rfl) ?_
              refine r_iconst F dX0_find_96 (v := 2) (by decide) ?_
              refine r_aload_n F dX0_find_97 rfl ?_
              refine r_get F dX0_find_98 flX0_18 rfl rfl (e_le rfl) (e_lt hnx rfl) ?_
              refine r_imul F dX0_find_101 ?_
              refine r_iload F dX0_find_102 rfl ?_
              obtain ⟨hg, hq16⟩ := e_gd hq16
              refine r_iast F dX0_find_104 rfl (e_le rfl) (e_lt hnx rfl) (e_vp hg) (l' := [(49, o49 v8.2.1), (50, o50 (upd (upd v8.2.2.1 (tn (2 * v8.2.1)) v8.1) (tn ((2 * v8.2.1) + 1)) v3.1)), (51, o51 (upd v8.2.2.2 (tn (2 * v8.2.1)) q11))]) rfl ?_
              refine r_aload_n F dX0_find_105 rfl ?_
              refine r_get F dX0_find_106 flX0_15 rfl rfl (e_le rfl) (e_lt hnx rfl) ?_
              refine r_iconst F dX0_find_109 (v := 2) (by decide) ?_
              refine r_aload_n F dX0_find_110 rfl ?_
              refine r_get F dX0_find_111 flX0_18 rfl rfl (e_le rfl) (e_lt hnx rfl) ?_
              refine r_imul F dX0_find_114 ?_
              refine r_iconst F dX0_find_115 (v := 1) (by decide) ?_
              refine r_iadd F dX0_find_116 ?_
              refine r_iload F dX0_find_117 rfl ?_
              obtain ⟨hg, hq16⟩ := e_gd hq16
              refine r_iast F dX0_find_119 rfl (e_le rfl) (e_lt hnx rfl) (e_vp hg) (l' := [(49, o49 v8.2.1), (50, o50 (upd (upd v8.2.2.1 (tn (2 * v8.2.1)) v8.1) (tn ((2 * v8.2.1) + 1)) v3.1)), (51, o51 (upd (upd v8.2.2.2 (tn (2 * v8.2.1)) q11) (tn ((2 * v8.2.1) + 1)) q13))]) rfl ?_
              refine r_aload_n F dX0_find_120 rfl ?_
              refine r_dup F dX0_find_121 rfl ?_
              refine r_get F dX0_find_122 flX0_18 rfl rfl (e_le rfl) (e_lt hnx rfl) ?_
              refine r_iconst F dX0_find_125 (v := 1) (by decide) ?_
              refine r_iadd F dX0_find_126 ?_
              refine r_put F dX0_find_127 flX0_18 rfl rfl rfl rfl (e_le rfl) (e_le rfl) (e_lt hnx rfl) (l' := [(49, o49 (v8.2.1 + 1)), (50, o50 (upd (upd v8.2.2.1 (tn (2 * v8.2.1)) v8.1) (tn ((2 * v8.2.1) + 1)) v3.1)), (51, o51 (upd (upd v8.2.2.2 (tn (2 * v8.2.1)) q11) (tn ((2 * v8.2.1) + 1)) q13))]) rfl ?_
              refine r_drop 4 (L' := [some (.ref 49), some (.ref 47), some (.int v3.1), some (.int v8.1), none, some (.int q13)]) rfl ?_
              refine r_drop 5 (L' := [some (.ref 49), some (.ref 47), some (.int v3.1), some (.int v8.1), none, none]) rfl ?_
              cases hq16
              exact Jq15
          · have hq16 := e_t hc hq16
            refine r_iload F dX0_find_52 rfl ?_
            refine r_if_eq F dX0_find_54 (tgt := 130) (by decide) (fun hc => ?_) (fun hc => ?_)
            · have hq16 := e_t hc hq16
              refine r_drop 4 (L' := [some (.ref 49), some (.ref 47), some (.int v3.1), some (.int v8.1), none, some (.int q13)]) rfl ?_
              refine r_drop 5 (L' := [some (.ref 49), some (.ref 47), some (.int v3.1), some (.int v8.1), none, none]) rfl ?_
              cases hq16
              exact Jq15
            · have hq16 := e_f hc hq16
              refine r_aload_n F dX0_find_57 rfl ?_
              refine r_get F dX0_find_58 flX0_18 rfl rfl (e_le rfl) (e_lt hnx rfl) ?_
              refine r_bipush F dX0_find_61 (v := 12) (by decide) ?_
              refine r_icmp_ge F dX0_find_63 (tgt := 130) (by decide) (fun hc => ?_) (fun hc => ?_)
              · have hq16 := e_t hc hq16
                refine r_drop 4 (L' := [some (.ref 49), some (.ref 47), some (.int v3.1), some (.int v8.1), none, some (.int q13)]) rfl ?_
                refine r_drop 5 (L' := [some (.ref 49), some (.ref 47), some (.int v3.1), some (.int v8.1), none, none]) rfl ?_
                cases hq16
                exact Jq15
              · have hq16 := e_f hc hq16
                refine r_aload_n F dX0_find_66 rfl ?_
                refine r_get F dX0_find_67 flX0_9 rfl rfl (e_le rfl) (e_lt hnx rfl) ?_
                refine r_iconst F dX0_find_70 (v := 2) (by decide) ?_
                refine r_aload_n F dX0_find_71 rfl ?_
                refine r_get F dX0_find_72 flX0_18 rfl rfl (e_le rfl) (e_lt hnx rfl) ?_
                refine r_imul F dX0_find_75 ?_
                refine r_iload_n F dX0_find_76 rfl ?_
                obtain ⟨hg, hq16⟩ := e_gd hq16
                refine r_iast F dX0_find_77 rfl (e_le rfl) (e_lt hnx rfl) (e_vp hg) (l' := [(49, o49 v8.2.1), (50, o50 (upd v8.2.2.1 (tn (2 * v8.2.1)) v8.1)), (51, o51 v8.2.2.2)]) rfl ?_
                refine r_aload_n F dX0_find_78 rfl ?_
                refine r_get F dX0_find_79 flX0_9 rfl rfl (e_le rfl) (e_lt hnx rfl) ?_
                refine r_iconst F dX0_find_82 (v := 2) (by decide) ?_
                refine r_aload_n F dX0_find_83 rfl ?_
                refine r_get F dX0_find_84 flX0_18 rfl rfl (e_le rfl) (e_lt hnx rfl) ?_
                refine r_imul F dX0_find_87 ?_
                refine r_iconst F dX0_find_88 (v := 1) (by decide) ?_
                refine r_iadd F dX0_find_89 ?_
                refine r_iload_n F dX0_find_90 rfl ?_
                obtain ⟨hg, hq16⟩ := e_gd hq16
                refine r_iast F dX0_find_91 rfl (e_le rfl) (e_lt hnx rfl) (e_vp hg) (l' := [(49, o49 v8.2.1), (50, o50 (upd (upd v8.2.2.1 (tn (2 * v8.2.1)) v8.1) (tn ((2 * v8.2.1) + 1)) v3.1)), (51, o51 v8.2.2.2)]) rfl ?_
                refine r_aload_n F dX0_find_92 rfl ?_
                refine r_get F dX0_find_93 flX0_15 rfl rfl (e_le rfl) (e_lt hnx rfl) ?_
                refine r_iconst F dX0_find_96 (v := 2) (by decide) ?_
                refine r_aload_n F dX0_find_97 rfl ?_
                refine r_get F dX0_find_98 flX0_18 rfl rfl (e_le rfl) (e_lt hnx rfl) ?_
                refine r_imul F dX0_find_101 ?_
                refine r_iload F dX0_find_102 rfl ?_
                obtain ⟨hg, hq16⟩ := e_gd hq16
                refine r_iast F dX0_find_104 rfl (e_le rfl) (e_lt hnx rfl) (e_vp hg) (l' := [(49, o49 v8.2.1), (50, o50 (upd (upd v8.2.2.1 (tn (2 * v8.2.1)) v8.1) (tn ((2 * v8.2.1) + 1)) v3.1)), (51, o51 (upd v8.2.2.2 (tn (2 * v8.2.1)) q11))]) rfl ?_
                refine r_aload_n F dX0_find_105 rfl ?_
                refine r_get F dX0_find_106 flX0_15 rfl rfl (e_le rfl) (e_lt hnx rfl) ?_
                refine r_iconst F dX0_find_109 (v := 2) (by decide) ?_
                refine r_aload_n F dX0_find_110 rfl ?_
                refine r_get F dX0_find_111 flX0_18 rfl rfl (e_le rfl) (e_lt hnx rfl) ?_
                refine r_imul F dX0_find_114 ?_
                refine r_iconst F dX0_find_115 (v := 1) (by decide) ?_
                refine r_iadd F dX0_find_116 ?_
                refine r_iload F dX0_find_117 rfl ?_
                obtain ⟨hg, hq16⟩ := e_gd hq16
                refine r_iast F dX0_find_119 rfl (e_le rfl) (e_lt hnx rfl) (e_vp hg) (l' := [(49, o49 v8.2.1), (50, o50 (upd (upd v8.2.2.1 (tn (2 * v8.2.1)) v8.1) (tn ((2 * v8.2.1) + 1)) v3.1)), (51, o51 (upd (upd v8.2.2.2 (tn (2 * v8.2.1)) q11) (tn ((2 * v8.2.1) + 1)) q13))]) rfl ?_
                refine r_aload_n F dX0_find_120 rfl ?_
                refine r_dup F dX0_find_121 rfl ?_
                refine r_get F dX0_find_122 flX0_18 rfl rfl (e_le rfl) (e_lt hnx rfl) ?_
                refine r_iconst F dX0_find_125 (v := 1) (by decide) ?_
                refine r_iadd F dX0_find_126 ?_
                refine r_put F dX0_find_127 flX0_18 rfl rfl rfl rfl (e_le rfl) (e_le rfl) (e_lt hnx rfl) (l' := [(49, o49 (v8.2.1 + 1)), (50, o50 (upd (upd v8.2.2.1 (tn (2 * v8.2.1)) v8.1) (tn ((2 * v8.2.1) + 1)) v3.1)), (51, o51 (upd (upd v8.2.2.2 (tn (2 * v8.2.1)) q11) (tn ((2 * v8.2.1) + 1)) q13))]) rfl ?_
                refine r_drop 4 (L' := [some (.ref 49), some (.ref 47), some (.int v3.1), some (.int v8.1), none, some (.int q13)]) rfl ?_
                refine r_drop 5 (L' := [some (.ref 49), some (.ref 47), some (.int v3.1), some (.int v8.1), none, none]) rfl ?_
                cases hq16
                exact Jq15
      · show eRun G X 136 [some (.ref 49), some (.ref 47), some (.int v3.1), none, none, none] [] h [(49, o49 x9.1), (50, o50 x9.2.1), (51, o51 x9.2.2)] nx 0 0
        refine r_inc F dX0_find_136 (k9 := 1) (by decide) rfl (L' := [some (.ref 49), some (.ref 47), some (.int (v3.1 + 1)), none, none, none]) rfl ?_
        refine r_goto F dX0_find_139 (tgt := 7) (by decide) ?_
        cases hz
        exact ih _ rfl
  · show eRun G X 142 [none, none, none, none, none, none] [] h [(49, o49 x4.1), (50, o50 x4.2.1), (51, o51 x4.2.2)] nx 0 0
    cases hf
    exact r_vret F hq dX0_find_142 rfl rfl (Nat.le_refl _) (Nat.le_refl _) ⟨rfl, rfl⟩

def fX7_hasSite (a40_0 : Int32) (a40_1 : Int32) (p0 : Int32) (p1 : Int32) : Option (Bool) :=
  if p0 < 0 then
    some false
  else
    if a40_0 ≤ p0 then
      some false
    else
      if 9 ≤ p0 then
        some false
      else
        if p1 < 0 then
          some false
        else
          if a40_1 ≤ p1 then
            some false
          else
            if 9 ≤ p1 then
              some false
            else
              some true
set_option maxRecDepth 100000 in
theorem tX7_hasSite_40 {G : eG} (hG : e_GS G) {la : Launch} {h : Nat → eO} {nx : Nat} (hnx : 99 ≤ nx) {a40_0 : Int32} {a40_1 : Int32} {p0 : Int32} {p1 : Int32} (h40 : h 40 = o40 a40_0 a40_1) {R9 : Bool} (hf : fX7_hasSite a40_0 a40_1 p0 p1 = some R9) :
    eSem G la MX7_hasSite [.ref 40, .int p0, .int p1] h nx 0 0 (fun r9 h9 => r9 = some (.int (e_b R9)) ∧ h9 = h) := by
  refine eSem.of (k := 0) (L := [some (.ref 40), some (.int p0), some (.int p1)]) (by decide) rfl rfl (fun X F hxl hq hcR hsR => ?_)
  subst hxl
  unfold fX7_hasSite at hf
  refine r_iload_n F dX7_hasSite_0 rfl ?_
  refine r_if_lt F dX7_hasSite_1 (tgt := 40) (by decide) (fun hc => ?_) (fun hc => ?_)
  · have hf := e_t hc hf
    refine r_iconst F dX7_hasSite_40 (v := 0) (by decide) ?_
    cases hf
    exact r_zret F hq (v := false) dX7_hasSite_41 rfl rfl (Nat.le_refl _) (Nat.le_refl _) ⟨rfl, rfl⟩
  · have hf := e_f hc hf
    refine r_iload_n F dX7_hasSite_4 rfl ?_
    refine r_aload_n F dX7_hasSite_5 rfl ?_
    refine r_get F dX7_hasSite_6 flX7_15 h40 rfl (e_le rfl) (e_lt hnx rfl) ?_
    refine r_icmp_ge F dX7_hasSite_9 (tgt := 40) (by decide) (fun hc => ?_) (fun hc => ?_)
    · have hf := e_t hc hf
      refine r_iconst F dX7_hasSite_40 (v := 0) (by decide) ?_
      cases hf
      exact r_zret F hq (v := false) dX7_hasSite_41 rfl rfl (Nat.le_refl _) (Nat.le_refl _) ⟨rfl, rfl⟩
    · have hf := e_f hc hf
      refine r_iload_n F dX7_hasSite_12 rfl ?_
      refine r_bipush F dX7_hasSite_13 (v := 9) (by decide) ?_
      refine r_icmp_ge F dX7_hasSite_15 (tgt := 40) (by decide) (fun hc => ?_) (fun hc => ?_)
      · have hf := e_t hc hf
        refine r_iconst F dX7_hasSite_40 (v := 0) (by decide) ?_
        cases hf
        exact r_zret F hq (v := false) dX7_hasSite_41 rfl rfl (Nat.le_refl _) (Nat.le_refl _) ⟨rfl, rfl⟩
      · have hf := e_f hc hf
        refine r_iload_n F dX7_hasSite_18 rfl ?_
        refine r_if_lt F dX7_hasSite_19 (tgt := 40) (by decide) (fun hc => ?_) (fun hc => ?_)
        · have hf := e_t hc hf
          refine r_iconst F dX7_hasSite_40 (v := 0) (by decide) ?_
          cases hf
          exact r_zret F hq (v := false) dX7_hasSite_41 rfl rfl (Nat.le_refl _) (Nat.le_refl _) ⟨rfl, rfl⟩
        · have hf := e_f hc hf
          refine r_iload_n F dX7_hasSite_22 rfl ?_
          refine r_aload_n F dX7_hasSite_23 rfl ?_
          refine r_get F dX7_hasSite_24 flX7_19 h40 rfl (e_le rfl) (e_lt hnx rfl) ?_
          refine r_icmp_ge F dX7_hasSite_27 (tgt := 40) (by decide) (fun hc => ?_) (fun hc => ?_)
          · have hf := e_t hc hf
            refine r_iconst F dX7_hasSite_40 (v := 0) (by decide) ?_
            cases hf
            exact r_zret F hq (v := false) dX7_hasSite_41 rfl rfl (Nat.le_refl _) (Nat.le_refl _) ⟨rfl, rfl⟩
          · have hf := e_f hc hf
            refine r_iload_n F dX7_hasSite_30 rfl ?_
            refine r_bipush F dX7_hasSite_31 (v := 9) (by decide) ?_
            refine r_icmp_ge F dX7_hasSite_33 (tgt := 40) (by decide) (fun hc => ?_) (fun hc => ?_)
            · have hf := e_t hc hf
              refine r_iconst F dX7_hasSite_40 (v := 0) (by decide) ?_
              cases hf
              exact r_zret F hq (v := false) dX7_hasSite_41 rfl rfl (Nat.le_refl _) (Nat.le_refl _) ⟨rfl, rfl⟩
            · have hf := e_f hc hf
              refine r_iconst F dX7_hasSite_36 (v := 1) (by decide) ?_
              refine r_goto F dX7_hasSite_37 (tgt := 41) (by decide) ?_
              cases hf
              exact r_zret F hq (v := true) dX7_hasSite_41 rfl rfl (Nat.le_refl _) (Nat.le_refl _) ⟨rfl, rfl⟩
