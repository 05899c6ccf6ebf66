def fX11_layer (a40_0 : Int32) (a40_1 : Int32) (A41 : Nat → Int32) (p0 : Int32) (p1 : Int32) : Option (Int32) :=
  (fX7_hasSite a40_0 a40_1 0 p0).bind (fun q1 =>
  if q1 = true then
    if p1 < 0 then
      some (-1000000)
    else
      if p1 ≤ 3 then
        if 2 ≤ p1 then
          (fX7_slippedFrom a40_0 a40_1 A41 p0 (p1 - 2)).bind (fun q3 =>
          some q3)
        else
          (fX7_sumAlong a40_0 a40_1 A41 p0 p1).bind (fun q5 =>
          some q5)
      else
        some (-1000000)
  else
    some (-1000000))
set_option maxRecDepth 100000 in
theorem tX11_layer_32 {G : eG} (hG : e_GS G) {la : Launch} {h : Nat → eO} {nx : Nat} (hnx : 99 ≤ nx) {a32_8 : Bool} {a32_10 : Bool} {a40_0 : Int32} {a40_1 : Int32} {A41 : Nat → Int32} {p0 : Int32} {p1 : Int32} (h32 : h 32 = o32 a32_8 a32_10) (h39 : h 39 = o39) (h40 : h 40 = o40 a40_0 a40_1) (h41 : h 41 = o41 A41) {R9 : Int32} (hf : fX11_layer a40_0 a40_1 A41 p0 p1 = some R9) :
    eSem G la MX11_layer [.ref 32, .int p0, .int p1] h nx 0 0 (fun r9 h9 => r9 = some (.int R9) ∧ h9 = h) := by
  refine eSem.of (k := 0) (L := [some (.ref 32), some (.int p0), some (.int p1)]) (by decide +kernel) rfl rfl (fun X F hxl hq hcR hsR => ?_)
  subst hxl
  unfold fX11_layer at hf
  refine r_aload_n F dX11_layer_0 rfl ?_
  refine r_get F dX11_layer_1 flX11_28 h32 rfl (e_le rfl) (e_lt hnx rfl) ?_
  refine r_get F dX11_layer_4 flX11_141 h39 rfl (e_le rfl) (e_lt hnx rfl) ?_
  refine r_iconst F dX11_layer_7 (v := 0) (by decide) ?_
  refine r_iload_n F dX11_layer_8 rfl ?_
  obtain ⟨q1, hq2, hf⟩ := e_bd hf
  refine r_callV F dX11_layer_9 (b := 40) (dc := 0) (ds := 0) (As := [.int 0, .int p0]) (S0 := []) lkX11_207 mX7_hasSite (tX7_hasSite_40 hG (la := x_l X) (h := e_up h []) hnx h40 hq2) rfl rfl rfl (e_le rfl) (e_le rfl) (e_le rfl) h40 (ci := 7) e_cl7.1 rfl (e_le rfl) (e_lt hnx rfl) (Nat.zero_le _) (Nat.zero_le _) (e_k ?_)
  refine r_wr0 ?_
  refine r_z_eq F dX11_layer_12 (tgt := 24) (by decide) (fun hc => ?_) (fun hc => ?_)
  · have hf := e_t hc hf
    refine r_iload_n F dX11_layer_15 rfl ?_
    refine r_if_lt F dX11_layer_16 (tgt := 24) (by decide) (fun hc => ?_) (fun hc => ?_)
    · have hf := e_t hc hf
      refine r_ldc F dX11_layer_24 kcX11_140 ?_
      obtain rfl := Option.some.inj hf
      exact r_iret F hq dX11_layer_26 rfl rfl (Nat.le_refl _) (Nat.le_refl _) ⟨rfl, rfl⟩
    · have hf := e_f hc hf
      refine r_iload_n F dX11_layer_19 rfl ?_
      refine r_iconst F dX11_layer_20 (v := 3) (by decide) ?_
      refine r_icmp_le F dX11_layer_21 (tgt := 27) (by decide) (fun hc => ?_) (fun hc => ?_)
      · have hf := e_t hc hf
        refine r_iload_n F dX11_layer_27 rfl ?_
        refine r_iconst F dX11_layer_28 (v := 2) (by decide) ?_
        refine r_icmp_ge F dX11_layer_29 (tgt := 47) (by decide) (fun hc => ?_) (fun hc => ?_)
        · have hf := e_t hc hf
          refine r_aload_n F dX11_layer_47 rfl ?_
          refine r_get F dX11_layer_48 flX11_28 h32 rfl (e_le rfl) (e_lt hnx rfl) ?_
          refine r_get F dX11_layer_51 flX11_141 h39 rfl (e_le rfl) (e_lt hnx rfl) ?_
          refine r_iload_n F dX11_layer_54 rfl ?_
          refine r_iload_n F dX11_layer_55 rfl ?_
          refine r_iconst F dX11_layer_56 (v := 2) (by decide) ?_
          refine r_isub F dX11_layer_57 ?_
          obtain ⟨q3, hq4, hf⟩ := e_bd hf
          refine r_callV F dX11_layer_58 (b := 40) (dc := 0) (ds := 0) (As := [.int p0, .int (p1 - 2)]) (S0 := []) lkX11_336 mX7_slippedFrom (tX7_slippedFrom_40 hG (la := x_l X) (h := e_up h []) hnx h40 h41 hq4) rfl rfl rfl (e_le rfl) (e_le rfl) (e_le rfl) h40 (ci := 7) e_cl7.1 rfl (e_le rfl) (e_lt hnx rfl) (Nat.zero_le _) (Nat.zero_le _) (e_k ?_)
          refine r_wr0 ?_
          obtain rfl := Option.some.inj hf
          exact r_iret F hq dX11_layer_61 rfl rfl (Nat.le_refl _) (Nat.le_refl _) ⟨rfl, rfl⟩
        · have hf := e_f hc hf
          refine r_aload_n F dX11_layer_32 rfl ?_
          refine r_get F dX11_layer_33 flX11_28 h32 rfl (e_le rfl) (e_lt hnx rfl) ?_
          refine r_get F dX11_layer_36 flX11_141 h39 rfl (e_le rfl) (e_lt hnx rfl) ?_
          refine r_iload_n F dX11_layer_39 rfl ?_
          refine r_iload_n F dX11_layer_40 rfl ?_
          obtain ⟨q5, hq6, hf⟩ := e_bd hf
          refine r_callV F dX11_layer_41 (b := 40) (dc := 0) (ds := 0) (As := [.int p0, .int p1]) (S0 := []) lkX11_333 mX7_sumAlong (tX7_sumAlong_40 hG (la := x_l X) (h := e_up h []) hnx h40 h41 hq6) rfl rfl rfl (e_le rfl) (e_le rfl) (e_le rfl) h40 (ci := 7) e_cl7.1 rfl (e_le rfl) (e_lt hnx rfl) (Nat.zero_le _) (Nat.zero_le _) (e_k ?_)
          refine r_wr0 ?_
          refine r_goto F dX11_layer_44 (tgt := 61) (by decide) ?_
          obtain rfl := Option.some.inj hf
          exact r_iret F hq dX11_layer_61 rfl rfl (Nat.le_refl _) (Nat.le_refl _) ⟨rfl, rfl⟩
      · have hf := e_f hc hf
        refine r_ldc F dX11_layer_24 kcX11_140 ?_
        obtain rfl := Option.some.inj hf
        exact r_iret F hq dX11_layer_26 rfl rfl (Nat.le_refl _) (Nat.le_refl _) ⟨rfl, rfl⟩
  · have hf := e_f hc hf
    refine r_ldc F dX11_layer_24 kcX11_140 ?_
    obtain rfl := Option.some.inj hf
    exact r_iret F hq dX11_layer_26 rfl rfl (Nat.le_refl _) (Nat.le_refl _) ⟨rfl, rfl⟩

set_option maxRecDepth 100000 in
theorem tX0_numberOf_42 {G : eG} (hG : e_GS G) {la : Launch} {h : Nat → eO} {nx : Nat} (hnx : 99 ≤ nx) {a42_0 : Int32} {A44 : Nat → Int32} {p0 : Int32} {p1 : Int32} (h42 : h 42 = o42 a42_0) (h44 : h 44 = o44 A44) {R9 : Int32} (hf : fX0_numberOf a42_0 A44 p0 p1 = some R9) :
    eSem G la MX0_numberOf [.ref 42, .int p0, .int p1] h nx 0 0 (fun r9 h9 => r9 = some (.int R9) ∧ h9 = h) := by
  refine eSem.of (k := 0) (L := [some (.ref 42), some (.int p0), some (.int p1)]) (by decide +kernel) rfl rfl (fun X F hxl hq hcR hsR => ?_)
  subst hxl
  unfold fX0_numberOf at hf
  refine r_aload_n F dX0_numberOf_0 rfl ?_
  refine r_iload_n F dX0_numberOf_1 rfl ?_
  refine r_iload_n F dX0_numberOf_2 rfl ?_
  obtain ⟨q1, hq2, hf⟩ := e_bd hf
  refine r_callV F dX0_numberOf_3 (b := 42) (dc := 0) (ds := 0) (As := [.int p0, .int p1]) (S0 := []) lkX0_34 mX0_has (tX0_has_42 hG (la := x_l X) (h := e_up h []) hnx h42 hq2) rfl rfl rfl (e_le rfl) (e_le rfl) (e_le rfl) h42 (ci := 0) e_cl0.1 rfl (e_le rfl) (e_lt hnx rfl) (Nat.zero_le _) (Nat.zero_le _) (e_k ?_)
  refine r_wr0 ?_
  refine r_z_eq F dX0_numberOf_6 (tgt := 22) (by decide) (fun hc => ?_) (fun hc => ?_)
  · have hf := e_t hc hf
    refine r_aload_n F dX0_numberOf_9 rfl ?_
    refine r_get F dX0_numberOf_10 flX0_15 h42 rfl (e_le rfl) (e_lt hnx rfl) ?_
    refine r_iconst F dX0_numberOf_13 (v := 2) (by decide) ?_
    refine r_iload_n F dX0_numberOf_14 rfl ?_
    refine r_imul F dX0_numberOf_15 ?_
    refine r_iload_n F dX0_numberOf_16 rfl ?_
    refine r_iadd F dX0_numberOf_17 ?_
    obtain ⟨hg, hf⟩ := e_gd hf
    refine r_iald F dX0_numberOf_18 (i := (((2 : Int32) * p0) + p1)) h44 (e_le rfl) (e_lt hnx rfl) (e_vp hg) ?_
    refine r_goto F dX0_numberOf_19 (tgt := 23) (by decide) ?_
    obtain rfl := Option.some.inj hf
    exact r_iret F hq dX0_numberOf_23 rfl rfl (Nat.le_refl _) (Nat.le_refl _) ⟨rfl, rfl⟩
  · have hf := e_f hc hf
    refine r_iconst F dX0_numberOf_22 (v := 0) (by decide) ?_
    obtain rfl := Option.some.inj hf
    exact r_iret F hq dX0_numberOf_23 rfl rfl (Nat.le_refl _) (Nat.le_refl _) ⟨rfl, rfl⟩

set_option maxRecDepth 100000 in
theorem tX0_wayOf_42 {G : eG} (hG : e_GS G) {la : Launch} {h : Nat → eO} {nx : Nat} (hnx : 99 ≤ nx) {a42_0 : Int32} {A44 : Nat → Int32} {p0 : Int32} (h42 : h 42 = o42 a42_0) (h44 : h 44 = o44 A44) {R9 : Int32} (hf : fX0_wayOf a42_0 A44 p0 = some R9) :
    eSem G la MX0_wayOf [.ref 42, .int p0] h nx 0 0 (fun r9 h9 => r9 = some (.int R9) ∧ h9 = h) := by
  refine eSem.of (k := 0) (L := [some (.ref 42), some (.int p0)]) (by decide +kernel) rfl rfl (fun X F hxl hq hcR hsR => ?_)
  subst hxl
  unfold fX0_wayOf at hf
  refine r_aload_n F dX0_wayOf_0 rfl ?_
  refine r_iload_n F dX0_wayOf_1 rfl ?_
  refine r_iconst F dX0_wayOf_2 (v := 0) (by decide) ?_
  obtain ⟨q1, hq2, hf⟩ := e_bd hf
  refine r_callV F dX0_wayOf_3 (b := 42) (dc := 0) (ds := 0) (As := [.int p0, .int 0]) (S0 := []) lkX0_38 mX0_numberOf (tX0_numberOf_42 hG (la := x_l X) (h := e_up h []) hnx h42 h44 hq2) rfl rfl rfl (e_le rfl) (e_le rfl) (e_le rfl) h42 (ci := 0) e_cl0.1 rfl (e_le rfl) (e_lt hnx rfl) (Nat.zero_le _) (Nat.zero_le _) (e_k ?_)
  refine r_wr0 ?_
  refine r_aload_n F dX0_wayOf_6 rfl ?_
  refine r_iload_n F dX0_wayOf_7 rfl ?_
  refine r_iconst F dX0_wayOf_8 (v := 1) (by decide) ?_
  obtain ⟨q3, hq4, hf⟩ := e_bd hf
  refine r_callV F dX0_wayOf_9 (b := 42) (dc := 0) (ds := 0) (As := [.int p0, .int 1]) (S0 := [.int q1]) lkX0_38 mX0_numberOf (tX0_numberOf_42 hG (la := x_l X) (h := e_up h []) hnx h42 h44 hq4) rfl rfl rfl (e_le rfl) (e_le rfl) (e_le rfl) h42 (ci := 0) e_cl0.1 rfl (e_le rfl) (e_lt hnx rfl) (Nat.zero_le _) (Nat.zero_le _) (e_k ?_)
  refine r_wr0 ?_
  obtain ⟨q5, hq6, hf⟩ := e_bd hf
  refine r_callSN F dX0_wayOf_12 (dc := 0) (ds := 0) (As := [.int q1, .int q3]) (S0 := []) lkX0_42 mX11_wayOfVector (tX11_wayOfVector hG (la := x_l X) (h := e_up h []) hnx  hq6) rfl rfl rfl (e_le rfl) (e_le rfl) (e_le rfl) (Nat.zero_le _) (Nat.zero_le _) (e_k ?_)
  refine r_wr0 ?_
  obtain rfl := Option.some.inj hf
  exact r_iret F hq dX0_wayOf_15 rfl rfl (Nat.le_refl _) (Nat.le_refl _) ⟨rfl, rfl⟩

def fX0_nextAlong (a42_0 : Int32) (A43 : Nat → Int32) (p0 : Int32) (p1 : Int32) (p2 : Int32) : Option (Int32) :=
  (e_loop (fun (v3 : Int32 × Int32 × Int32) => (
      if a42_0 ≤ v3.2.2 then
        some (.inr v3.1)
      else
        (fX0_placeOf a42_0 A43 v3.2.2 p1).bind (fun q6 =>
        (fX0_placeOf a42_0 A43 p0 p1).bind (fun q8 =>
        (fX0_placeOf a42_0 A43 v3.2.2 ((1 : Int32) - p1)).bind (fun q10 =>
        (fX0_placeOf a42_0 A43 p0 ((1 : Int32) - p1)).bind (fun q12 =>
        Option.bind (α := Int32 × Int32) (
          if q10 = q12 then
            if (p2 * (q6 - q8)) ≤ 0 then
              some (v3.1, v3.2.1)
            else
              if v3.2.1 ≤ (p2 * (q6 - q8)) then
                some (v3.1, v3.2.1)
              else
                some (v3.2.2, p2 * (q6 - q8))
          else
            some (v3.1, v3.2.1)) (fun q14 =>
        some (.inl (q14.1, q14.2, v3.2.2 + 1))))))) : Option ((Int32 × Int32 × Int32) ⊕ (Int32)))) e_fuel ((-1), 9, 0)).bind (fun x4 =>
  some x4)
set_option maxRecDepth 100000 in
theorem tX0_nextAlong_42 {G : eG} (hG : e_GS G) {la : Launch} {h : Nat → eO} {nx : Nat} (hnx : 99 ≤ nx) {a42_0 : Int32} {A43 : Nat → Int32} {p0 : Int32} {p1 : Int32} {p2 : Int32} (h42 : h 42 = o42 a42_0) (h43 : h 43 = o43 A43) {R9 : Int32} (hf : fX0_nextAlong a42_0 A43 p0 p1 p2 = some R9) :
    eSem G la MX0_nextAlong [.ref 42, .int p0, .int p1, .int p2] h nx 0 0 (fun r9 h9 => r9 = some (.int R9) ∧ h9 = h) := by
  refine eSem.of (k := 4) (L := [some (.ref 42), some (.int p0), some (.int p1), some (.int p2), none, none, none, none]) (by decide +kernel) rfl rfl (fun X F hxl hq hcR hsR => ?_)
  subst hxl
  unfold fX0_nextAlong at hf
  refine r_iconst F dX0_nextAlong_0 (v := (-1)) (by decide) ?_
  refine r_istore F dX0_nextAlong_1 (e_le rfl) (L' := [some (.ref 42), some (.int p0), some (.int p1), some (.int p2), some (.int (-1)), none, none, none]) rfl ?_
  refine r_bipush F dX0_nextAlong_3 (v := 9) (by decide) ?_
  refine r_istore F dX0_nextAlong_5 (e_le rfl) (L' := [some (.ref 42), some (.int p0), some (.int p1), some (.int p2), some (.int (-1)), some (.int 9), none, none]) rfl ?_
  refine r_iconst F dX0_nextAlong_7 (v := 0) (by decide) ?_
  refine r_istore F dX0_nextAlong_8 (e_le rfl) (L' := [some (.ref 42), some (.int p0), some (.int p1), some (.int p2), some (.int (-1)), some (.int 9), some (.int 0), none]) rfl ?_
  obtain ⟨x4, hx5, hf⟩ := e_bd hf
  refine (e_loop_ok (P := fun (v3 : Int32 × Int32 × Int32) => eRun G X 10 [some (.ref 42), some (.int p0), some (.int p1), some (.int p2), some (.int v3.1), some (.int v3.2.1), some (.int v3.2.2), none] [] h [] nx 0 0) (K := fun (x4 : Int32) => eRun G X 83 [none, none, none, none, some (.int x4), none, none, none] [] h [] nx 0 0) ?_ e_fuel ((-1), 9, 0) x4 hx5 ?_ : _)
  · intro v3 z hz ih hx
    refine r_iload F dX0_nextAlong_10 rfl ?_
    refine r_aload_n F dX0_nextAlong_12 rfl ?_
    refine r_get F dX0_nextAlong_13 flX0_18 h42 rfl (e_le rfl) (e_lt hnx rfl) ?_
    refine r_icmp_ge F dX0_nextAlong_16 (tgt := 83) (by decide) (fun hc => ?_) (fun hc => ?_)
    · have hz := e_t hc hz
      refine r_drop 0 (L' := [none, some (.int p0), some (.int p1), some (.int p2), some (.int v3.1), some (.int v3.2.1), some (.int v3.2.2), none]) rfl ?_
      refine r_drop 1 (L' := [none, none, some (.int p1), some (.int p2), some (.int v3.1), some (.int v3.2.1), some (.int v3.2.2), none]) rfl ?_
      refine r_drop 2 (L' := [none, none, none, some (.int p2), some (.int v3.1), some (.int v3.2.1), some (.int v3.2.2), none]) rfl ?_
      refine r_drop 3 (L' := [none, none, none, none, some (.int v3.1), some (.int v3.2.1), some (.int v3.2.2), none]) rfl ?_
      refine r_drop 5 (L' := [none, none, none, none, some (.int v3.1), none, some (.int v3.2.2), none]) rfl ?_
      refine r_drop 6 (L' := [none, none, none, none, some (.int v3.1), none, none, none]) rfl ?_
      obtain rfl := Option.some.inj hz
      exact hx v3.1 rfl
    · have hz := e_f hc hz
      refine r_iload_n F dX0_nextAlong_19 rfl ?_
      refine r_aload_n F dX0_nextAlong_20 rfl ?_
      refine r_iload F dX0_nextAlong_21 rfl ?_
      refine r_iload_n F dX0_nextAlong_23 rfl ?_
      obtain ⟨q6, hq7, hz⟩ := e_bd hz
      refine r_callV F dX0_nextAlong_24 (b := 42) (dc := 0) (ds := 0) (As := [.int v3.2.2, .int p1]) (S0 := [.int p2]) lkX0_45 mX0_placeOf (tX0_placeOf_42 hG (la := x_l X) (h := e_up h []) hnx h42 h43 hq7) rfl rfl rfl (e_le rfl) (e_le rfl) (e_le rfl) h42 (ci := 0) e_cl0.1 rfl (e_le rfl) (e_lt hnx rfl) (Nat.zero_le _) (Nat.zero_le _) (e_k ?_)
      refine r_wr0 ?_
      refine r_aload_n F dX0_nextAlong_27 rfl ?_
      refine r_iload_n F dX0_nextAlong_28 rfl ?_
      refine r_iload_n F dX0_nextAlong_29 rfl ?_
      obtain ⟨q8, hq9, hz⟩ := e_bd hz
      refine r_callV F dX0_nextAlong_30 (b := 42) (dc := 0) (ds := 0) (As := [.int p0, .int p1]) (S0 := [.int q6, .int p2]) lkX0_45 mX0_placeOf (tX0_placeOf_42 hG (la := x_l X) (h := e_up h []) hnx h42 h43 hq9) rfl rfl rfl (e_le rfl) (e_le rfl) (e_le rfl) h42 (ci := 0) e_cl0.1 rfl (e_le rfl) (e_lt hnx rfl) (Nat.zero_le _) (Nat.zero_le _) (e_k ?_)
      refine r_wr0 ?_
      refine r_isub F dX0_nextAlong_33 ?_
      refine r_imul F dX0_nextAlong_34 ?_
      refine r_istore F dX0_nextAlong_35 (e_le rfl) (L' := [some (.ref 42), some (.int p0), some (.int p1), some (.int p2), some (.int v3.1), some (.int v3.2.1), some (.int v3.2.2), some (.int (p2 * (q6 - q8)))]) rfl ?_
      refine r_aload_n F dX0_nextAlong_37 rfl ?_
      refine r_iload F dX0_nextAlong_38 rfl ?_
      refine r_iconst F dX0_nextAlong_40 (v := 1) (by decide) ?_
      refine r_iload_n F dX0_nextAlong_41 rfl ?_
      refine r_isub F dX0_nextAlong_42 ?_
      obtain ⟨q10, hq11, hz⟩ := e_bd hz
      refine r_callV F dX0_nextAlong_43 (b := 42) (dc := 0) (ds := 0) (As := [.int v3.2.2, .int ((1 : Int32) - p1)]) (S0 := []) lkX0_45 mX0_placeOf (tX0_placeOf_42 hG (la := x_l X) (h := e_up h []) hnx h42 h43 hq11) rfl rfl rfl (e_le rfl) (e_le rfl) (e_le rfl) h42 (ci := 0) e_cl0.1 rfl (e_le rfl) (e_lt hnx rfl) (Nat.zero_le _) (Nat.zero_le _) (e_k ?_)
      refine r_wr0 ?_
      refine r_aload_n F dX0_nextAlong_46 rfl ?_
      refine r_iload_n F dX0_nextAlong_47 rfl ?_
      refine r_iconst F dX0_nextAlong_48 (v := 1) (by decide) ?_
      refine r_iload_n F dX0_nextAlong_49 rfl ?_
      refine r_isub F dX0_nextAlong_50 ?_
      obtain ⟨q12, hq13, hz⟩ := e_bd hz
      refine r_callV F dX0_nextAlong_51 (b := 42) (dc := 0) (ds := 0) (As := [.int p0, .int ((1 : Int32) - p1)]) (S0 := [.int q10]) lkX0_45 mX0_placeOf (tX0_placeOf_42 hG (la := x_l X) (h := e_up h []) hnx h42 h43 hq13) rfl rfl rfl (e_le rfl) (e_le rfl) (e_le rfl) h42 (ci := 0) e_cl0.1 rfl (e_le rfl) (e_lt hnx rfl) (Nat.zero_le _) (Nat.zero_le _) (e_k ?_)
      refine r_wr0 ?_
      obtain ⟨q14, hq15, hz⟩ := e_bd hz
      have Jq14 : eRun G X 77 [some (.ref 42), some (.int p0), some (.int p1), some (.int p2), some (.int q14.1), some (.int q14.2), some (.int v3.2.2), none] [] h [] nx 0 0 := by
        refine r_inc F dX0_nextAlong_77 (k9 := 1) (by decide) rfl (L' := [some (.ref 42), some (.int p0), some (.int p1), some (.int p2), some (.int q14.1), some (.int q14.2), some (.int (v3.2.2 + 1)), none]) rfl ?_
        refine r_goto F dX0_nextAlong_80 (tgt := 10) (by decide) ?_
        obtain rfl := Option.some.inj hz
        exact ih (q14.1, q14.2, v3.2.2 + 1) rfl
      refine r_icmp_ne F dX0_nextAlong_54 (tgt := 77) (by decide) (fun hc => ?_) (fun hc => ?_)
      · have hq15 := e_f hc hq15
        refine r_drop 7 (L' := [some (.ref 42), some (.int p0), some (.int p1), some (.int p2), some (.int v3.1), some (.int v3.2.1), some (.int v3.2.2), none]) rfl ?_
        obtain rfl := Option.some.inj hq15
        exact Jq14
      · have hq15 := e_t hc hq15
        refine r_iload F dX0_nextAlong_57 rfl ?_
        refine r_if_le F dX0_nextAlong_59 (tgt := 77) (by decide) (fun hc => ?_) (fun hc => ?_)
        · have hq15 := e_t hc hq15
          refine r_drop 7 (L' := [some (.ref 42), some (.int p0), some (.int p1), some (.int p2), some (.int v3.1), some (.int v3.2.1), some (.int v3.2.2), none]) rfl ?_
          obtain rfl := Option.some.inj hq15
          exact Jq14
        · have hq15 := e_f hc hq15
          refine r_iload F dX0_nextAlong_62 rfl ?_
          refine r_iload F dX0_nextAlong_64 rfl ?_
          refine r_icmp_ge F dX0_nextAlong_66 (tgt := 77) (by decide) (fun hc => ?_) (fun hc => ?_)
          · have hq15 := e_t hc hq15
            refine r_drop 7 (L' := [some (.ref 42), some (.int p0), some (.int p1), some (.int p2), some (.int v3.1), some (.int v3.2.1), some (.int v3.2.2), none]) rfl ?_
            obtain rfl := Option.some.inj hq15
            exact Jq14
          · have hq15 := e_f hc hq15
            refine r_iload F dX0_nextAlong_69 rfl ?_
            refine r_istore F dX0_nextAlong_71 (e_le rfl) (L' := [some (.ref 42), some (.int p0), some (.int p1), some (.int p2), some (.int v3.2.2), some (.int v3.2.1), some (.int v3.2.2), some (.int (p2 * (q6 - q8)))]) rfl ?_
            refine r_iload F dX0_nextAlong_73 rfl ?_
            refine r_istore F dX0_nextAlong_75 (e_le rfl) (L' := [some (.ref 42), some (.int p0), some (.int p1), some (.int p2), some (.int v3.2.2), some (.int (p2 * (q6 - q8))), some (.int v3.2.2), some (.int (p2 * (q6 - q8)))]) rfl ?_
            refine r_drop 7 (L' := [some (.ref 42), some (.int p0), some (.int p1), some (.int p2), some (.int v3.2.2), some (.int (p2 * (q6 - q8))), some (.int v3.2.2), none]) rfl ?_
            obtain rfl := Option.some.inj hq15
            exact Jq14
  · show eRun G X 83 [none, none, none, none, some (.int x4), none, none, none] [] h [] nx 0 0
    refine r_iload F dX0_nextAlong_83 rfl ?_
    obtain rfl := Option.some.inj hf
    exact r_iret F hq dX0_nextAlong_85 rfl rfl (Nat.le_refl _) (Nat.le_refl _) ⟨rfl, rfl⟩

def fX11_line (a42_0 : Int32) (A43 : Nat → Int32) (A44 : Nat → Int32) (p0 : Int32) (p1 : Int32) : Option (Int32) :=
  (fX0_wayOf a42_0 A44 p0).bind (fun q1 =>
  if q1 = (-1) then
    some (-1000000)
  else
    if p1 < 0 then
      some (-1000000)
    else
      if p1 ≤ 3 then
        Option.bind (α := Int32) (
          if 2 ≤ p1 then
            some (-1)
          else
            some 1) (fun q3 =>
        (fX0_nextAlong a42_0 A43 p0 q1 q3).bind (fun q5 =>
        if q5 = (-1) then
          some q5
        else
          if (p1 - p1 / 2 * 2) = 0 then
            some q5
          else
            (fX0_placeOf a42_0 A43 q5 q1).bind (fun q7 =>
            (fX0_placeOf a42_0 A43 p0 q1).bind (fun q9 =>
            (fJ9_abs_0f7a4 (q7 - q9)).bind (fun q11 =>
            some q11)))))
      else
        some (-1000000))
set_option maxRecDepth 100000 in
theorem tX11_line_32 {G : eG} (hG : e_GS G) {la : Launch} {h : Nat → eO} {nx : Nat} (hnx : 99 ≤ nx) {a32_8 : Bool} {a32_10 : Bool} {a42_0 : Int32} {A43 : Nat → Int32} {A44 : Nat → Int32} {p0 : Int32} {p1 : Int32} (h32 : h 32 = o32 a32_8 a32_10) (h39 : h 39 = o39) (h42 : h 42 = o42 a42_0) (h43 : h 43 = o43 A43) (h44 : h 44 = o44 A44) {R9 : Int32} (hf : fX11_line a42_0 A43 A44 p0 p1 = some R9) :
    eSem G la MX11_line [.ref 32, .int p0, .int p1] h nx 0 0 (fun r9 h9 => r9 = some (.int R9) ∧ h9 = h) := by
  refine eSem.of (k := 2) (L := [some (.ref 32), some (.int p0), some (.int p1), none, none]) (by decide +kernel) rfl rfl (fun X F hxl hq hcR hsR => ?_)
  subst hxl
  unfold fX11_line at hf
  refine r_aload_n F dX11_line_0 rfl ?_
  refine r_get F dX11_line_1 flX11_28 h32 rfl (e_le rfl) (e_lt hnx rfl) ?_
  refine r_get F dX11_line_4 flX11_127 h39 rfl (e_le rfl) (e_lt hnx rfl) ?_
  refine r_iload_n F dX11_line_7 rfl ?_
  obtain ⟨q1, hq2, hf⟩ := e_bd hf
  refine r_callV F dX11_line_8 (b := 42) (dc := 0) (ds := 0) (As := [.int p0]) (S0 := []) lkX11_181 mX0_wayOf (tX0_wayOf_42 hG (la := x_l X) (h := e_up h []) hnx h42 h44 hq2) rfl rfl rfl (e_le rfl) (e_le rfl) (e_le rfl) h42 (ci := 0) e_cl0.1 rfl (e_le rfl) (e_lt hnx rfl) (Nat.zero_le _) (Nat.zero_le _) (e_k ?_)
  refine r_wr0 ?_
  refine r_istore_n F dX11_line_11 (e_le rfl) (L' := [some (.ref 32), some (.int p0), some (.int p1), some (.int q1), none]) rfl ?_
  refine r_iload_n F dX11_line_12 rfl ?_
  refine r_iconst F dX11_line_13 (v := (-1)) (by decide) ?_
  refine r_icmp_eq F dX11_line_14 (tgt := 26) (by decide) (fun hc => ?_) (fun hc => ?_)
  · have hf := e_t hc hf
    refine r_ldc F dX11_line_26 kcX11_140 ?_
    obtain rfl := Option.some.inj hf
    exact r_iret F hq dX11_line_28 rfl rfl (Nat.le_refl _) (Nat.le_refl _) ⟨rfl, rfl⟩
  · have hf := e_f hc hf
    refine r_iload_n F dX11_line_17 rfl ?_
    refine r_if_lt F dX11_line_18 (tgt := 26) (by decide) (fun hc => ?_) (fun hc => ?_)
    · have hf := e_t hc hf
      refine r_ldc F dX11_line_26 kcX11_140 ?_
      obtain rfl := Option.some.inj hf
      exact r_iret F hq dX11_line_28 rfl rfl (Nat.le_refl _) (Nat.le_refl _) ⟨rfl, rfl⟩
    · have hf := e_f hc hf
      refine r_iload_n F dX11_line_21 rfl ?_
      refine r_iconst F dX11_line_22 (v := 3) (by decide) ?_
      refine r_icmp_le F dX11_line_23 (tgt := 29) (by decide) (fun hc => ?_) (fun hc => ?_)
      · have hf := e_t hc hf
        refine r_aload_n F dX11_line_29 rfl ?_
        refine r_get F dX11_line_30 flX11_28 h32 rfl (e_le rfl) (e_lt hnx rfl) ?_
        refine r_get F dX11_line_33 flX11_127 h39 rfl (e_le rfl) (e_lt hnx rfl) ?_
        refine r_iload_n F dX11_line_36 rfl ?_
        refine r_iload_n F dX11_line_37 rfl ?_
        refine r_iload_n F dX11_line_38 rfl ?_
        refine r_iconst F dX11_line_39 (v := 2) (by decide) ?_
        obtain ⟨q3, hq4, hf⟩ := e_bd hf
        have Jq3 : eRun G X 48 [some (.ref 32), some (.int p0), some (.int p1), some (.int q1), none] [.int q3, .int q1, .int p0, .ref 42] h [] nx 0 0 := by
          obtain ⟨q5, hq6, hf⟩ := e_bd hf
          refine r_callV F dX11_line_48 (b := 42) (dc := 0) (ds := 0) (As := [.int p0, .int q1, .int q3]) (S0 := []) lkX11_339 mX0_nextAlong (tX0_nextAlong_42 hG (la := x_l X) (h := e_up h []) hnx h42 h43 hq6) rfl rfl rfl (e_le rfl) (e_le rfl) (e_le rfl) h42 (ci := 0) e_cl0.1 rfl (e_le rfl) (e_lt hnx rfl) (Nat.zero_le _) (Nat.zero_le _) (e_k ?_)
          refine r_wr0 ?_
          refine r_istore F dX11_line_51 (e_le rfl) (L' := [some (.ref 32), some (.int p0), some (.int p1), some (.int q1), some (.int q5)]) rfl ?_
          refine r_iload F dX11_line_53 rfl ?_
          refine r_iconst F dX11_line_55 (v := (-1)) (by decide) ?_
          refine r_icmp_eq F dX11_line_56 (tgt := 65) (by decide) (fun hc => ?_) (fun hc => ?_)
          · have hf := e_t hc hf
            refine r_iload F dX11_line_65 rfl ?_
            obtain rfl := Option.some.inj hf
            exact r_iret F hq dX11_line_67 rfl rfl (Nat.le_refl _) (Nat.le_refl _) ⟨rfl, rfl⟩
          · have hf := e_f hc hf
            refine r_iload_n F dX11_line_59 rfl ?_
            refine r_iconst F dX11_line_60 (v := 2) (by decide) ?_
            refine r_irem F dX11_line_61 (by decide) ?_
            refine r_if_ne F dX11_line_62 (tgt := 68) (by decide) (fun hc => ?_) (fun hc => ?_)
            · have hf := e_f hc hf
              refine r_aload_n F dX11_line_68 rfl ?_
              refine r_get F dX11_line_69 flX11_28 h32 rfl (e_le rfl) (e_lt hnx rfl) ?_
              refine r_get F dX11_line_72 flX11_127 h39 rfl (e_le rfl) (e_lt hnx rfl) ?_
              refine r_iload F dX11_line_75 rfl ?_
              refine r_iload_n F dX11_line_77 rfl ?_
              obtain ⟨q7, hq8, hf⟩ := e_bd hf
              refine r_callV F dX11_line_78 (b := 42) (dc := 0) (ds := 0) (As := [.int q5, .int q1]) (S0 := []) lkX11_174 mX0_placeOf (tX0_placeOf_42 hG (la := x_l X) (h := e_up h []) hnx h42 h43 hq8) rfl rfl rfl (e_le rfl) (e_le rfl) (e_le rfl) h42 (ci := 0) e_cl0.1 rfl (e_le rfl) (e_lt hnx rfl) (Nat.zero_le _) (Nat.zero_le _) (e_k ?_)
              refine r_wr0 ?_
              refine r_aload_n F dX11_line_81 rfl ?_
              refine r_get F dX11_line_82 flX11_28 h32 rfl (e_le rfl) (e_lt hnx rfl) ?_
              refine r_get F dX11_line_85 flX11_127 h39 rfl (e_le rfl) (e_lt hnx rfl) ?_
              refine r_iload_n F dX11_line_88 rfl ?_
              refine r_iload_n F dX11_line_89 rfl ?_
              obtain ⟨q9, hq10, hf⟩ := e_bd hf
              refine r_callV F dX11_line_90 (b := 42) (dc := 0) (ds := 0) (As := [.int p0, .int q1]) (S0 := [.int q7]) lkX11_174 mX0_placeOf (tX0_placeOf_42 hG (la := x_l X) (h := e_up h []) hnx h42 h43 hq10) rfl rfl rfl (e_le rfl) (e_le rfl) (e_le rfl) h42 (ci := 0) e_cl0.1 rfl (e_le rfl) (e_lt hnx rfl) (Nat.zero_le _) (Nat.zero_le _) (e_k ?_)
              refine r_wr0 ?_
              refine r_isub F dX11_line_93 ?_
              obtain ⟨q11, hq12, hf⟩ := e_bd hf
              refine r_callS F dX11_line_94 (dc := 0) (ds := 0) (As := [.int (q7 - q9)]) (S0 := []) lkX11_342 mJ9_abs_0f7a4 (tJ9_abs_0f7a4 hG (la := x_l X) (h := e_up h []) hnx  hq12) rfl rfl rfl (e_le rfl) (e_le rfl) (e_le rfl) (Nat.zero_le _) (Nat.zero_le _) (e_k ?_)
              refine r_wr0 ?_
              obtain rfl := Option.some.inj hf
              exact r_iret F hq dX11_line_97 rfl rfl (Nat.le_refl _) (Nat.le_refl _) ⟨rfl, rfl⟩
            · have hf := e_t hc hf
              refine r_iload F dX11_line_65 rfl ?_
              obtain rfl := Option.some.inj hf
              exact r_iret F hq dX11_line_67 rfl rfl (Nat.le_refl _) (Nat.le_refl _) ⟨rfl, rfl⟩
        refine r_icmp_ge F dX11_line_40 (tgt := 47) (by decide) (fun hc => ?_) (fun hc => ?_)
        · have hq4 := e_t hc hq4
          refine r_iconst F dX11_line_47 (v := (-1)) (by decide) ?_
          obtain rfl := Option.some.inj hq4
          exact Jq3
        · have hq4 := e_f hc hq4
          refine r_iconst F dX11_line_43 (v := 1) (by decide) ?_
          refine r_goto F dX11_line_44 (tgt := 48) (by decide) ?_
          obtain rfl := Option.some.inj hq4
          exact Jq3
      · have hf := e_f hc hf
        refine r_ldc F dX11_line_26 kcX11_140 ?_
        obtain rfl := Option.some.inj hf
        exact r_iret F hq dX11_line_28 rfl rfl (Nat.le_refl _) (Nat.le_refl _) ⟨rfl, rfl⟩

def fX11_link (a40_0 : Int32) (a40_1 : Int32) (A41 : Nat → Int32) (p0 : Int32) (p1 : Int32) (p2 : Bool) (p3 : Int32) : Option (Int32) :=
  Option.bind (α := Bool) (
    if p2 = true then
      some true
    else
      some false) (fun q1 =>
  (fX7_hasLink a40_0 a40_1 p0 p1 (e_b q1)).bind (fun q3 =>
  if q3 = true then
    if p3 < 0 then
      some (-1000000)
    else
      if p3 ≤ 1 then
        (fX7_stepOf a40_0 a40_1 A41 p0 p1 (e_b q1) p3).bind (fun q5 =>
        some q5)
      else
        some (-1000000)
  else
    some (-1000000)))
set_option maxRecDepth 100000 in
theorem tX11_link_32 {G : eG} (hG : e_GS G) {la : Launch} {h : Nat → eO} {nx : Nat} (hnx : 99 ≤ nx) {a32_8 : Bool} {a32_10 : Bool} {a40_0 : Int32} {a40_1 : Int32} {A41 : Nat → Int32} {p0 : Int32} {p1 : Int32} {p2 : Bool} {p3 : Int32} (h32 : h 32 = o32 a32_8 a32_10) (h39 : h 39 = o39) (h40 : h 40 = o40 a40_0 a40_1) (h41 : h 41 = o41 A41) {R9 : Int32} (hf : fX11_link a40_0 a40_1 A41 p0 p1 p2 p3 = some R9) :
    eSem G la MX11_link [.ref 32, .int p0, .int p1, .int (e_b p2), .int p3] h nx 0 0 (fun r9 h9 => r9 = some (.int R9) ∧ h9 = h) := by
  refine eSem.of (k := 1) (L := [some (.ref 32), some (.int p0), some (.int p1), some (.int (e_b p2)), some (.int p3), none]) (by decide +kernel) rfl rfl (fun X F hxl hq hcR hsR => ?_)
  subst hxl
  unfold fX11_link at hf
  refine r_iload_n F dX11_link_0 rfl ?_
  obtain ⟨q1, hq2, hf⟩ := e_bd hf
  have Jq1 : eRun G X 9 [some (.ref 32), some (.int p0), some (.int p1), none, some (.int p3), none] [.int (e_b q1)] h [] nx 0 0 := by
    refine r_istore F dX11_link_9 (e_le rfl) (L' := [some (.ref 32), some (.int p0), some (.int p1), none, some (.int p3), some (.int (e_b q1))]) rfl ?_
    refine r_aload_n F dX11_link_11 rfl ?_
    refine r_get F dX11_link_12 flX11_28 h32 rfl (e_le rfl) (e_lt hnx rfl) ?_
    refine r_get F dX11_link_15 flX11_141 h39 rfl (e_le rfl) (e_lt hnx rfl) ?_
    refine r_iload_n F dX11_link_18 rfl ?_
    refine r_iload_n F dX11_link_19 rfl ?_
    refine r_iload F dX11_link_20 rfl ?_
    obtain ⟨q3, hq4, hf⟩ := e_bd hf
    refine r_callV F dX11_link_22 (b := 40) (dc := 0) (ds := 0) (As := [.int p0, .int p1, .int (e_b q1)]) (S0 := []) lkX11_199 mX7_hasLink (tX7_hasLink_40 hG (la := x_l X) (h := e_up h []) hnx h40 hq4) rfl rfl rfl (e_le rfl) (e_le rfl) (e_le rfl) h40 (ci := 7) e_cl7.1 rfl (e_le rfl) (e_lt hnx rfl) (Nat.zero_le _) (Nat.zero_le _) (e_k ?_)
    refine r_wr0 ?_
    refine r_z_eq F dX11_link_25 (tgt := 39) (by decide) (fun hc => ?_) (fun hc => ?_)
    · have hf := e_t hc hf
      refine r_iload F dX11_link_28 rfl ?_
      refine r_if_lt F dX11_link_30 (tgt := 39) (by decide) (fun hc => ?_) (fun hc => ?_)
      · have hf := e_t hc hf
        refine r_ldc F dX11_link_39 kcX11_140 ?_
        obtain rfl := Option.some.inj hf
        exact r_iret F hq dX11_link_41 rfl rfl (Nat.le_refl _) (Nat.le_refl _) ⟨rfl, rfl⟩
      · have hf := e_f hc hf
        refine r_iload F dX11_link_33 rfl ?_
        refine r_iconst F dX11_link_35 (v := 1) (by decide) ?_
        refine r_icmp_le F dX11_link_36 (tgt := 42) (by decide) (fun hc => ?_) (fun hc => ?_)
        · have hf := e_t hc hf
          refine r_aload_n F dX11_link_42 rfl ?_
          refine r_get F dX11_link_43 flX11_28 h32 rfl (e_le rfl) (e_lt hnx rfl) ?_
          refine r_get F dX11_link_46 flX11_141 h39 rfl (e_le rfl) (e_lt hnx rfl) ?_
          refine r_iload_n F dX11_link_49 rfl ?_
          refine r_iload_n F dX11_link_50 rfl ?_
          refine r_iload F dX11_link_51 rfl ?_
          refine r_iload F dX11_link_53 rfl ?_
          obtain ⟨q5, hq6, hf⟩ := e_bd hf
          refine r_callV F dX11_link_55 (b := 40) (dc := 0) (ds := 0) (As := [.int p0, .int p1, .int (e_b q1), .int p3]) (S0 := []) lkX11_203 mX7_stepOf (tX7_stepOf_40 hG (la := x_l X) (h := e_up h []) hnx h40 h41 hq6) rfl rfl rfl (e_le rfl) (e_le rfl) (e_le rfl) h40 (ci := 7) e_cl7.1 rfl (e_le rfl) (e_lt hnx rfl) (Nat.zero_le _) (Nat.zero_le _) (e_k ?_)
          refine r_wr0 ?_
          obtain rfl := Option.some.inj hf
          exact r_iret F hq dX11_link_58 rfl rfl (Nat.le_refl _) (Nat.le_refl _) ⟨rfl, rfl⟩
        · have hf := e_f hc hf
          refine r_ldc F dX11_link_39 kcX11_140 ?_
          obtain rfl := Option.some.inj hf
          exact r_iret F hq dX11_link_41 rfl rfl (Nat.le_refl _) (Nat.le_refl _) ⟨rfl, rfl⟩
    · have hf := e_f hc hf
      refine r_ldc F dX11_link_39 kcX11_140 ?_
      obtain rfl := Option.some.inj hf
      exact r_iret F hq dX11_link_41 rfl rfl (Nat.le_refl _) (Nat.le_refl _) ⟨rfl, rfl⟩
  refine r_z_eq F dX11_link_1 (tgt := 8) (by decide) (fun hc => ?_) (fun hc => ?_)
  · have hq2 := e_t hc hq2
    refine r_iconst F dX11_link_4 (v := 1) (by decide) ?_
    refine r_goto F dX11_link_5 (tgt := 9) (by decide) ?_
    refine r_drop 3 (L' := [some (.ref 32), some (.int p0), some (.int p1), none, some (.int p3), none]) rfl ?_
    obtain rfl := Option.some.inj hq2
    exact Jq1
  · have hq2 := e_f hc hq2
    refine r_iconst F dX11_link_8 (v := 0) (by decide) ?_
    refine r_drop 3 (L' := [some (.ref 32), some (.int p0), some (.int p1), none, some (.int p3), none]) rfl ?_
    obtain rfl := Option.some.inj hq2
    exact Jq1

def fJ9_floorMod_7cf53  (p0 : Int32) (p1 : Int32) : Option (Int32) :=
  e_g (e_nz p1) (
  if 0 ≤ (p0 ^^^ p1) then
    some (p0 - p0 / p1 * p1)
  else
    if (p0 - p0 / p1 * p1) = 0 then
      some (p0 - p0 / p1 * p1)
    else
      some ((p0 - p0 / p1 * p1) + p1))
set_option maxRecDepth 100000 in
theorem tJ9_floorMod_7cf53 {G : eG} (hG : e_GS G) {la : Launch} {h : Nat → eO} {nx : Nat} (hnx : 99 ≤ nx)  {p0 : Int32} {p1 : Int32}  {R9 : Int32} (hf : fJ9_floorMod_7cf53  p0 p1 = some R9) :
    eSem G la MJ9_floorMod_7cf53 [.int p0, .int p1] h nx 0 0 (fun r9 h9 => r9 = some (.int R9) ∧ h9 = h) := by
  refine eSem.of (k := 1) (L := [some (.int p0), some (.int p1), none]) (by decide +kernel) rfl rfl (fun X F hxl hq hcR hsR => ?_)
  subst hxl
  unfold fJ9_floorMod_7cf53 at hf
  refine r_iload_n F dJ9_floorMod_7cf53_0 rfl ?_
  refine r_iload_n F dJ9_floorMod_7cf53_1 rfl ?_
  obtain ⟨hg, hf⟩ := e_gd hf
  refine r_irem F dJ9_floorMod_7cf53_2 (e_nz_ne hg) ?_
  refine r_istore_n F dJ9_floorMod_7cf53_3 (e_le rfl) (L' := [some (.int p0), some (.int p1), some (.int (p0 - p0 / p1 * p1))]) rfl ?_
  refine r_iload_n F dJ9_floorMod_7cf53_4 rfl ?_
  refine r_iload_n F dJ9_floorMod_7cf53_5 rfl ?_
  refine r_ixor F dJ9_floorMod_7cf53_6 ?_
  refine r_if_ge F dJ9_floorMod_7cf53_7 (tgt := 18) (by decide) (fun hc => ?_) (fun hc => ?_)
  · have hf := e_t hc hf
    refine r_iload_n F dJ9_floorMod_7cf53_18 rfl ?_
    obtain rfl := Option.some.inj hf
    exact r_iret F hq dJ9_floorMod_7cf53_19 rfl rfl (Nat.le_refl _) (Nat.le_refl _) ⟨rfl, rfl⟩
  · have hf := e_f hc hf
    refine r_iload_n F dJ9_floorMod_7cf53_10 rfl ?_
    refine r_if_eq F dJ9_floorMod_7cf53_11 (tgt := 18) (by decide) (fun hc => ?_) (fun hc => ?_)
    · have hf := e_t hc hf
      refine r_iload_n F dJ9_floorMod_7cf53_18 rfl ?_
      obtain rfl := Option.some.inj hf
      exact r_iret F hq dJ9_floorMod_7cf53_19 rfl rfl (Nat.le_refl _) (Nat.le_refl _) ⟨rfl, rfl⟩
    · have hf := e_f hc hf
      refine r_iload_n F dJ9_floorMod_7cf53_14 rfl ?_
      refine r_iload_n F dJ9_floorMod_7cf53_15 rfl ?_
      refine r_iadd F dJ9_floorMod_7cf53_16 ?_
      obtain rfl := Option.some.inj hf
      exact r_iret F hq dJ9_floorMod_7cf53_17 rfl rfl (Nat.le_refl _) (Nat.le_refl _) ⟨rfl, rfl⟩

def fX3_entry (a54_1 : Int32) (A55 : Nat → Int32) (p0 : Int32) (p1 : Int32) : Option (Int32) :=
  if p1 < 0 then
    some (-1)
  else
    if 4 ≤ p1 then
      some (-1)
    else
      (fJ9_floorMod_7cf53 ((a54_1 - 1) - p0) 40).bind (fun q1 =>
      e_g (e_in (((4 : Int32) * q1) + p1) 160) (
      some (A55 (tn (((4 : Int32) * q1) + p1)))))
set_option maxRecDepth 100000 in
theorem tX3_entry_54 {G : eG} (hG : e_GS G) {la : Launch} {h : Nat → eO} {nx : Nat} (hnx : 99 ≤ nx) {a54_1 : Int32} {A55 : Nat → Int32} {p0 : Int32} {p1 : Int32} (h54 : h 54 = o54 a54_1) (h55 : h 55 = o55 A55) {R9 : Int32} (hf : fX3_entry a54_1 A55 p0 p1 = some R9) :
    eSem G la MX3_entry [.ref 54, .int p0, .int p1] h nx 0 0 (fun r9 h9 => r9 = some (.int R9) ∧ h9 = h) := by
  refine eSem.of (k := 0) (L := [some (.ref 54), some (.int p0), some (.int p1)]) (by decide +kernel) rfl rfl (fun X F hxl hq hcR hsR => ?_)
  subst hxl
  unfold fX3_entry at hf
  refine r_iload_n F dX3_entry_0 rfl ?_
  refine r_if_lt F dX3_entry_1 (tgt := 34) (by decide) (fun hc => ?_) (fun hc => ?_)
  · have hf := e_t hc hf
    refine r_iconst F dX3_entry_34 (v := (-1)) (by decide) ?_
    obtain rfl := Option.some.inj hf
    exact r_iret F hq dX3_entry_35 rfl rfl (Nat.le_refl _) (Nat.le_refl _) ⟨rfl, rfl⟩
  · have hf := e_f hc hf
    refine r_iload_n F dX3_entry_4 rfl ?_
    refine r_iconst F dX3_entry_5 (v := 4) (by decide) ?_
    refine r_icmp_ge F dX3_entry_6 (tgt := 34) (by decide) (fun hc => ?_) (fun hc => ?_)
    · have hf := e_t hc hf
      refine r_iconst F dX3_entry_34 (v := (-1)) (by decide) ?_
      obtain rfl := Option.some.inj hf
      exact r_iret F hq dX3_entry_35 rfl rfl (Nat.le_refl _) (Nat.le_refl _) ⟨rfl, rfl⟩
    · have hf := e_f hc hf
      refine r_aload_n F dX3_entry_9 rfl ?_
      refine r_get F dX3_entry_10 flX3_11 h54 rfl (e_le rfl) (e_lt hnx rfl) ?_
      refine r_iconst F dX3_entry_13 (v := 4) (by decide) ?_
      refine r_aload_n F dX3_entry_14 rfl ?_
      refine r_get F dX3_entry_15 flX3_15 h54 rfl (e_le rfl) (e_lt hnx rfl) ?_
      refine r_iconst F dX3_entry_18 (v := 1) (by decide) ?_
      refine r_isub F dX3_entry_19 ?_
      refine r_iload_n F dX3_entry_20 rfl ?_
      refine r_isub F dX3_entry_21 ?_
      refine r_bipush F dX3_entry_22 (v := 40) (by decide) ?_
      obtain ⟨q1, hq2, hf⟩ := e_bd hf
      refine r_callS F dX3_entry_24 (dc := 0) (ds := 0) (As := [.int ((a54_1 - 1) - p0), .int 40]) (S0 := [.int 4, .ref 55]) lkX3_25 mJ9_floorMod_7cf53 (tJ9_floorMod_7cf53 hG (la := x_l X) (h := e_up h []) hnx  hq2) rfl rfl rfl (e_le rfl) (e_le rfl) (e_le rfl) (Nat.zero_le _) (Nat.zero_le _) (e_k ?_)
      refine r_wr0 ?_
      refine r_imul F dX3_entry_27 ?_
      refine r_iload_n F dX3_entry_28 rfl ?_
      refine r_iadd F dX3_entry_29 ?_
      obtain ⟨hg, hf⟩ := e_gd hf
      refine r_iald F dX3_entry_30 (i := (((4 : Int32) * q1) + p1)) h55 (e_le rfl) (e_lt hnx rfl) (e_vp hg) ?_
      refine r_goto F dX3_entry_31 (tgt := 35) (by decide) ?_
      obtain rfl := Option.some.inj hf
      exact r_iret F hq dX3_entry_35 rfl rfl (Nat.le_refl _) (Nat.le_refl _) ⟨rfl, rfl⟩

def fX11_log (a54_1 : Int32) (A55 : Nat → Int32) (p0 : Int32) (p1 : Int32) : Option (Int32) :=
  if p0 < 0 then
    some (-1)
  else
    (fX3_size a54_1).bind (fun q1 =>
    if q1 ≤ p0 then
      some (-1)
    else
      if p1 < 0 then
        some (-1)
      else
        if p1 ≤ 3 then
          (fX3_entry a54_1 A55 p0 p1).bind (fun q3 =>
          some q3)
        else
          some (-1))
set_option maxRecDepth 100000 in
theorem tX11_log_32 {G : eG} (hG : e_GS G) {la : Launch} {h : Nat → eO} {nx : Nat} (hnx : 99 ≤ nx) {a32_8 : Bool} {a32_10 : Bool} {a54_1 : Int32} {A55 : Nat → Int32} {p0 : Int32} {p1 : Int32} (h32 : h 32 = o32 a32_8 a32_10) (h54 : h 54 = o54 a54_1) (h55 : h 55 = o55 A55) {R9 : Int32} (hf : fX11_log a54_1 A55 p0 p1 = some R9) :
    eSem G la MX11_log [.ref 32, .int p0, .int p1] h nx 0 0 (fun r9 h9 => r9 = some (.int R9) ∧ h9 = h) := by
  refine eSem.of (k := 0) (L := [some (.ref 32), some (.int p0), some (.int p1)]) (by decide +kernel) rfl rfl (fun X F hxl hq hcR hsR => ?_)
  subst hxl
  unfold fX11_log at hf
  refine r_iload_n F dX11_log_0 rfl ?_
  refine r_if_lt F dX11_log_1 (tgt := 24) (by decide) (fun hc => ?_) (fun hc => ?_)
  · have hf := e_t hc hf
    refine r_iconst F dX11_log_24 (v := (-1)) (by decide) ?_
    obtain rfl := Option.some.inj hf
    exact r_iret F hq dX11_log_25 rfl rfl (Nat.le_refl _) (Nat.le_refl _) ⟨rfl, rfl⟩
  · have hf := e_f hc hf
    refine r_iload_n F dX11_log_4 rfl ?_
    refine r_aload_n F dX11_log_5 rfl ?_
    refine r_get F dX11_log_6 flX11_42 h32 rfl (e_le rfl) (e_lt hnx rfl) ?_
    obtain ⟨q1, hq2, hf⟩ := e_bd hf
    refine r_callV F dX11_log_9 (b := 54) (dc := 0) (ds := 0) (As := []) (S0 := [.int p0]) lkX11_275 mX3_size (tX3_size_54 hG (la := x_l X) (h := e_up h []) hnx h54 hq2) rfl rfl rfl (e_le rfl) (e_le rfl) (e_le rfl) h54 (ci := 3) e_cl3.1 rfl (e_le rfl) (e_lt hnx rfl) (Nat.zero_le _) (Nat.zero_le _) (e_k ?_)
    refine r_wr0 ?_
    refine r_icmp_ge F dX11_log_12 (tgt := 24) (by decide) (fun hc => ?_) (fun hc => ?_)
    · have hf := e_t hc hf
      refine r_iconst F dX11_log_24 (v := (-1)) (by decide) ?_
      obtain rfl := Option.some.inj hf
      exact r_iret F hq dX11_log_25 rfl rfl (Nat.le_refl _) (Nat.le_refl _) ⟨rfl, rfl⟩
    · have hf := e_f hc hf
      refine r_iload_n F dX11_log_15 rfl ?_
      refine r_if_lt F dX11_log_16 (tgt := 24) (by decide) (fun hc => ?_) (fun hc => ?_)
      · have hf := e_t hc hf
        refine r_iconst F dX11_log_24 (v := (-1)) (by decide) ?_
        obtain rfl := Option.some.inj hf
        exact r_iret F hq dX11_log_25 rfl rfl (Nat.le_refl _) (Nat.le_refl _) ⟨rfl, rfl⟩
      · have hf := e_f hc hf
        refine r_iload_n F dX11_log_19 rfl ?_
        refine r_iconst F dX11_log_20 (v := 3) (by decide) ?_
        refine r_icmp_le F dX11_log_21 (tgt := 26) (by decide) (fun hc => ?_) (fun hc => ?_)
        · have hf := e_t hc hf
          refine r_aload_n F dX11_log_26 rfl ?_
          refine r_get F dX11_log_27 flX11_42 h32 rfl (e_le rfl) (e_lt hnx rfl) ?_
          refine r_iload_n F dX11_log_30 rfl ?_
          refine r_iload_n F dX11_log_31 rfl ?_
          obtain ⟨q3, hq4, hf⟩ := e_bd hf
          refine r_callV F dX11_log_32 (b := 54) (dc := 0) (ds := 0) (As := [.int p0, .int p1]) (S0 := []) lkX11_276 mX3_entry (tX3_entry_54 hG (la := x_l X) (h := e_up h []) hnx h54 h55 hq4) rfl rfl rfl (e_le rfl) (e_le rfl) (e_le rfl) h54 (ci := 3) e_cl3.1 rfl (e_le rfl) (e_lt hnx rfl) (Nat.zero_le _) (Nat.zero_le _) (e_k ?_)
          refine r_wr0 ?_
          obtain rfl := Option.some.inj hf
          exact r_iret F hq dX11_log_35 rfl rfl (Nat.le_refl _) (Nat.le_refl _) ⟨rfl, rfl⟩
        · have hf := e_f hc hf
          refine r_iconst F dX11_log_24 (v := (-1)) (by decide) ?_
          obtain rfl := Option.some.inj hf
          exact r_iret F hq dX11_log_25 rfl rfl (Nat.le_refl _) (Nat.le_refl _) ⟨rfl, rfl⟩

def fX6_costOfMove  (p0 : Int32) (p1 : Int32) (p2 : Int32) : Option (Int32) :=
  if p0 = p1 then
    some 1
  else
    some p2
set_option maxRecDepth 100000 in
theorem tX6_costOfMove {G : eG} (hG : e_GS G) {la : Launch} {h : Nat → eO} {nx : Nat} (hnx : 99 ≤ nx)  {p0 : Int32} {p1 : Int32} {p2 : Int32}  {R9 : Int32} (hf : fX6_costOfMove  p0 p1 p2 = some R9) :
    eSem G la MX6_costOfMove [.int p0, .int p1, .int p2] h nx 0 0 (fun r9 h9 => r9 = some (.int R9) ∧ h9 = h) := by
  refine eSem.of (k := 0) (L := [some (.int p0), some (.int p1), some (.int p2)]) (by decide +kernel) rfl rfl (fun X F hxl hq hcR hsR => ?_)
  subst hxl
  unfold fX6_costOfMove at hf
  refine r_iload_n F dX6_costOfMove_0 rfl ?_
  refine r_iload_n F dX6_costOfMove_1 rfl ?_
  refine r_icmp_ne F dX6_costOfMove_2 (tgt := 9) (by decide) (fun hc => ?_) (fun hc => ?_)
  · have hf := e_f hc hf
    refine r_iload_n F dX6_costOfMove_9 rfl ?_
    obtain rfl := Option.some.inj hf
    exact r_iret F hq dX6_costOfMove_10 rfl rfl (Nat.le_refl _) (Nat.le_refl _) ⟨rfl, rfl⟩
  · have hf := e_t hc hf
    refine r_iconst F dX6_costOfMove_5 (v := 1) (by decide) ?_
    refine r_goto F dX6_costOfMove_6 (tgt := 10) (by decide) ?_
    obtain rfl := Option.some.inj hf
    exact r_iret F hq dX6_costOfMove_10 rfl rfl (Nat.le_refl _) (Nat.le_refl _) ⟨rfl, rfl⟩

def fX6_costToLeave (a40_0 : Int32) (a40_1 : Int32) (a42_0 : Int32) (A43 : Nat → Int32) (A44 : Nat → Int32) (p1 : Int32) (p2 : Int32) : Option (Int32) :=
  (fX0_wayOf a42_0 A44 p1).bind (fun q1 =>
  (fX0_placeOf a42_0 A43 p1 0).bind (fun q3 =>
  (fX0_placeOf a42_0 A43 p1 1).bind (fun q5 =>
  (fJ9_min_7cf53 (q3 + 1) ((a40_0 - 1) - q3)).bind (fun q7 =>
  (fJ9_min_7cf53 (q5 + 1) ((a40_1 - 1) - q5)).bind (fun q9 =>
  (fX6_costOfMove q1 0 p2).bind (fun q11 =>
  (fX6_costOfMove q1 1 p2).bind (fun q13 =>
  (fJ9_min_7cf53 (q7 * q11) (q9 * q13)).bind (fun q15 =>
  some q15))))))))
set_option maxRecDepth 100000 in
theorem tX6_costToLeave_39 {G : eG} (hG : e_GS G) {la : Launch} {h : Nat → eO} {nx : Nat} (hnx : 99 ≤ nx) {a40_0 : Int32} {a40_1 : Int32} {a42_0 : Int32} {A43 : Nat → Int32} {A44 : Nat → Int32} {p1 : Int32} {p2 : Int32} (h39 : h 39 = o39) (h40 : h 40 = o40 a40_0 a40_1) (h42 : h 42 = o42 a42_0) (h43 : h 43 = o43 A43) (h44 : h 44 = o44 A44) {R9 : Int32} (hf : fX6_costToLeave a40_0 a40_1 a42_0 A43 A44 p1 p2 = some R9) :
    eSem G la MX6_costToLeave [.ref 39, .int p1, .int p2] h nx 0 0 (fun r9 h9 => r9 = some (.int R9) ∧ h9 = h) := by
  refine eSem.of (k := 5) (L := [some (.ref 39), some (.int p1), some (.int p2), none, none, none, none, none]) (by decide +kernel) rfl rfl (fun X F hxl hq hcR hsR => ?_)
  subst hxl
  unfold fX6_costToLeave at hf
  refine r_aload_n F dX6_costToLeave_0 rfl ?_
  refine r_get F dX6_costToLeave_1 flX6_49 h39 rfl (e_le rfl) (e_lt hnx rfl) ?_
  refine r_iload_n F dX6_costToLeave_4 rfl ?_
  obtain ⟨q1, hq2, hf⟩ := e_bd hf
  refine r_callV F dX6_costToLeave_5 (b := 42) (dc := 0) (ds := 0) (As := [.int p1]) (S0 := []) lkX6_72 mX0_wayOf (tX0_wayOf_42 hG (la := x_l X) (h := e_up h []) hnx h42 h44 hq2) rfl rfl rfl (e_le rfl) (e_le rfl) (e_le rfl) h42 (ci := 0) e_cl0.1 rfl (e_le rfl) (e_lt hnx rfl) (Nat.zero_le _) (Nat.zero_le _) (e_k ?_)
  refine r_wr0 ?_
  refine r_istore_n F dX6_costToLeave_8 (e_le rfl) (L' := [some (.ref 39), some (.int p1), some (.int p2), some (.int q1), none, none, none, none]) rfl ?_
  refine r_aload_n F dX6_costToLeave_9 rfl ?_
  refine r_get F dX6_costToLeave_10 flX6_49 h39 rfl (e_le rfl) (e_lt hnx rfl) ?_
  refine r_iload_n F dX6_costToLeave_13 rfl ?_
  refine r_iconst F dX6_costToLeave_14 (v := 0) (by decide) ?_
  obtain ⟨q3, hq4, hf⟩ := e_bd hf
  refine r_callV F dX6_costToLeave_15 (b := 42) (dc := 0) (ds := 0) (As := [.int p1, .int 0]) (S0 := []) lkX6_75 mX0_placeOf (tX0_placeOf_42 hG (la := x_l X) (h := e_up h []) hnx h42 h43 hq4) rfl rfl rfl (e_le rfl) (e_le rfl) (e_le rfl) h42 (ci := 0) e_cl0.1 rfl (e_le rfl) (e_lt hnx rfl) (Nat.zero_le _) (Nat.zero_le _) (e_k ?_)
  refine r_wr0 ?_
  refine r_istore F dX6_costToLeave_18 (e_le rfl) (L' := [some (.ref 39), some (.int p1), some (.int p2), some (.int q1), some (.int q3), none, none, none]) rfl ?_
  refine r_aload_n F dX6_costToLeave_20 rfl ?_
  refine r_get F dX6_costToLeave_21 flX6_49 h39 rfl (e_le rfl) (e_lt hnx rfl) ?_
  refine r_iload_n F dX6_costToLeave_24 rfl ?_
  refine r_iconst F dX6_costToLeave_25 (v := 1) (by decide) ?_
  obtain ⟨q5, hq6, hf⟩ := e_bd hf
  refine r_callV F dX6_costToLeave_26 (b := 42) (dc := 0) (ds := 0) (As := [.int p1, .int 1]) (S0 := []) lkX6_75 mX0_placeOf (tX0_placeOf_42 hG (la := x_l X) (h := e_up h []) hnx h42 h43 hq6) rfl rfl rfl (e_le rfl) (e_le rfl) (e_le rfl) h42 (ci := 0) e_cl0.1 rfl (e_le rfl) (e_lt hnx rfl) (Nat.zero_le _) (Nat.zero_le _) (e_k ?_)
  refine r_wr0 ?_
  refine r_istore F dX6_costToLeave_29 (e_le rfl) (L' := [some (.ref 39), some (.int p1), some (.int p2), some (.int q1), some (.int q3), some (.int q5), none, none]) rfl ?_
  refine r_iload F dX6_costToLeave_31 rfl ?_
  refine r_iconst F dX6_costToLeave_33 (v := 1) (by decide) ?_
  refine r_iadd F dX6_costToLeave_34 ?_
  refine r_aload_n F dX6_costToLeave_35 rfl ?_
  refine r_get F dX6_costToLeave_36 flX6_79 h39 rfl (e_le rfl) (e_lt hnx rfl) ?_
  refine r_get F dX6_costToLeave_39 flX6_83 h40 rfl (e_le rfl) (e_lt hnx rfl) ?_
  refine r_iconst F dX6_costToLeave_42 (v := 1) (by decide) ?_
  refine r_isub F dX6_costToLeave_43 ?_
  refine r_iload F dX6_costToLeave_44 rfl ?_
  refine r_isub F dX6_costToLeave_46 ?_
  obtain ⟨q7, hq8, hf⟩ := e_bd hf
  refine r_callS F dX6_costToLeave_47 (dc := 0) (ds := 0) (As := [.int (q3 + 1), .int ((a40_0 - 1) - q3)]) (S0 := []) lkX6_88 mJ9_min_7cf53 (tJ9_min_7cf53 hG (la := x_l X) (h := e_up h []) hnx  hq8) rfl rfl rfl (e_le rfl) (e_le rfl) (e_le rfl) (Nat.zero_le _) (Nat.zero_le _) (e_k ?_)
  refine r_wr0 ?_
  refine r_istore F dX6_costToLeave_50 (e_le rfl) (L' := [some (.ref 39), some (.int p1), some (.int p2), some (.int q1), some (.int q3), some (.int q5), some (.int q7), none]) rfl ?_
  refine r_iload F dX6_costToLeave_52 rfl ?_
  refine r_iconst F dX6_costToLeave_54 (v := 1) (by decide) ?_
  refine r_iadd F dX6_costToLeave_55 ?_
  refine r_aload_n F dX6_costToLeave_56 rfl ?_
  refine r_get F dX6_costToLeave_57 flX6_79 h39 rfl (e_le rfl) (e_lt hnx rfl) ?_
  refine r_get F dX6_costToLeave_60 flX6_93 h40 rfl (e_le rfl) (e_lt hnx rfl) ?_
  refine r_iconst F dX6_costToLeave_63 (v := 1) (by decide) ?_
  refine r_isub F dX6_costToLeave_64 ?_
  refine r_iload F dX6_costToLeave_65 rfl ?_
  refine r_isub F dX6_costToLeave_67 ?_
  obtain ⟨q9, hq10, hf⟩ := e_bd hf
  refine r_callS F dX6_costToLeave_68 (dc := 0) (ds := 0) (As := [.int (q5 + 1), .int ((a40_1 - 1) - q5)]) (S0 := []) lkX6_88 mJ9_min_7cf53 (tJ9_min_7cf53 hG (la := x_l X) (h := e_up h []) hnx  hq10) rfl rfl rfl (e_le rfl) (e_le rfl) (e_le rfl) (Nat.zero_le _) (Nat.zero_le _) (e_k ?_)
  refine r_wr0 ?_
  refine r_istore F dX6_costToLeave_71 (e_le rfl) (L' := [some (.ref 39), some (.int p1), some (.int p2), some (.int q1), some (.int q3), some (.int q5), some (.int q7), some (.int q9)]) rfl ?_
  refine r_iload F dX6_costToLeave_73 rfl ?_
  refine r_iload_n F dX6_costToLeave_75 rfl ?_
  refine r_iconst F dX6_costToLeave_76 (v := 0) (by decide) ?_
  refine r_iload_n F dX6_costToLeave_77 rfl ?_
  obtain ⟨q11, hq12, hf⟩ := e_bd hf
  refine r_callS F dX6_costToLeave_78 (dc := 0) (ds := 0) (As := [.int q1, .int 0, .int p2]) (S0 := [.int q7]) lkX6_96 mX6_costOfMove (tX6_costOfMove hG (la := x_l X) (h := e_up h []) hnx  hq12) rfl rfl rfl (e_le rfl) (e_le rfl) (e_le rfl) (Nat.zero_le _) (Nat.zero_le _) (e_k ?_)
  refine r_wr0 ?_
  refine r_imul F dX6_costToLeave_81 ?_
  refine r_iload F dX6_costToLeave_82 rfl ?_
  refine r_iload_n F dX6_costToLeave_84 rfl ?_
  refine r_iconst F dX6_costToLeave_85 (v := 1) (by decide) ?_
  refine r_iload_n F dX6_costToLeave_86 rfl ?_
  obtain ⟨q13, hq14, hf⟩ := e_bd hf
  refine r_callS F dX6_costToLeave_87 (dc := 0) (ds := 0) (As := [.int q1, .int 1, .int p2]) (S0 := [.int q9, .int (q7 * q11)]) lkX6_96 mX6_costOfMove (tX6_costOfMove hG (la := x_l X) (h := e_up h []) hnx  hq14) rfl rfl rfl (e_le rfl) (e_le rfl) (e_le rfl) (Nat.zero_le _) (Nat.zero_le _) (e_k ?_)
  refine r_wr0 ?_
  refine r_imul F dX6_costToLeave_90 ?_
  obtain ⟨q15, hq16, hf⟩ := e_bd hf
  refine r_callS F dX6_costToLeave_91 (dc := 0) (ds := 0) (As := [.int (q7 * q11), .int (q9 * q13)]) (S0 := []) lkX6_88 mJ9_min_7cf53 (tJ9_min_7cf53 hG (la := x_l X) (h := e_up h []) hnx  hq16) rfl rfl rfl (e_le rfl) (e_le rfl) (e_le rfl) (Nat.zero_le _) (Nat.zero_le _) (e_k ?_)
  refine r_wr0 ?_
  obtain rfl := Option.some.inj hf
  exact r_iret F hq dX6_costToLeave_94 rfl rfl (Nat.le_refl _) (Nat.le_refl _) ⟨rfl, rfl⟩

def fX0_areOpposite (a42_0 : Int32) (A44 : Nat → Int32) (p0 : Int32) (p1 : Int32) : Option (Bool) :=
  (fX0_numberOf a42_0 A44 p0 0).bind (fun q1 =>
  (fX0_numberOf a42_0 A44 p1 0).bind (fun q3 =>
  if q1 = ((0 : Int32) - q3) then
    (fX0_numberOf a42_0 A44 p0 1).bind (fun q5 =>
    (fX0_numberOf a42_0 A44 p1 1).bind (fun q7 =>
    if q5 = ((0 : Int32) - q7) then
      some true
    else
      some false))
  else
    some false))
set_option maxRecDepth 100000 in
theorem tX0_areOpposite_42 {G : eG} (hG : e_GS G) {la : Launch} {h : Nat → eO} {nx : Nat} (hnx : 99 ≤ nx) {a42_0 : Int32} {A44 : Nat → Int32} {p0 : Int32} {p1 : Int32} (h42 : h 42 = o42 a42_0) (h44 : h 44 = o44 A44) {R9 : Bool} (hf : fX0_areOpposite a42_0 A44 p0 p1 = some R9) :
    eSem G la MX0_areOpposite [.ref 42, .int p0, .int p1] h nx 0 0 (fun r9 h9 => r9 = some (.int (e_b R9)) ∧ h9 = h) := by
  refine eSem.of (k := 0) (L := [some (.ref 42), some (.int p0), some (.int p1)]) (by decide +kernel) rfl rfl (fun X F hxl hq hcR hsR => ?_)
  subst hxl
  unfold fX0_areOpposite at hf
  refine r_aload_n F dX0_areOpposite_0 rfl ?_
  refine r_iload_n F dX0_areOpposite_1 rfl ?_
  refine r_iconst F dX0_areOpposite_2 (v := 0) (by decide) ?_
  obtain ⟨q1, hq2, hf⟩ := e_bd hf
  refine r_callV F dX0_areOpposite_3 (b := 42) (dc := 0) (ds := 0) (As := [.int p0, .int 0]) (S0 := []) lkX0_38 mX0_numberOf (tX0_numberOf_42 hG (la := x_l X) (h := e_up h []) hnx h42 h44 hq2) rfl rfl rfl (e_le rfl) (e_le rfl) (e_le rfl) h42 (ci := 0) e_cl0.1 rfl (e_le rfl) (e_lt hnx rfl) (Nat.zero_le _) (Nat.zero_le _) (e_k ?_)
  refine r_wr0 ?_
  refine r_aload_n F dX0_areOpposite_6 rfl ?_
  refine r_iload_n F dX0_areOpposite_7 rfl ?_
  refine r_iconst F dX0_areOpposite_8 (v := 0) (by decide) ?_
  obtain ⟨q3, hq4, hf⟩ := e_bd hf
  refine r_callV F dX0_areOpposite_9 (b := 42) (dc := 0) (ds := 0) (As := [.int p1, .int 0]) (S0 := [.int q1]) lkX0_38 mX0_numberOf (tX0_numberOf_42 hG (la := x_l X) (h := e_up h []) hnx h42 h44 hq4) rfl rfl rfl (e_le rfl) (e_le rfl) (e_le rfl) h42 (ci := 0) e_cl0.1 rfl (e_le rfl) (e_lt hnx rfl) (Nat.zero_le _) (Nat.zero_le _) (e_k ?_)
  refine r_wr0 ?_
  refine r_ineg F dX0_areOpposite_12 ?_
  refine r_icmp_ne F dX0_areOpposite_13 (tgt := 36) (by decide) (fun hc => ?_) (fun hc => ?_)
  · have hf := e_f hc hf
    refine r_iconst F dX0_areOpposite_36 (v := 0) (by decide) ?_
    obtain rfl := Option.some.inj hf
    exact r_zret F hq (v := false) dX0_areOpposite_37 rfl rfl (Nat.le_refl _) (Nat.le_refl _) ⟨rfl, rfl⟩
  · have hf := e_t hc hf
    refine r_aload_n F dX0_areOpposite_16 rfl ?_
    refine r_iload_n F dX0_areOpposite_17 rfl ?_
    refine r_iconst F dX0_areOpposite_18 (v := 1) (by decide) ?_
    obtain ⟨q5, hq6, hf⟩ := e_bd hf
    refine r_callV F dX0_areOpposite_19 (b := 42) (dc := 0) (ds := 0) (As := [.int p0, .int 1]) (S0 := []) lkX0_38 mX0_numberOf (tX0_numberOf_42 hG (la := x_l X) (h := e_up h []) hnx h42 h44 hq6) rfl rfl rfl (e_le rfl) (e_le rfl) (e_le rfl) h42 (ci := 0) e_cl0.1 rfl (e_le rfl) (e_lt hnx rfl) (Nat.zero_le _) (Nat.zero_le _) (e_k ?_)
    refine r_wr0 ?_
    refine r_aload_n F dX0_areOpposite_22 rfl ?_
    refine r_iload_n F dX0_areOpposite_23 rfl ?_
    refine r_iconst F dX0_areOpposite_24 (v := 1) (by decide) ?_
    obtain ⟨q7, hq8, hf⟩ := e_bd hf
    refine r_callV F dX0_areOpposite_25 (b := 42) (dc := 0) (ds := 0) (As := [.int p1, .int 1]) (S0 := [.int q5]) lkX0_38 mX0_numberOf (tX0_numberOf_42 hG (la := x_l X) (h := e_up h []) hnx h42 h44 hq8) rfl rfl rfl (e_le rfl) (e_le rfl) (e_le rfl) h42 (ci := 0) e_cl0.1 rfl (e_le rfl) (e_lt hnx rfl) (Nat.zero_le _) (Nat.zero_le _) (e_k ?_)
    refine r_wr0 ?_
    refine r_ineg F dX0_areOpposite_28 ?_
    refine r_icmp_ne F dX0_areOpposite_29 (tgt := 36) (by decide) (fun hc => ?_) (fun hc => ?_)
    · have hf := e_f hc hf
      refine r_iconst F dX0_areOpposite_36 (v := 0) (by decide) ?_
      obtain rfl := Option.some.inj hf
      exact r_zret F hq (v := false) dX0_areOpposite_37 rfl rfl (Nat.le_refl _) (Nat.le_refl _) ⟨rfl, rfl⟩
    · have hf := e_t hc hf
      refine r_iconst F dX0_areOpposite_32 (v := 1) (by decide) ?_
      refine r_goto F dX0_areOpposite_33 (tgt := 37) (by decide) ?_
      obtain rfl := Option.some.inj hf
      exact r_zret F hq (v := true) dX0_areOpposite_37 rfl rfl (Nat.le_refl _) (Nat.le_refl _) ⟨rfl, rfl⟩

def fX0_hasOpposite (a42_0 : Int32) (A44 : Nat → Int32) (p0 : Int32) : Option (Bool) :=
  (e_loop (fun (v3 : Int32) => (
      if a42_0 ≤ v3 then
        some (.inr (.inl ()))
      else
        if v3 = p0 then
          some (.inl (v3 + 1))
        else
          (fX0_areOpposite a42_0 A44 p0 v3).bind (fun q6 =>
          if q6 = true then
            some (.inr (.inr true))
          else
            some (.inl (v3 + 1))) : Option ((Int32) ⊕ ((Unit) ⊕ (Bool))))) e_fuel 0).bind (fun x4 => Sum.elim (fun x4e =>
    some false) (fun r9 => some r9) x4)
set_option maxRecDepth 100000 in
theorem tX0_hasOpposite_42 {G : eG} (hG : e_GS G) {la : Launch} {h : Nat → eO} {nx : Nat} (hnx : 99 ≤ nx) {a42_0 : Int32} {A44 : Nat → Int32} {p0 : Int32} (h42 : h 42 = o42 a42_0) (h44 : h 44 = o44 A44) {R9 : Bool} (hf : fX0_hasOpposite a42_0 A44 p0 = some R9) :
    eSem G la MX0_hasOpposite [.ref 42, .int p0] h nx 0 0 (fun r9 h9 => r9 = some (.int (e_b R9)) ∧ h9 = h) := by
  refine eSem.of (k := 1) (L := [some (.ref 42), some (.int p0), none]) (by decide +kernel) rfl rfl (fun X F hxl hq hcR hsR => ?_)
  subst hxl
  unfold fX0_hasOpposite at hf
  refine r_iconst F dX0_hasOpposite_0 (v := 0) (by decide) ?_
  refine r_istore_n F dX0_hasOpposite_1 (e_le rfl) (L' := [some (.ref 42), some (.int p0), some (.int 0)]) rfl ?_
  obtain ⟨x4, hx5, hf⟩ := e_bd hf
  refine (e_loop_ok (P := fun (v3 : Int32) => eRun G X 2 [some (.ref 42), some (.int p0), some (.int v3)] [] h [] nx 0 0) (K := fun (x4 : (Unit) ⊕ (Bool)) => Sum.elim (fun x4e => eRun G X 32 [none, none, none] [] h [] nx 0 0) (fun r9 => r9 = R9) x4) ?_ e_fuel 0 x4 hx5 ?_ : _)
  · intro v3 z hz ih hx
    refine r_iload_n F dX0_hasOpposite_2 rfl ?_
    refine r_aload_n F dX0_hasOpposite_3 rfl ?_
    refine r_get F dX0_hasOpposite_4 flX0_18 h42 rfl (e_le rfl) (e_lt hnx rfl) ?_
    refine r_icmp_ge F dX0_hasOpposite_7 (tgt := 32) (by decide) (fun hc => ?_) (fun hc => ?_)
    · have hz := e_t hc hz
      refine r_drop 0 (L' := [none, some (.int p0), some (.int v3)]) rfl ?_
      refine r_drop 1 (L' := [none, none, some (.int v3)]) rfl ?_
      refine r_drop 2 (L' := [none, none, none]) rfl ?_
      obtain rfl := Option.some.inj hz
      exact hx (.inl ()) rfl
    · have hz := e_f hc hz
      refine r_iload_n F dX0_hasOpposite_10 rfl ?_
      refine r_iload_n F dX0_hasOpposite_11 rfl ?_
      refine r_icmp_eq F dX0_hasOpposite_12 (tgt := 26) (by decide) (fun hc => ?_) (fun hc => ?_)
      · have hz := e_t hc hz
        refine r_inc F dX0_hasOpposite_26 (k9 := 1) (by decide) rfl (L' := [some (.ref 42), some (.int p0), some (.int (v3 + 1))]) rfl ?_
        refine r_goto F dX0_hasOpposite_29 (tgt := 2) (by decide) ?_
        obtain rfl := Option.some.inj hz
        exact ih (v3 + 1) rfl
      · have hz := e_f hc hz
        refine r_aload_n F dX0_hasOpposite_15 rfl ?_
        refine r_iload_n F dX0_hasOpposite_16 rfl ?_
        refine r_iload_n F dX0_hasOpposite_17 rfl ?_
        obtain ⟨q6, hq7, hz⟩ := e_bd hz
        refine r_callV F dX0_hasOpposite_18 (b := 42) (dc := 0) (ds := 0) (As := [.int p0, .int v3]) (S0 := []) lkX0_83 mX0_areOpposite (tX0_areOpposite_42 hG (la := x_l X) (h := e_up h []) hnx h42 h44 hq7) rfl rfl rfl (e_le rfl) (e_le rfl) (e_le rfl) h42 (ci := 0) e_cl0.1 rfl (e_le rfl) (e_lt hnx rfl) (Nat.zero_le _) (Nat.zero_le _) (e_k ?_)
        refine r_wr0 ?_
        refine r_z_eq F dX0_hasOpposite_21 (tgt := 26) (by decide) (fun hc => ?_) (fun hc => ?_)
        · have hz := e_t hc hz
          refine r_iconst F dX0_hasOpposite_24 (v := 1) (by decide) ?_
          obtain rfl := Option.some.inj hz
          have e9 := hx (.inr true) rfl
          subst e9
          exact r_zret F hq (v := true) dX0_hasOpposite_25 rfl rfl (Nat.le_refl _) (Nat.le_refl _) ⟨rfl, rfl⟩
        · have hz := e_f hc hz
          refine r_inc F dX0_hasOpposite_26 (k9 := 1) (by decide) rfl (L' := [some (.ref 42), some (.int p0), some (.int (v3 + 1))]) rfl ?_
          refine r_goto F dX0_hasOpposite_29 (tgt := 2) (by decide) ?_
          obtain rfl := Option.some.inj hz
          exact ih (v3 + 1) rfl
  · cases x4 with
    | inr r9 => exact Option.some.inj hf
    | inl x4e =>
      simp only [Sum.elim_inl] at hf
      show eRun G X 32 [none, none, none] [] h [] nx 0 0
      refine r_iconst F dX0_hasOpposite_32 (v := 0) (by decide) ?_
      obtain rfl := Option.some.inj hf
      exact r_zret F hq (v := false) dX0_hasOpposite_33 rfl rfl (Nat.le_refl _) (Nat.le_refl _) ⟨rfl, rfl⟩

def fX6_costToMeet (a42_0 : Int32) (A43 : Nat → Int32) (A44 : Nat → Int32) (p1 : Int32) (p2 : Int32) (p3 : Int32) : Option (Int32) :=
  (fX0_areOpposite a42_0 A44 p1 p2).bind (fun q1 =>
  if q1 = true then
    (fX0_wayOf a42_0 A44 p1).bind (fun q3 =>
    (fX0_placeOf a42_0 A43 p1 0).bind (fun q5 =>
    (fX0_placeOf a42_0 A43 p2 0).bind (fun q7 =>
    (fJ9_abs_0f7a4 (q5 - q7)).bind (fun q9 =>
    (fX6_costOfMove q3 0 p3).bind (fun q11 =>
    (fX0_placeOf a42_0 A43 p1 1).bind (fun q13 =>
    (fX0_placeOf a42_0 A43 p2 1).bind (fun q15 =>
    (fJ9_abs_0f7a4 (q13 - q15)).bind (fun q17 =>
    (fX6_costOfMove q3 1 p3).bind (fun q19 =>
    some ((q9 * q11) + (q17 * q19)))))))))))
  else
    some (-1))
set_option maxRecDepth 100000 in
theorem tX6_costToMeet_42 {G : eG} (hG : e_GS G) {la : Launch} {h : Nat → eO} {nx : Nat} (hnx : 99 ≤ nx) {a42_0 : Int32} {A43 : Nat → Int32} {A44 : Nat → Int32} {p1 : Int32} {p2 : Int32} {p3 : Int32} (h42 : h 42 = o42 a42_0) (h43 : h 43 = o43 A43) (h44 : h 44 = o44 A44) {R9 : Int32} (hf : fX6_costToMeet a42_0 A43 A44 p1 p2 p3 = some R9) :
    eSem G la MX6_costToMeet [.ref 42, .int p1, .int p2, .int p3] h nx 0 0 (fun r9 h9 => r9 = some (.int R9) ∧ h9 = h) := by
  refine eSem.of (k := 1) (L := [some (.ref 42), some (.int p1), some (.int p2), some (.int p3), none]) (by decide +kernel) rfl rfl (fun X F hxl hq hcR hsR => ?_)
  subst hxl
  unfold fX6_costToMeet at hf
  refine r_aload_n F dX6_costToMeet_0 rfl ?_
  refine r_iload_n F dX6_costToMeet_1 rfl ?_
  refine r_iload_n F dX6_costToMeet_2 rfl ?_
  obtain ⟨q1, hq2, hf⟩ := e_bd hf
  refine r_callV F dX6_costToMeet_3 (b := 42) (dc := 0) (ds := 0) (As := [.int p1, .int p2]) (S0 := []) lkX6_100 mX0_areOpposite (tX0_areOpposite_42 hG (la := x_l X) (h := e_up h []) hnx h42 h44 hq2) rfl rfl rfl (e_le rfl) (e_le rfl) (e_le rfl) h42 (ci := 0) e_cl0.1 rfl (e_le rfl) (e_lt hnx rfl) (Nat.zero_le _) (Nat.zero_le _) (e_k ?_)
  refine r_wr0 ?_
  refine r_z_ne F dX6_costToMeet_6 (tgt := 11) (by decide) (fun hc => ?_) (fun hc => ?_)
  · have hf := e_t hc hf
    refine r_aload_n F dX6_costToMeet_11 rfl ?_
    refine r_iload_n F dX6_costToMeet_12 rfl ?_
    obtain ⟨q3, hq4, hf⟩ := e_bd hf
    refine r_callV F dX6_costToMeet_13 (b := 42) (dc := 0) (ds := 0) (As := [.int p1]) (S0 := []) lkX6_72 mX0_wayOf (tX0_wayOf_42 hG (la := x_l X) (h := e_up h []) hnx h42 h44 hq4) rfl rfl rfl (e_le rfl) (e_le rfl) (e_le rfl) h42 (ci := 0) e_cl0.1 rfl (e_le rfl) (e_lt hnx rfl) (Nat.zero_le _) (Nat.zero_le _) (e_k ?_)
    refine r_wr0 ?_
    refine r_istore F dX6_costToMeet_16 (e_le rfl) (L' := [some (.ref 42), some (.int p1), some (.int p2), some (.int p3), some (.int q3)]) rfl ?_
    refine r_aload_n F dX6_costToMeet_18 rfl ?_
    refine r_iload_n F dX6_costToMeet_19 rfl ?_
    refine r_iconst F dX6_costToMeet_20 (v := 0) (by decide) ?_
    obtain ⟨q5, hq6, hf⟩ := e_bd hf
    refine r_callV F dX6_costToMeet_21 (b := 42) (dc := 0) (ds := 0) (As := [.int p1, .int 0]) (S0 := []) lkX6_75 mX0_placeOf (tX0_placeOf_42 hG (la := x_l X) (h := e_up h []) hnx h42 h43 hq6) rfl rfl rfl (e_le rfl) (e_le rfl) (e_le rfl) h42 (ci := 0) e_cl0.1 rfl (e_le rfl) (e_lt hnx rfl) (Nat.zero_le _) (Nat.zero_le _) (e_k ?_)
    refine r_wr0 ?_
    refine r_aload_n F dX6_costToMeet_24 rfl ?_
    refine r_iload_n F dX6_costToMeet_25 rfl ?_
    refine r_iconst F dX6_costToMeet_26 (v := 0) (by decide) ?_
    obtain ⟨q7, hq8, hf⟩ := e_bd hf
    refine r_callV F dX6_costToMeet_27 (b := 42) (dc := 0) (ds := 0) (As := [.int p2, .int 0]) (S0 := [.int q5]) lkX6_75 mX0_placeOf (tX0_placeOf_42 hG (la := x_l X) (h := e_up h []) hnx h42 h43 hq8) rfl rfl rfl (e_le rfl) (e_le rfl) (e_le rfl) h42 (ci := 0) e_cl0.1 rfl (e_le rfl) (e_lt hnx rfl) (Nat.zero_le _) (Nat.zero_le _) (e_k ?_)
    refine r_wr0 ?_
    refine r_isub F dX6_costToMeet_30 ?_
    obtain ⟨q9, hq10, hf⟩ := e_bd hf
    refine r_callS F dX6_costToMeet_31 (dc := 0) (ds := 0) (As := [.int (q5 - q7)]) (S0 := []) lkX6_104 mJ9_abs_0f7a4 (tJ9_abs_0f7a4 hG (la := x_l X) (h := e_up h []) hnx  hq10) rfl rfl rfl (e_le rfl) (e_le rfl) (e_le rfl) (Nat.zero_le _) (Nat.zero_le _) (e_k ?_)
    refine r_wr0 ?_
    refine r_iload F dX6_costToMeet_34 rfl ?_
    refine r_iconst F dX6_costToMeet_36 (v := 0) (by decide) ?_
    refine r_iload_n F dX6_costToMeet_37 rfl ?_
    obtain ⟨q11, hq12, hf⟩ := e_bd hf
    refine r_callS F dX6_costToMeet_38 (dc := 0) (ds := 0) (As := [.int q3, .int 0, .int p3]) (S0 := [.int q9]) lkX6_96 mX6_costOfMove (tX6_costOfMove hG (la := x_l X) (h := e_up h []) hnx  hq12) rfl rfl rfl (e_le rfl) (e_le rfl) (e_le rfl) (Nat.zero_le _) (Nat.zero_le _) (e_k ?_)
    refine r_wr0 ?_
    refine r_imul F dX6_costToMeet_41 ?_
    refine r_aload_n F dX6_costToMeet_42 rfl ?_
    refine r_iload_n F dX6_costToMeet_43 rfl ?_
    refine r_iconst F dX6_costToMeet_44 (v := 1) (by decide) ?_
    obtain ⟨q13, hq14, hf⟩ := e_bd hf
    refine r_callV F dX6_costToMeet_45 (b := 42) (dc := 0) (ds := 0) (As := [.int p1, .int 1]) (S0 := [.int (q9 * q11)]) lkX6_75 mX0_placeOf (tX0_placeOf_42 hG (la := x_l X) (h := e_up h []) hnx h42 h43 hq14) rfl rfl rfl (e_le rfl) (e_le rfl) (e_le rfl) h42 (ci := 0) e_cl0.1 rfl (e_le rfl) (e_lt hnx rfl) (Nat.zero_le _) (Nat.zero_le _) (e_k ?_)
    refine r_wr0 ?_
    refine r_aload_n F dX6_costToMeet_48 rfl ?_
    refine r_iload_n F dX6_costToMeet_49 rfl ?_
    refine r_iconst F dX6_costToMeet_50 (v := 1) (by decide) ?_
    obtain ⟨q15, hq16, hf⟩ := e_bd hf
    refine r_callV F dX6_costToMeet_51 (b := 42) (dc := 0) (ds := 0) (As := [.int p2, .int 1]) (S0 := [.int q13, .int (q9 * q11)]) lkX6_75 mX0_placeOf (tX0_placeOf_42 hG (la := x_l X) (h := e_up h []) hnx h42 h43 hq16) rfl rfl rfl (e_le rfl) (e_le rfl) (e_le rfl) h42 (ci := 0) e_cl0.1 rfl (e_le rfl) (e_lt hnx rfl) (Nat.zero_le _) (Nat.zero_le _) (e_k ?_)
    refine r_wr0 ?_
    refine r_isub F dX6_costToMeet_54 ?_
    obtain ⟨q17, hq18, hf⟩ := e_bd hf
    refine r_callS F dX6_costToMeet_55 (dc := 0) (ds := 0) (As := [.int (q13 - q15)]) (S0 := [.int (q9 * q11)]) lkX6_104 mJ9_abs_0f7a4 (tJ9_abs_0f7a4 hG (la := x_l X) (h := e_up h []) hnx  hq18) rfl rfl rfl (e_le rfl) (e_le rfl) (e_le rfl) (Nat.zero_le _) (Nat.zero_le _) (e_k ?_)
    refine r_wr0 ?_
    refine r_iload F dX6_costToMeet_58 rfl ?_
    refine r_iconst F dX6_costToMeet_60 (v := 1) (by decide) ?_
    refine r_iload_n F dX6_costToMeet_61 rfl ?_
    obtain ⟨q19, hq20, hf⟩ := e_bd hf
    refine r_callS F dX6_costToMeet_62 (dc := 0) (ds := 0) (As := [.int q3, .int 1, .int p3]) (S0 := [.int q17, .int (q9 * q11)]) lkX6_96 mX6_costOfMove (tX6_costOfMove hG (la := x_l X) (h := e_up h []) hnx  hq20) rfl rfl rfl (e_le rfl) (e_le rfl) (e_le rfl) (Nat.zero_le _) (Nat.zero_le _) (e_k ?_)
    refine r_wr0 ?_
    refine r_imul F dX6_costToMeet_65 ?_
    refine r_iadd F dX6_costToMeet_66 ?_
    obtain rfl := Option.some.inj hf
    exact r_iret F hq dX6_costToMeet_67 rfl rfl (Nat.le_refl _) (Nat.le_refl _) ⟨rfl, rfl⟩
  · have hf := e_f hc hf
    refine r_iconst F dX6_costToMeet_9 (v := (-1)) (by decide) ?_
    obtain rfl := Option.some.inj hf
    exact r_iret F hq dX6_costToMeet_10 rfl rfl (Nat.le_refl _) (Nat.le_refl _) ⟨rfl, rfl⟩

def fX6_weigh (a40_0 : Int32) (a40_1 : Int32) (a42_0 : Int32) (a66_0 : Int32) (a66_4 : Int32) (A43 : Nat → Int32) (A44 : Nat → Int32) (A67 : Nat → Int32) (A68 : Nat → Int32) (A69 : Nat → Int32) (A70 : Nat → Int32) (p1 : Int32) : Option (Int32 × Int32 × (Nat → Int32) × (Nat → Int32) × (Nat → Int32) × (Nat → Int32)) :=
  (e_loop (fun (v3 : Int32 × Int32 × Int32 × (Nat → Int32) × (Nat → Int32) × (Nat → Int32)) => (
      if a42_0 ≤ v3.1 then
        some (.inr (v3.2.1, v3.2.2.1, v3.2.2.2.1, v3.2.2.2.2.1, v3.2.2.2.2.2))
      else
        if 12 ≤ v3.1 then
          some (.inr (v3.2.1, v3.2.2.1, v3.2.2.2.1, v3.2.2.2.2.1, v3.2.2.2.2.2))
        else
          e_g (e_in v3.1 12) (
          (fX6_costToLeave a40_0 a40_1 a42_0 A43 A44 v3.1 p1).bind (fun q6 =>
          e_g (e_in v3.1 12) (
          (fX0_hasOpposite a42_0 A44 v3.1).bind (fun q8 =>
          Option.bind (α := Int32 × Int32 × (Nat → Int32)) (
            if q8 = true then
              if 12 ≤ v3.2.2.1 then
                e_g (e_in v3.1 12) (
                some (v3.2.1 + ((upd v3.2.2.2.2.1 (tn v3.1) q6) (tn v3.1)), v3.2.2.1, v3.2.2.2.2.2))
              else
                e_g (e_in v3.2.2.1 12) (
                some (v3.2.1, v3.2.2.1 + 1, upd v3.2.2.2.2.2 (tn v3.2.2.1) v3.1))
            else
              e_g (e_in v3.1 12) (
              some (v3.2.1 + ((upd v3.2.2.2.2.1 (tn v3.1) q6) (tn v3.1)), v3.2.2.1, v3.2.2.2.2.2))) (fun q10 =>
          some (.inl (v3.1 + 1, q10.1, q10.2.1, upd v3.2.2.2.1 (tn v3.1) v3.1, upd v3.2.2.2.2.1 (tn v3.1) q6, q10.2.2))))))) : Option ((Int32 × Int32 × Int32 × (Nat → Int32) × (Nat → Int32) × (Nat → Int32)) ⊕ (Int32 × Int32 × (Nat → Int32) × (Nat → Int32) × (Nat → Int32))))) e_fuel (0, 0, 0, A67, A68, A69)).bind (fun x4 =>
  (e_loop (fun (v14 : Int32 × (Nat → Int32)) => (
      if x4.2.1 ≤ v14.1 then
        some (.inr v14.2)
      else
        (e_loop (fun (v19 : Int32 × (Nat → Int32)) => (
            if x4.2.1 ≤ v19.1 then
              some (.inr v19.2)
            else
              e_g (e_in v14.1 12) (
              e_g (e_in v19.1 12) (
              (fX6_costToMeet a42_0 A43 A44 (x4.2.2.2.2 (tn v14.1)) (x4.2.2.2.2 (tn v19.1)) p1).bind (fun q22 =>
              e_g (e_in (((12 : Int32) * v14.1) + v19.1) 144) (
              some (.inl (v19.1 + 1, upd v19.2 (tn (((12 : Int32) * v14.1) + v19.1)) q22)))))) : Option ((Int32 × (Nat → Int32)) ⊕ ((Nat → Int32))))) e_fuel (v14.1 + 1, v14.2)).bind (fun x20 =>
        some (.inl (v14.1 + 1, x20))) : Option ((Int32 × (Nat → Int32)) ⊕ ((Nat → Int32))))) e_fuel (0, A70)).bind (fun x15 =>
  some (x4.1, x4.2.1, x4.2.2.1, x4.2.2.2.1, x4.2.2.2.2, x15)))
set_option maxRecDepth 100000 in
theorem tX6_weigh_66_39 {G : eG} (hG : e_GS G) {la : Launch} {h : Nat → eO} {nx : Nat} (hnx : 99 ≤ nx) {a40_0 : Int32} {a40_1 : Int32} {a42_0 : Int32} {A43 : Nat → Int32} {A44 : Nat → Int32} {a66_0 : Int32} {a66_4 : Int32} {a66_6 : Nat} {A67 : Nat → Int32} {A68 : Nat → Int32} {A69 : Nat → Int32} {A70 : Nat → Int32} {p1 : Int32} (h39 : h 39 = o39) (h40 : h 40 = o40 a40_0 a40_1) (h42 : h 42 = o42 a42_0) (h43 : h 43 = o43 A43) (h44 : h 44 = o44 A44) (h66 : h 66 = o66 a66_0 a66_4 a66_6) (h67 : h 67 = o67 A67) (h68 : h 68 = o68 A68) (h69 : h 69 = o69 A69) (h70 : h 70 = o70 A70) {R9 : Int32 × Int32 × (Nat → Int32) × (Nat → Int32) × (Nat → Int32) × (Nat → Int32)} (hf : fX6_weigh a40_0 a40_1 a42_0 a66_0 a66_4 A43 A44 A67 A68 A69 A70 p1 = some R9) :
    eSem G la MX6_weigh [.ref 66, .ref 39, .int p1] h nx 0 0 (fun r9 h9 => r9 = none ∧ h9 = e_up h [(66, o66 R9.1 R9.2.1 a66_6), (67, o67 R9.2.2.1), (68, o68 R9.2.2.2.1), (69, o69 R9.2.2.2.2.1), (70, o70 R9.2.2.2.2.2)]) := by
  refine eSem.of (k := 3) (L := [some (.ref 66), some (.ref 39), some (.int p1), none, none, none]) (by decide +kernel) rfl rfl (fun X F hxl hq hcR hsR => ?_)
  subst hxl
  unfold fX6_weigh at hf
  refine r_aload_n F dX6_weigh_0 rfl ?_
  refine r_get F dX6_weigh_1 flX6_49 h39 rfl (e_le rfl) (e_lt hnx rfl) ?_
  refine r_astore_n F dX6_weigh_4 (e_le rfl) (L' := [some (.ref 66), some (.ref 39), some (.int p1), some (.ref 42), none, none]) rfl ?_
  refine r_aload_n F dX6_weigh_5 rfl ?_
  refine r_iconst F dX6_weigh_6 (v := 0) (by decide) ?_
  refine r_put F dX6_weigh_7 flX6_38 rfl rfl rfl h66 (e_le rfl) (e_le rfl) (e_lt hnx rfl) (l' := [(66, o66 0 a66_4 a66_6)]) rfl ?_
  refine r_aload_n F dX6_weigh_10 rfl ?_
  refine r_iconst F dX6_weigh_11 (v := 0) (by decide) ?_
  refine r_put F dX6_weigh_12 flX6_34 rfl rfl rfl rfl (e_le rfl) (e_le rfl) (e_lt hnx rfl) (l' := [(66, o66 0 0 a66_6)]) rfl ?_
  refine r_iconst F dX6_weigh_15 (v := 0) (by decide) ?_
  refine r_istore F dX6_weigh_16 (e_le rfl) (L' := [some (.ref 66), some (.ref 39), some (.int p1), some (.ref 42), some (.int 0), none]) rfl ?_
  refine r_mat (k := 67) h67 (l' := [(66, o66 0 0 a66_6), (67, o67 A67)]) rfl ?_
  refine r_mat (k := 68) h68 (l' := [(66, o66 0 0 a66_6), (67, o67 A67), (68, o68 A68)]) rfl ?_
  refine r_mat (k := 69) h69 (l' := [(66, o66 0 0 a66_6), (67, o67 A67), (68, o68 A68), (69, o69 A69)]) rfl ?_
  obtain ⟨x4, hx5, hf⟩ := e_bd hf
  refine (e_loop_ok (P := fun (v3 : Int32 × Int32 × Int32 × (Nat → Int32) × (Nat → Int32) × (Nat → Int32)) => eRun G X 18 [some (.ref 66), some (.ref 39), some (.int p1), some (.ref 42), some (.int v3.1), none] [] h [(66, o66 v3.2.1 v3.2.2.1 a66_6), (67, o67 v3.2.2.2.1), (68, o68 v3.2.2.2.2.1), (69, o69 v3.2.2.2.2.2)] nx 0 0) (K := fun (x4 : Int32 × Int32 × (Nat → Int32) × (Nat → Int32) × (Nat → Int32)) => eRun G X 121 [some (.ref 66), none, some (.int p1), some (.ref 42), none, none] [] h [(66, o66 x4.1 x4.2.1 a66_6), (67, o67 x4.2.2.1), (68, o68 x4.2.2.2.1), (69, o69 x4.2.2.2.2)] nx 0 0) ?_ e_fuel (0, 0, 0, A67, A68, A69) x4 hx5 ?_ : _)
  · intro v3 z hz ih hx
    refine r_iload F dX6_weigh_18 rfl ?_
    refine r_aload_n F dX6_weigh_20 rfl ?_
    refine r_get F dX6_weigh_21 flX6_55 h42 rfl (e_le rfl) (e_lt hnx rfl) ?_
    refine r_icmp_ge F dX6_weigh_24 (tgt := 121) (by decide) (fun hc => ?_) (fun hc => ?_)
    · have hz := e_t hc hz
      refine r_drop 1 (L' := [some (.ref 66), none, some (.int p1), some (.ref 42), some (.int v3.1), none]) rfl ?_
      refine r_drop 4 (L' := [some (.ref 66), none, some (.int p1), some (.ref 42), none, none]) rfl ?_
      obtain rfl := Option.some.inj hz
      exact hx (v3.2.1, v3.2.2.1, v3.2.2.2.1, v3.2.2.2.2.1, v3.2.2.2.2.2) rfl
    · have hz := e_f hc hz
      refine r_iload F dX6_weigh_27 rfl ?_
      refine r_bipush F dX6_weigh_29 (v := 12) (by decide) ?_
      refine r_icmp_ge F dX6_weigh_31 (tgt := 121) (by decide) (fun hc => ?_) (fun hc => ?_)
      · have hz := e_t hc hz
        refine r_drop 1 (L' := [some (.ref 66), none, some (.int p1), some (.ref 42), some (.int v3.1), none]) rfl ?_
        refine r_drop 4 (L' := [some (.ref 66), none, some (.int p1), some (.ref 42), none, none]) rfl ?_
        obtain rfl := Option.some.inj hz
        exact hx (v3.2.1, v3.2.2.1, v3.2.2.2.1, v3.2.2.2.2.1, v3.2.2.2.2.2) rfl
      · have hz := e_f hc hz
        refine r_aload_n F dX6_weigh_34 rfl ?_
        refine r_get F dX6_weigh_35 flX6_9 rfl rfl (e_le rfl) (e_lt hnx rfl) ?_
        refine r_iload F dX6_weigh_38 rfl ?_
        refine r_iload F dX6_weigh_40 rfl ?_
        obtain ⟨hg, hz⟩ := e_gd hz
        refine r_iast F dX6_weigh_42 rfl (e_le rfl) (e_lt hnx rfl) (e_vp hg) (l' := [(66, o66 v3.2.1 v3.2.2.1 a66_6), (67, o67 (upd v3.2.2.2.1 (tn v3.1) v3.1)), (68, o68 v3.2.2.2.2.1), (69, o69 v3.2.2.2.2.2)]) rfl ?_
        refine r_aload_n F dX6_weigh_43 rfl ?_
        refine r_get F dX6_weigh_44 flX6_15 rfl rfl (e_le rfl) (e_lt hnx rfl) ?_
        refine r_iload F dX6_weigh_47 rfl ?_
        refine r_aload_n F dX6_weigh_49 rfl ?_
        refine r_iload F dX6_weigh_50 rfl ?_
        refine r_iload_n F dX6_weigh_52 rfl ?_
        obtain ⟨q6, hq7, hz⟩ := e_bd hz
        refine r_callS F dX6_weigh_53 (dc := 0) (ds := 0) (As := [.ref 39, .int v3.1, .int p1]) (S0 := [.int v3.1, .ref 68]) lkX6_60 mX6_costToLeave (tX6_costToLeave_39 hG (la := x_l X) (h := e_up h [(66, o66 v3.2.1 v3.2.2.1 a66_6), (67, o67 (upd v3.2.2.2.1 (tn v3.1) v3.1)), (68, o68 v3.2.2.2.2.1), (69, o69 v3.2.2.2.2.2)]) hnx h39 h40 h42 h43 h44 hq7) rfl rfl rfl (e_le rfl) (e_le rfl) (e_le rfl) (Nat.zero_le _) (Nat.zero_le _) (e_k ?_)
        refine r_wr0 ?_
        obtain ⟨hg, hz⟩ := e_gd hz
        refine r_iast F dX6_weigh_56 rfl (e_le rfl) (e_lt hnx rfl) (e_vp hg) (l' := [(66, o66 v3.2.1 v3.2.2.1 a66_6), (67, o67 (upd v3.2.2.2.1 (tn v3.1) v3.1)), (68, o68 (upd v3.2.2.2.2.1 (tn v3.1) q6)), (69, o69 v3.2.2.2.2.2)]) rfl ?_
        refine r_aload_n F dX6_weigh_57 rfl ?_
        refine r_iload F dX6_weigh_58 rfl ?_
        obtain ⟨q8, hq9, hz⟩ := e_bd hz
        refine r_callV F dX6_weigh_60 (b := 42) (dc := 0) (ds := 0) (As := [.int v3.1]) (S0 := []) lkX6_64 mX0_hasOpposite (tX0_hasOpposite_42 hG (la := x_l X) (h := e_up h [(66, o66 v3.2.1 v3.2.2.1 a66_6), (67, o67 (upd v3.2.2.2.1 (tn v3.1) v3.1)), (68, o68 (upd v3.2.2.2.2.1 (tn v3.1) q6)), (69, o69 v3.2.2.2.2.2)]) hnx h42 h44 hq9) rfl rfl rfl (e_le rfl) (e_le rfl) (e_le rfl) h42 (ci := 0) e_cl0.1 rfl (e_le rfl) (e_lt hnx rfl) (Nat.zero_le _) (Nat.zero_le _) (e_k ?_)
        refine r_wr0 ?_
        obtain ⟨q10, hq11, hz⟩ := e_bd hz
        have Jq10 : eRun G X 115 [some (.ref 66), some (.ref 39), some (.int p1), some (.ref 42), some (.int v3.1), none] [] h [(66, o66 q10.1 q10.2.1 a66_6), (67, o67 (upd v3.2.2.2.1 (tn v3.1) v3.1)), (68, o68 (upd v3.2.2.2.2.1 (tn v3.1) q6)), (69, o69 q10.2.2)] nx 0 0 := by
          refine r_inc F dX6_weigh_115 (k9 := 1) (by decide) rfl (L' := [some (.ref 66), some (.ref 39), some (.int p1), some (.ref 42), some (.int (v3.1 + 1)), none]) rfl ?_
          refine r_goto F dX6_weigh_118 (tgt := 18) (by decide) ?_
          obtain rfl := Option.some.inj hz
          exact ih (v3.1 + 1, q10.1, q10.2.1, upd v3.2.2.2.1 (tn v3.1) v3.1, upd v3.2.2.2.2.1 (tn v3.1) q6, q10.2.2) rfl
        refine r_z_eq F dX6_weigh_63 (tgt := 99) (by decide) (fun hc => ?_) (fun hc => ?_)
        · have hq11 := e_t hc hq11
          refine r_aload_n F dX6_weigh_66 rfl ?_
          refine r_get F dX6_weigh_67 flX6_34 rfl rfl (e_le rfl) (e_lt hnx rfl) ?_
          refine r_bipush F dX6_weigh_70 (v := 12) (by decide) ?_
          refine r_icmp_ge F dX6_weigh_72 (tgt := 99) (by decide) (fun hc => ?_) (fun hc => ?_)
          · have hq11 := e_t hc hq11
            refine r_aload_n F dX6_weigh_99 rfl ?_
            refine r_dup F dX6_weigh_100 rfl ?_
            refine r_get F dX6_weigh_101 flX6_38 rfl rfl (e_le rfl) (e_lt hnx rfl) ?_
            refine r_aload_n F dX6_weigh_104 rfl ?_
            refine r_get F dX6_weigh_105 flX6_15 rfl rfl (e_le rfl) (e_lt hnx rfl) ?_
            refine r_iload F dX6_weigh_108 rfl ?_
            obtain ⟨hg, hq11⟩ := e_gd hq11
            refine r_iald F dX6_weigh_110 (i := v3.1) rfl (e_le rfl) (e_lt hnx rfl) (e_vp hg) ?_
            refine r_iadd F dX6_weigh_111 ?_
            refine r_put F dX6_weigh_112 flX6_38 rfl rfl rfl rfl (e_le rfl) (e_le rfl) (e_lt hnx rfl) (l' := [(66, o66 (v3.2.1 + ((upd v3.2.2.2.2.1 (tn v3.1) q6) (tn v3.1))) v3.2.2.1 a66_6), (67, o67 (upd v3.2.2.2.1 (tn v3.1) v3.1)), (68, o68 (upd v3.2.2.2.2.1 (tn v3.1) q6)), (69, o69 v3.2.2.2.2.2)]) rfl ?_
            obtain rfl := Option.some.inj hq11
            exact Jq10
          · have hq11 := e_f hc hq11
            refine r_aload_n F dX6_weigh_75 rfl ?_
            refine r_get F dX6_weigh_76 flX6_18 rfl rfl (e_le rfl) (e_lt hnx rfl) ?_
            refine r_aload_n F dX6_weigh_79 rfl ?_
            refine r_get F dX6_weigh_80 flX6_34 rfl rfl (e_le rfl) (e_lt hnx rfl) ?_
            refine r_iload F dX6_weigh_83 rfl ?_
            obtain ⟨hg, hq11⟩ := e_gd hq11
            refine r_iast F dX6_weigh_85 rfl (e_le rfl) (e_lt hnx rfl) (e_vp hg) (l' := [(66, o66 v3.2.1 v3.2.2.1 a66_6), (67, o67 (upd v3.2.2.2.1 (tn v3.1) v3.1)), (68, o68 (upd v3.2.2.2.2.1 (tn v3.1) q6)), (69, o69 (upd v3.2.2.2.2.2 (tn v3.2.2.1) v3.1))]) rfl ?_
            refine r_aload_n F dX6_weigh_86 rfl ?_
            refine r_dup F dX6_weigh_87 rfl ?_
            refine r_get F dX6_weigh_88 flX6_34 rfl rfl (e_le rfl) (e_lt hnx rfl) ?_
            refine r_iconst F dX6_weigh_91 (v := 1) (by decide) ?_
            refine r_iadd F dX6_weigh_92 ?_
            refine r_put F dX6_weigh_93 flX6_34 rfl rfl rfl rfl (e_le rfl) (e_le rfl) (e_lt hnx rfl) (l' := [(66, o66 v3.2.1 (v3.2.2.1 + 1) a66_6), (67, o67 (upd v3.2.2.2.1 (tn v3.1) v3.1)), (68, o68 (upd v3.2.2.2.2.1 (tn v3.1) q6)), (69, o69 (upd v3.2.2.2.2.2 (tn v3.2.2.1) v3.1))]) rfl ?_
            refine r_goto F dX6_weigh_96 (tgt := 115) (by decide) ?_
            obtain rfl := Option.some.inj hq11
            exact Jq10
        · have hq11 := e_f hc hq11
          refine r_aload_n F dX6_weigh_99 rfl ?_
          refine r_dup F dX6_weigh_100 rfl ?_
          refine r_get F dX6_weigh_101 flX6_38 rfl rfl (e_le rfl) (e_lt hnx rfl) ?_
          refine r_aload_n F dX6_weigh_104 rfl ?_
          refine r_get F dX6_weigh_105 flX6_15 rfl rfl (e_le rfl) (e_lt hnx rfl) ?_
          refine r_iload F dX6_weigh_108 rfl ?_
          obtain ⟨hg, hq11⟩ := e_gd hq11
          refine r_iald F dX6_weigh_110 (i := v3.1) rfl (e_le rfl) (e_lt hnx rfl) (e_vp hg) ?_
          refine r_iadd F dX6_weigh_111 ?_
          refine r_put F dX6_weigh_112 flX6_38 rfl rfl rfl rfl (e_le rfl) (e_le rfl) (e_lt hnx rfl) (l' := [(66, o66 (v3.2.1 + ((upd v3.2.2.2.2.1 (tn v3.1) q6) (tn v3.1))) v3.2.2.1 a66_6), (67, o67 (upd v3.2.2.2.1 (tn v3.1) v3.1)), (68, o68 (upd v3.2.2.2.2.1 (tn v3.1) q6)), (69, o69 v3.2.2.2.2.2)]) rfl ?_
          obtain rfl := Option.some.inj hq11
          exact Jq10
  · show eRun G X 121 [some (.ref 66), none, some (.int p1), some (.ref 42), none, none] [] h [(66, o66 x4.1 x4.2.1 a66_6), (67, o67 x4.2.2.1), (68, o68 x4.2.2.2.1), (69, o69 x4.2.2.2.2)] nx 0 0
    refine r_iconst F dX6_weigh_121 (v := 0) (by decide) ?_
    refine r_istore F dX6_weigh_122 (e_le rfl) (L' := [some (.ref 66), none, some (.int p1), some (.ref 42), some (.int 0), none]) rfl ?_
    refine r_mat (k := 70) h70 (l' := [(66, o66 x4.1 x4.2.1 a66_6), (67, o67 x4.2.2.1), (68, o68 x4.2.2.2.1), (69, o69 x4.2.2.2.2), (70, o70 A70)]) rfl ?_
    obtain ⟨x15, hx16, hf⟩ := e_bd hf
    refine (e_loop_ok (P := fun (v14 : Int32 × (Nat → Int32)) => eRun G X 124 [some (.ref 66), none, some (.int p1), some (.ref 42), some (.int v14.1), none] [] h [(66, o66 x4.1 x4.2.1 a66_6), (67, o67 x4.2.2.1), (68, o68 x4.2.2.2.1), (69, o69 x4.2.2.2.2), (70, o70 v14.2)] nx 0 0) (K := fun (x15 : (Nat → Int32)) => eRun G X 192 [none, none, none, none, none, none] [] h [(66, o66 x4.1 x4.2.1 a66_6), (67, o67 x4.2.2.1), (68, o68 x4.2.2.2.1), (69, o69 x4.2.2.2.2), (70, o70 x15)] nx 0 0) ?_ e_fuel (0, A70) x15 hx16 ?_ : _)
    · intro v14 z hz ih hx
      refine r_iload F dX6_weigh_124 rfl ?_
      refine r_aload_n F dX6_weigh_126 rfl ?_
      refine r_get F dX6_weigh_127 flX6_34 rfl rfl (e_le rfl) (e_lt hnx rfl) ?_
      refine r_icmp_ge F dX6_weigh_130 (tgt := 192) (by decide) (fun hc => ?_) (fun hc => ?_)
      · have hz := e_t hc hz
        refine r_drop 0 (L' := [none, none, some (.int p1), some (.ref 42), some (.int v14.1), none]) rfl ?_
        refine r_drop 2 (L' := [none, none, none, some (.ref 42), some (.int v14.1), none]) rfl ?_
        refine r_drop 3 (L' := [none, none, none, none, some (.int v14.1), none]) rfl ?_
        refine r_drop 4 (L' := [none, none, none, none, none, none]) rfl ?_
        obtain rfl := Option.some.inj hz
        exact hx v14.2 rfl
      · have hz := e_f hc hz
        refine r_iload F dX6_weigh_133 rfl ?_
        refine r_iconst F dX6_weigh_135 (v := 1) (by decide) ?_
        refine r_iadd F dX6_weigh_136 ?_
        refine r_istore F dX6_weigh_137 (e_le rfl) (L' := [some (.ref 66), none, some (.int p1), some (.ref 42), some (.int v14.1), some (.int (v14.1 + 1))]) rfl ?_
        obtain ⟨x20, hx21, hz⟩ := e_bd hz
        refine (e_loop_ok (P := fun (v19 : Int32 × (Nat → Int32)) => eRun G X 139 [some (.ref 66), none, some (.int p1), some (.ref 42), some (.int v14.1), some (.int v19.1)] [] h [(66, o66 x4.1 x4.2.1 a66_6), (67, o67 x4.2.2.1), (68, o68 x4.2.2.2.1), (69, o69 x4.2.2.2.2), (70, o70 v19.2)] nx 0 0) (K := fun (x20 : (Nat → Int32)) => eRun G X 186 [some (.ref 66), none, some (.int p1), some (.ref 42), some (.int v14.1), none] [] h [(66, o66 x4.1 x4.2.1 a66_6), (67, o67 x4.2.2.1), (68, o68 x4.2.2.2.1), (69, o69 x4.2.2.2.2), (70, o70 x20)] nx 0 0) ?_ e_fuel (v14.1 + 1, v14.2) x20 hx21 ?_ : _)
        · intro v19 z hz ih hx
          refine r_iload F dX6_weigh_139 rfl ?_
          refine r_aload_n F dX6_weigh_141 rfl ?_
          refine r_get F dX6_weigh_142 flX6_34 rfl rfl (e_le rfl) (e_lt hnx rfl) ?_
          refine r_icmp_ge F dX6_weigh_145 (tgt := 186) (by decide) (fun hc => ?_) (fun hc => ?_)
          · have hz := e_t hc hz
            refine r_drop 5 (L' := [some (.ref 66), none, some (.int p1), some (.ref 42), some (.int v14.1), none]) rfl ?_
            obtain rfl := Option.some.inj hz
            exact hx v19.2 rfl
          · have hz := e_f hc hz
            refine r_aload_n F dX6_weigh_148 rfl ?_
            refine r_get F dX6_weigh_149 flX6_21 rfl rfl (e_le rfl) (e_lt hnx rfl) ?_
            refine r_bipush F dX6_weigh_152 (v := 12) (by decide) ?_
            refine r_iload F dX6_weigh_154 rfl ?_
            refine r_imul F dX6_weigh_156 ?_
            refine r_iload F dX6_weigh_157 rfl ?_
            refine r_iadd F dX6_weigh_159 ?_
            refine r_aload_n F dX6_weigh_160 rfl ?_
            refine r_aload_n F dX6_weigh_161 rfl ?_
            refine r_get F dX6_weigh_162 flX6_18 rfl rfl (e_le rfl) (e_lt hnx rfl) ?_
            refine r_iload F dX6_weigh_165 rfl ?_
            obtain ⟨hg, hz⟩ := e_gd hz
            refine r_iald F dX6_weigh_167 (i := v14.1) rfl (e_le rfl) (e_lt hnx rfl) (e_vp hg) ?_
            refine r_aload_n F dX6_weigh_168 rfl ?_
            refine r_get F dX6_weigh_169 flX6_18 rfl rfl (e_le rfl) (e_lt hnx rfl) ?_
            refine r_iload F dX6_weigh_172 rfl ?_
            obtain ⟨hg, hz⟩ := e_gd hz
            refine r_iald F dX6_weigh_174 (i := v19.1) rfl (e_le rfl) (e_lt hnx rfl) (e_vp hg) ?_
            refine r_iload_n F dX6_weigh_175 rfl ?_
            obtain ⟨q22, hq23, hz⟩ := e_bd hz
            refine r_callS F dX6_weigh_176 (dc := 0) (ds := 0) (As := [.ref 42, .int (x4.2.2.2.2 (tn v14.1)), .int (x4.2.2.2.2 (tn v19.1)), .int p1]) (S0 := [.int (((12 : Int32) * v14.1) + v19.1), .ref 70]) lkX6_68 mX6_costToMeet (tX6_costToMeet_42 hG (la := x_l X) (h := e_up h [(66, o66 x4.1 x4.2.1 a66_6), (67, o67 x4.2.2.1), (68, o68 x4.2.2.2.1), (69, o69 x4.2.2.2.2), (70, o70 v19.2)]) hnx h42 h43 h44 hq23) rfl rfl rfl (e_le rfl) (e_le rfl) (e_le rfl) (Nat.zero_le _) (Nat.zero_le _) (e_k ?_)
            refine r_wr0 ?_
            obtain ⟨hg, hz⟩ := e_gd hz
            refine r_iast F dX6_weigh_179 rfl (e_le rfl) (e_lt hnx rfl) (e_vp hg) (l' := [(66, o66 x4.1 x4.2.1 a66_6), (67, o67 x4.2.2.1), (68, o68 x4.2.2.2.1), (69, o69 x4.2.2.2.2), (70, o70 (upd v19.2 (tn (((12 : Int32) * v14.1) + v19.1)) q22))]) rfl ?_
            refine r_inc F dX6_weigh_180 (k9 := 1) (by decide) rfl (L' := [some (.ref 66), none, some (.int p1), some (.ref 42), some (.int v14.1), some (.int (v19.1 + 1))]) rfl ?_
            refine r_goto F dX6_weigh_183 (tgt := 139) (by decide) ?_
            obtain rfl := Option.some.inj hz
            exact ih (v19.1 + 1, upd v19.2 (tn (((12 : Int32) * v14.1) + v19.1)) q22) rfl
        · show eRun G X 186 [some (.ref 66), none, some (.int p1), some (.ref 42), some (.int v14.1), none] [] h [(66, o66 x4.1 x4.2.1 a66_6), (67, o67 x4.2.2.1), (68, o68 x4.2.2.2.1), (69, o69 x4.2.2.2.2), (70, o70 x20)] nx 0 0
          refine r_inc F dX6_weigh_186 (k9 := 1) (by decide) rfl (L' := [some (.ref 66), none, some (.int p1), some (.ref 42), some (.int (v14.1 + 1)), none]) rfl ?_
          refine r_goto F dX6_weigh_189 (tgt := 124) (by decide) ?_
          obtain rfl := Option.some.inj hz
          exact ih (v14.1 + 1, x20) rfl
    · show eRun G X 192 [none, none, none, none, none, none] [] h [(66, o66 x4.1 x4.2.1 a66_6), (67, o67 x4.2.2.1), (68, o68 x4.2.2.2.1), (69, o69 x4.2.2.2.2), (70, o70 x15)] nx 0 0
      obtain rfl := Option.some.inj hf
      exact r_vret F hq dX6_weigh_192 rfl rfl (Nat.le_refl _) (Nat.le_refl _) ⟨rfl, rfl⟩

def fX6_leastOf (a66_6 : Nat) (LE : Nat → Int32) (nl : Nat) (p0 : Int32) : Option (Int32) :=
  if p0 ≤ 0 then
    some 0
  else
    if (Int32.ofNat nl) ≤ p0 then
      some 0
    else
      e_g (e_in p0 nl) (
      some (LE (tn p0)))
set_option maxRecDepth 100000 in
theorem tX6_leastOf_66 {G : eG} (hG : e_GS G) {la : Launch} {h : Nat → eO} {nx : Nat} (hnx : 99 ≤ nx) {a66_0 : Int32} {a66_4 : Int32} {a66_6 : Nat} {nl : Nat} {LE : Nat → Int32} {p0 : Int32} (h66 : h 66 = o66 a66_0 a66_4 a66_6) (hz6 : a66_6 = 71 ∨ 99 ≤ a66_6) (hzn : a66_6 < nx) (hzQ : h a66_6 = iA nl LE) {R9 : Int32} (hf : fX6_leastOf a66_6 LE nl p0 = some R9) :
    eSem G la MX6_leastOf [.ref 66, .int p0] h nx 0 0 (fun r9 h9 => r9 = some (.int R9) ∧ h9 = h) := by
  refine eSem.of (k := 0) (L := [some (.ref 66), some (.int p0)]) (by decide +kernel) rfl rfl (fun X F hxl hq hcR hsR => ?_)
  subst hxl
  unfold fX6_leastOf at hf
  refine r_iload_n F dX6_leastOf_0 rfl ?_
  refine r_if_le F dX6_leastOf_1 (tgt := 22) (by decide) (fun hc => ?_) (fun hc => ?_)
  · have hf := e_t hc hf
    refine r_iconst F dX6_leastOf_22 (v := 0) (by decide) ?_
    obtain rfl := Option.some.inj hf
    exact r_iret F hq dX6_leastOf_23 rfl rfl (Nat.le_refl _) (Nat.le_refl _) ⟨rfl, rfl⟩
  · have hf := e_f hc hf
    refine r_iload_n F dX6_leastOf_4 rfl ?_
    refine r_aload_n F dX6_leastOf_5 rfl ?_
    refine r_get F dX6_leastOf_6 flX6_24 h66 rfl (e_le rfl) (e_lt hnx rfl) ?_
    refine r_alen F dX6_leastOf_9 ((e_upq hz6 rfl).trans hzQ) (e_q32 hz6) hzn (v := Int32.ofNat nl) rfl ?_
    refine r_icmp_ge F dX6_leastOf_10 (tgt := 22) (by decide) (fun hc => ?_) (fun hc => ?_)
    · have hf := e_t hc hf
      refine r_iconst F dX6_leastOf_22 (v := 0) (by decide) ?_
      obtain rfl := Option.some.inj hf
      exact r_iret F hq dX6_leastOf_23 rfl rfl (Nat.le_refl _) (Nat.le_refl _) ⟨rfl, rfl⟩
    · have hf := e_f hc hf
      refine r_aload_n F dX6_leastOf_13 rfl ?_
      refine r_get F dX6_leastOf_14 flX6_24 h66 rfl (e_le rfl) (e_lt hnx rfl) ?_
      refine r_iload_n F dX6_leastOf_17 rfl ?_
      obtain ⟨hg, hf⟩ := e_gd hf
      refine r_iald F dX6_leastOf_18 (i := p0) ((e_upq hz6 rfl).trans hzQ) (e_q32 hz6) hzn (e_vp hg) ?_
      refine r_goto F dX6_leastOf_19 (tgt := 23) (by decide) ?_
      obtain rfl := Option.some.inj hf
      exact r_iret F hq dX6_leastOf_23 rfl rfl (Nat.le_refl _) (Nat.le_refl _) ⟨rfl, rfl⟩

def fX6_lowestOf (a66_4 : Int32) (p0 : Int32) : Option (Int32) :=
  (e_loop (fun (v3 : Int32) => (
      if a66_4 ≤ v3 then
        some (.inr (.inl ()))
      else
        if ((p0 >>> (v3 &&& 31)) &&& 1) = 1 then
          some (.inr (.inr v3))
        else
          some (.inl (v3 + 1)) : Option ((Int32) ⊕ ((Unit) ⊕ (Int32))))) e_fuel 0).bind (fun x4 => Sum.elim (fun x4e =>
    some 0) (fun r9 => some r9) x4)
set_option maxRecDepth 100000 in
theorem tX6_lowestOf_66 {G : eG} (hG : e_GS G) {la : Launch} {h : Nat → eO} {nx : Nat} (hnx : 99 ≤ nx) {a66_0 : Int32} {a66_4 : Int32} {a66_6 : Nat} {p0 : Int32} (h66 : h 66 = o66 a66_0 a66_4 a66_6) {R9 : Int32} (hf : fX6_lowestOf a66_4 p0 = some R9) :
    eSem G la MX6_lowestOf [.ref 66, .int p0] h nx 0 0 (fun r9 h9 => r9 = some (.int R9) ∧ h9 = h) := by
  refine eSem.of (k := 1) (L := [some (.ref 66), some (.int p0), none]) (by decide +kernel) rfl rfl (fun X F hxl hq hcR hsR => ?_)
  subst hxl
  unfold fX6_lowestOf at hf
  refine r_iconst F dX6_lowestOf_0 (v := 0) (by decide) ?_
  refine r_istore_n F dX6_lowestOf_1 (e_le rfl) (L' := [some (.ref 66), some (.int p0), some (.int 0)]) rfl ?_
  obtain ⟨x4, hx5, hf⟩ := e_bd hf
  refine (e_loop_ok (P := fun (v3 : Int32) => eRun G X 2 [some (.ref 66), some (.int p0), some (.int v3)] [] h [] nx 0 0) (K := fun (x4 : (Unit) ⊕ (Int32)) => Sum.elim (fun x4e => eRun G X 27 [none, none, none] [] h [] nx 0 0) (fun r9 => r9 = R9) x4) ?_ e_fuel 0 x4 hx5 ?_ : _)
  · intro v3 z hz ih hx
    refine r_iload_n F dX6_lowestOf_2 rfl ?_
    refine r_aload_n F dX6_lowestOf_3 rfl ?_
    refine r_get F dX6_lowestOf_4 flX6_34 h66 rfl (e_le rfl) (e_lt hnx rfl) ?_
    refine r_icmp_ge F dX6_lowestOf_7 (tgt := 27) (by decide) (fun hc => ?_) (fun hc => ?_)
    · have hz := e_t hc hz
      refine r_drop 0 (L' := [none, some (.int p0), some (.int v3)]) rfl ?_
      refine r_drop 1 (L' := [none, none, some (.int v3)]) rfl ?_
      refine r_drop 2 (L' := [none, none, none]) rfl ?_
      obtain rfl := Option.some.inj hz
      exact hx (.inl ()) rfl
    · have hz := e_f hc hz
      refine r_iload_n F dX6_lowestOf_10 rfl ?_
      refine r_iload_n F dX6_lowestOf_11 rfl ?_
      refine r_ishr F dX6_lowestOf_12 ?_
      refine r_iconst F dX6_lowestOf_13 (v := 1) (by decide) ?_
      refine r_iand F dX6_lowestOf_14 ?_
      refine r_iconst F dX6_lowestOf_15 (v := 1) (by decide) ?_
      refine r_icmp_ne F dX6_lowestOf_16 (tgt := 21) (by decide) (fun hc => ?_) (fun hc => ?_)
      · have hz := e_f hc hz
        refine r_inc F dX6_lowestOf_21 (k9 := 1) (by decide) rfl (L' := [some (.ref 66), some (.int p0), some (.int (v3 + 1))]) rfl ?_
        refine r_goto F dX6_lowestOf_24 (tgt := 2) (by decide) ?_
        obtain rfl := Option.some.inj hz
        exact ih (v3 + 1) rfl
      · have hz := e_t hc hz
        refine r_iload_n F dX6_lowestOf_19 rfl ?_
        obtain rfl := Option.some.inj hz
        have e9 := hx (.inr v3) rfl
        subst e9
        exact r_iret F hq dX6_lowestOf_20 rfl rfl (Nat.le_refl _) (Nat.le_refl _) ⟨rfl, rfl⟩
  · cases x4 with
    | inr r9 => exact Option.some.inj hf
    | inl x4e =>
      simp only [Sum.elim_inl] at hf
      show eRun G X 27 [none, none, none] [] h [] nx 0 0
      refine r_iconst F dX6_lowestOf_27 (v := 0) (by decide) ?_
      obtain rfl := Option.some.inj hf
      exact r_iret F hq dX6_lowestOf_28 rfl rfl (Nat.le_refl _) (Nat.le_refl _) ⟨rfl, rfl⟩

def fX6_costAlone (a66_6 : Nat) (A68 : Nat → Int32) (A69 : Nat → Int32) (LE : Nat → Int32) (nl : Nat) (p0 : Int32) (p1 : Int32) : Option (Int32) :=
  e_g (e_in p1 12) (
  e_g (e_in (A69 (tn p1)) 12) (
  (fX6_leastOf a66_6 LE nl (p0 &&& (((1 : Int32) <<< (p1 &&& 31)) ^^^ (-1)))).bind (fun q1 =>
  some ((A68 (tn (A69 (tn p1)))) + q1))))
set_option maxRecDepth 100000 in
theorem tX6_costAlone_66 {G : eG} (hG : e_GS G) {la : Launch} {h : Nat → eO} {nx : Nat} (hnx : 99 ≤ nx) {a66_0 : Int32} {a66_4 : Int32} {a66_6 : Nat} {A68 : Nat → Int32} {A69 : Nat → Int32} {nl : Nat} {LE : Nat → Int32} {p0 : Int32} {p1 : Int32} (h66 : h 66 = o66 a66_0 a66_4 a66_6) (h68 : h 68 = o68 A68) (h69 : h 69 = o69 A69) (hz6 : a66_6 = 71 ∨ 99 ≤ a66_6) (hzn : a66_6 < nx) (hzQ : h a66_6 = iA nl LE) {R9 : Int32} (hf : fX6_costAlone a66_6 A68 A69 LE nl p0 p1 = some R9) :
    eSem G la MX6_costAlone [.ref 66, .int p0, .int p1] h nx 0 0 (fun r9 h9 => r9 = some (.int R9) ∧ h9 = h) := by
  refine eSem.of (k := 0) (L := [some (.ref 66), some (.int p0), some (.int p1)]) (by decide +kernel) rfl rfl (fun X F hxl hq hcR hsR => ?_)
  subst hxl
  unfold fX6_costAlone at hf
  refine r_aload_n F dX6_costAlone_0 rfl ?_
  refine r_get F dX6_costAlone_1 flX6_15 h66 rfl (e_le rfl) (e_lt hnx rfl) ?_
  refine r_aload_n F dX6_costAlone_4 rfl ?_
  refine r_get F dX6_costAlone_5 flX6_18 h66 rfl (e_le rfl) (e_lt hnx rfl) ?_
  refine r_iload_n F dX6_costAlone_8 rfl ?_
  obtain ⟨hg, hf⟩ := e_gd hf
  refine r_iald F dX6_costAlone_9 (i := p1) h69 (e_le rfl) (e_lt hnx rfl) (e_vp hg) ?_
  obtain ⟨hg, hf⟩ := e_gd hf
  refine r_iald F dX6_costAlone_10 (i := (A69 (tn p1))) h68 (e_le rfl) (e_lt hnx rfl) (e_vp hg) ?_
  refine r_aload_n F dX6_costAlone_11 rfl ?_
  refine r_iload_n F dX6_costAlone_12 rfl ?_
  refine r_iconst F dX6_costAlone_13 (v := 1) (by decide) ?_
  refine r_iload_n F dX6_costAlone_14 rfl ?_
  refine r_ishl F dX6_costAlone_15 ?_
  refine r_iconst F dX6_costAlone_16 (v := (-1)) (by decide) ?_
  refine r_ixor F dX6_costAlone_17 ?_
  refine r_iand F dX6_costAlone_18 ?_
  obtain ⟨q1, hq2, hf⟩ := e_bd hf
  refine r_callV F dX6_costAlone_19 (b := 66) (dc := 0) (ds := 0) (As := [.int (p0 &&& (((1 : Int32) <<< (p1 &&& 31)) ^^^ (-1)))]) (S0 := [.int (A68 (tn (A69 (tn p1))))]) lkX6_41 mX6_leastOf (tX6_leastOf_66 hG (la := x_l X) (h := e_up h []) hnx h66 hz6 hzn ((e_upq hz6 rfl).trans hzQ) hq2) rfl rfl rfl (e_le rfl) (e_le rfl) (e_le rfl) h66 (ci := 6) e_cl6.1 rfl (e_le rfl) (e_lt hnx rfl) (Nat.zero_le _) (Nat.zero_le _) (e_k ?_)
  refine r_wr0 ?_
  refine r_iadd F dX6_costAlone_22 ?_
  obtain rfl := Option.some.inj hf
  exact r_iret F hq dX6_costAlone_23 rfl rfl (Nat.le_refl _) (Nat.le_refl _) ⟨rfl, rfl⟩

def fX6_canMeet (A70 : Nat → Int32) (p0 : Int32) (p1 : Int32) (p2 : Int32) : Option (Bool) :=
  if ((p0 >>> (p2 &&& 31)) &&& 1) = 1 then
    e_g (e_in (((12 : Int32) * p1) + p2) 144) (
    if (A70 (tn (((12 : Int32) * p1) + p2))) = (-1) then
      some false
    else
      some true)
  else
    some false
set_option maxRecDepth 100000 in
theorem tX6_canMeet_66 {G : eG} (hG : e_GS G) {la : Launch} {h : Nat → eO} {nx : Nat} (hnx : 99 ≤ nx) {a66_0 : Int32} {a66_4 : Int32} {a66_6 : Nat} {A70 : Nat → Int32} {p0 : Int32} {p1 : Int32} {p2 : Int32} (h66 : h 66 = o66 a66_0 a66_4 a66_6) (h70 : h 70 = o70 A70) {R9 : Bool} (hf : fX6_canMeet A70 p0 p1 p2 = some R9) :
    eSem G la MX6_canMeet [.ref 66, .int p0, .int p1, .int p2] h nx 0 0 (fun r9 h9 => r9 = some (.int (e_b R9)) ∧ h9 = h) := by
  refine eSem.of (k := 0) (L := [some (.ref 66), some (.int p0), some (.int p1), some (.int p2)]) (by decide +kernel) rfl rfl (fun X F hxl hq hcR hsR => ?_)
  subst hxl
  unfold fX6_canMeet at hf
  refine r_iload_n F dX6_canMeet_0 rfl ?_
  refine r_iload_n F dX6_canMeet_1 rfl ?_
  refine r_ishr F dX6_canMeet_2 ?_
  refine r_iconst F dX6_canMeet_3 (v := 1) (by decide) ?_
  refine r_iand F dX6_canMeet_4 ?_
  refine r_iconst F dX6_canMeet_5 (v := 1) (by decide) ?_
  refine r_icmp_ne F dX6_canMeet_6 (tgt := 28) (by decide) (fun hc => ?_) (fun hc => ?_)
  · have hf := e_f hc hf
    refine r_iconst F dX6_canMeet_28 (v := 0) (by decide) ?_
    obtain rfl := Option.some.inj hf
    exact r_zret F hq (v := false) dX6_canMeet_29 rfl rfl (Nat.le_refl _) (Nat.le_refl _) ⟨rfl, rfl⟩
  · have hf := e_t hc hf
    refine r_aload_n F dX6_canMeet_9 rfl ?_
    refine r_get F dX6_canMeet_10 flX6_21 h66 rfl (e_le rfl) (e_lt hnx rfl) ?_
    refine r_bipush F dX6_canMeet_13 (v := 12) (by decide) ?_
    refine r_iload_n F dX6_canMeet_15 rfl ?_
    refine r_imul F dX6_canMeet_16 ?_
    refine r_iload_n F dX6_canMeet_17 rfl ?_
    refine r_iadd F dX6_canMeet_18 ?_
    obtain ⟨hg, hf⟩ := e_gd hf
    refine r_iald F dX6_canMeet_19 (i := (((12 : Int32) * p1) + p2)) h70 (e_le rfl) (e_lt hnx rfl) (e_vp hg) ?_
    refine r_iconst F dX6_canMeet_20 (v := (-1)) (by decide) ?_
    refine r_icmp_eq F dX6_canMeet_21 (tgt := 28) (by decide) (fun hc => ?_) (fun hc => ?_)
    · have hf := e_t hc hf
      refine r_iconst F dX6_canMeet_28 (v := 0) (by decide) ?_
      obtain rfl := Option.some.inj hf
      exact r_zret F hq (v := false) dX6_canMeet_29 rfl rfl (Nat.le_refl _) (Nat.le_refl _) ⟨rfl, rfl⟩
    · have hf := e_f hc hf
      refine r_iconst F dX6_canMeet_24 (v := 1) (by decide) ?_
      refine r_goto F dX6_canMeet_25 (tgt := 29) (by decide) ?_
      obtain rfl := Option.some.inj hf
      exact r_zret F hq (v := true) dX6_canMeet_29 rfl rfl (Nat.le_refl _) (Nat.le_refl _) ⟨rfl, rfl⟩

def fX6_costTogether (a66_6 : Nat) (A70 : Nat → Int32) (LE : Nat → Int32) (nl : Nat) (p0 : Int32) (p1 : Int32) (p2 : Int32) : Option (Int32) :=
  e_g (e_in (((12 : Int32) * p1) + p2) 144) (
  (fX6_leastOf a66_6 LE nl (p0 &&& ((((1 : Int32) <<< (p1 &&& 31)) ||| ((1 : Int32) <<< (p2 &&& 31))) ^^^ (-1)))).bind (fun q1 =>
  some ((A70 (tn (((12 : Int32) * p1) + p2))) + q1)))
set_option maxRecDepth 100000 in
theorem tX6_costTogether_66 {G : eG} (hG : e_GS G) {la : Launch} {h : Nat → eO} {nx : Nat} (hnx : 99 ≤ nx) {a66_0 : Int32} {a66_4 : Int32} {a66_6 : Nat} {A70 : Nat → Int32} {nl : Nat} {LE : Nat → Int32} {p0 : Int32} {p1 : Int32} {p2 : Int32} (h66 : h 66 = o66 a66_0 a66_4 a66_6) (h70 : h 70 = o70 A70) (hz6 : a66_6 = 71 ∨ 99 ≤ a66_6) (hzn : a66_6 < nx) (hzQ : h a66_6 = iA nl LE) {R9 : Int32} (hf : fX6_costTogether a66_6 A70 LE nl p0 p1 p2 = some R9) :
    eSem G la MX6_costTogether [.ref 66, .int p0, .int p1, .int p2] h nx 0 0 (fun r9 h9 => r9 = some (.int R9) ∧ h9 = h) := by
  refine eSem.of (k := 0) (L := [some (.ref 66), some (.int p0), some (.int p1), some (.int p2)]) (by decide +kernel) rfl rfl (fun X F hxl hq hcR hsR => ?_)
  subst hxl
  unfold fX6_costTogether at hf
  refine r_aload_n F dX6_costTogether_0 rfl ?_
  refine r_get F dX6_costTogether_1 flX6_21 h66 rfl (e_le rfl) (e_lt hnx rfl) ?_
  refine r_bipush F dX6_costTogether_4 (v := 12) (by decide) ?_
  refine r_iload_n F dX6_costTogether_6 rfl ?_
  refine r_imul F dX6_costTogether_7 ?_
  refine r_iload_n F dX6_costTogether_8 rfl ?_
  refine r_iadd F dX6_costTogether_9 ?_
  obtain ⟨hg, hf⟩ := e_gd hf
  refine r_iald F dX6_costTogether_10 (i := (((12 : Int32) * p1) + p2)) h70 (e_le rfl) (e_lt hnx rfl) (e_vp hg) ?_
  refine r_aload_n F dX6_costTogether_11 rfl ?_
  refine r_iload_n F dX6_costTogether_12 rfl ?_
  refine r_iconst F dX6_costTogether_13 (v := 1) (by decide) ?_
  refine r_iload_n F dX6_costTogether_14 rfl ?_
  refine r_ishl F dX6_costTogether_15 ?_
  refine r_iconst F dX6_costTogether_16 (v := 1) (by decide) ?_
  refine r_iload_n F dX6_costTogether_17 rfl ?_
  refine r_ishl F dX6_costTogether_18 ?_
  refine r_ior F dX6_costTogether_19 ?_
  refine r_iconst F dX6_costTogether_20 (v := (-1)) (by decide) ?_
  refine r_ixor F dX6_costTogether_21 ?_
  refine r_iand F dX6_costTogether_22 ?_
  obtain ⟨q1, hq2, hf⟩ := e_bd hf
  refine r_callV F dX6_costTogether_23 (b := 66) (dc := 0) (ds := 0) (As := [.int (p0 &&& ((((1 : Int32) <<< (p1 &&& 31)) ||| ((1 : Int32) <<< (p2 &&& 31))) ^^^ (-1)))]) (S0 := [.int (A70 (tn (((12 : Int32) * p1) + p2)))]) lkX6_41 mX6_leastOf (tX6_leastOf_66 hG (la := x_l X) (h := e_up h []) hnx h66 hz6 hzn ((e_upq hz6 rfl).trans hzQ) hq2) rfl rfl rfl (e_le rfl) (e_le rfl) (e_le rfl) h66 (ci := 6) e_cl6.1 rfl (e_le rfl) (e_lt hnx rfl) (Nat.zero_le _) (Nat.zero_le _) (e_k ?_)
  refine r_wr0 ?_
  refine r_iadd F dX6_costTogether_26 ?_
  obtain rfl := Option.some.inj hf
  exact r_iret F hq dX6_costTogether_27 rfl rfl (Nat.le_refl _) (Nat.le_refl _) ⟨rfl, rfl⟩

def fX6_cheapestOther (a66_4 : Int32) (a66_6 : Nat) (A70 : Nat → Int32) (LE : Nat → Int32) (nl : Nat) (p0 : Int32) (p1 : Int32) : Option (Int32) :=
  (e_loop (fun (v2 : Int32) => (
      if a66_4 ≤ v2 then
        some (.inr (.inl ()))
      else
        (fX6_canMeet A70 p0 p1 v2).bind (fun q5 =>
        if q5 = true then
          (fX6_costTogether a66_6 A70 LE nl p0 p1 v2).bind (fun q7 =>
          (fX6_leastOf a66_6 LE nl p0).bind (fun q9 =>
          if q7 = q9 then
            some (.inr (.inr v2))
          else
            some (.inl (v2 + 1))))
        else
          some (.inl (v2 + 1))) : Option ((Int32) ⊕ ((Unit) ⊕ (Int32))))) e_fuel (p1 + 1)).bind (fun x3 => Sum.elim (fun x3e =>
    some p1) (fun r9 => some r9) x3)
set_option maxRecDepth 100000 in
theorem tX6_cheapestOther_66 {G : eG} (hG : e_GS G) {la : Launch} {h : Nat → eO} {nx : Nat} (hnx : 99 ≤ nx) {a66_0 : Int32} {a66_4 : Int32} {a66_6 : Nat} {A70 : Nat → Int32} {nl : Nat} {LE : Nat → Int32} {p0 : Int32} {p1 : Int32} (h66 : h 66 = o66 a66_0 a66_4 a66_6) (h70 : h 70 = o70 A70) (hz6 : a66_6 = 71 ∨ 99 ≤ a66_6) (hzn : a66_6 < nx) (hzQ : h a66_6 = iA nl LE) {R9 : Int32} (hf : fX6_cheapestOther a66_4 a66_6 A70 LE nl p0 p1 = some R9) :
    eSem G la MX6_cheapestOther [.ref 66, .int p0, .int p1] h nx 0 0 (fun r9 h9 => r9 = some (.int R9) ∧ h9 = h) := by
  refine eSem.of (k := 1) (L := [some (.ref 66), some (.int p0), some (.int p1), none]) (by decide +kernel) rfl rfl (fun X F hxl hq hcR hsR => ?_)
  subst hxl
  unfold fX6_cheapestOther at hf
  refine r_iload_n F dX6_cheapestOther_0 rfl ?_
  refine r_iconst F dX6_cheapestOther_1 (v := 1) (by decide) ?_
  refine r_iadd F dX6_cheapestOther_2 ?_
  refine r_istore_n F dX6_cheapestOther_3 (e_le rfl) (L' := [some (.ref 66), some (.int p0), some (.int p1), some (.int (p1 + 1))]) rfl ?_
  obtain ⟨x3, hx4, hf⟩ := e_bd hf
  refine (e_loop_ok (P := fun (v2 : Int32) => eRun G X 4 [some (.ref 66), some (.int p0), some (.int p1), some (.int v2)] [] h [] nx 0 0) (K := fun (x3 : (Unit) ⊕ (Int32)) => Sum.elim (fun x3e => eRun G X 45 [none, none, some (.int p1), none] [] h [] nx 0 0) (fun r9 => r9 = R9) x3) ?_ e_fuel (p1 + 1) x3 hx4 ?_ : _)
  · intro v2 z hz ih hx
    refine r_iload_n F dX6_cheapestOther_4 rfl ?_
    refine r_aload_n F dX6_cheapestOther_5 rfl ?_
    refine r_get F dX6_cheapestOther_6 flX6_34 h66 rfl (e_le rfl) (e_lt hnx rfl) ?_
    refine r_icmp_ge F dX6_cheapestOther_9 (tgt := 45) (by decide) (fun hc => ?_) (fun hc => ?_)
    · have hz := e_t hc hz
      refine r_drop 0 (L' := [none, some (.int p0), some (.int p1), some (.int v2)]) rfl ?_
      refine r_drop 1 (L' := [none, none, some (.int p1), some (.int v2)]) rfl ?_
      refine r_drop 3 (L' := [none, none, some (.int p1), none]) rfl ?_
      obtain rfl := Option.some.inj hz
      exact hx (.inl ()) rfl
    · have hz := e_f hc hz
      refine r_aload_n F dX6_cheapestOther_12 rfl ?_
      refine r_iload_n F dX6_cheapestOther_13 rfl ?_
      refine r_iload_n F dX6_cheapestOther_14 rfl ?_
      refine r_iload_n F dX6_cheapestOther_15 rfl ?_
      obtain ⟨q5, hq6, hz⟩ := e_bd hz
      refine r_callV F dX6_cheapestOther_16 (b := 66) (dc := 0) (ds := 0) (As := [.int p0, .int p1, .int v2]) (S0 := []) lkX6_113 mX6_canMeet (tX6_canMeet_66 hG (la := x_l X) (h := e_up h []) hnx h66 h70 hq6) rfl rfl rfl (e_le rfl) (e_le rfl) (e_le rfl) h66 (ci := 6) e_cl6.1 rfl (e_le rfl) (e_lt hnx rfl) (Nat.zero_le _) (Nat.zero_le _) (e_k ?_)
      refine r_wr0 ?_
      refine r_z_eq F dX6_cheapestOther_19 (tgt := 39) (by decide) (fun hc => ?_) (fun hc => ?_)
      · have hz := e_t hc hz
        refine r_aload_n F dX6_cheapestOther_22 rfl ?_
        refine r_iload_n F dX6_cheapestOther_23 rfl ?_
        refine r_iload_n F dX6_cheapestOther_24 rfl ?_
        refine r_iload_n F dX6_cheapestOther_25 rfl ?_
        obtain ⟨q7, hq8, hz⟩ := e_bd hz
        refine r_callV F dX6_cheapestOther_26 (b := 66) (dc := 0) (ds := 0) (As := [.int p0, .int p1, .int v2]) (S0 := []) lkX6_117 mX6_costTogether (tX6_costTogether_66 hG (la := x_l X) (h := e_up h []) hnx h66 h70 hz6 hzn ((e_upq hz6 rfl).trans hzQ) hq8) rfl rfl rfl (e_le rfl) (e_le rfl) (e_le rfl) h66 (ci := 6) e_cl6.1 rfl (e_le rfl) (e_lt hnx rfl) (Nat.zero_le _) (Nat.zero_le _) (e_k ?_)
        refine r_wr0 ?_
        refine r_aload_n F dX6_cheapestOther_29 rfl ?_
        refine r_iload_n F dX6_cheapestOther_30 rfl ?_
        obtain ⟨q9, hq10, hz⟩ := e_bd hz
        refine r_callV F dX6_cheapestOther_31 (b := 66) (dc := 0) (ds := 0) (As := [.int p0]) (S0 := [.int q7]) lkX6_41 mX6_leastOf (tX6_leastOf_66 hG (la := x_l X) (h := e_up h []) hnx h66 hz6 hzn ((e_upq hz6 rfl).trans hzQ) hq10) rfl rfl rfl (e_le rfl) (e_le rfl) (e_le rfl) h66 (ci := 6) e_cl6.1 rfl (e_le rfl) (e_lt hnx rfl) (Nat.zero_le _) (Nat.zero_le _) (e_k ?_)
        refine r_wr0 ?_
        refine r_icmp_ne F dX6_cheapestOther_34 (tgt := 39) (by decide) (fun hc => ?_) (fun hc => ?_)
        · have hz := e_f hc hz
          refine r_inc F dX6_cheapestOther_39 (k9 := 1) (by decide) rfl (L' := [some (.ref 66), some (.int p0), some (.int p1), some (.int (v2 + 1))]) rfl ?_
          refine r_goto F dX6_cheapestOther_42 (tgt := 4) (by decide) ?_
          obtain rfl := Option.some.inj hz
          exact ih (v2 + 1) rfl
        · have hz := e_t hc hz
          refine r_iload_n F dX6_cheapestOther_37 rfl ?_
          obtain rfl := Option.some.inj hz
          have e9 := hx (.inr v2) rfl
          subst e9
          exact r_iret F hq dX6_cheapestOther_38 rfl rfl (Nat.le_refl _) (Nat.le_refl _) ⟨rfl, rfl⟩
      · have hz := e_f hc hz
        refine r_inc F dX6_cheapestOther_39 (k9 := 1) (by decide) rfl (L' := [some (.ref 66), some (.int p0), some (.int p1), some (.int (v2 + 1))]) rfl ?_
        refine r_goto F dX6_cheapestOther_42 (tgt := 4) (by decide) ?_
        obtain rfl := Option.some.inj hz
        exact ih (v2 + 1) rfl
  · cases x3 with
    | inr r9 => exact Option.some.inj hf
    | inl x3e =>
      simp only [Sum.elim_inl] at hf
      show eRun G X 45 [none, none, some (.int p1), none] [] h [] nx 0 0
      refine r_iload_n F dX6_cheapestOther_45 rfl ?_
      obtain rfl := Option.some.inj hf
      exact r_iret F hq dX6_cheapestOther_46 rfl rfl (Nat.le_refl _) (Nat.le_refl _) ⟨rfl, rfl⟩

def fX6_choose (a66_4 : Int32) (a66_6 : Nat) (A67 : Nat → Int32) (A68 : Nat → Int32) (A69 : Nat → Int32) (A70 : Nat → Int32) (LE : Nat → Int32) (nl : Nat) (p0 : Int32) : Option ((Nat → Int32)) :=
  (e_loop (fun (v3 : Int32 × Int32 × (Nat → Int32)) => (
      if 12 ≤ v3.2.1 then
        some (.inr v3.2.2)
      else
        if v3.1 = 0 then
          some (.inr v3.2.2)
        else
          (fX6_lowestOf a66_4 v3.1).bind (fun q6 =>
          (fX6_costAlone a66_6 A68 A69 LE nl v3.1 q6).bind (fun q8 =>
          (fX6_leastOf a66_6 LE nl v3.1).bind (fun q10 =>
          Option.bind (α := Int32 × (Nat → Int32)) (
            if q8 = q10 then
              some (q6, v3.2.2)
            else
              (fX6_cheapestOther a66_4 a66_6 A70 LE nl v3.1 q6).bind (fun q14 =>
              e_g (e_in q6 12) (
              e_g (e_in q14 12) (
              e_g (e_in (A69 (tn q6)) 12) (
              e_g (e_in q14 12) (
              e_g (e_in q6 12) (
              e_g (e_in (A69 (tn q14)) 12) (
              some (q14, upd (upd v3.2.2 (tn (A69 (tn q6))) (A69 (tn q14))) (tn (A69 (tn q14))) (A69 (tn q6))))))))))) (fun q12 =>
          some (.inl (v3.1 &&& ((((1 : Int32) <<< (q6 &&& 31)) ||| ((1 : Int32) <<< (q12.1 &&& 31))) ^^^ (-1)), v3.2.1 + 1, q12.2)))))) : Option ((Int32 × Int32 × (Nat → Int32)) ⊕ ((Nat → Int32))))) e_fuel (p0, 0, A67)).bind (fun x4 =>
  some x4)
set_option maxRecDepth 100000 in
theorem tX6_choose_66 {G : eG} (hG : e_GS G) {la : Launch} {h : Nat → eO} {nx : Nat} (hnx : 99 ≤ nx) {a66_0 : Int32} {a66_4 : Int32} {a66_6 : Nat} {A67 : Nat → Int32} {A68 : Nat → Int32} {A69 : Nat → Int32} {A70 : Nat → Int32} {nl : Nat} {LE : Nat → Int32} {p0 : Int32} (h66 : h 66 = o66 a66_0 a66_4 a66_6) (h67 : h 67 = o67 A67) (h68 : h 68 = o68 A68) (h69 : h 69 = o69 A69) (h70 : h 70 = o70 A70) (hz6 : a66_6 = 71 ∨ 99 ≤ a66_6) (hzn : a66_6 < nx) (hzQ : h a66_6 = iA nl LE) {R9 : (Nat → Int32)} (hf : fX6_choose a66_4 a66_6 A67 A68 A69 A70 LE nl p0 = some R9) :
    eSem G la MX6_choose [.ref 66, .int p0] h nx 0 0 (fun r9 h9 => r9 = none ∧ h9 = e_up h [(67, o67 R9)]) := by
  refine eSem.of (k := 4) (L := [some (.ref 66), some (.int p0), none, none, none, none]) (by decide +kernel) rfl rfl (fun X F hxl hq hcR hsR => ?_)
  subst hxl
  unfold fX6_choose at hf
  refine r_iload_n F dX6_choose_0 rfl ?_
  refine r_istore_n F dX6_choose_1 (e_le rfl) (L' := [some (.ref 66), some (.int p0), some (.int p0), none, none, none]) rfl ?_
  refine r_iconst F dX6_choose_2 (v := 0) (by decide) ?_
  refine r_istore_n F dX6_choose_3 (e_le rfl) (L' := [some (.ref 66), some (.int p0), some (.int p0), some (.int 0), none, none]) rfl ?_
  refine r_drop 1 (L' := [some (.ref 66), none, some (.int p0), some (.int 0), none, none]) rfl ?_
  refine r_mat (k := 67) h67 (l' := [(67, o67 A67)]) rfl ?_
  obtain ⟨x4, hx5, hf⟩ := e_bd hf
  refine (e_loop_ok (P := fun (v3 : Int32 × Int32 × (Nat → Int32)) => eRun G X 4 [some (.ref 66), none, some (.int v3.1), some (.int v3.2.1), none, none] [] h [(67, o67 v3.2.2)] nx 0 0) (K := fun (x4 : (Nat → Int32)) => eRun G X 107 [none, none, none, none, none, none] [] h [(67, o67 x4)] nx 0 0) ?_ e_fuel (p0, 0, A67) x4 hx5 ?_ : _)
  · intro v3 z hz ih hx
    refine r_iload_n F dX6_choose_4 rfl ?_
    refine r_bipush F dX6_choose_5 (v := 12) (by decide) ?_
    refine r_icmp_ge F dX6_choose_7 (tgt := 107) (by decide) (fun hc => ?_) (fun hc => ?_)
    · have hz := e_t hc hz
      refine r_drop 0 (L' := [none, none, some (.int v3.1), some (.int v3.2.1), none, none]) rfl ?_
      refine r_drop 2 (L' := [none, none, none, some (.int v3.2.1), none, none]) rfl ?_
      refine r_drop 3 (L' := [none, none, none, none, none, none]) rfl ?_
      obtain rfl := Option.some.inj hz
      exact hx v3.2.2 rfl
    · have hz := e_f hc hz
      refine r_iload_n F dX6_choose_10 rfl ?_
      refine r_if_eq F dX6_choose_11 (tgt := 107) (by decide) (fun hc => ?_) (fun hc => ?_)
      · have hz := e_t hc hz
        refine r_drop 0 (L' := [none, none, some (.int v3.1), some (.int v3.2.1), none, none]) rfl ?_
        refine r_drop 2 (L' := [none, none, none, some (.int v3.2.1), none, none]) rfl ?_
        refine r_drop 3 (L' := [none, none, none, none, none, none]) rfl ?_
        obtain rfl := Option.some.inj hz
        exact hx v3.2.2 rfl
      · have hz := e_f hc hz
        refine r_aload_n F dX6_choose_14 rfl ?_
        refine r_iload_n F dX6_choose_15 rfl ?_
        obtain ⟨q6, hq7, hz⟩ := e_bd hz
        refine r_callV F dX6_choose_16 (b := 66) (dc := 0) (ds := 0) (As := [.int v3.1]) (S0 := []) lkX6_107 mX6_lowestOf (tX6_lowestOf_66 hG (la := x_l X) (h := e_up h [(67, o67 v3.2.2)]) hnx h66 hq7) rfl rfl rfl (e_le rfl) (e_le rfl) (e_le rfl) h66 (ci := 6) e_cl6.1 rfl (e_le rfl) (e_lt hnx rfl) (Nat.zero_le _) (Nat.zero_le _) (e_k ?_)
        refine r_wr0 ?_
        refine r_istore F dX6_choose_19 (e_le rfl) (L' := [some (.ref 66), none, some (.int v3.1), some (.int v3.2.1), some (.int q6), none]) rfl ?_
        refine r_iload F dX6_choose_21 rfl ?_
        refine r_istore F dX6_choose_23 (e_le rfl) (L' := [some (.ref 66), none, some (.int v3.1), some (.int v3.2.1), some (.int q6), some (.int q6)]) rfl ?_
        refine r_aload_n F dX6_choose_25 rfl ?_
        refine r_iload_n F dX6_choose_26 rfl ?_
        refine r_iload F dX6_choose_27 rfl ?_
        obtain ⟨q8, hq9, hz⟩ := e_bd hz
        refine r_callV F dX6_choose_29 (b := 66) (dc := 0) (ds := 0) (As := [.int v3.1, .int q6]) (S0 := []) lkX6_110 mX6_costAlone (tX6_costAlone_66 hG (la := x_l X) (h := e_up h [(67, o67 v3.2.2)]) hnx h66 h68 h69 hz6 hzn ((e_upq hz6 rfl).trans hzQ) hq9) rfl rfl rfl (e_le rfl) (e_le rfl) (e_le rfl) h66 (ci := 6) e_cl6.1 rfl (e_le rfl) (e_lt hnx rfl) (Nat.zero_le _) (Nat.zero_le _) (e_k ?_)
        refine r_wr0 ?_
        refine r_aload_n F dX6_choose_32 rfl ?_
        refine r_iload_n F dX6_choose_33 rfl ?_
        obtain ⟨q10, hq11, hz⟩ := e_bd hz
        refine r_callV F dX6_choose_34 (b := 66) (dc := 0) (ds := 0) (As := [.int v3.1]) (S0 := [.int q8]) lkX6_41 mX6_leastOf (tX6_leastOf_66 hG (la := x_l X) (h := e_up h [(67, o67 v3.2.2)]) hnx h66 hz6 hzn ((e_upq hz6 rfl).trans hzQ) hq11) rfl rfl rfl (e_le rfl) (e_le rfl) (e_le rfl) h66 (ci := 6) e_cl6.1 rfl (e_le rfl) (e_lt hnx rfl) (Nat.zero_le _) (Nat.zero_le _) (e_k ?_)
        refine r_wr0 ?_
        obtain ⟨q12, hq13, hz⟩ := e_bd hz
        have Jq12 : eRun G X 87 [some (.ref 66), none, some (.int v3.1), some (.int v3.2.1), some (.int q6), some (.int q12.1)] [] h [(67, o67 q12.2)] nx 0 0 := by
          refine r_iload_n F dX6_choose_87 rfl ?_
          refine r_iconst F dX6_choose_88 (v := 1) (by decide) ?_
          refine r_iload F dX6_choose_89 rfl ?_
          refine r_ishl F dX6_choose_91 ?_
          refine r_iconst F dX6_choose_92 (v := 1) (by decide) ?_
          refine r_iload F dX6_choose_93 rfl ?_
          refine r_ishl F dX6_choose_95 ?_
          refine r_ior F dX6_choose_96 ?_
          refine r_iconst F dX6_choose_97 (v := (-1)) (by decide) ?_
          refine r_ixor F dX6_choose_98 ?_
          refine r_iand F dX6_choose_99 ?_
          refine r_istore_n F dX6_choose_100 (e_le rfl) (L' := [some (.ref 66), none, some (.int (v3.1 &&& ((((1 : Int32) <<< (q6 &&& 31)) ||| ((1 : Int32) <<< (q12.1 &&& 31))) ^^^ (-1)))), some (.int v3.2.1), some (.int q6), some (.int q12.1)]) rfl ?_
          refine r_inc F dX6_choose_101 (k9 := 1) (by decide) rfl (L' := [some (.ref 66), none, some (.int (v3.1 &&& ((((1 : Int32) <<< (q6 &&& 31)) ||| ((1 : Int32) <<< (q12.1 &&& 31))) ^^^ (-1)))), some (.int (v3.2.1 + 1)), some (.int q6), some (.int q12.1)]) rfl ?_
          refine r_goto F dX6_choose_104 (tgt := 4) (by decide) ?_
          refine r_drop 4 (L' := [some (.ref 66), none, some (.int (v3.1 &&& ((((1 : Int32) <<< (q6 &&& 31)) ||| ((1 : Int32) <<< (q12.1 &&& 31))) ^^^ (-1)))), some (.int (v3.2.1 + 1)), none, some (.int q12.1)]) rfl ?_
          refine r_drop 5 (L' := [some (.ref 66), none, some (.int (v3.1 &&& ((((1 : Int32) <<< (q6 &&& 31)) ||| ((1 : Int32) <<< (q12.1 &&& 31))) ^^^ (-1)))), some (.int (v3.2.1 + 1)), none, none]) rfl ?_
          obtain rfl := Option.some.inj hz
          exact ih (v3.1 &&& ((((1 : Int32) <<< (q6 &&& 31)) ||| ((1 : Int32) <<< (q12.1 &&& 31))) ^^^ (-1)), v3.2.1 + 1, q12.2) rfl
        refine r_icmp_eq F dX6_choose_37 (tgt := 87) (by decide) (fun hc => ?_) (fun hc => ?_)
        · have hq13 := e_t hc hq13
          obtain rfl := Option.some.inj hq13
          exact Jq12
        · have hq13 := e_f hc hq13
          refine r_aload_n F dX6_choose_40 rfl ?_
          refine r_iload_n F dX6_choose_41 rfl ?_
          refine r_iload F dX6_choose_42 rfl ?_
          obtain ⟨q14, hq15, hq13⟩ := e_bd hq13
          refine r_callV F dX6_choose_44 (b := 66) (dc := 0) (ds := 0) (As := [.int v3.1, .int q6]) (S0 := []) lkX6_120 mX6_cheapestOther (tX6_cheapestOther_66 hG (la := x_l X) (h := e_up h [(67, o67 v3.2.2)]) hnx h66 h70 hz6 hzn ((e_upq hz6 rfl).trans hzQ) hq15) rfl rfl rfl (e_le rfl) (e_le rfl) (e_le rfl) h66 (ci := 6) e_cl6.1 rfl (e_le rfl) (e_lt hnx rfl) (Nat.zero_le _) (Nat.zero_le _) (e_k ?_)
          refine r_wr0 ?_
          refine r_istore F dX6_choose_47 (e_le rfl) (L' := [some (.ref 66), none, some (.int v3.1), some (.int v3.2.1), some (.int q6), some (.int q14)]) rfl ?_
          refine r_aload_n F dX6_choose_49 rfl ?_
          refine r_get F dX6_choose_50 flX6_9 h66 rfl (e_le rfl) (e_lt hnx rfl) ?_
          refine r_aload_n F dX6_choose_53 rfl ?_
          refine r_get F dX6_choose_54 flX6_18 h66 rfl (e_le rfl) (e_lt hnx rfl) ?_
          refine r_iload F dX6_choose_57 rfl ?_
          obtain ⟨hg, hq13⟩ := e_gd hq13
          refine r_iald F dX6_choose_59 (i := q6) h69 (e_le rfl) (e_lt hnx rfl) (e_vp hg) ?_
          refine r_aload_n F dX6_choose_60 rfl ?_
          refine r_get F dX6_choose_61 flX6_18 h66 rfl (e_le rfl) (e_lt hnx rfl) ?_
          refine r_iload F dX6_choose_64 rfl ?_
          obtain ⟨hg, hq13⟩ := e_gd hq13
          refine r_iald F dX6_choose_66 (i := q14) h69 (e_le rfl) (e_lt hnx rfl) (e_vp hg) ?_
          obtain ⟨hg, hq13⟩ := e_gd hq13
          refine r_iast F dX6_choose_67 rfl (e_le rfl) (e_lt hnx rfl) (e_vp hg) (l' := [(67, o67 (upd v3.2.2 (tn (A69 (tn q6))) (A69 (tn q14))))]) rfl ?_
          refine r_aload_n F dX6_choose_68 rfl ?_
          refine r_get F dX6_choose_69 flX6_9 h66 rfl (e_le rfl) (e_lt hnx rfl) ?_
          refine r_aload_n F dX6_choose_72 rfl ?_
          refine r_get F dX6_choose_73 flX6_18 h66 rfl (e_le rfl) (e_lt hnx rfl) ?_
          refine r_iload F dX6_choose_76 rfl ?_
          obtain ⟨hg, hq13⟩ := e_gd hq13
          refine r_iald F dX6_choose_78 (i := q14) h69 (e_le rfl) (e_lt hnx rfl) (e_vp hg) ?_
          refine r_aload_n F dX6_choose_79 rfl ?_
          refine r_get F dX6_choose_80 flX6_18 h66 rfl (e_le rfl) (e_lt hnx rfl) ?_
          refine r_iload F dX6_choose_83 rfl ?_
          obtain ⟨hg, hq13⟩ := e_gd hq13
          refine r_iald F dX6_choose_85 (i := q6) h69 (e_le rfl) (e_lt hnx rfl) (e_vp hg) ?_
          obtain ⟨hg, hq13⟩ := e_gd hq13
          refine r_iast F dX6_choose_86 rfl (e_le rfl) (e_lt hnx rfl) (e_vp hg) (l' := [(67, o67 (upd (upd v3.2.2 (tn (A69 (tn q6))) (A69 (tn q14))) (tn (A69 (tn q14))) (A69 (tn q6))))]) rfl ?_
          obtain rfl := Option.some.inj hq13
          exact Jq12
  · show eRun G X 107 [none, none, none, none, none, none] [] h [(67, o67 x4)] nx 0 0
    obtain rfl := Option.some.inj hf
    exact r_vret F hq dX6_choose_107 rfl rfl (Nat.le_refl _) (Nat.le_refl _) ⟨rfl, rfl⟩

def fX6_partnerOf (A67 : Nat → Int32) (p0 : Int32) : Option (Int32) :=
  if p0 < 0 then
    some (-1)
  else
    if 12 ≤ p0 then
      some (-1)
    else
      e_g (e_in p0 12) (
      some (A67 (tn p0)))
set_option maxRecDepth 100000 in
theorem tX6_partnerOf_66 {G : eG} (hG : e_GS G) {la : Launch} {h : Nat → eO} {nx : Nat} (hnx : 99 ≤ nx) {a66_0 : Int32} {a66_4 : Int32} {a66_6 : Nat} {A67 : Nat → Int32} {p0 : Int32} (h66 : h 66 = o66 a66_0 a66_4 a66_6) (h67 : h 67 = o67 A67) {R9 : Int32} (hf : fX6_partnerOf A67 p0 = some R9) :
    eSem G la MX6_partnerOf [.ref 66, .int p0] h nx 0 0 (fun r9 h9 => r9 = some (.int R9) ∧ h9 = h) := by
  refine eSem.of (k := 0) (L := [some (.ref 66), some (.int p0)]) (by decide +kernel) rfl rfl (fun X F hxl hq hcR hsR => ?_)
  subst hxl
  unfold fX6_partnerOf at hf
  refine r_iload_n F dX6_partnerOf_0 rfl ?_
  refine r_if_lt F dX6_partnerOf_1 (tgt := 19) (by decide) (fun hc => ?_) (fun hc => ?_)
  · have hf := e_t hc hf
    refine r_iconst F dX6_partnerOf_19 (v := (-1)) (by decide) ?_
    obtain rfl := Option.some.inj hf
    exact r_iret F hq dX6_partnerOf_20 rfl rfl (Nat.le_refl _) (Nat.le_refl _) ⟨rfl, rfl⟩
  · have hf := e_f hc hf
    refine r_iload_n F dX6_partnerOf_4 rfl ?_
    refine r_bipush F dX6_partnerOf_5 (v := 12) (by decide) ?_
    refine r_icmp_ge F dX6_partnerOf_7 (tgt := 19) (by decide) (fun hc => ?_) (fun hc => ?_)
    · have hf := e_t hc hf
      refine r_iconst F dX6_partnerOf_19 (v := (-1)) (by decide) ?_
      obtain rfl := Option.some.inj hf
      exact r_iret F hq dX6_partnerOf_20 rfl rfl (Nat.le_refl _) (Nat.le_refl _) ⟨rfl, rfl⟩
    · have hf := e_f hc hf
      refine r_aload_n F dX6_partnerOf_10 rfl ?_
      refine r_get F dX6_partnerOf_11 flX6_9 h66 rfl (e_le rfl) (e_lt hnx rfl) ?_
      refine r_iload_n F dX6_partnerOf_14 rfl ?_
      obtain ⟨hg, hf⟩ := e_gd hf
      refine r_iald F dX6_partnerOf_15 (i := p0) h67 (e_le rfl) (e_lt hnx rfl) (e_vp hg) ?_
      refine r_goto F dX6_partnerOf_16 (tgt := 20) (by decide) ?_
      obtain rfl := Option.some.inj hf
      exact r_iret F hq dX6_partnerOf_20 rfl rfl (Nat.le_refl _) (Nat.le_refl _) ⟨rfl, rfl⟩

def fX0_alikeInColumn (a42_0 : Int32) (A43 : Nat → Int32) (A44 : Nat → Int32) (p0 : Int32) : Option (Int32) :=
  (e_loop (fun (v3 : Int32 × Int32) => (
      if a42_0 ≤ v3.2 then
        some (.inr v3.1)
      else
        (fX0_placeOf a42_0 A43 v3.2 0).bind (fun q6 =>
        (fX0_placeOf a42_0 A43 p0 0).bind (fun q8 =>
        Option.bind (α := Int32) (
          if q6 = q8 then
            (fX0_numberOf a42_0 A44 v3.2 0).bind (fun q12 =>
            (fX0_numberOf a42_0 A44 p0 0).bind (fun q14 =>
            if q12 = q14 then
              (fX0_numberOf a42_0 A44 v3.2 1).bind (fun q16 =>
              (fX0_numberOf a42_0 A44 p0 1).bind (fun q18 =>
              if q16 = q18 then
                some (v3.1 + 1)
              else
                some v3.1))
            else
              some v3.1))
          else
            some v3.1) (fun q10 =>
        some (.inl (q10, v3.2 + 1))))) : Option ((Int32 × Int32) ⊕ (Int32)))) e_fuel (0, 0)).bind (fun x4 =>
  some x4)
set_option maxRecDepth 100000 in
theorem tX0_alikeInColumn_42 {G : eG} (hG : e_GS G) {la : Launch} {h : Nat → eO} {nx : Nat} (hnx : 99 ≤ nx) {a42_0 : Int32} {A43 : Nat → Int32} {A44 : Nat → Int32} {p0 : Int32} (h42 : h 42 = o42 a42_0) (h43 : h 43 = o43 A43) (h44 : h 44 = o44 A44) {R9 : Int32} (hf : fX0_alikeInColumn a42_0 A43 A44 p0 = some R9) :
    eSem G la MX0_alikeInColumn [.ref 42, .int p0] h nx 0 0 (fun r9 h9 => r9 = some (.int R9) ∧ h9 = h) := by
  refine eSem.of (k := 2) (L := [some (.ref 42), some (.int p0), none, none]) (by decide +kernel) rfl rfl (fun X F hxl hq hcR hsR => ?_)
  subst hxl
  unfold fX0_alikeInColumn at hf
  refine r_iconst F dX0_alikeInColumn_0 (v := 0) (by decide) ?_
  refine r_istore_n F dX0_alikeInColumn_1 (e_le rfl) (L' := [some (.ref 42), some (.int p0), some (.int 0), none]) rfl ?_
  refine r_iconst F dX0_alikeInColumn_2 (v := 0) (by decide) ?_
  refine r_istore_n F dX0_alikeInColumn_3 (e_le rfl) (L' := [some (.ref 42), some (.int p0), some (.int 0), some (.int 0)]) rfl ?_
  obtain ⟨x4, hx5, hf⟩ := e_bd hf
  refine (e_loop_ok (P := fun (v3 : Int32 × Int32) => eRun G X 4 [some (.ref 42), some (.int p0), some (.int v3.1), some (.int v3.2)] [] h [] nx 0 0) (K := fun (x4 : Int32) => eRun G X 66 [none, none, some (.int x4), none] [] h [] nx 0 0) ?_ e_fuel (0, 0) x4 hx5 ?_ : _)
  · intro v3 z hz ih hx
    refine r_iload_n F dX0_alikeInColumn_4 rfl ?_
    refine r_aload_n F dX0_alikeInColumn_5 rfl ?_
    refine r_get F dX0_alikeInColumn_6 flX0_18 h42 rfl (e_le rfl) (e_lt hnx rfl) ?_
    refine r_icmp_ge F dX0_alikeInColumn_9 (tgt := 66) (by decide) (fun hc => ?_) (fun hc => ?_)
    · have hz := e_t hc hz
      refine r_drop 0 (L' := [none, some (.int p0), some (.int v3.1), some (.int v3.2)]) rfl ?_
      refine r_drop 1 (L' := [none, none, some (.int v3.1), some (.int v3.2)]) rfl ?_
      refine r_drop 3 (L' := [none, none, some (.int v3.1), none]) rfl ?_
      obtain rfl := Option.some.inj hz
      exact hx v3.1 rfl
    · have hz := e_f hc hz
      refine r_aload_n F dX0_alikeInColumn_12 rfl ?_
      refine r_iload_n F dX0_alikeInColumn_13 rfl ?_
      refine r_iconst F dX0_alikeInColumn_14 (v := 0) (by decide) ?_
      obtain ⟨q6, hq7, hz⟩ := e_bd hz
      refine r_callV F dX0_alikeInColumn_15 (b := 42) (dc := 0) (ds := 0) (As := [.int v3.2, .int 0]) (S0 := []) lkX0_45 mX0_placeOf (tX0_placeOf_42 hG (la := x_l X) (h := e_up h []) hnx h42 h43 hq7) rfl rfl rfl (e_le rfl) (e_le rfl) (e_le rfl) h42 (ci := 0) e_cl0.1 rfl (e_le rfl) (e_lt hnx rfl) (Nat.zero_le _) (Nat.zero_le _) (e_k ?_)
      refine r_wr0 ?_
      refine r_aload_n F dX0_alikeInColumn_18 rfl ?_
      refine r_iload_n F dX0_alikeInColumn_19 rfl ?_
      refine r_iconst F dX0_alikeInColumn_20 (v := 0) (by decide) ?_
      obtain ⟨q8, hq9, hz⟩ := e_bd hz
      refine r_callV F dX0_alikeInColumn_21 (b := 42) (dc := 0) (ds := 0) (As := [.int p0, .int 0]) (S0 := [.int q6]) lkX0_45 mX0_placeOf (tX0_placeOf_42 hG (la := x_l X) (h := e_up h []) hnx h42 h43 hq9) rfl rfl rfl (e_le rfl) (e_le rfl) (e_le rfl) h42 (ci := 0) e_cl0.1 rfl (e_le rfl) (e_lt hnx rfl) (Nat.zero_le _) (Nat.zero_le _) (e_k ?_)
      refine r_wr0 ?_
      obtain ⟨q10, hq11, hz⟩ := e_bd hz
      have Jq10 : eRun G X 60 [some (.ref 42), some (.int p0), some (.int q10), some (.int v3.2)] [] h [] nx 0 0 := by
        refine r_inc F dX0_alikeInColumn_60 (k9 := 1) (by decide) rfl (L' := [some (.ref 42), some (.int p0), some (.int q10), some (.int (v3.2 + 1))]) rfl ?_
        refine r_goto F dX0_alikeInColumn_63 (tgt := 4) (by decide) ?_
        obtain rfl := Option.some.inj hz
        exact ih (q10, v3.2 + 1) rfl
      refine r_icmp_ne F dX0_alikeInColumn_24 (tgt := 60) (by decide) (fun hc => ?_) (fun hc => ?_)
      · have hq11 := e_f hc hq11
        obtain rfl := Option.some.inj hq11
        exact Jq10
      · have hq11 := e_t hc hq11
        refine r_aload_n F dX0_alikeInColumn_27 rfl ?_
        refine r_iload_n F dX0_alikeInColumn_28 rfl ?_
        refine r_iconst F dX0_alikeInColumn_29 (v := 0) (by decide) ?_
        obtain ⟨q12, hq13, hq11⟩ := e_bd hq11
        refine r_callV F dX0_alikeInColumn_30 (b := 42) (dc := 0) (ds := 0) (As := [.int v3.2, .int 0]) (S0 := []) lkX0_38 mX0_numberOf (tX0_numberOf_42 hG (la := x_l X) (h := e_up h []) hnx h42 h44 hq13) rfl rfl rfl (e_le rfl) (e_le rfl) (e_le rfl) h42 (ci := 0) e_cl0.1 rfl (e_le rfl) (e_lt hnx rfl) (Nat.zero_le _) (Nat.zero_le _) (e_k ?_)
        refine r_wr0 ?_
        refine r_aload_n F dX0_alikeInColumn_33 rfl ?_
        refine r_iload_n F dX0_alikeInColumn_34 rfl ?_
        refine r_iconst F dX0_alikeInColumn_35 (v := 0) (by decide) ?_
        obtain ⟨q14, hq15, hq11⟩ := e_bd hq11
        refine r_callV F dX0_alikeInColumn_36 (b := 42) (dc := 0) (ds := 0) (As := [.int p0, .int 0]) (S0 := [.int q12]) lkX0_38 mX0_numberOf (tX0_numberOf_42 hG (la := x_l X) (h := e_up h []) hnx h42 h44 hq15) rfl rfl rfl (e_le rfl) (e_le rfl) (e_le rfl) h42 (ci := 0) e_cl0.1 rfl (e_le rfl) (e_lt hnx rfl) (Nat.zero_le _) (Nat.zero_le _) (e_k ?_)
        refine r_wr0 ?_
        refine r_icmp_ne F dX0_alikeInColumn_39 (tgt := 60) (by decide) (fun hc => ?_) (fun hc => ?_)
        · have hq11 := e_f hc hq11
          obtain rfl := Option.some.inj hq11
          exact Jq10
        · have hq11 := e_t hc hq11
          refine r_aload_n F dX0_alikeInColumn_42 rfl ?_
          refine r_iload_n F dX0_alikeInColumn_43 rfl ?_
          refine r_iconst F dX0_alikeInColumn_44 (v := 1) (by decide) ?_
          obtain ⟨q16, hq17, hq11⟩ := e_bd hq11
          refine r_callV F dX0_alikeInColumn_45 (b := 42) (dc := 0) (ds := 0) (As := [.int v3.2, .int 1]) (S0 := []) lkX0_38 mX0_numberOf (tX0_numberOf_42 hG (la := x_l X) (h := e_up h []) hnx h42 h44 hq17) rfl rfl rfl (e_le rfl) (e_le rfl) (e_le rfl) h42 (ci := 0) e_cl0.1 rfl (e_le rfl) (e_lt hnx rfl) (Nat.zero_le _) (Nat.zero_le _) (e_k ?_)
          refine r_wr0 ?_
          refine r_aload_n F dX0_alikeInColumn_48 rfl ?_
          refine r_iload_n F dX0_alikeInColumn_49 rfl ?_
          refine r_iconst F dX0_alikeInColumn_50 (v := 1) (by decide) ?_
          obtain ⟨q18, hq19, hq11⟩ := e_bd hq11
          refine r_callV F dX0_alikeInColumn_51 (b := 42) (dc := 0) (ds := 0) (As := [.int p0, .int 1]) (S0 := [.int q16]) lkX0_38 mX0_numberOf (tX0_numberOf_42 hG (la := x_l X) (h := e_up h []) hnx h42 h44 hq19) rfl rfl rfl (e_le rfl) (e_le rfl) (e_le rfl) h42 (ci := 0) e_cl0.1 rfl (e_le rfl) (e_lt hnx rfl) (Nat.zero_le _) (Nat.zero_le _) (e_k ?_)
          refine r_wr0 ?_
          refine r_icmp_ne F dX0_alikeInColumn_54 (tgt := 60) (by decide) (fun hc => ?_) (fun hc => ?_)
          · have hq11 := e_f hc hq11
            obtain rfl := Option.some.inj hq11
            exact Jq10
          · have hq11 := e_t hc hq11
            refine r_inc F dX0_alikeInColumn_57 (k9 := 1) (by decide) rfl (L' := [some (.ref 42), some (.int p0), some (.int (v3.1 + 1)), some (.int v3.2)]) rfl ?_
            obtain rfl := Option.some.inj hq11
            exact Jq10
  · show eRun G X 66 [none, none, some (.int x4), none] [] h [] nx 0 0
    refine r_iload_n F dX0_alikeInColumn_66 rfl ?_
    obtain rfl := Option.some.inj hf
    exact r_iret F hq dX0_alikeInColumn_67 rfl rfl (Nat.le_refl _) (Nat.le_refl _) ⟨rfl, rfl⟩

def fJ9_max_7cf53  (p0 : Int32) (p1 : Int32) : Option (Int32) :=
  if p0 < p1 then
    some p1
  else
    some p0
set_option maxRecDepth 100000 in
theorem tJ9_max_7cf53 {G : eG} (hG : e_GS G) {la : Launch} {h : Nat → eO} {nx : Nat} (hnx : 99 ≤ nx)  {p0 : Int32} {p1 : Int32}  {R9 : Int32} (hf : fJ9_max_7cf53  p0 p1 = some R9) :
    eSem G la MJ9_max_7cf53 [.int p0, .int p1] h nx 0 0 (fun r9 h9 => r9 = some (.int R9) ∧ h9 = h) := by
  refine eSem.of (k := 0) (L := [some (.int p0), some (.int p1)]) (by decide +kernel) rfl rfl (fun X F hxl hq hcR hsR => ?_)
  subst hxl
  unfold fJ9_max_7cf53 at hf
  refine r_iload_n F dJ9_max_7cf53_0 rfl ?_
  refine r_iload_n F dJ9_max_7cf53_1 rfl ?_
  refine r_icmp_lt F dJ9_max_7cf53_2 (tgt := 9) (by decide) (fun hc => ?_) (fun hc => ?_)
  · have hf := e_t hc hf
    refine r_iload_n F dJ9_max_7cf53_9 rfl ?_
    obtain rfl := Option.some.inj hf
    exact r_iret F hq dJ9_max_7cf53_10 rfl rfl (Nat.le_refl _) (Nat.le_refl _) ⟨rfl, rfl⟩
  · have hf := e_f hc hf
    refine r_iload_n F dJ9_max_7cf53_5 rfl ?_
    refine r_goto F dJ9_max_7cf53_6 (tgt := 10) (by decide) ?_
    obtain rfl := Option.some.inj hf
    exact r_iret F hq dJ9_max_7cf53_10 rfl rfl (Nat.le_refl _) (Nat.le_refl _) ⟨rfl, rfl⟩

def fX0_mostAlike (a42_0 : Int32) (A43 : Nat → Int32) (A44 : Nat → Int32)  : Option (Int32) :=
  (e_loop (fun (v3 : Int32 × Int32) => (
      if a42_0 ≤ v3.2 then
        some (.inr v3.1)
      else
        (fX0_alikeInColumn a42_0 A43 A44 v3.2).bind (fun q6 =>
        (fJ9_max_7cf53 v3.1 q6).bind (fun q8 =>
        some (.inl (q8, v3.2 + 1)))) : Option ((Int32 × Int32) ⊕ (Int32)))) e_fuel (0, 0)).bind (fun x4 =>
  some x4)
set_option maxRecDepth 100000 in
theorem tX0_mostAlike_42 {G : eG} (hG : e_GS G) {la : Launch} {h : Nat → eO} {nx : Nat} (hnx : 99 ≤ nx) {a42_0 : Int32} {A43 : Nat → Int32} {A44 : Nat → Int32}  (h42 : h 42 = o42 a42_0) (h43 : h 43 = o43 A43) (h44 : h 44 = o44 A44) {R9 : Int32} (hf : fX0_mostAlike a42_0 A43 A44  = some R9) :
    eSem G la MX0_mostAlike [.ref 42] h nx 0 0 (fun r9 h9 => r9 = some (.int R9) ∧ h9 = h) := by
  refine eSem.of (k := 2) (L := [some (.ref 42), none, none]) (by decide +kernel) rfl rfl (fun X F hxl hq hcR hsR => ?_)
  subst hxl
  unfold fX0_mostAlike at hf
  refine r_iconst F dX0_mostAlike_0 (v := 0) (by decide) ?_
  refine r_istore_n F dX0_mostAlike_1 (e_le rfl) (L' := [some (.ref 42), some (.int 0), none]) rfl ?_
  refine r_iconst F dX0_mostAlike_2 (v := 0) (by decide) ?_
  refine r_istore_n F dX0_mostAlike_3 (e_le rfl) (L' := [some (.ref 42), some (.int 0), some (.int 0)]) rfl ?_
  obtain ⟨x4, hx5, hf⟩ := e_bd hf
  refine (e_loop_ok (P := fun (v3 : Int32 × Int32) => eRun G X 4 [some (.ref 42), some (.int v3.1), some (.int v3.2)] [] h [] nx 0 0) (K := fun (x4 : Int32) => eRun G X 28 [none, some (.int x4), none] [] h [] nx 0 0) ?_ e_fuel (0, 0) x4 hx5 ?_ : _)
  · intro v3 z hz ih hx
    refine r_iload_n F dX0_mostAlike_4 rfl ?_
    refine r_aload_n F dX0_mostAlike_5 rfl ?_
    refine r_get F dX0_mostAlike_6 flX0_18 h42 rfl (e_le rfl) (e_lt hnx rfl) ?_
    refine r_icmp_ge F dX0_mostAlike_9 (tgt := 28) (by decide) (fun hc => ?_) (fun hc => ?_)
    · have hz := e_t hc hz
      refine r_drop 0 (L' := [none, some (.int v3.1), some (.int v3.2)]) rfl ?_
      refine r_drop 2 (L' := [none, some (.int v3.1), none]) rfl ?_
      obtain rfl := Option.some.inj hz
      exact hx v3.1 rfl
    · have hz := e_f hc hz
      refine r_iload_n F dX0_mostAlike_12 rfl ?_
      refine r_aload_n F dX0_mostAlike_13 rfl ?_
      refine r_iload_n F dX0_mostAlike_14 rfl ?_
      obtain ⟨q6, hq7, hz⟩ := e_bd hz
      refine r_callV F dX0_mostAlike_15 (b := 42) (dc := 0) (ds := 0) (As := [.int v3.2]) (S0 := [.int v3.1]) lkX0_90 mX0_alikeInColumn (tX0_alikeInColumn_42 hG (la := x_l X) (h := e_up h []) hnx h42 h43 h44 hq7) rfl rfl rfl (e_le rfl) (e_le rfl) (e_le rfl) h42 (ci := 0) e_cl0.1 rfl (e_le rfl) (e_lt hnx rfl) (Nat.zero_le _) (Nat.zero_le _) (e_k ?_)
      refine r_wr0 ?_
      obtain ⟨q8, hq9, hz⟩ := e_bd hz
      refine r_callS F dX0_mostAlike_18 (dc := 0) (ds := 0) (As := [.int v3.1, .int q6]) (S0 := []) lkX0_70 mJ9_max_7cf53 (tJ9_max_7cf53 hG (la := x_l X) (h := e_up h []) hnx  hq9) rfl rfl rfl (e_le rfl) (e_le rfl) (e_le rfl) (Nat.zero_le _) (Nat.zero_le _) (e_k ?_)
      refine r_wr0 ?_
      refine r_istore_n F dX0_mostAlike_21 (e_le rfl) (L' := [some (.ref 42), some (.int q8), some (.int v3.2)]) rfl ?_
      refine r_inc F dX0_mostAlike_22 (k9 := 1) (by decide) rfl (L' := [some (.ref 42), some (.int q8), some (.int (v3.2 + 1))]) rfl ?_
      refine r_goto F dX0_mostAlike_25 (tgt := 4) (by decide) ?_
      obtain rfl := Option.some.inj hz
      exact ih (q8, v3.2 + 1) rfl
  · show eRun G X 28 [none, some (.int x4), none] [] h [] nx 0 0
    refine r_iload_n F dX0_mostAlike_28 rfl ?_
    obtain rfl := Option.some.inj hf
    exact r_iret F hq dX0_mostAlike_29 rfl rfl (Nat.le_refl _) (Nat.le_refl _) ⟨rfl, rfl⟩

def fX0_columnOfMostAlike (a42_0 : Int32) (A43 : Nat → Int32) (A44 : Nat → Int32)  : Option (Int32) :=
  (fX0_mostAlike a42_0 A43 A44).bind (fun q1 =>
  (e_loop (fun (v5 : Int32 × Int32) => (
      if a42_0 ≤ v5.2 then
        some (.inr v5.1)
      else
        (fX0_alikeInColumn a42_0 A43 A44 v5.2).bind (fun q8 =>
        Option.bind (α := Int32) (
          if q8 = q1 then
            if v5.1 = (-1) then
              (fX0_placeOf a42_0 A43 v5.2 0).bind (fun q12 =>
              some q12)
            else
              (fX0_placeOf a42_0 A43 v5.2 0).bind (fun q14 =>
              if v5.1 ≤ q14 then
                some v5.1
              else
                (fX0_placeOf a42_0 A43 v5.2 0).bind (fun q16 =>
                some q16))
          else
            some v5.1) (fun q10 =>
        some (.inl (q10, v5.2 + 1)))) : Option ((Int32 × Int32) ⊕ (Int32)))) e_fuel ((-1), 0)).bind (fun x6 =>
  some x6))
set_option maxRecDepth 100000 in
theorem tX0_columnOfMostAlike_42 {G : eG} (hG : e_GS G) {la : Launch} {h : Nat → eO} {nx : Nat} (hnx : 99 ≤ nx) {a42_0 : Int32} {A43 : Nat → Int32} {A44 : Nat → Int32}  (h42 : h 42 = o42 a42_0) (h43 : h 43 = o43 A43) (h44 : h 44 = o44 A44) {R9 : Int32} (hf : fX0_columnOfMostAlike a42_0 A43 A44  = some R9) :
    eSem G la MX0_columnOfMostAlike [.ref 42] h nx 0 0 (fun r9 h9 => r9 = some (.int R9) ∧ h9 = h) := by
  refine eSem.of (k := 3) (L := [some (.ref 42), none, none, none]) (by decide +kernel) rfl rfl (fun X F hxl hq hcR hsR => ?_)
  subst hxl
  unfold fX0_columnOfMostAlike at hf
  refine r_aload_n F dX0_columnOfMostAlike_0 rfl ?_
  obtain ⟨q1, hq2, hf⟩ := e_bd hf
  refine r_callV F dX0_columnOfMostAlike_1 (b := 42) (dc := 0) (ds := 0) (As := []) (S0 := []) lkX0_93 mX0_mostAlike (tX0_mostAlike_42 hG (la := x_l X) (h := e_up h []) hnx h42 h43 h44 hq2) rfl rfl rfl (e_le rfl) (e_le rfl) (e_le rfl) h42 (ci := 0) e_cl0.1 rfl (e_le rfl) (e_lt hnx rfl) (Nat.zero_le _) (Nat.zero_le _) (e_k ?_)
  refine r_wr0 ?_
  refine r_istore_n F dX0_columnOfMostAlike_4 (e_le rfl) (L' := [some (.ref 42), some (.int q1), none, none]) rfl ?_
  refine r_iconst F dX0_columnOfMostAlike_5 (v := (-1)) (by decide) ?_
  refine r_istore_n F dX0_columnOfMostAlike_6 (e_le rfl) (L' := [some (.ref 42), some (.int q1), some (.int (-1)), none]) rfl ?_
  refine r_iconst F dX0_columnOfMostAlike_7 (v := 0) (by decide) ?_
  refine r_istore_n F dX0_columnOfMostAlike_8 (e_le rfl) (L' := [some (.ref 42), some (.int q1), some (.int (-1)), some (.int 0)]) rfl ?_
  obtain ⟨x6, hx7, hf⟩ := e_bd hf
  refine (e_loop_ok (P := fun (v5 : Int32 × Int32) => eRun G X 9 [some (.ref 42), some (.int q1), some (.int v5.1), some (.int v5.2)] [] h [] nx 0 0) (K := fun (x6 : Int32) => eRun G X 54 [none, none, some (.int x6), none] [] h [] nx 0 0) ?_ e_fuel ((-1), 0) x6 hx7 ?_ : _)
  · intro v5 z hz ih hx
    refine r_iload_n F dX0_columnOfMostAlike_9 rfl ?_
    refine r_aload_n F dX0_columnOfMostAlike_10 rfl ?_
    refine r_get F dX0_columnOfMostAlike_11 flX0_18 h42 rfl (e_le rfl) (e_lt hnx rfl) ?_
    refine r_icmp_ge F dX0_columnOfMostAlike_14 (tgt := 54) (by decide) (fun hc => ?_) (fun hc => ?_)
    · have hz := e_t hc hz
      refine r_drop 0 (L' := [none, some (.int q1), some (.int v5.1), some (.int v5.2)]) rfl ?_
      refine r_drop 1 (L' := [none, none, some (.int v5.1), some (.int v5.2)]) rfl ?_
      refine r_drop 3 (L' := [none, none, some (.int v5.1), none]) rfl ?_
      obtain rfl := Option.some.inj hz
      exact hx v5.1 rfl
    · have hz := e_f hc hz
      refine r_aload_n F dX0_columnOfMostAlike_17 rfl ?_
      refine r_iload_n F dX0_columnOfMostAlike_18 rfl ?_
      obtain ⟨q8, hq9, hz⟩ := e_bd hz
      refine r_callV F dX0_columnOfMostAlike_19 (b := 42) (dc := 0) (ds := 0) (As := [.int v5.2]) (S0 := []) lkX0_90 mX0_alikeInColumn (tX0_alikeInColumn_42 hG (la := x_l X) (h := e_up h []) hnx h42 h43 h44 hq9) rfl rfl rfl (e_le rfl) (e_le rfl) (e_le rfl) h42 (ci := 0) e_cl0.1 rfl (e_le rfl) (e_lt hnx rfl) (Nat.zero_le _) (Nat.zero_le _) (e_k ?_)
      refine r_wr0 ?_
      refine r_iload_n F dX0_columnOfMostAlike_22 rfl ?_
      obtain ⟨q10, hq11, hz⟩ := e_bd hz
      have Jq10 : eRun G X 48 [some (.ref 42), some (.int q1), some (.int q10), some (.int v5.2)] [] h [] nx 0 0 := by
        refine r_inc F dX0_columnOfMostAlike_48 (k9 := 1) (by decide) rfl (L' := [some (.ref 42), some (.int q1), some (.int q10), some (.int (v5.2 + 1))]) rfl ?_
        refine r_goto F dX0_columnOfMostAlike_51 (tgt := 9) (by decide) ?_
        obtain rfl := Option.some.inj hz
        exact ih (q10, v5.2 + 1) rfl
      refine r_icmp_ne F dX0_columnOfMostAlike_23 (tgt := 48) (by decide) (fun hc => ?_) (fun hc => ?_)
      · have hq11 := e_f hc hq11
        obtain rfl := Option.some.inj hq11
        exact Jq10
      · have hq11 := e_t hc hq11
        refine r_iload_n F dX0_columnOfMostAlike_26 rfl ?_
        refine r_iconst F dX0_columnOfMostAlike_27 (v := (-1)) (by decide) ?_
        refine r_icmp_eq F dX0_columnOfMostAlike_28 (tgt := 41) (by decide) (fun hc => ?_) (fun hc => ?_)
        · have hq11 := e_t hc hq11
          refine r_aload_n F dX0_columnOfMostAlike_41 rfl ?_
          refine r_iload_n F dX0_columnOfMostAlike_42 rfl ?_
          refine r_iconst F dX0_columnOfMostAlike_43 (v := 0) (by decide) ?_
          obtain ⟨q12, hq13, hq11⟩ := e_bd hq11
          refine r_callV F dX0_columnOfMostAlike_44 (b := 42) (dc := 0) (ds := 0) (As := [.int v5.2, .int 0]) (S0 := []) lkX0_45 mX0_placeOf (tX0_placeOf_42 hG (la := x_l X) (h := e_up h []) hnx h42 h43 hq13) rfl rfl rfl (e_le rfl) (e_le rfl) (e_le rfl) h42 (ci := 0) e_cl0.1 rfl (e_le rfl) (e_lt hnx rfl) (Nat.zero_le _) (Nat.zero_le _) (e_k ?_)
          refine r_wr0 ?_
          refine r_istore_n F dX0_columnOfMostAlike_47 (e_le rfl) (L' := [some (.ref 42), some (.int q1), some (.int q12), some (.int v5.2)]) rfl ?_
          obtain rfl := Option.some.inj hq11
          exact Jq10
        · have hq11 := e_f hc hq11
          refine r_aload_n F dX0_columnOfMostAlike_31 rfl ?_
          refine r_iload_n F dX0_columnOfMostAlike_32 rfl ?_
          refine r_iconst F dX0_columnOfMostAlike_33 (v := 0) (by decide) ?_
          obtain ⟨q14, hq15, hq11⟩ := e_bd hq11
          refine r_callV F dX0_columnOfMostAlike_34 (b := 42) (dc := 0) (ds := 0) (As := [.int v5.2, .int 0]) (S0 := []) lkX0_45 mX0_placeOf (tX0_placeOf_42 hG (la := x_l X) (h := e_up h []) hnx h42 h43 hq15) rfl rfl rfl (e_le rfl) (e_le rfl) (e_le rfl) h42 (ci := 0) e_cl0.1 rfl (e_le rfl) (e_lt hnx rfl) (Nat.zero_le _) (Nat.zero_le _) (e_k ?_)
          refine r_wr0 ?_
          refine r_iload_n F dX0_columnOfMostAlike_37 rfl ?_
          refine r_icmp_ge F dX0_columnOfMostAlike_38 (tgt := 48) (by decide) (fun hc => ?_) (fun hc => ?_)
          · have hq11 := e_t hc hq11
            obtain rfl := Option.some.inj hq11
            exact Jq10
          · have hq11 := e_f hc hq11
            refine r_aload_n F dX0_columnOfMostAlike_41 rfl ?_
            refine r_iload_n F dX0_columnOfMostAlike_42 rfl ?_
            refine r_iconst F dX0_columnOfMostAlike_43 (v := 0) (by decide) ?_
            obtain ⟨q16, hq17, hq11⟩ := e_bd hq11
            refine r_callV F dX0_columnOfMostAlike_44 (b := 42) (dc := 0) (ds := 0) (As := [.int v5.2, .int 0]) (S0 := []) lkX0_45 mX0_placeOf (tX0_placeOf_42 hG (la := x_l X) (h := e_up h []) hnx h42 h43 hq17) rfl rfl rfl (e_le rfl) (e_le rfl) (e_le rfl) h42 (ci := 0) e_cl0.1 rfl (e_le rfl) (e_lt hnx rfl) (Nat.zero_le _) (Nat.zero_le _) (e_k ?_)
            refine r_wr0 ?_
            refine r_istore_n F dX0_columnOfMostAlike_47 (e_le rfl) (L' := [some (.ref 42), some (.int q1), some (.int q16), some (.int v5.2)]) rfl ?_
            obtain rfl := Option.some.inj hq11
            exact Jq10
  · show eRun G X 54 [none, none, some (.int x6), none] [] h [] nx 0 0
    refine r_iload_n F dX0_columnOfMostAlike_54 rfl ?_
    obtain rfl := Option.some.inj hf
    exact r_iret F hq dX0_columnOfMostAlike_55 rfl rfl (Nat.le_refl _) (Nat.le_refl _) ⟨rfl, rfl⟩

set_option maxRecDepth 100000 in
theorem tX0_forceOn_42_53 {G : eG} (hG : e_GS G) {la : Launch} {h : Nat → eO} {nx : Nat} (hnx : 99 ≤ nx) {a42_0 : Int32} {A43 : Nat → Int32} {A44 : Nat → Int32} {A53 : Nat → Int32} {p0 : Int32} (h42 : h 42 = o42 a42_0) (h43 : h 43 = o43 A43) (h44 : h 44 = o44 A44) (h53 : h 53 = o53 A53) {R9 : Int32} (hf : fX0_forceOn a42_0 A43 A44 A53 p0 = some R9) :
    eSem G la MX0_forceOn [.ref 42, .int p0, .ref 53] h nx 0 0 (fun r9 h9 => r9 = some (.int R9) ∧ h9 = h) := by
  refine eSem.of (k := 6) (L := [some (.ref 42), some (.int p0), some (.ref 53), none, none, none, none, none, none]) (by decide +kernel) rfl rfl (fun X F hxl hq hcR hsR => ?_)
  subst hxl
  unfold fX0_forceOn at hf
  refine r_aload_n F dX0_forceOn_0 rfl ?_
  refine r_iload_n F dX0_forceOn_1 rfl ?_
  obtain ⟨q1, hq2, hf⟩ := e_bd hf
  refine r_callV F dX0_forceOn_2 (b := 42) (dc := 0) (ds := 0) (As := [.int p0]) (S0 := []) lkX0_48 mX0_wayOf (tX0_wayOf_42 hG (la := x_l X) (h := e_up h []) hnx h42 h44 hq2) rfl rfl rfl (e_le rfl) (e_le rfl) (e_le rfl) h42 (ci := 0) e_cl0.1 rfl (e_le rfl) (e_lt hnx rfl) (Nat.zero_le _) (Nat.zero_le _) (e_k ?_)
  refine r_wr0 ?_
  refine r_istore_n F dX0_forceOn_5 (e_le rfl) (L' := [some (.ref 42), some (.int p0), some (.ref 53), some (.int q1), none, none, none, none, none]) rfl ?_
  refine r_iload_n F dX0_forceOn_6 rfl ?_
  refine r_if_lt F dX0_forceOn_7 (tgt := 16) (by decide) (fun hc => ?_) (fun hc => ?_)
  · have hf := e_t hc hf
    refine r_iconst F dX0_forceOn_16 (v := 0) (by decide) ?_
    obtain rfl := Option.some.inj hf
    exact r_iret F hq dX0_forceOn_17 rfl rfl (Nat.le_refl _) (Nat.le_refl _) ⟨rfl, rfl⟩
  · have hf := e_f hc hf
    refine r_aload_n F dX0_forceOn_10 rfl ?_
    refine r_alen F dX0_forceOn_11 h53 (e_le rfl) (e_lt hnx rfl) (v := 4) rfl ?_
    refine r_iconst F dX0_forceOn_12 (v := 3) (by decide) ?_
    refine r_icmp_gt_t F dX0_forceOn_13 (tgt := 18) (by decide) (by decide) ?_
    refine r_aload_n F dX0_forceOn_18 rfl ?_
    refine r_iload_n F dX0_forceOn_19 rfl ?_
    refine r_iload_n F dX0_forceOn_20 rfl ?_
    obtain ⟨q3, hq4, hf⟩ := e_bd hf
    refine r_callV F dX0_forceOn_21 (b := 42) (dc := 0) (ds := 0) (As := [.int p0, .int q1]) (S0 := []) lkX0_38 mX0_numberOf (tX0_numberOf_42 hG (la := x_l X) (h := e_up h []) hnx h42 h44 hq4) rfl rfl rfl (e_le rfl) (e_le rfl) (e_le rfl) h42 (ci := 0) e_cl0.1 rfl (e_le rfl) (e_lt hnx rfl) (Nat.zero_le _) (Nat.zero_le _) (e_k ?_)
    refine r_wr0 ?_
    refine r_istore F dX0_forceOn_24 (e_le rfl) (L' := [some (.ref 42), some (.int p0), some (.ref 53), some (.int q1), some (.int q3), none, none, none, none]) rfl ?_
    refine r_aload_n F dX0_forceOn_26 rfl ?_
    refine r_iload_n F dX0_forceOn_27 rfl ?_
    obtain ⟨hg, hf⟩ := e_gd hf
    refine r_iald F dX0_forceOn_28 (i := q1) h53 (e_le rfl) (e_lt hnx rfl) (e_vp hg) ?_
    refine r_iload F dX0_forceOn_29 rfl ?_
    refine r_imul F dX0_forceOn_31 ?_
    refine r_istore F dX0_forceOn_32 (e_le rfl) (L' := [some (.ref 42), some (.int p0), some (.ref 53), some (.int q1), some (.int q3), some (.int ((A53 (tn q1)) * q3)), none, none, none]) rfl ?_
    refine r_iconst F dX0_forceOn_34 (v := 0) (by decide) ?_
    refine r_istore F dX0_forceOn_35 (e_le rfl) (L' := [some (.ref 42), some (.int p0), some (.ref 53), some (.int q1), some (.int q3), some (.int ((A53 (tn q1)) * q3)), some (.int 0), none, none]) rfl ?_
    obtain ⟨x8, hx9, hf⟩ := e_bd hf
    refine (e_loop_ok (P := fun (v7 : Int32 × Int32) => eRun G X 37 [some (.ref 42), some (.int p0), some (.ref 53), some (.int q1), some (.int q3), some (.int v7.1), some (.int v7.2), none, none] [] h [] nx 0 0) (K := fun (x8 : Int32) => eRun G X 119 [none, none, none, none, none, some (.int x8), none, none, none] [] h [] nx 0 0) ?_ e_fuel ((A53 (tn q1)) * q3, 0) x8 hx9 ?_ : _)
    · intro v7 z hz ih hx
      refine r_iload F dX0_forceOn_37 rfl ?_
      refine r_aload_n F dX0_forceOn_39 rfl ?_
      refine r_get F dX0_forceOn_40 flX0_18 h42 rfl (e_le rfl) (e_lt hnx rfl) ?_
      refine r_icmp_ge F dX0_forceOn_43 (tgt := 119) (by decide) (fun hc => ?_) (fun hc => ?_)
      · have hz := e_t hc hz
        refine r_drop 0 (L' := [none, some (.int p0), some (.ref 53), some (.int q1), some (.int q3), some (.int v7.1), some (.int v7.2), none, none]) rfl ?_
        refine r_drop 1 (L' := [none, none, some (.ref 53), some (.int q1), some (.int q3), some (.int v7.1), some (.int v7.2), none, none]) rfl ?_
        refine r_drop 2 (L' := [none, none, none, some (.int q1), some (.int q3), some (.int v7.1), some (.int v7.2), none, none]) rfl ?_
        refine r_drop 3 (L' := [none, none, none, none, some (.int q3), some (.int v7.1), some (.int v7.2), none, none]) rfl ?_
        refine r_drop 4 (L' := [none, none, none, none, none, some (.int v7.1), some (.int v7.2), none, none]) rfl ?_
        refine r_drop 6 (L' := [none, none, none, none, none, some (.int v7.1), none, none, none]) rfl ?_
        obtain rfl := Option.some.inj hz
        exact hx v7.1 rfl
      · have hz := e_f hc hz
        refine r_iload F dX0_forceOn_46 rfl ?_
        refine r_iload_n F dX0_forceOn_48 rfl ?_
        obtain ⟨q10, hq11, hz⟩ := e_bd hz
        have Jq10 : eRun G X 113 [some (.ref 42), some (.int p0), some (.ref 53), some (.int q1), some (.int q3), some (.int q10), some (.int v7.2), none, none] [] h [] nx 0 0 := by
          refine r_inc F dX0_forceOn_113 (k9 := 1) (by decide) rfl (L' := [some (.ref 42), some (.int p0), some (.ref 53), some (.int q1), some (.int q3), some (.int q10), some (.int (v7.2 + 1)), none, none]) rfl ?_
          refine r_goto F dX0_forceOn_116 (tgt := 37) (by decide) ?_
          obtain rfl := Option.some.inj hz
          exact ih (q10, v7.2 + 1) rfl
        refine r_icmp_eq F dX0_forceOn_49 (tgt := 113) (by decide) (fun hc => ?_) (fun hc => ?_)
        · have hq11 := e_t hc hq11
          obtain rfl := Option.some.inj hq11
          exact Jq10
        · have hq11 := e_f hc hq11
          refine r_aload_n F dX0_forceOn_52 rfl ?_
          refine r_iload_n F dX0_forceOn_53 rfl ?_
          refine r_iload_n F dX0_forceOn_54 rfl ?_
          obtain ⟨q12, hq13, hq11⟩ := e_bd hq11
          refine r_callV F dX0_forceOn_55 (b := 42) (dc := 0) (ds := 0) (As := [.int p0, .int q1]) (S0 := []) lkX0_45 mX0_placeOf (tX0_placeOf_42 hG (la := x_l X) (h := e_up h []) hnx h42 h43 hq13) rfl rfl rfl (e_le rfl) (e_le rfl) (e_le rfl) h42 (ci := 0) e_cl0.1 rfl (e_le rfl) (e_lt hnx rfl) (Nat.zero_le _) (Nat.zero_le _) (e_k ?_)
          refine r_wr0 ?_
          refine r_aload_n F dX0_forceOn_58 rfl ?_
          refine r_iload F dX0_forceOn_59 rfl ?_
          refine r_iload_n F dX0_forceOn_61 rfl ?_
          obtain ⟨q14, hq15, hq11⟩ := e_bd hq11
          refine r_callV F dX0_forceOn_62 (b := 42) (dc := 0) (ds := 0) (As := [.int v7.2, .int q1]) (S0 := [.int q12]) lkX0_45 mX0_placeOf (tX0_placeOf_42 hG (la := x_l X) (h := e_up h []) hnx h42 h43 hq15) rfl rfl rfl (e_le rfl) (e_le rfl) (e_le rfl) h42 (ci := 0) e_cl0.1 rfl (e_le rfl) (e_lt hnx rfl) (Nat.zero_le _) (Nat.zero_le _) (e_k ?_)
          refine r_wr0 ?_
          refine r_isub F dX0_forceOn_65 ?_
          refine r_istore F dX0_forceOn_66 (e_le rfl) (L' := [some (.ref 42), some (.int p0), some (.ref 53), some (.int q1), some (.int q3), some (.int v7.1), some (.int v7.2), some (.int (q12 - q14)), none]) rfl ?_
          refine r_aload_n F dX0_forceOn_68 rfl ?_
          refine r_iload_n F dX0_forceOn_69 rfl ?_
          refine r_iconst F dX0_forceOn_70 (v := 1) (by decide) ?_
          refine r_iload_n F dX0_forceOn_71 rfl ?_
          refine r_isub F dX0_forceOn_72 ?_
          obtain ⟨q16, hq17, hq11⟩ := e_bd hq11
          refine r_callV F dX0_forceOn_73 (b := 42) (dc := 0) (ds := 0) (As := [.int p0, .int ((1 : Int32) - q1)]) (S0 := []) lkX0_45 mX0_placeOf (tX0_placeOf_42 hG (la := x_l X) (h := e_up h []) hnx h42 h43 hq17) rfl rfl rfl (e_le rfl) (e_le rfl) (e_le rfl) h42 (ci := 0) e_cl0.1 rfl (e_le rfl) (e_lt hnx rfl) (Nat.zero_le _) (Nat.zero_le _) (e_k ?_)
          refine r_wr0 ?_
          refine r_aload_n F dX0_forceOn_76 rfl ?_
          refine r_iload F dX0_forceOn_77 rfl ?_
          refine r_iconst F dX0_forceOn_79 (v := 1) (by decide) ?_
          refine r_iload_n F dX0_forceOn_80 rfl ?_
          refine r_isub F dX0_forceOn_81 ?_
          obtain ⟨q18, hq19, hq11⟩ := e_bd hq11
          refine r_callV F dX0_forceOn_82 (b := 42) (dc := 0) (ds := 0) (As := [.int v7.2, .int ((1 : Int32) - q1)]) (S0 := [.int q16]) lkX0_45 mX0_placeOf (tX0_placeOf_42 hG (la := x_l X) (h := e_up h []) hnx h42 h43 hq19) rfl rfl rfl (e_le rfl) (e_le rfl) (e_le rfl) h42 (ci := 0) e_cl0.1 rfl (e_le rfl) (e_lt hnx rfl) (Nat.zero_le _) (Nat.zero_le _) (e_k ?_)
          refine r_wr0 ?_
          refine r_isub F dX0_forceOn_85 ?_
          refine r_istore F dX0_forceOn_86 (e_le rfl) (L' := [some (.ref 42), some (.int p0), some (.ref 53), some (.int q1), some (.int q3), some (.int v7.1), some (.int v7.2), some (.int (q12 - q14)), some (.int (q16 - q18))]) rfl ?_
          refine r_iload F dX0_forceOn_88 rfl ?_
          refine r_aload_n F dX0_forceOn_90 rfl ?_
          refine r_iconst F dX0_forceOn_91 (v := 3) (by decide) ?_
          refine r_iald F dX0_forceOn_92 (i := 3) h53 (e_le rfl) (e_lt hnx rfl) (e_vp (by decide)) ?_
          refine r_iload F dX0_forceOn_93 rfl ?_
          refine r_aload_n F dX0_forceOn_95 rfl ?_
          refine r_iload F dX0_forceOn_96 rfl ?_
          refine r_iload_n F dX0_forceOn_98 rfl ?_
          obtain ⟨q20, hq21, hq11⟩ := e_bd hq11
          refine r_callV F dX0_forceOn_99 (b := 42) (dc := 0) (ds := 0) (As := [.int v7.2, .int q1]) (S0 := [.int q3, .int (A53 (tn 3)), .int v7.1]) lkX0_38 mX0_numberOf (tX0_numberOf_42 hG (la := x_l X) (h := e_up h []) hnx h42 h44 hq21) rfl rfl rfl (e_le rfl) (e_le rfl) (e_le rfl) h42 (ci := 0) e_cl0.1 rfl (e_le rfl) (e_lt hnx rfl) (Nat.zero_le _) (Nat.zero_le _) (e_k ?_)
          refine r_wr0 ?_
          refine r_imul F dX0_forceOn_102 ?_
          refine r_iload F dX0_forceOn_103 rfl ?_
          refine r_iload F dX0_forceOn_105 rfl ?_
          obtain ⟨q22, hq23, hq11⟩ := e_bd hq11
          refine r_callS F dX0_forceOn_107 (dc := 0) (ds := 0) (As := [.int (A53 (tn 3)), .int (q3 * q20), .int (q12 - q14), .int (q16 - q18)]) (S0 := [.int v7.1]) lkX0_52 mX0_pull (tX0_pull hG (la := x_l X) (h := e_up h []) hnx  hq23) rfl rfl rfl (e_le rfl) (e_le rfl) (e_le rfl) (Nat.zero_le _) (Nat.zero_le _) (e_k ?_)
          refine r_wr0 ?_
          refine r_iadd F dX0_forceOn_110 ?_
          refine r_istore F dX0_forceOn_111 (e_le rfl) (L' := [some (.ref 42), some (.int p0), some (.ref 53), some (.int q1), some (.int q3), some (.int (v7.1 + q22)), some (.int v7.2), some (.int (q12 - q14)), some (.int (q16 - q18))]) rfl ?_
          refine r_drop 7 (L' := [some (.ref 42), some (.int p0), some (.ref 53), some (.int q1), some (.int q3), some (.int (v7.1 + q22)), some (.int v7.2), none, some (.int (q16 - q18))]) rfl ?_
          refine r_drop 8 (L' := [some (.ref 42), some (.int p0), some (.ref 53), some (.int q1), some (.int q3), some (.int (v7.1 + q22)), some (.int v7.2), none, none]) rfl ?_
          obtain rfl := Option.some.inj hq11
          exact Jq10
    · show eRun G X 119 [none, none, none, none, none, some (.int x8), none, none, none] [] h [] nx 0 0
      refine r_iload F dX0_forceOn_119 rfl ?_
      obtain rfl := Option.some.inj hf
      exact r_iret F hq dX0_forceOn_121 rfl rfl (Nat.le_refl _) (Nat.le_refl _) ⟨rfl, rfl⟩
