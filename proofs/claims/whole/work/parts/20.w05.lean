def fX0_greatestForce (a42_0 : Int32) (A43 : Nat → Int32) (A44 : Nat → Int32) (A53 : Nat → Int32)  : Option (Int32) :=
  (e_loop (fun (v3 : Int32 × Int32) => (
      if a42_0 ≤ v3.2 then
        some (.inr v3.1)
      else
        (fX0_forceOn a42_0 A43 A44 A53 v3.2).bind (fun q6 =>
        (fJ9_abs_0f7a4 q6).bind (fun q8 =>
        (fJ9_max_7cf53 v3.1 q8).bind (fun q10 =>
        some (.inl (q10, v3.2 + 1))))) : Option ((Int32 × Int32) ⊕ (Int32)))) e_fuel (0, 0)).bind (fun x4 =>
  some x4)
set_option maxRecDepth 100000 in
theorem tX0_greatestForce_42_53 {G : eG} (hG : e_GS G) {la : Launch} {h : Nat → eO} {nx : Nat} (hnx : 99 ≤ nx) {a42_0 : Int32} {A43 : Nat → Int32} {A44 : Nat → Int32} {A53 : Nat → Int32}  (h42 : h 42 = o42 a42_0) (h43 : h 43 = o43 A43) (h44 : h 44 = o44 A44) (h53 : h 53 = o53 A53) {R9 : Int32} (hf : fX0_greatestForce a42_0 A43 A44 A53  = some R9) :
    eSem G la MX0_greatestForce [.ref 42, .ref 53] h nx 0 0 (fun r9 h9 => r9 = some (.int R9) ∧ h9 = h) := by
  refine eSem.of (k := 2) (L := [some (.ref 42), some (.ref 53), none, none]) (by decide +kernel) rfl rfl (fun X F hxl hq hcR hsR => ?_)
  subst hxl
  unfold fX0_greatestForce at hf
  refine r_iconst F dX0_greatestForce_0 (v := 0) (by decide) ?_
  refine r_istore_n F dX0_greatestForce_1 (e_le rfl) (L' := [some (.ref 42), some (.ref 53), some (.int 0), none]) rfl ?_
  refine r_iconst F dX0_greatestForce_2 (v := 0) (by decide) ?_
  refine r_istore_n F dX0_greatestForce_3 (e_le rfl) (L' := [some (.ref 42), some (.ref 53), some (.int 0), some (.int 0)]) rfl ?_
  obtain ⟨x4, hx5, hf⟩ := e_bd hf
  refine (e_loop_ok (P := fun (v3 : Int32 × Int32) => eRun G X 4 [some (.ref 42), some (.ref 53), some (.int v3.1), some (.int v3.2)] [] h [] nx 0 0) (K := fun (x4 : Int32) => eRun G X 32 [none, none, some (.int x4), none] [] h [] nx 0 0) ?_ e_fuel (0, 0) x4 hx5 ?_ : _)
  · intro v3 z hz ih hx
    refine r_iload_n F dX0_greatestForce_4 rfl ?_
    refine r_aload_n F dX0_greatestForce_5 rfl ?_
    refine r_get F dX0_greatestForce_6 flX0_18 h42 rfl (e_le rfl) (e_lt hnx rfl) ?_
    refine r_icmp_ge F dX0_greatestForce_9 (tgt := 32) (by decide) (fun hc => ?_) (fun hc => ?_)
    · have hz := e_t hc hz
      refine r_drop 0 (L' := [none, some (.ref 53), some (.int v3.1), some (.int v3.2)]) rfl ?_
      refine r_drop 1 (L' := [none, none, some (.int v3.1), some (.int v3.2)]) rfl ?_
      refine r_drop 3 (L' := [none, none, some (.int v3.1), none]) rfl ?_
      obtain rfl := Option.some.inj hz
      exact hx v3.1 rfl
    · have hz := e_f hc hz
      refine r_iload_n F dX0_greatestForce_12 rfl ?_
      refine r_aload_n F dX0_greatestForce_13 rfl ?_
      refine r_iload_n F dX0_greatestForce_14 rfl ?_
      refine r_aload_n F dX0_greatestForce_15 rfl ?_
      obtain ⟨q6, hq7, hz⟩ := e_bd hz
      refine r_callV F dX0_greatestForce_16 (b := 42) (dc := 0) (ds := 0) (As := [.int v3.2, .ref 53]) (S0 := [.int v3.1]) lkX0_66 mX0_forceOn (tX0_forceOn_42_53 hG (la := x_l X) (h := e_up h []) hnx h42 h43 h44 h53 hq7) rfl rfl rfl (e_le rfl) (e_le rfl) (e_le rfl) h42 (ci := 0) e_cl0.1 rfl (e_le rfl) (e_lt hnx rfl) (Nat.zero_le _) (Nat.zero_le _) (e_k ?_)
      refine r_wr0 ?_
      obtain ⟨q8, hq9, hz⟩ := e_bd hz
      refine r_callS F dX0_greatestForce_19 (dc := 0) (ds := 0) (As := [.int q6]) (S0 := [.int v3.1]) lkX0_61 mJ9_abs_0f7a4 (tJ9_abs_0f7a4 hG (la := x_l X) (h := e_up h []) hnx  hq9) rfl rfl rfl (e_le rfl) (e_le rfl) (e_le rfl) (Nat.zero_le _) (Nat.zero_le _) (e_k ?_)
      refine r_wr0 ?_
      obtain ⟨q10, hq11, hz⟩ := e_bd hz
      refine r_callS F dX0_greatestForce_22 (dc := 0) (ds := 0) (As := [.int v3.1, .int q8]) (S0 := []) lkX0_70 mJ9_max_7cf53 (tJ9_max_7cf53 hG (la := x_l X) (h := e_up h []) hnx  hq11) rfl rfl rfl (e_le rfl) (e_le rfl) (e_le rfl) (Nat.zero_le _) (Nat.zero_le _) (e_k ?_)
      refine r_wr0 ?_
      refine r_istore_n F dX0_greatestForce_25 (e_le rfl) (L' := [some (.ref 42), some (.ref 53), some (.int q10), some (.int v3.2)]) rfl ?_
      refine r_inc F dX0_greatestForce_26 (k9 := 1) (by decide) rfl (L' := [some (.ref 42), some (.ref 53), some (.int q10), some (.int (v3.2 + 1))]) rfl ?_
      refine r_goto F dX0_greatestForce_29 (tgt := 4) (by decide) ?_
      obtain rfl := Option.some.inj hz
      exact ih (q10, v3.2 + 1) rfl
  · show eRun G X 32 [none, none, some (.int x4), none] [] h [] nx 0 0
    refine r_iload_n F dX0_greatestForce_32 rfl ?_
    obtain rfl := Option.some.inj hf
    exact r_iret F hq dX0_greatestForce_33 rfl rfl (Nat.le_refl _) (Nat.le_refl _) ⟨rfl, rfl⟩

def fX0_mostForced (a42_0 : Int32) (A43 : Nat → Int32) (A44 : Nat → Int32) (A53 : Nat → Int32)  : Option (Int32) :=
  (fX0_greatestForce a42_0 A43 A44 A53).bind (fun q1 =>
  (e_loop (fun (v5 : Int32) => (
      if a42_0 ≤ v5 then
        some (.inr (.inl ()))
      else
        (fX0_forceOn a42_0 A43 A44 A53 v5).bind (fun q8 =>
        (fJ9_abs_0f7a4 q8).bind (fun q10 =>
        if q10 = q1 then
          some (.inr (.inr v5))
        else
          some (.inl (v5 + 1)))) : Option ((Int32) ⊕ ((Unit) ⊕ (Int32))))) e_fuel 0).bind (fun x6 => Sum.elim (fun x6e =>
    some (-1)) (fun r9 => some r9) x6))
set_option maxRecDepth 100000 in
theorem tX0_mostForced_42_53 {G : eG} (hG : e_GS G) {la : Launch} {h : Nat → eO} {nx : Nat} (hnx : 99 ≤ nx) {a42_0 : Int32} {A43 : Nat → Int32} {A44 : Nat → Int32} {A53 : Nat → Int32}  (h42 : h 42 = o42 a42_0) (h43 : h 43 = o43 A43) (h44 : h 44 = o44 A44) (h53 : h 53 = o53 A53) {R9 : Int32} (hf : fX0_mostForced a42_0 A43 A44 A53  = some R9) :
    eSem G la MX0_mostForced [.ref 42, .ref 53] h nx 0 0 (fun r9 h9 => r9 = some (.int R9) ∧ h9 = h) := by
  refine eSem.of (k := 2) (L := [some (.ref 42), some (.ref 53), none, none]) (by decide +kernel) rfl rfl (fun X F hxl hq hcR hsR => ?_)
  subst hxl
  unfold fX0_mostForced at hf
  refine r_aload_n F dX0_mostForced_0 rfl ?_
  refine r_aload_n F dX0_mostForced_1 rfl ?_
  obtain ⟨q1, hq2, hf⟩ := e_bd hf
  refine r_callV F dX0_mostForced_2 (b := 42) (dc := 0) (ds := 0) (As := [.ref 53]) (S0 := []) lkX0_73 mX0_greatestForce (tX0_greatestForce_42_53 hG (la := x_l X) (h := e_up h []) hnx h42 h43 h44 h53 hq2) rfl rfl rfl (e_le rfl) (e_le rfl) (e_le rfl) h42 (ci := 0) e_cl0.1 rfl (e_le rfl) (e_lt hnx rfl) (Nat.zero_le _) (Nat.zero_le _) (e_k ?_)
  refine r_wr0 ?_
  refine r_istore_n F dX0_mostForced_5 (e_le rfl) (L' := [some (.ref 42), some (.ref 53), some (.int q1), none]) rfl ?_
  refine r_iconst F dX0_mostForced_6 (v := 0) (by decide) ?_
  refine r_istore_n F dX0_mostForced_7 (e_le rfl) (L' := [some (.ref 42), some (.ref 53), some (.int q1), some (.int 0)]) rfl ?_
  obtain ⟨x6, hx7, hf⟩ := e_bd hf
  refine (e_loop_ok (P := fun (v5 : Int32) => eRun G X 8 [some (.ref 42), some (.ref 53), some (.int q1), some (.int v5)] [] h [] nx 0 0) (K := fun (x6 : (Unit) ⊕ (Int32)) => Sum.elim (fun x6e => eRun G X 37 [none, none, none, none] [] h [] nx 0 0) (fun r9 => r9 = R9) x6) ?_ e_fuel 0 x6 hx7 ?_ : _)
  · intro v5 z hz ih hx
    refine r_iload_n F dX0_mostForced_8 rfl ?_
    refine r_aload_n F dX0_mostForced_9 rfl ?_
    refine r_get F dX0_mostForced_10 flX0_18 h42 rfl (e_le rfl) (e_lt hnx rfl) ?_
    refine r_icmp_ge F dX0_mostForced_13 (tgt := 37) (by decide) (fun hc => ?_) (fun hc => ?_)
    · have hz := e_t hc hz
      refine r_drop 0 (L' := [none, some (.ref 53), some (.int q1), some (.int v5)]) rfl ?_
      refine r_drop 1 (L' := [none, none, some (.int q1), some (.int v5)]) rfl ?_
      refine r_drop 2 (L' := [none, none, none, some (.int v5)]) rfl ?_
      refine r_drop 3 (L' := [none, none, none, none]) rfl ?_
      obtain rfl := Option.some.inj hz
      exact hx (.inl ()) rfl
    · have hz := e_f hc hz
      refine r_aload_n F dX0_mostForced_16 rfl ?_
      refine r_iload_n F dX0_mostForced_17 rfl ?_
      refine r_aload_n F dX0_mostForced_18 rfl ?_
      obtain ⟨q8, hq9, hz⟩ := e_bd hz
      refine r_callV F dX0_mostForced_19 (b := 42) (dc := 0) (ds := 0) (As := [.int v5, .ref 53]) (S0 := []) lkX0_66 mX0_forceOn (tX0_forceOn_42_53 hG (la := x_l X) (h := e_up h []) hnx h42 h43 h44 h53 hq9) rfl rfl rfl (e_le rfl) (e_le rfl) (e_le rfl) h42 (ci := 0) e_cl0.1 rfl (e_le rfl) (e_lt hnx rfl) (Nat.zero_le _) (Nat.zero_le _) (e_k ?_)
      refine r_wr0 ?_
      obtain ⟨q10, hq11, hz⟩ := e_bd hz
      refine r_callS F dX0_mostForced_22 (dc := 0) (ds := 0) (As := [.int q8]) (S0 := []) lkX0_61 mJ9_abs_0f7a4 (tJ9_abs_0f7a4 hG (la := x_l X) (h := e_up h []) hnx  hq11) rfl rfl rfl (e_le rfl) (e_le rfl) (e_le rfl) (Nat.zero_le _) (Nat.zero_le _) (e_k ?_)
      refine r_wr0 ?_
      refine r_iload_n F dX0_mostForced_25 rfl ?_
      refine r_icmp_ne F dX0_mostForced_26 (tgt := 31) (by decide) (fun hc => ?_) (fun hc => ?_)
      · have hz := e_f hc hz
        refine r_inc F dX0_mostForced_31 (k9 := 1) (by decide) rfl (L' := [some (.ref 42), some (.ref 53), some (.int q1), some (.int (v5 + 1))]) rfl ?_
        refine r_goto F dX0_mostForced_34 (tgt := 8) (by decide) ?_
        obtain rfl := Option.some.inj hz
        exact ih (v5 + 1) rfl
      · have hz := e_t hc hz
        refine r_iload_n F dX0_mostForced_29 rfl ?_
        obtain rfl := Option.some.inj hz
        have e9 := hx (.inr v5) rfl
        subst e9
        exact r_iret F hq dX0_mostForced_30 rfl rfl (Nat.le_refl _) (Nat.le_refl _) ⟨rfl, rfl⟩
  · cases x6 with
    | inr r9 => exact Option.some.inj hf
    | inl x6e =>
      simp only [Sum.elim_inl] at hf
      show eRun G X 37 [none, none, none, none] [] h [] nx 0 0
      refine r_iconst F dX0_mostForced_37 (v := (-1)) (by decide) ?_
      obtain rfl := Option.some.inj hf
      exact r_iret F hq dX0_mostForced_38 rfl rfl (Nat.le_refl _) (Nat.le_refl _) ⟨rfl, rfl⟩

set_option maxRecDepth 100000 in
theorem tX0_squareBetween_42 {G : eG} (hG : e_GS G) {la : Launch} {h : Nat → eO} {nx : Nat} (hnx : 99 ≤ nx) {a42_0 : Int32} {A43 : Nat → Int32} {p0 : Int32} {p1 : Int32} (h42 : h 42 = o42 a42_0) (h43 : h 43 = o43 A43) {R9 : Int32} (hf : fX0_squareBetween a42_0 A43 p0 p1 = some R9) :
    eSem G la MX0_squareBetween [.ref 42, .int p0, .int p1] h nx 0 0 (fun r9 h9 => r9 = some (.int R9) ∧ h9 = h) := by
  refine eSem.of (k := 2) (L := [some (.ref 42), some (.int p0), some (.int p1), none, none]) (by decide +kernel) rfl rfl (fun X F hxl hq hcR hsR => ?_)
  subst hxl
  unfold fX0_squareBetween at hf
  refine r_aload_n F dX0_squareBetween_0 rfl ?_
  refine r_iload_n F dX0_squareBetween_1 rfl ?_
  refine r_iconst F dX0_squareBetween_2 (v := 0) (by decide) ?_
  obtain ⟨q1, hq2, hf⟩ := e_bd hf
  refine r_callV F dX0_squareBetween_3 (b := 42) (dc := 0) (ds := 0) (As := [.int p0, .int 0]) (S0 := []) lkX0_45 mX0_placeOf (tX0_placeOf_42 hG (la := x_l X) (h := e_up h []) hnx h42 h43 hq2) rfl rfl rfl (e_le rfl) (e_le rfl) (e_le rfl) h42 (ci := 0) e_cl0.1 rfl (e_le rfl) (e_lt hnx rfl) (Nat.zero_le _) (Nat.zero_le _) (e_k ?_)
  refine r_wr0 ?_
  refine r_aload_n F dX0_squareBetween_6 rfl ?_
  refine r_iload_n F dX0_squareBetween_7 rfl ?_
  refine r_iconst F dX0_squareBetween_8 (v := 0) (by decide) ?_
  obtain ⟨q3, hq4, hf⟩ := e_bd hf
  refine r_callV F dX0_squareBetween_9 (b := 42) (dc := 0) (ds := 0) (As := [.int p1, .int 0]) (S0 := [.int q1]) lkX0_45 mX0_placeOf (tX0_placeOf_42 hG (la := x_l X) (h := e_up h []) hnx h42 h43 hq4) rfl rfl rfl (e_le rfl) (e_le rfl) (e_le rfl) h42 (ci := 0) e_cl0.1 rfl (e_le rfl) (e_lt hnx rfl) (Nat.zero_le _) (Nat.zero_le _) (e_k ?_)
  refine r_wr0 ?_
  refine r_isub F dX0_squareBetween_12 ?_
  refine r_istore_n F dX0_squareBetween_13 (e_le rfl) (L' := [some (.ref 42), some (.int p0), some (.int p1), some (.int (q1 - q3)), none]) rfl ?_
  refine r_aload_n F dX0_squareBetween_14 rfl ?_
  refine r_iload_n F dX0_squareBetween_15 rfl ?_
  refine r_iconst F dX0_squareBetween_16 (v := 1) (by decide) ?_
  obtain ⟨q5, hq6, hf⟩ := e_bd hf
  refine r_callV F dX0_squareBetween_17 (b := 42) (dc := 0) (ds := 0) (As := [.int p0, .int 1]) (S0 := []) lkX0_45 mX0_placeOf (tX0_placeOf_42 hG (la := x_l X) (h := e_up h []) hnx h42 h43 hq6) rfl rfl rfl (e_le rfl) (e_le rfl) (e_le rfl) h42 (ci := 0) e_cl0.1 rfl (e_le rfl) (e_lt hnx rfl) (Nat.zero_le _) (Nat.zero_le _) (e_k ?_)
  refine r_wr0 ?_
  refine r_aload_n F dX0_squareBetween_20 rfl ?_
  refine r_iload_n F dX0_squareBetween_21 rfl ?_
  refine r_iconst F dX0_squareBetween_22 (v := 1) (by decide) ?_
  obtain ⟨q7, hq8, hf⟩ := e_bd hf
  refine r_callV F dX0_squareBetween_23 (b := 42) (dc := 0) (ds := 0) (As := [.int p1, .int 1]) (S0 := [.int q5]) lkX0_45 mX0_placeOf (tX0_placeOf_42 hG (la := x_l X) (h := e_up h []) hnx h42 h43 hq8) rfl rfl rfl (e_le rfl) (e_le rfl) (e_le rfl) h42 (ci := 0) e_cl0.1 rfl (e_le rfl) (e_lt hnx rfl) (Nat.zero_le _) (Nat.zero_le _) (e_k ?_)
  refine r_wr0 ?_
  refine r_isub F dX0_squareBetween_26 ?_
  refine r_istore F dX0_squareBetween_27 (e_le rfl) (L' := [some (.ref 42), some (.int p0), some (.int p1), some (.int (q1 - q3)), some (.int (q5 - q7))]) rfl ?_
  refine r_iload_n F dX0_squareBetween_29 rfl ?_
  refine r_iload_n F dX0_squareBetween_30 rfl ?_
  refine r_imul F dX0_squareBetween_31 ?_
  refine r_iload F dX0_squareBetween_32 rfl ?_
  refine r_iload F dX0_squareBetween_34 rfl ?_
  refine r_imul F dX0_squareBetween_36 ?_
  refine r_iadd F dX0_squareBetween_37 ?_
  obtain rfl := Option.some.inj hf
  exact r_iret F hq dX0_squareBetween_38 rfl rfl (Nat.le_refl _) (Nat.le_refl _) ⟨rfl, rfl⟩

def fX0_squareOfPair (a42_0 : Int32) (A43 : Nat → Int32) (p0 : Int32) : Option (Int32) :=
  if p0 = (-1) then
    some 0
  else
    (fX0_squareBetween a42_0 A43 (p0 / 16) (p0 - p0 / 16 * 16)).bind (fun q1 =>
    some q1)
set_option maxRecDepth 100000 in
theorem tX0_squareOfPair_42 {G : eG} (hG : e_GS G) {la : Launch} {h : Nat → eO} {nx : Nat} (hnx : 99 ≤ nx) {a42_0 : Int32} {A43 : Nat → Int32} {p0 : Int32} (h42 : h 42 = o42 a42_0) (h43 : h 43 = o43 A43) {R9 : Int32} (hf : fX0_squareOfPair a42_0 A43 p0 = some R9) :
    eSem G la MX0_squareOfPair [.ref 42, .int p0] h nx 0 0 (fun r9 h9 => r9 = some (.int R9) ∧ h9 = h) := by
  refine eSem.of (k := 0) (L := [some (.ref 42), some (.int p0)]) (by decide +kernel) rfl rfl (fun X F hxl hq hcR hsR => ?_)
  subst hxl
  unfold fX0_squareOfPair at hf
  refine r_iload_n F dX0_squareOfPair_0 rfl ?_
  refine r_iconst F dX0_squareOfPair_1 (v := (-1)) (by decide) ?_
  refine r_icmp_ne F dX0_squareOfPair_2 (tgt := 9) (by decide) (fun hc => ?_) (fun hc => ?_)
  · have hf := e_f hc hf
    refine r_aload_n F dX0_squareOfPair_9 rfl ?_
    refine r_iload_n F dX0_squareOfPair_10 rfl ?_
    refine r_bipush F dX0_squareOfPair_11 (v := 16) (by decide) ?_
    refine r_idiv F dX0_squareOfPair_13 (by decide) ?_
    refine r_iload_n F dX0_squareOfPair_14 rfl ?_
    refine r_bipush F dX0_squareOfPair_15 (v := 16) (by decide) ?_
    refine r_irem F dX0_squareOfPair_17 (by decide) ?_
    obtain ⟨q1, hq2, hf⟩ := e_bd hf
    refine r_callV F dX0_squareOfPair_18 (b := 42) (dc := 0) (ds := 0) (As := [.int (p0 / 16), .int (p0 - p0 / 16 * 16)]) (S0 := []) lkX0_80 mX0_squareBetween (tX0_squareBetween_42 hG (la := x_l X) (h := e_up h []) hnx h42 h43 hq2) rfl rfl rfl (e_le rfl) (e_le rfl) (e_le rfl) h42 (ci := 0) e_cl0.1 rfl (e_le rfl) (e_lt hnx rfl) (Nat.zero_le _) (Nat.zero_le _) (e_k ?_)
    refine r_wr0 ?_
    obtain rfl := Option.some.inj hf
    exact r_iret F hq dX0_squareOfPair_21 rfl rfl (Nat.le_refl _) (Nat.le_refl _) ⟨rfl, rfl⟩
  · have hf := e_t hc hf
    refine r_iconst F dX0_squareOfPair_5 (v := 0) (by decide) ?_
    refine r_goto F dX0_squareOfPair_6 (tgt := 21) (by decide) ?_
    obtain rfl := Option.some.inj hf
    exact r_iret F hq dX0_squareOfPair_21 rfl rfl (Nat.le_refl _) (Nat.le_refl _) ⟨rfl, rfl⟩

def fX0_nearestPair (a42_0 : Int32) (A43 : Nat → Int32)  : Option (Int32) :=
  (e_loop (fun (v3 : Int32 × Int32) => (
      if a42_0 ≤ v3.2 then
        some (.inr v3.1)
      else
        (e_loop (fun (v7 : Int32 × Int32) => (
            if a42_0 ≤ v7.2 then
              some (.inr v7.1)
            else
              Option.bind (α := Int32) (
                if v7.1 = (-1) then
                  some (((16 : Int32) * v3.2) + v7.2)
                else
                  (fX0_squareBetween a42_0 A43 v3.2 v7.2).bind (fun q12 =>
                  (fX0_squareOfPair a42_0 A43 v7.1).bind (fun q14 =>
                  if q14 ≤ q12 then
                    some v7.1
                  else
                    some (((16 : Int32) * v3.2) + v7.2)))) (fun q10 =>
              some (.inl (q10, v7.2 + 1))) : Option ((Int32 × Int32) ⊕ (Int32)))) e_fuel (v3.1, v3.2 + 1)).bind (fun x8 =>
        some (.inl (x8, v3.2 + 1))) : Option ((Int32 × Int32) ⊕ (Int32)))) e_fuel ((-1), 0)).bind (fun x4 =>
  some x4)
set_option maxRecDepth 100000 in
theorem tX0_nearestPair_42 {G : eG} (hG : e_GS G) {la : Launch} {h : Nat → eO} {nx : Nat} (hnx : 99 ≤ nx) {a42_0 : Int32} {A43 : Nat → Int32}  (h42 : h 42 = o42 a42_0) (h43 : h 43 = o43 A43) {R9 : Int32} (hf : fX0_nearestPair a42_0 A43  = some R9) :
    eSem G la MX0_nearestPair [.ref 42] h nx 0 0 (fun r9 h9 => r9 = some (.int R9) ∧ h9 = h) := by
  refine eSem.of (k := 3) (L := [some (.ref 42), none, none, none]) (by decide +kernel) rfl rfl (fun X F hxl hq hcR hsR => ?_)
  subst hxl
  unfold fX0_nearestPair at hf
  refine r_iconst F dX0_nearestPair_0 (v := (-1)) (by decide) ?_
  refine r_istore_n F dX0_nearestPair_1 (e_le rfl) (L' := [some (.ref 42), some (.int (-1)), none, none]) rfl ?_
  refine r_iconst F dX0_nearestPair_2 (v := 0) (by decide) ?_
  refine r_istore_n F dX0_nearestPair_3 (e_le rfl) (L' := [some (.ref 42), some (.int (-1)), some (.int 0), none]) rfl ?_
  obtain ⟨x4, hx5, hf⟩ := e_bd hf
  refine (e_loop_ok (P := fun (v3 : Int32 × Int32) => eRun G X 4 [some (.ref 42), some (.int v3.1), some (.int v3.2), none] [] h [] nx 0 0) (K := fun (x4 : Int32) => eRun G X 62 [none, some (.int x4), none, none] [] h [] nx 0 0) ?_ e_fuel ((-1), 0) x4 hx5 ?_ : _)
  · intro v3 z hz ih hx
    refine r_iload_n F dX0_nearestPair_4 rfl ?_
    refine r_aload_n F dX0_nearestPair_5 rfl ?_
    refine r_get F dX0_nearestPair_6 flX0_18 h42 rfl (e_le rfl) (e_lt hnx rfl) ?_
    refine r_icmp_ge F dX0_nearestPair_9 (tgt := 62) (by decide) (fun hc => ?_) (fun hc => ?_)
    · have hz := e_t hc hz
      refine r_drop 0 (L' := [none, some (.int v3.1), some (.int v3.2), none]) rfl ?_
      refine r_drop 2 (L' := [none, some (.int v3.1), none, none]) rfl ?_
      obtain rfl := Option.some.inj hz
      exact hx v3.1 rfl
    · have hz := e_f hc hz
      refine r_iload_n F dX0_nearestPair_12 rfl ?_
      refine r_iconst F dX0_nearestPair_13 (v := 1) (by decide) ?_
      refine r_iadd F dX0_nearestPair_14 ?_
      refine r_istore_n F dX0_nearestPair_15 (e_le rfl) (L' := [some (.ref 42), some (.int v3.1), some (.int v3.2), some (.int (v3.2 + 1))]) rfl ?_
      obtain ⟨x8, hx9, hz⟩ := e_bd hz
      refine (e_loop_ok (P := fun (v7 : Int32 × Int32) => eRun G X 16 [some (.ref 42), some (.int v7.1), some (.int v3.2), some (.int v7.2)] [] h [] nx 0 0) (K := fun (x8 : Int32) => eRun G X 56 [some (.ref 42), some (.int x8), some (.int v3.2), none] [] h [] nx 0 0) ?_ e_fuel (v3.1, v3.2 + 1) x8 hx9 ?_ : _)
      · intro v7 z hz ih hx
        refine r_iload_n F dX0_nearestPair_16 rfl ?_
        refine r_aload_n F dX0_nearestPair_17 rfl ?_
        refine r_get F dX0_nearestPair_18 flX0_18 h42 rfl (e_le rfl) (e_lt hnx rfl) ?_
        refine r_icmp_ge F dX0_nearestPair_21 (tgt := 56) (by decide) (fun hc => ?_) (fun hc => ?_)
        · have hz := e_t hc hz
          refine r_drop 3 (L' := [some (.ref 42), some (.int v7.1), some (.int v3.2), none]) rfl ?_
          obtain rfl := Option.some.inj hz
          exact hx v7.1 rfl
        · have hz := e_f hc hz
          refine r_iload_n F dX0_nearestPair_24 rfl ?_
          refine r_iconst F dX0_nearestPair_25 (v := (-1)) (by decide) ?_
          obtain ⟨q10, hq11, hz⟩ := e_bd hz
          have Jq10 : eRun G X 50 [some (.ref 42), some (.int q10), some (.int v3.2), some (.int v7.2)] [] h [] nx 0 0 := by
            refine r_inc F dX0_nearestPair_50 (k9 := 1) (by decide) rfl (L' := [some (.ref 42), some (.int q10), some (.int v3.2), some (.int (v7.2 + 1))]) rfl ?_
            refine r_goto F dX0_nearestPair_53 (tgt := 16) (by decide) ?_
            obtain rfl := Option.some.inj hz
            exact ih (q10, v7.2 + 1) rfl
          refine r_icmp_eq F dX0_nearestPair_26 (tgt := 43) (by decide) (fun hc => ?_) (fun hc => ?_)
          · have hq11 := e_t hc hq11
            refine r_bipush F dX0_nearestPair_43 (v := 16) (by decide) ?_
            refine r_iload_n F dX0_nearestPair_45 rfl ?_
            refine r_imul F dX0_nearestPair_46 ?_
            refine r_iload_n F dX0_nearestPair_47 rfl ?_
            refine r_iadd F dX0_nearestPair_48 ?_
            refine r_istore_n F dX0_nearestPair_49 (e_le rfl) (L' := [some (.ref 42), some (.int (((16 : Int32) * v3.2) + v7.2)), some (.int v3.2), some (.int v7.2)]) rfl ?_
            obtain rfl := Option.some.inj hq11
            exact Jq10
          · have hq11 := e_f hc hq11
            refine r_aload_n F dX0_nearestPair_29 rfl ?_
            refine r_iload_n F dX0_nearestPair_30 rfl ?_
            refine r_iload_n F dX0_nearestPair_31 rfl ?_
            obtain ⟨q12, hq13, hq11⟩ := e_bd hq11
            refine r_callV F dX0_nearestPair_32 (b := 42) (dc := 0) (ds := 0) (As := [.int v3.2, .int v7.2]) (S0 := []) lkX0_80 mX0_squareBetween (tX0_squareBetween_42 hG (la := x_l X) (h := e_up h []) hnx h42 h43 hq13) rfl rfl rfl (e_le rfl) (e_le rfl) (e_le rfl) h42 (ci := 0) e_cl0.1 rfl (e_le rfl) (e_lt hnx rfl) (Nat.zero_le _) (Nat.zero_le _) (e_k ?_)
            refine r_wr0 ?_
            refine r_aload_n F dX0_nearestPair_35 rfl ?_
            refine r_iload_n F dX0_nearestPair_36 rfl ?_
            obtain ⟨q14, hq15, hq11⟩ := e_bd hq11
            refine r_callV F dX0_nearestPair_37 (b := 42) (dc := 0) (ds := 0) (As := [.int v7.1]) (S0 := [.int q12]) lkX0_97 mX0_squareOfPair (tX0_squareOfPair_42 hG (la := x_l X) (h := e_up h []) hnx h42 h43 hq15) rfl rfl rfl (e_le rfl) (e_le rfl) (e_le rfl) h42 (ci := 0) e_cl0.1 rfl (e_le rfl) (e_lt hnx rfl) (Nat.zero_le _) (Nat.zero_le _) (e_k ?_)
            refine r_wr0 ?_
            refine r_icmp_ge F dX0_nearestPair_40 (tgt := 50) (by decide) (fun hc => ?_) (fun hc => ?_)
            · have hq11 := e_t hc hq11
              obtain rfl := Option.some.inj hq11
              exact Jq10
            · have hq11 := e_f hc hq11
              refine r_bipush F dX0_nearestPair_43 (v := 16) (by decide) ?_
              refine r_iload_n F dX0_nearestPair_45 rfl ?_
              refine r_imul F dX0_nearestPair_46 ?_
              refine r_iload_n F dX0_nearestPair_47 rfl ?_
              refine r_iadd F dX0_nearestPair_48 ?_
              refine r_istore_n F dX0_nearestPair_49 (e_le rfl) (L' := [some (.ref 42), some (.int (((16 : Int32) * v3.2) + v7.2)), some (.int v3.2), some (.int v7.2)]) rfl ?_
              obtain rfl := Option.some.inj hq11
              exact Jq10
      · show eRun G X 56 [some (.ref 42), some (.int x8), some (.int v3.2), none] [] h [] nx 0 0
        refine r_inc F dX0_nearestPair_56 (k9 := 1) (by decide) rfl (L' := [some (.ref 42), some (.int x8), some (.int (v3.2 + 1)), none]) rfl ?_
        refine r_goto F dX0_nearestPair_59 (tgt := 4) (by decide) ?_
        obtain rfl := Option.some.inj hz
        exact ih (x8, v3.2 + 1) rfl
  · show eRun G X 62 [none, some (.int x4), none, none] [] h [] nx 0 0
    refine r_iload_n F dX0_nearestPair_62 rfl ?_
    obtain rfl := Option.some.inj hf
    exact r_iret F hq dX0_nearestPair_63 rfl rfl (Nat.le_refl _) (Nat.le_refl _) ⟨rfl, rfl⟩

def fX7_numberOf  (p0 : Int32) (p1 : Int32) (p2 : Int32) : Option (Int32) :=
  some (((2 : Int32) * (((9 : Int32) * p1) + p0)) + p2)
set_option maxRecDepth 100000 in
theorem tX7_numberOf {G : eG} (hG : e_GS G) {la : Launch} {h : Nat → eO} {nx : Nat} (hnx : 99 ≤ nx)  {p0 : Int32} {p1 : Int32} {p2 : Int32}  {R9 : Int32} (hf : fX7_numberOf  p0 p1 p2 = some R9) :
    eSem G la MX7_numberOf [.int p0, .int p1, .int p2] h nx 0 0 (fun r9 h9 => r9 = some (.int R9) ∧ h9 = h) := by
  refine eSem.of (k := 0) (L := [some (.int p0), some (.int p1), some (.int p2)]) (by decide +kernel) rfl rfl (fun X F hxl hq hcR hsR => ?_)
  subst hxl
  unfold fX7_numberOf at hf
  refine r_iconst F dX7_numberOf_0 (v := 2) (by decide) ?_
  refine r_bipush F dX7_numberOf_1 (v := 9) (by decide) ?_
  refine r_iload_n F dX7_numberOf_3 rfl ?_
  refine r_imul F dX7_numberOf_4 ?_
  refine r_iload_n F dX7_numberOf_5 rfl ?_
  refine r_iadd F dX7_numberOf_6 ?_
  refine r_imul F dX7_numberOf_7 ?_
  refine r_iload_n F dX7_numberOf_8 rfl ?_
  refine r_iadd F dX7_numberOf_9 ?_
  obtain rfl := Option.some.inj hf
  exact r_iret F hq dX7_numberOf_10 rfl rfl (Nat.le_refl _) (Nat.le_refl _) ⟨rfl, rfl⟩

def fX10_linkBeside  (p0 : Int32) (p1 : Int32) (p2 : Int32) : Option (Int32) :=
  if p2 = 0 then
    (fX7_numberOf p0 p1 0).bind (fun q1 =>
    some q1)
  else
    if p2 = 1 then
      (fX7_numberOf (p0 + 1) p1 1).bind (fun q3 =>
      some q3)
    else
      if p2 = 2 then
        (fX7_numberOf p0 (p1 + 1) 0).bind (fun q5 =>
        some q5)
      else
        (fX7_numberOf p0 p1 1).bind (fun q7 =>
        some q7)
set_option maxRecDepth 100000 in
theorem tX10_linkBeside {G : eG} (hG : e_GS G) {la : Launch} {h : Nat → eO} {nx : Nat} (hnx : 99 ≤ nx)  {p0 : Int32} {p1 : Int32} {p2 : Int32}  {R9 : Int32} (hf : fX10_linkBeside  p0 p1 p2 = some R9) :
    eSem G la MX10_linkBeside [.int p0, .int p1, .int p2] h nx 0 0 (fun r9 h9 => r9 = some (.int R9) ∧ h9 = h) := by
  refine eSem.of (k := 0) (L := [some (.int p0), some (.int p1), some (.int p2)]) (by decide +kernel) rfl rfl (fun X F hxl hq hcR hsR => ?_)
  subst hxl
  unfold fX10_linkBeside at hf
  refine r_iload_n F dX10_linkBeside_0 rfl ?_
  refine Classical.byCases (p := p2 = 0) (fun hc => ?_) (fun hk0 => ?_)
  · have hf := e_t hc hf
    refine r_tsIn F dX10_linkBeside_1 (by rw [hc]; decide) (by rw [hc]; decide) (off := 27) (by rw [hc]; decide) (tgt := 28) (by decide) ?_
    refine r_iload_n F dX10_linkBeside_28 rfl ?_
    refine r_iload_n F dX10_linkBeside_29 rfl ?_
    refine r_iconst F dX10_linkBeside_30 (v := 0) (by decide) ?_
    obtain ⟨q1, hq2, hf⟩ := e_bd hf
    refine r_callS F dX10_linkBeside_31 (dc := 0) (ds := 0) (As := [.int p0, .int p1, .int 0]) (S0 := []) lkX10_17 mX7_numberOf (tX7_numberOf hG (la := x_l X) (h := e_up h []) hnx  hq2) rfl rfl rfl (e_le rfl) (e_le rfl) (e_le rfl) (Nat.zero_le _) (Nat.zero_le _) (e_k ?_)
    refine r_wr0 ?_
    obtain rfl := Option.some.inj hf
    exact r_iret F hq dX10_linkBeside_34 rfl rfl (Nat.le_refl _) (Nat.le_refl _) ⟨rfl, rfl⟩
  have hf := e_f hk0 hf
  refine Classical.byCases (p := p2 = 1) (fun hc => ?_) (fun hk1 => ?_)
  · have hf := e_t hc hf
    refine r_tsIn F dX10_linkBeside_1 (by rw [hc]; decide) (by rw [hc]; decide) (off := 34) (by rw [hc]; decide) (tgt := 35) (by decide) ?_
    refine r_iload_n F dX10_linkBeside_35 rfl ?_
    refine r_iconst F dX10_linkBeside_36 (v := 1) (by decide) ?_
    refine r_iadd F dX10_linkBeside_37 ?_
    refine r_iload_n F dX10_linkBeside_38 rfl ?_
    refine r_iconst F dX10_linkBeside_39 (v := 1) (by decide) ?_
    obtain ⟨q3, hq4, hf⟩ := e_bd hf
    refine r_callS F dX10_linkBeside_40 (dc := 0) (ds := 0) (As := [.int (p0 + 1), .int p1, .int 1]) (S0 := []) lkX10_17 mX7_numberOf (tX7_numberOf hG (la := x_l X) (h := e_up h []) hnx  hq4) rfl rfl rfl (e_le rfl) (e_le rfl) (e_le rfl) (Nat.zero_le _) (Nat.zero_le _) (e_k ?_)
    refine r_wr0 ?_
    obtain rfl := Option.some.inj hf
    exact r_iret F hq dX10_linkBeside_43 rfl rfl (Nat.le_refl _) (Nat.le_refl _) ⟨rfl, rfl⟩
  have hf := e_f hk1 hf
  refine Classical.byCases (p := p2 = 2) (fun hc => ?_) (fun hk2 => ?_)
  · have hf := e_t hc hf
    refine r_tsIn F dX10_linkBeside_1 (by rw [hc]; decide) (by rw [hc]; decide) (off := 43) (by rw [hc]; decide) (tgt := 44) (by decide) ?_
    refine r_iload_n F dX10_linkBeside_44 rfl ?_
    refine r_iload_n F dX10_linkBeside_45 rfl ?_
    refine r_iconst F dX10_linkBeside_46 (v := 1) (by decide) ?_
    refine r_iadd F dX10_linkBeside_47 ?_
    refine r_iconst F dX10_linkBeside_48 (v := 0) (by decide) ?_
    obtain ⟨q5, hq6, hf⟩ := e_bd hf
    refine r_callS F dX10_linkBeside_49 (dc := 0) (ds := 0) (As := [.int p0, .int (p1 + 1), .int 0]) (S0 := []) lkX10_17 mX7_numberOf (tX7_numberOf hG (la := x_l X) (h := e_up h []) hnx  hq6) rfl rfl rfl (e_le rfl) (e_le rfl) (e_le rfl) (Nat.zero_le _) (Nat.zero_le _) (e_k ?_)
    refine r_wr0 ?_
    obtain rfl := Option.some.inj hf
    exact r_iret F hq dX10_linkBeside_52 rfl rfl (Nat.le_refl _) (Nat.le_refl _) ⟨rfl, rfl⟩
  have hf := e_f hk2 hf
  refine r_tsOut F dX10_linkBeside_1 (e_out3 hk0 hk1 hk2) (tgt := 53) (by decide) ?_
  refine r_iload_n F dX10_linkBeside_53 rfl ?_
  refine r_iload_n F dX10_linkBeside_54 rfl ?_
  refine r_iconst F dX10_linkBeside_55 (v := 1) (by decide) ?_
  obtain ⟨q7, hq8, hf⟩ := e_bd hf
  refine r_callS F dX10_linkBeside_56 (dc := 0) (ds := 0) (As := [.int p0, .int p1, .int 1]) (S0 := []) lkX10_17 mX7_numberOf (tX7_numberOf hG (la := x_l X) (h := e_up h []) hnx  hq8) rfl rfl rfl (e_le rfl) (e_le rfl) (e_le rfl) (Nat.zero_le _) (Nat.zero_le _) (e_k ?_)
  refine r_wr0 ?_
  obtain rfl := Option.some.inj hf
  exact r_iret F hq dX10_linkBeside_59 rfl rfl (Nat.le_refl _) (Nat.le_refl _) ⟨rfl, rfl⟩

def fX10_firstOf (A65 : Nat → Int32) (p0 : Int32) : Option (Int32) :=
  (e_loop (fun (v3 : Int32 × Int32) => (
      if 162 ≤ v3.2 then
        some (.inr (.inl ()))
      else
        if v3.1 < 0 then
          some (.inr (.inr (-1)))
        else
          if v3.1 < 162 then
            e_g (e_in v3.1 162) (
            if (A65 (tn v3.1)) = v3.1 then
              some (.inr (.inr v3.1))
            else
              e_g (e_in v3.1 162) (
              some (.inl (A65 (tn v3.1), v3.2 + 1))))
          else
            some (.inr (.inr (-1))) : Option ((Int32 × Int32) ⊕ ((Unit) ⊕ (Int32))))) e_fuel (p0, 0)).bind (fun x4 => Sum.elim (fun x4e =>
    some (-1)) (fun r9 => some r9) x4)
set_option maxRecDepth 100000 in
theorem tX10_firstOf_64 {G : eG} (hG : e_GS G) {la : Launch} {h : Nat → eO} {nx : Nat} (hnx : 99 ≤ nx) {A65 : Nat → Int32} {p0 : Int32} (h64 : h 64 = o64) (h65 : h 65 = o65 A65) {R9 : Int32} (hf : fX10_firstOf A65 p0 = some R9) :
    eSem G la MX10_firstOf [.ref 64, .int p0] h nx 0 0 (fun r9 h9 => r9 = some (.int R9) ∧ h9 = h) := by
  refine eSem.of (k := 2) (L := [some (.ref 64), some (.int p0), none, none]) (by decide +kernel) rfl rfl (fun X F hxl hq hcR hsR => ?_)
  subst hxl
  unfold fX10_firstOf at hf
  refine r_iload_n F dX10_firstOf_0 rfl ?_
  refine r_istore_n F dX10_firstOf_1 (e_le rfl) (L' := [some (.ref 64), some (.int p0), some (.int p0), none]) rfl ?_
  refine r_iconst F dX10_firstOf_2 (v := 0) (by decide) ?_
  refine r_istore_n F dX10_firstOf_3 (e_le rfl) (L' := [some (.ref 64), some (.int p0), some (.int p0), some (.int 0)]) rfl ?_
  refine r_drop 1 (L' := [some (.ref 64), none, some (.int p0), some (.int 0)]) rfl ?_
  obtain ⟨x4, hx5, hf⟩ := e_bd hf
  refine (e_loop_ok (P := fun (v3 : Int32 × Int32) => eRun G X 4 [some (.ref 64), none, some (.int v3.1), some (.int v3.2)] [] h [] nx 0 0) (K := fun (x4 : (Unit) ⊕ (Int32)) => Sum.elim (fun x4e => eRun G X 49 [none, none, none, none] [] h [] nx 0 0) (fun r9 => r9 = R9) x4) ?_ e_fuel (p0, 0) x4 hx5 ?_ : _)
  · intro v3 z hz ih hx
    refine r_iload_n F dX10_firstOf_4 rfl ?_
    refine r_sipush F dX10_firstOf_5 (v := 162) (by decide) ?_
    refine r_icmp_ge F dX10_firstOf_8 (tgt := 49) (by decide) (fun hc => ?_) (fun hc => ?_)
    · have hz := e_t hc hz
      refine r_drop 0 (L' := [none, none, some (.int v3.1), some (.int v3.2)]) rfl ?_
      refine r_drop 2 (L' := [none, none, none, some (.int v3.2)]) rfl ?_
      refine r_drop 3 (L' := [none, none, none, none]) rfl ?_
      obtain rfl := Option.some.inj hz
      exact hx (.inl ()) rfl
    · have hz := e_f hc hz
      refine r_iload_n F dX10_firstOf_11 rfl ?_
      refine r_if_lt F dX10_firstOf_12 (tgt := 22) (by decide) (fun hc => ?_) (fun hc => ?_)
      · have hz := e_t hc hz
        refine r_iconst F dX10_firstOf_22 (v := (-1)) (by decide) ?_
        obtain rfl := Option.some.inj hz
        have e9 := hx (.inr (-1)) rfl
        subst e9
        exact r_iret F hq dX10_firstOf_23 rfl rfl (Nat.le_refl _) (Nat.le_refl _) ⟨rfl, rfl⟩
      · have hz := e_f hc hz
        refine r_iload_n F dX10_firstOf_15 rfl ?_
        refine r_sipush F dX10_firstOf_16 (v := 162) (by decide) ?_
        refine r_icmp_lt F dX10_firstOf_19 (tgt := 24) (by decide) (fun hc => ?_) (fun hc => ?_)
        · have hz := e_t hc hz
          refine r_aload_n F dX10_firstOf_24 rfl ?_
          refine r_get F dX10_firstOf_25 flX10_11 h64 rfl (e_le rfl) (e_lt hnx rfl) ?_
          refine r_iload_n F dX10_firstOf_28 rfl ?_
          obtain ⟨hg, hz⟩ := e_gd hz
          refine r_iald F dX10_firstOf_29 (i := v3.1) h65 (e_le rfl) (e_lt hnx rfl) (e_vp hg) ?_
          refine r_iload_n F dX10_firstOf_30 rfl ?_
          refine r_icmp_ne F dX10_firstOf_31 (tgt := 36) (by decide) (fun hc => ?_) (fun hc => ?_)
          · have hz := e_f hc hz
            refine r_aload_n F dX10_firstOf_36 rfl ?_
            refine r_get F dX10_firstOf_37 flX10_11 h64 rfl (e_le rfl) (e_lt hnx rfl) ?_
            refine r_iload_n F dX10_firstOf_40 rfl ?_
            obtain ⟨hg, hz⟩ := e_gd hz
            refine r_iald F dX10_firstOf_41 (i := v3.1) h65 (e_le rfl) (e_lt hnx rfl) (e_vp hg) ?_
            refine r_istore_n F dX10_firstOf_42 (e_le rfl) (L' := [some (.ref 64), none, some (.int (A65 (tn v3.1))), some (.int v3.2)]) rfl ?_
            refine r_inc F dX10_firstOf_43 (k9 := 1) (by decide) rfl (L' := [some (.ref 64), none, some (.int (A65 (tn v3.1))), some (.int (v3.2 + 1))]) rfl ?_
            refine r_goto F dX10_firstOf_46 (tgt := 4) (by decide) ?_
            obtain rfl := Option.some.inj hz
            exact ih (A65 (tn v3.1), v3.2 + 1) rfl
          · have hz := e_t hc hz
            refine r_iload_n F dX10_firstOf_34 rfl ?_
            obtain rfl := Option.some.inj hz
            have e9 := hx (.inr v3.1) rfl
            subst e9
            exact r_iret F hq dX10_firstOf_35 rfl rfl (Nat.le_refl _) (Nat.le_refl _) ⟨rfl, rfl⟩
        · have hz := e_f hc hz
          refine r_iconst F dX10_firstOf_22 (v := (-1)) (by decide) ?_
          obtain rfl := Option.some.inj hz
          have e9 := hx (.inr (-1)) rfl
          subst e9
          exact r_iret F hq dX10_firstOf_23 rfl rfl (Nat.le_refl _) (Nat.le_refl _) ⟨rfl, rfl⟩
  · cases x4 with
    | inr r9 => exact Option.some.inj hf
    | inl x4e =>
      simp only [Sum.elim_inl] at hf
      show eRun G X 49 [none, none, none, none] [] h [] nx 0 0
      refine r_iconst F dX10_firstOf_49 (v := (-1)) (by decide) ?_
      obtain rfl := Option.some.inj hf
      exact r_iret F hq dX10_firstOf_50 rfl rfl (Nat.le_refl _) (Nat.le_refl _) ⟨rfl, rfl⟩

def fX10_joinRound (A65 : Nat → Int32) (p0 : Int32) (p1 : Int32) : Option ((Nat → Int32)) :=
  (e_loop (fun (v3 : Int32 × Int32 × (Nat → Int32)) => (
      if 4 ≤ v3.2.1 then
        some (.inr v3.2.2)
      else
        (fX10_linkBeside p0 p1 v3.2.1).bind (fun q6 =>
        (fX10_firstOf v3.2.2 q6).bind (fun q8 =>
        Option.bind (α := Int32 × (Nat → Int32)) (
          if v3.1 = (-1) then
            (fJ9_max_7cf53 v3.1 q8).bind (fun q12 =>
            some (q12, v3.2.2))
          else
            if q8 = (-1) then
              (fJ9_max_7cf53 v3.1 q8).bind (fun q18 =>
              some (q18, v3.2.2))
            else
              (fJ9_max_7cf53 v3.1 q8).bind (fun q14 =>
              (fJ9_min_7cf53 v3.1 q8).bind (fun q16 =>
              e_g (e_in q14 162) (
              some (q16, upd v3.2.2 (tn q14) q16))))) (fun q10 =>
        some (.inl (q10.1, v3.2.1 + 1, q10.2))))) : Option ((Int32 × Int32 × (Nat → Int32)) ⊕ ((Nat → Int32))))) e_fuel ((-1), 0, A65)).bind (fun x4 =>
  some x4)
set_option maxRecDepth 100000 in
theorem tX10_joinRound_64 {G : eG} (hG : e_GS G) {la : Launch} {h : Nat → eO} {nx : Nat} (hnx : 99 ≤ nx) {A65 : Nat → Int32} {p0 : Int32} {p1 : Int32} (h64 : h 64 = o64) (h65 : h 65 = o65 A65) {R9 : (Nat → Int32)} (hf : fX10_joinRound A65 p0 p1 = some R9) :
    eSem G la MX10_joinRound [.ref 64, .int p0, .int p1] h nx 0 0 (fun r9 h9 => r9 = none ∧ h9 = e_up h [(65, o65 R9)]) := by
  refine eSem.of (k := 4) (L := [some (.ref 64), some (.int p0), some (.int p1), none, none, none, none]) (by decide +kernel) rfl rfl (fun X F hxl hq hcR hsR => ?_)
  subst hxl
  unfold fX10_joinRound at hf
  refine r_iconst F dX10_joinRound_0 (v := (-1)) (by decide) ?_
  refine r_istore_n F dX10_joinRound_1 (e_le rfl) (L' := [some (.ref 64), some (.int p0), some (.int p1), some (.int (-1)), none, none, none]) rfl ?_
  refine r_iconst F dX10_joinRound_2 (v := 0) (by decide) ?_
  refine r_istore F dX10_joinRound_3 (e_le rfl) (L' := [some (.ref 64), some (.int p0), some (.int p1), some (.int (-1)), some (.int 0), none, none]) rfl ?_
  refine r_mat (k := 65) h65 (l' := [(65, o65 A65)]) rfl ?_
  obtain ⟨x4, hx5, hf⟩ := e_bd hf
  refine (e_loop_ok (P := fun (v3 : Int32 × Int32 × (Nat → Int32)) => eRun G X 5 [some (.ref 64), some (.int p0), some (.int p1), some (.int v3.1), some (.int v3.2.1), none, none] [] h [(65, o65 v3.2.2)] nx 0 0) (K := fun (x4 : (Nat → Int32)) => eRun G X 74 [none, none, none, none, none, none, none] [] h [(65, o65 x4)] nx 0 0) ?_ e_fuel ((-1), 0, A65) x4 hx5 ?_ : _)
  · intro v3 z hz ih hx
    refine r_iload F dX10_joinRound_5 rfl ?_
    refine r_iconst F dX10_joinRound_7 (v := 4) (by decide) ?_
    refine r_icmp_ge F dX10_joinRound_8 (tgt := 74) (by decide) (fun hc => ?_) (fun hc => ?_)
    · have hz := e_t hc hz
      refine r_drop 0 (L' := [none, some (.int p0), some (.int p1), some (.int v3.1), some (.int v3.2.1), none, none]) rfl ?_
      refine r_drop 1 (L' := [none, none, some (.int p1), some (.int v3.1), some (.int v3.2.1), none, none]) rfl ?_
      refine r_drop 2 (L' := [none, none, none, some (.int v3.1), some (.int v3.2.1), none, none]) rfl ?_
      refine r_drop 3 (L' := [none, none, none, none, some (.int v3.2.1), none, none]) rfl ?_
      refine r_drop 4 (L' := [none, none, none, none, none, none, none]) rfl ?_
      obtain rfl := Option.some.inj hz
      exact hx v3.2.2 rfl
    · have hz := e_f hc hz
      refine r_aload_n F dX10_joinRound_11 rfl ?_
      refine r_iload_n F dX10_joinRound_12 rfl ?_
      refine r_iload_n F dX10_joinRound_13 rfl ?_
      refine r_iload F dX10_joinRound_14 rfl ?_
      obtain ⟨q6, hq7, hz⟩ := e_bd hz
      refine r_callS F dX10_joinRound_16 (dc := 0) (ds := 0) (As := [.int p0, .int p1, .int v3.2.1]) (S0 := [.ref 64]) lkX10_36 mX10_linkBeside (tX10_linkBeside hG (la := x_l X) (h := e_up h [(65, o65 v3.2.2)]) hnx  hq7) rfl rfl rfl (e_le rfl) (e_le rfl) (e_le rfl) (Nat.zero_le _) (Nat.zero_le _) (e_k ?_)
      refine r_wr0 ?_
      obtain ⟨q8, hq9, hz⟩ := e_bd hz
      refine r_callV F dX10_joinRound_19 (b := 64) (dc := 0) (ds := 0) (As := [.int q6]) (S0 := []) lkX10_39 mX10_firstOf (tX10_firstOf_64 hG (la := x_l X) (h := e_up h [(65, o65 v3.2.2)]) hnx h64 rfl hq9) rfl rfl rfl (e_le rfl) (e_le rfl) (e_le rfl) h64 (ci := 10) e_cl10.1 rfl (e_le rfl) (e_lt hnx rfl) (Nat.zero_le _) (Nat.zero_le _) (e_k ?_)
      refine r_wr0 ?_
      refine r_istore F dX10_joinRound_22 (e_le rfl) (L' := [some (.ref 64), some (.int p0), some (.int p1), some (.int v3.1), some (.int v3.2.1), some (.int q8), none]) rfl ?_
      refine r_iload_n F dX10_joinRound_24 rfl ?_
      refine r_iconst F dX10_joinRound_25 (v := (-1)) (by decide) ?_
      obtain ⟨q10, hq11, hz⟩ := e_bd hz
      have Jq10 : eRun G X 68 [some (.ref 64), some (.int p0), some (.int p1), some (.int q10.1), some (.int v3.2.1), none, none] [] h [(65, o65 q10.2)] nx 0 0 := by
        refine r_inc F dX10_joinRound_68 (k9 := 1) (by decide) rfl (L' := [some (.ref 64), some (.int p0), some (.int p1), some (.int q10.1), some (.int (v3.2.1 + 1)), none, none]) rfl ?_
        refine r_goto F dX10_joinRound_71 (tgt := 5) (by decide) ?_
        obtain rfl := Option.some.inj hz
        exact ih (q10.1, v3.2.1 + 1, q10.2) rfl
      refine r_icmp_eq F dX10_joinRound_26 (tgt := 35) (by decide) (fun hc => ?_) (fun hc => ?_)
      · have hq11 := e_t hc hq11
        refine r_iload_n F dX10_joinRound_35 rfl ?_
        refine r_iload F dX10_joinRound_36 rfl ?_
        obtain ⟨q12, hq13, hq11⟩ := e_bd hq11
        refine r_callS F dX10_joinRound_38 (dc := 0) (ds := 0) (As := [.int v3.1, .int q8]) (S0 := []) lkX10_43 mJ9_max_7cf53 (tJ9_max_7cf53 hG (la := x_l X) (h := e_up h [(65, o65 v3.2.2)]) hnx  hq13) rfl rfl rfl (e_le rfl) (e_le rfl) (e_le rfl) (Nat.zero_le _) (Nat.zero_le _) (e_k ?_)
        refine r_wr0 ?_
        refine r_istore_n F dX10_joinRound_41 (e_le rfl) (L' := [some (.ref 64), some (.int p0), some (.int p1), some (.int q12), some (.int v3.2.1), some (.int q8), none]) rfl ?_
        refine r_goto F dX10_joinRound_42 (tgt := 68) (by decide) ?_
        refine r_drop 5 (L' := [some (.ref 64), some (.int p0), some (.int p1), some (.int q12), some (.int v3.2.1), none, none]) rfl ?_
        obtain rfl := Option.some.inj hq11
        exact Jq10
      · have hq11 := e_f hc hq11
        refine r_iload F dX10_joinRound_29 rfl ?_
        refine r_iconst F dX10_joinRound_31 (v := (-1)) (by decide) ?_
        refine r_icmp_ne F dX10_joinRound_32 (tgt := 45) (by decide) (fun hc => ?_) (fun hc => ?_)
        · have hq11 := e_f hc hq11
          refine r_iload_n F dX10_joinRound_45 rfl ?_
          refine r_iload F dX10_joinRound_46 rfl ?_
          obtain ⟨q14, hq15, hq11⟩ := e_bd hq11
          refine r_callS F dX10_joinRound_48 (dc := 0) (ds := 0) (As := [.int v3.1, .int q8]) (S0 := []) lkX10_43 mJ9_max_7cf53 (tJ9_max_7cf53 hG (la := x_l X) (h := e_up h [(65, o65 v3.2.2)]) hnx  hq15) rfl rfl rfl (e_le rfl) (e_le rfl) (e_le rfl) (Nat.zero_le _) (Nat.zero_le _) (e_k ?_)
          refine r_wr0 ?_
          refine r_istore F dX10_joinRound_51 (e_le rfl) (L' := [some (.ref 64), some (.int p0), some (.int p1), some (.int v3.1), some (.int v3.2.1), some (.int q8), some (.int q14)]) rfl ?_
          refine r_iload_n F dX10_joinRound_53 rfl ?_
          refine r_iload F dX10_joinRound_54 rfl ?_
          obtain ⟨q16, hq17, hq11⟩ := e_bd hq11
          refine r_callS F dX10_joinRound_56 (dc := 0) (ds := 0) (As := [.int v3.1, .int q8]) (S0 := []) lkX10_49 mJ9_min_7cf53 (tJ9_min_7cf53 hG (la := x_l X) (h := e_up h [(65, o65 v3.2.2)]) hnx  hq17) rfl rfl rfl (e_le rfl) (e_le rfl) (e_le rfl) (Nat.zero_le _) (Nat.zero_le _) (e_k ?_)
          refine r_wr0 ?_
          refine r_istore_n F dX10_joinRound_59 (e_le rfl) (L' := [some (.ref 64), some (.int p0), some (.int p1), some (.int q16), some (.int v3.2.1), some (.int q8), some (.int q14)]) rfl ?_
          refine r_aload_n F dX10_joinRound_60 rfl ?_
          refine r_get F dX10_joinRound_61 flX10_11 h64 rfl (e_le rfl) (e_lt hnx rfl) ?_
          refine r_iload F dX10_joinRound_64 rfl ?_
          refine r_iload_n F dX10_joinRound_66 rfl ?_
          obtain ⟨hg, hq11⟩ := e_gd hq11
          refine r_iast F dX10_joinRound_67 rfl (e_le rfl) (e_lt hnx rfl) (e_vp hg) (l' := [(65, o65 (upd v3.2.2 (tn q14) q16))]) rfl ?_
          refine r_drop 5 (L' := [some (.ref 64), some (.int p0), some (.int p1), some (.int q16), some (.int v3.2.1), none, some (.int q14)]) rfl ?_
          refine r_drop 6 (L' := [some (.ref 64), some (.int p0), some (.int p1), some (.int q16), some (.int v3.2.1), none, none]) rfl ?_
          obtain rfl := Option.some.inj hq11
          exact Jq10
        · have hq11 := e_t hc hq11
          refine r_iload_n F dX10_joinRound_35 rfl ?_
          refine r_iload F dX10_joinRound_36 rfl ?_
          obtain ⟨q18, hq19, hq11⟩ := e_bd hq11
          refine r_callS F dX10_joinRound_38 (dc := 0) (ds := 0) (As := [.int v3.1, .int q8]) (S0 := []) lkX10_43 mJ9_max_7cf53 (tJ9_max_7cf53 hG (la := x_l X) (h := e_up h [(65, o65 v3.2.2)]) hnx  hq19) rfl rfl rfl (e_le rfl) (e_le rfl) (e_le rfl) (Nat.zero_le _) (Nat.zero_le _) (e_k ?_)
          refine r_wr0 ?_
          refine r_istore_n F dX10_joinRound_41 (e_le rfl) (L' := [some (.ref 64), some (.int p0), some (.int p1), some (.int q18), some (.int v3.2.1), some (.int q8), none]) rfl ?_
          refine r_goto F dX10_joinRound_42 (tgt := 68) (by decide) ?_
          refine r_drop 5 (L' := [some (.ref 64), some (.int p0), some (.int p1), some (.int q18), some (.int v3.2.1), none, none]) rfl ?_
          obtain rfl := Option.some.inj hq11
          exact Jq10
  · show eRun G X 74 [none, none, none, none, none, none, none] [] h [(65, o65 x4)] nx 0 0
    obtain rfl := Option.some.inj hf
    exact r_vret F hq dX10_joinRound_74 rfl rfl (Nat.le_refl _) (Nat.le_refl _) ⟨rfl, rfl⟩

def fX10_find (a40_0 : Int32) (a40_1 : Int32) (A41 : Nat → Int32) (A65 : Nat → Int32)  : Option ((Nat → Int32)) :=
  (e_loop (fun (v3 : Int32 × (Nat → Int32)) => (
      if 9 ≤ v3.1 then
        some (.inr v3.2)
      else
        (e_loop (fun (v8 : Int32 × (Nat → Int32)) => (
            if 9 ≤ v8.1 then
              some (.inr v8.2)
            else
              (e_loop (fun (v13 : Int32 × (Nat → Int32)) => (
                  if 2 ≤ v13.1 then
                    some (.inr v13.2)
                  else
                    (fX7_numberOf v8.1 v3.1 v13.1).bind (fun q16 =>
                    (fX7_isSlipped a40_0 a40_1 A41 v8.1 v3.1 v13.1).bind (fun q18 =>
                    Option.bind (α := Int32) (
                      if q18 = true then
                        some q16
                      else
                        some (-1)) (fun q20 =>
                    e_g (e_in q16 162) (
                    some (.inl (v13.1 + 1, upd v13.2 (tn q16) q20)))))) : Option ((Int32 × (Nat → Int32)) ⊕ ((Nat → Int32))))) e_fuel (0, v8.2)).bind (fun x14 =>
              some (.inl (v8.1 + 1, x14))) : Option ((Int32 × (Nat → Int32)) ⊕ ((Nat → Int32))))) e_fuel (0, v3.2)).bind (fun x9 =>
        some (.inl (v3.1 + 1, x9))) : Option ((Int32 × (Nat → Int32)) ⊕ ((Nat → Int32))))) e_fuel (0, A65)).bind (fun x4 =>
  (e_loop (fun (v24 : Int32 × (Nat → Int32)) => (
      if (a40_1 - 1) ≤ v24.1 then
        some (.inr v24.2)
      else
        (e_loop (fun (v29 : Int32 × (Nat → Int32)) => (
            if (a40_0 - 1) ≤ v29.1 then
              some (.inr v29.2)
            else
              (fX10_joinRound v29.2 v29.1 v24.1).bind (fun q32 =>
              some (.inl (v29.1 + 1, q32))) : Option ((Int32 × (Nat → Int32)) ⊕ ((Nat → Int32))))) e_fuel (0, v24.2)).bind (fun x30 =>
        some (.inl (v24.1 + 1, x30))) : Option ((Int32 × (Nat → Int32)) ⊕ ((Nat → Int32))))) e_fuel (0, x4)).bind (fun x25 =>
  some x25))
set_option maxRecDepth 100000 in
theorem tX10_find_64_40 {G : eG} (hG : e_GS G) {la : Launch} {h : Nat → eO} {nx : Nat} (hnx : 99 ≤ nx) {a40_0 : Int32} {a40_1 : Int32} {A41 : Nat → Int32} {A65 : Nat → Int32}  (h40 : h 40 = o40 a40_0 a40_1) (h41 : h 41 = o41 A41) (h64 : h 64 = o64) (h65 : h 65 = o65 A65) {R9 : (Nat → Int32)} (hf : fX10_find a40_0 a40_1 A41 A65  = some R9) :
    eSem G la MX10_find [.ref 64, .ref 40] h nx 0 0 (fun r9 h9 => r9 = none ∧ h9 = e_up h [(65, o65 R9)]) := by
  refine eSem.of (k := 4) (L := [some (.ref 64), some (.ref 40), none, none, none, none]) (by decide +kernel) rfl rfl (fun X F hxl hq hcR hsR => ?_)
  subst hxl
  unfold fX10_find at hf
  refine r_iconst F dX10_find_0 (v := 0) (by decide) ?_
  refine r_istore_n F dX10_find_1 (e_le rfl) (L' := [some (.ref 64), some (.ref 40), some (.int 0), none, none, none]) rfl ?_
  refine r_mat (k := 65) h65 (l' := [(65, o65 A65)]) rfl ?_
  obtain ⟨x4, hx5, hf⟩ := e_bd hf
  refine (e_loop_ok (P := fun (v3 : Int32 × (Nat → Int32)) => eRun G X 2 [some (.ref 64), some (.ref 40), some (.int v3.1), none, none, none] [] h [(65, o65 v3.2)] nx 0 0) (K := fun (x4 : (Nat → Int32)) => eRun G X 76 [some (.ref 64), some (.ref 40), none, none, none, none] [] h [(65, o65 x4)] nx 0 0) ?_ e_fuel (0, A65) x4 hx5 ?_ : _)
  · intro v3 z hz ih hx
    refine r_iload_n F dX10_find_2 rfl ?_
    refine r_bipush F dX10_find_3 (v := 9) (by decide) ?_
    refine r_icmp_ge F dX10_find_5 (tgt := 76) (by decide) (fun hc => ?_) (fun hc => ?_)
    · have hz := e_t hc hz
      refine r_drop 2 (L' := [some (.ref 64), some (.ref 40), none, none, none, none]) rfl ?_
      obtain rfl := Option.some.inj hz
      exact hx v3.2 rfl
    · have hz := e_f hc hz
      refine r_iconst F dX10_find_8 (v := 0) (by decide) ?_
      refine r_istore_n F dX10_find_9 (e_le rfl) (L' := [some (.ref 64), some (.ref 40), some (.int v3.1), some (.int 0), none, none]) rfl ?_
      obtain ⟨x9, hx10, hz⟩ := e_bd hz
      refine (e_loop_ok (P := fun (v8 : Int32 × (Nat → Int32)) => eRun G X 10 [some (.ref 64), some (.ref 40), some (.int v3.1), some (.int v8.1), none, none] [] h [(65, o65 v8.2)] nx 0 0) (K := fun (x9 : (Nat → Int32)) => eRun G X 70 [some (.ref 64), some (.ref 40), some (.int v3.1), none, none, none] [] h [(65, o65 x9)] nx 0 0) ?_ e_fuel (0, v3.2) x9 hx10 ?_ : _)
      · intro v8 z hz ih hx
        refine r_iload_n F dX10_find_10 rfl ?_
        refine r_bipush F dX10_find_11 (v := 9) (by decide) ?_
        refine r_icmp_ge F dX10_find_13 (tgt := 70) (by decide) (fun hc => ?_) (fun hc => ?_)
        · have hz := e_t hc hz
          refine r_drop 3 (L' := [some (.ref 64), some (.ref 40), some (.int v3.1), none, none, none]) rfl ?_
          obtain rfl := Option.some.inj hz
          exact hx v8.2 rfl
        · have hz := e_f hc hz
          refine r_iconst F dX10_find_16 (v := 0) (by decide) ?_
          refine r_istore F dX10_find_17 (e_le rfl) (L' := [some (.ref 64), some (.ref 40), some (.int v3.1), some (.int v8.1), some (.int 0), none]) rfl ?_
          obtain ⟨x14, hx15, hz⟩ := e_bd hz
          refine (e_loop_ok (P := fun (v13 : Int32 × (Nat → Int32)) => eRun G X 19 [some (.ref 64), some (.ref 40), some (.int v3.1), some (.int v8.1), some (.int v13.1), none] [] h [(65, o65 v13.2)] nx 0 0) (K := fun (x14 : (Nat → Int32)) => eRun G X 64 [some (.ref 64), some (.ref 40), some (.int v3.1), some (.int v8.1), none, none] [] h [(65, o65 x14)] nx 0 0) ?_ e_fuel (0, v8.2) x14 hx15 ?_ : _)
          · intro v13 z hz ih hx
            refine r_iload F dX10_find_19 rfl ?_
            refine r_iconst F dX10_find_21 (v := 2) (by decide) ?_
            refine r_icmp_ge F dX10_find_22 (tgt := 64) (by decide) (fun hc => ?_) (fun hc => ?_)
            · have hz := e_t hc hz
              refine r_drop 4 (L' := [some (.ref 64), some (.ref 40), some (.int v3.1), some (.int v8.1), none, none]) rfl ?_
              obtain rfl := Option.some.inj hz
              exact hx v13.2 rfl
            · have hz := e_f hc hz
              refine r_iload_n F dX10_find_25 rfl ?_
              refine r_iload_n F dX10_find_26 rfl ?_
              refine r_iload F dX10_find_27 rfl ?_
              obtain ⟨q16, hq17, hz⟩ := e_bd hz
              refine r_callS F dX10_find_29 (dc := 0) (ds := 0) (As := [.int v8.1, .int v3.1, .int v13.1]) (S0 := []) lkX10_17 mX7_numberOf (tX7_numberOf hG (la := x_l X) (h := e_up h [(65, o65 v13.2)]) hnx  hq17) rfl rfl rfl (e_le rfl) (e_le rfl) (e_le rfl) (Nat.zero_le _) (Nat.zero_le _) (e_k ?_)
              refine r_wr0 ?_
              refine r_istore F dX10_find_32 (e_le rfl) (L' := [some (.ref 64), some (.ref 40), some (.int v3.1), some (.int v8.1), some (.int v13.1), some (.int q16)]) rfl ?_
              refine r_aload_n F dX10_find_34 rfl ?_
              refine r_get F dX10_find_35 flX10_11 h64 rfl (e_le rfl) (e_lt hnx rfl) ?_
              refine r_iload F dX10_find_38 rfl ?_
              refine r_aload_n F dX10_find_40 rfl ?_
              refine r_iload_n F dX10_find_41 rfl ?_
              refine r_iload_n F dX10_find_42 rfl ?_
              refine r_iload F dX10_find_43 rfl ?_
              obtain ⟨q18, hq19, hz⟩ := e_bd hz
              refine r_callV F dX10_find_45 (b := 40) (dc := 0) (ds := 0) (As := [.int v8.1, .int v3.1, .int v13.1]) (S0 := [.int q16, .ref 65]) lkX10_21 mX7_isSlipped (tX7_isSlipped_40 hG (la := x_l X) (h := e_up h [(65, o65 v13.2)]) hnx h40 h41 hq19) rfl rfl rfl (e_le rfl) (e_le rfl) (e_le rfl) h40 (ci := 7) e_cl7.1 rfl (e_le rfl) (e_lt hnx rfl) (Nat.zero_le _) (Nat.zero_le _) (e_k ?_)
              refine r_wr0 ?_
              obtain ⟨q20, hq21, hz⟩ := e_bd hz
              have Jq20 : eRun G X 57 [some (.ref 64), some (.ref 40), some (.int v3.1), some (.int v8.1), some (.int v13.1), none] [.int q20, .int q16, .ref 65] h [(65, o65 v13.2)] nx 0 0 := by
                obtain ⟨hg, hz⟩ := e_gd hz
                refine r_iast F dX10_find_57 rfl (e_le rfl) (e_lt hnx rfl) (e_vp hg) (l' := [(65, o65 (upd v13.2 (tn q16) q20))]) rfl ?_
                refine r_inc F dX10_find_58 (k9 := 1) (by decide) rfl (L' := [some (.ref 64), some (.ref 40), some (.int v3.1), some (.int v8.1), some (.int (v13.1 + 1)), none]) rfl ?_
                refine r_goto F dX10_find_61 (tgt := 19) (by decide) ?_
                obtain rfl := Option.some.inj hz
                exact ih (v13.1 + 1, upd v13.2 (tn q16) q20) rfl
              refine r_z_eq F dX10_find_48 (tgt := 56) (by decide) (fun hc => ?_) (fun hc => ?_)
              · have hq21 := e_t hc hq21
                refine r_iload F dX10_find_51 rfl ?_
                refine r_goto F dX10_find_53 (tgt := 57) (by decide) ?_
                refine r_drop 5 (L' := [some (.ref 64), some (.ref 40), some (.int v3.1), some (.int v8.1), some (.int v13.1), none]) rfl ?_
                obtain rfl := Option.some.inj hq21
                exact Jq20
              · have hq21 := e_f hc hq21
                refine r_iconst F dX10_find_56 (v := (-1)) (by decide) ?_
                refine r_drop 5 (L' := [some (.ref 64), some (.ref 40), some (.int v3.1), some (.int v8.1), some (.int v13.1), none]) rfl ?_
                obtain rfl := Option.some.inj hq21
                exact Jq20
          · show eRun G X 64 [some (.ref 64), some (.ref 40), some (.int v3.1), some (.int v8.1), none, none] [] h [(65, o65 x14)] nx 0 0
            refine r_inc F dX10_find_64 (k9 := 1) (by decide) rfl (L' := [some (.ref 64), some (.ref 40), some (.int v3.1), some (.int (v8.1 + 1)), none, none]) rfl ?_
            refine r_goto F dX10_find_67 (tgt := 10) (by decide) ?_
            obtain rfl := Option.some.inj hz
            exact ih (v8.1 + 1, x14) rfl
      · show eRun G X 70 [some (.ref 64), some (.ref 40), some (.int v3.1), none, none, none] [] h [(65, o65 x9)] nx 0 0
        refine r_inc F dX10_find_70 (k9 := 1) (by decide) rfl (L' := [some (.ref 64), some (.ref 40), some (.int (v3.1 + 1)), none, none, none]) rfl ?_
        refine r_goto F dX10_find_73 (tgt := 2) (by decide) ?_
        obtain rfl := Option.some.inj hz
        exact ih (v3.1 + 1, x9) rfl
  · show eRun G X 76 [some (.ref 64), some (.ref 40), none, none, none, none] [] h [(65, o65 x4)] nx 0 0
    refine r_iconst F dX10_find_76 (v := 0) (by decide) ?_
    refine r_istore_n F dX10_find_77 (e_le rfl) (L' := [some (.ref 64), some (.ref 40), some (.int 0), none, none, none]) rfl ?_
    obtain ⟨x25, hx26, hf⟩ := e_bd hf
    refine (e_loop_ok (P := fun (v24 : Int32 × (Nat → Int32)) => eRun G X 78 [some (.ref 64), some (.ref 40), some (.int v24.1), none, none, none] [] h [(65, o65 v24.2)] nx 0 0) (K := fun (x25 : (Nat → Int32)) => eRun G X 118 [none, none, none, none, none, none] [] h [(65, o65 x25)] nx 0 0) ?_ e_fuel (0, x4) x25 hx26 ?_ : _)
    · intro v24 z hz ih hx
      refine r_iload_n F dX10_find_78 rfl ?_
      refine r_aload_n F dX10_find_79 rfl ?_
      refine r_get F dX10_find_80 flX10_25 h40 rfl (e_le rfl) (e_lt hnx rfl) ?_
      refine r_iconst F dX10_find_83 (v := 1) (by decide) ?_
      refine r_isub F dX10_find_84 ?_
      refine r_icmp_ge F dX10_find_85 (tgt := 118) (by decide) (fun hc => ?_) (fun hc => ?_)
      · have hz := e_t hc hz
        refine r_drop 0 (L' := [none, some (.ref 40), some (.int v24.1), none, none, none]) rfl ?_
        refine r_drop 1 (L' := [none, none, some (.int v24.1), none, none, none]) rfl ?_
        refine r_drop 2 (L' := [none, none, none, none, none, none]) rfl ?_
        obtain rfl := Option.some.inj hz
        exact hx v24.2 rfl
      · have hz := e_f hc hz
        refine r_iconst F dX10_find_88 (v := 0) (by decide) ?_
        refine r_istore_n F dX10_find_89 (e_le rfl) (L' := [some (.ref 64), some (.ref 40), some (.int v24.1), some (.int 0), none, none]) rfl ?_
        obtain ⟨x30, hx31, hz⟩ := e_bd hz
        refine (e_loop_ok (P := fun (v29 : Int32 × (Nat → Int32)) => eRun G X 90 [some (.ref 64), some (.ref 40), some (.int v24.1), some (.int v29.1), none, none] [] h [(65, o65 v29.2)] nx 0 0) (K := fun (x30 : (Nat → Int32)) => eRun G X 112 [some (.ref 64), some (.ref 40), some (.int v24.1), none, none, none] [] h [(65, o65 x30)] nx 0 0) ?_ e_fuel (0, v24.2) x30 hx31 ?_ : _)
        · intro v29 z hz ih hx
          refine r_iload_n F dX10_find_90 rfl ?_
          refine r_aload_n F dX10_find_91 rfl ?_
          refine r_get F dX10_find_92 flX10_29 h40 rfl (e_le rfl) (e_lt hnx rfl) ?_
          refine r_iconst F dX10_find_95 (v := 1) (by decide) ?_
          refine r_isub F dX10_find_96 ?_
          refine r_icmp_ge F dX10_find_97 (tgt := 112) (by decide) (fun hc => ?_) (fun hc => ?_)
          · have hz := e_t hc hz
            refine r_drop 3 (L' := [some (.ref 64), some (.ref 40), some (.int v24.1), none, none, none]) rfl ?_
            obtain rfl := Option.some.inj hz
            exact hx v29.2 rfl
          · have hz := e_f hc hz
            refine r_aload_n F dX10_find_100 rfl ?_
            refine r_iload_n F dX10_find_101 rfl ?_
            refine r_iload_n F dX10_find_102 rfl ?_
            obtain ⟨q32, hq33, hz⟩ := e_bd hz
            refine r_callV F dX10_find_103 (b := 64) (dc := 0) (ds := 0) (As := [.int v29.1, .int v24.1]) (S0 := []) lkX10_32 mX10_joinRound (tX10_joinRound_64 hG (la := x_l X) (h := e_up h [(65, o65 v29.2)]) hnx h64 rfl hq33) rfl rfl rfl (e_le rfl) (e_le rfl) (e_le rfl) h64 (ci := 10) e_cl10.1 rfl (e_le rfl) (e_lt hnx rfl) (Nat.zero_le _) (Nat.zero_le _) (e_k ?_)
            refine r_wr (l' := [(65, o65 q32)]) rfl rfl ?_
            refine r_inc F dX10_find_106 (k9 := 1) (by decide) rfl (L' := [some (.ref 64), some (.ref 40), some (.int v24.1), some (.int (v29.1 + 1)), none, none]) rfl ?_
            refine r_goto F dX10_find_109 (tgt := 90) (by decide) ?_
            obtain rfl := Option.some.inj hz
            exact ih (v29.1 + 1, q32) rfl
        · show eRun G X 112 [some (.ref 64), some (.ref 40), some (.int v24.1), none, none, none] [] h [(65, o65 x30)] nx 0 0
          refine r_inc F dX10_find_112 (k9 := 1) (by decide) rfl (L' := [some (.ref 64), some (.ref 40), some (.int (v24.1 + 1)), none, none, none]) rfl ?_
          refine r_goto F dX10_find_115 (tgt := 78) (by decide) ?_
          obtain rfl := Option.some.inj hz
          exact ih (v24.1 + 1, x30) rfl
    · show eRun G X 118 [none, none, none, none, none, none] [] h [(65, o65 x25)] nx 0 0
      obtain rfl := Option.some.inj hf
      exact r_vret F hq dX10_find_118 rfl rfl (Nat.le_refl _) (Nat.le_refl _) ⟨rfl, rfl⟩

def fX10_linksOf (A65 : Nat → Int32) (p0 : Int32) : Option (Int32) :=
  (e_loop (fun (v3 : Int32 × Int32) => (
      if 162 ≤ v3.2 then
        some (.inr v3.1)
      else
        (fX10_firstOf A65 v3.2).bind (fun q6 =>
        Option.bind (α := Int32) (
          if q6 = p0 then
            some (v3.1 + 1)
          else
            some v3.1) (fun q8 =>
        some (.inl (q8, v3.2 + 1)))) : Option ((Int32 × Int32) ⊕ (Int32)))) e_fuel (0, 0)).bind (fun x4 =>
  some x4)
set_option maxRecDepth 100000 in
theorem tX10_linksOf_64 {G : eG} (hG : e_GS G) {la : Launch} {h : Nat → eO} {nx : Nat} (hnx : 99 ≤ nx) {A65 : Nat → Int32} {p0 : Int32} (h64 : h 64 = o64) (h65 : h 65 = o65 A65) {R9 : Int32} (hf : fX10_linksOf A65 p0 = some R9) :
    eSem G la MX10_linksOf [.ref 64, .int p0] h nx 0 0 (fun r9 h9 => r9 = some (.int R9) ∧ h9 = h) := by
  refine eSem.of (k := 2) (L := [some (.ref 64), some (.int p0), none, none]) (by decide +kernel) rfl rfl (fun X F hxl hq hcR hsR => ?_)
  subst hxl
  unfold fX10_linksOf at hf
  refine r_iconst F dX10_linksOf_0 (v := 0) (by decide) ?_
  refine r_istore_n F dX10_linksOf_1 (e_le rfl) (L' := [some (.ref 64), some (.int p0), some (.int 0), none]) rfl ?_
  refine r_iconst F dX10_linksOf_2 (v := 0) (by decide) ?_
  refine r_istore_n F dX10_linksOf_3 (e_le rfl) (L' := [some (.ref 64), some (.int p0), some (.int 0), some (.int 0)]) rfl ?_
  obtain ⟨x4, hx5, hf⟩ := e_bd hf
  refine (e_loop_ok (P := fun (v3 : Int32 × Int32) => eRun G X 4 [some (.ref 64), some (.int p0), some (.int v3.1), some (.int v3.2)] [] h [] nx 0 0) (K := fun (x4 : Int32) => eRun G X 29 [none, none, some (.int x4), none] [] h [] nx 0 0) ?_ e_fuel (0, 0) x4 hx5 ?_ : _)
  · intro v3 z hz ih hx
    refine r_iload_n F dX10_linksOf_4 rfl ?_
    refine r_sipush F dX10_linksOf_5 (v := 162) (by decide) ?_
    refine r_icmp_ge F dX10_linksOf_8 (tgt := 29) (by decide) (fun hc => ?_) (fun hc => ?_)
    · have hz := e_t hc hz
      refine r_drop 0 (L' := [none, some (.int p0), some (.int v3.1), some (.int v3.2)]) rfl ?_
      refine r_drop 1 (L' := [none, none, some (.int v3.1), some (.int v3.2)]) rfl ?_
      refine r_drop 3 (L' := [none, none, some (.int v3.1), none]) rfl ?_
      obtain rfl := Option.some.inj hz
      exact hx v3.1 rfl
    · have hz := e_f hc hz
      refine r_aload_n F dX10_linksOf_11 rfl ?_
      refine r_iload_n F dX10_linksOf_12 rfl ?_
      obtain ⟨q6, hq7, hz⟩ := e_bd hz
      refine r_callV F dX10_linksOf_13 (b := 64) (dc := 0) (ds := 0) (As := [.int v3.2]) (S0 := []) lkX10_39 mX10_firstOf (tX10_firstOf_64 hG (la := x_l X) (h := e_up h []) hnx h64 h65 hq7) rfl rfl rfl (e_le rfl) (e_le rfl) (e_le rfl) h64 (ci := 10) e_cl10.1 rfl (e_le rfl) (e_lt hnx rfl) (Nat.zero_le _) (Nat.zero_le _) (e_k ?_)
      refine r_wr0 ?_
      refine r_iload_n F dX10_linksOf_16 rfl ?_
      obtain ⟨q8, hq9, hz⟩ := e_bd hz
      have Jq8 : eRun G X 23 [some (.ref 64), some (.int p0), some (.int q8), some (.int v3.2)] [] h [] nx 0 0 := by
        refine r_inc F dX10_linksOf_23 (k9 := 1) (by decide) rfl (L' := [some (.ref 64), some (.int p0), some (.int q8), some (.int (v3.2 + 1))]) rfl ?_
        refine r_goto F dX10_linksOf_26 (tgt := 4) (by decide) ?_
        obtain rfl := Option.some.inj hz
        exact ih (q8, v3.2 + 1) rfl
      refine r_icmp_ne F dX10_linksOf_17 (tgt := 23) (by decide) (fun hc => ?_) (fun hc => ?_)
      · have hq9 := e_f hc hq9
        obtain rfl := Option.some.inj hq9
        exact Jq8
      · have hq9 := e_t hc hq9
        refine r_inc F dX10_linksOf_20 (k9 := 1) (by decide) rfl (L' := [some (.ref 64), some (.int p0), some (.int (v3.1 + 1)), some (.int v3.2)]) rfl ?_
        obtain rfl := Option.some.inj hq9
        exact Jq8
  · show eRun G X 29 [none, none, some (.int x4), none] [] h [] nx 0 0
    refine r_iload_n F dX10_linksOf_29 rfl ?_
    obtain rfl := Option.some.inj hf
    exact r_iret F hq dX10_linksOf_30 rfl rfl (Nat.le_refl _) (Nat.le_refl _) ⟨rfl, rfl⟩

def fX10_mostLinks (A65 : Nat → Int32)  : Option (Int32) :=
  (e_loop (fun (v3 : Int32 × Int32) => (
      if 162 ≤ v3.2 then
        some (.inr v3.1)
      else
        e_g (e_in v3.2 162) (
        Option.bind (α := Int32) (
          if (A65 (tn v3.2)) = v3.2 then
            (fX10_linksOf A65 v3.2).bind (fun q8 =>
            (fJ9_max_7cf53 v3.1 q8).bind (fun q10 =>
            some q10))
          else
            some v3.1) (fun q6 =>
        some (.inl (q6, v3.2 + 1)))) : Option ((Int32 × Int32) ⊕ (Int32)))) e_fuel (0, 0)).bind (fun x4 =>
  some x4)
set_option maxRecDepth 100000 in
theorem tX10_mostLinks_64 {G : eG} (hG : e_GS G) {la : Launch} {h : Nat → eO} {nx : Nat} (hnx : 99 ≤ nx) {A65 : Nat → Int32}  (h64 : h 64 = o64) (h65 : h 65 = o65 A65) {R9 : Int32} (hf : fX10_mostLinks A65  = some R9) :
    eSem G la MX10_mostLinks [.ref 64] h nx 0 0 (fun r9 h9 => r9 = some (.int R9) ∧ h9 = h) := by
  refine eSem.of (k := 2) (L := [some (.ref 64), none, none]) (by decide +kernel) rfl rfl (fun X F hxl hq hcR hsR => ?_)
  subst hxl
  unfold fX10_mostLinks at hf
  refine r_iconst F dX10_mostLinks_0 (v := 0) (by decide) ?_
  refine r_istore_n F dX10_mostLinks_1 (e_le rfl) (L' := [some (.ref 64), some (.int 0), none]) rfl ?_
  refine r_iconst F dX10_mostLinks_2 (v := 0) (by decide) ?_
  refine r_istore_n F dX10_mostLinks_3 (e_le rfl) (L' := [some (.ref 64), some (.int 0), some (.int 0)]) rfl ?_
  obtain ⟨x4, hx5, hf⟩ := e_bd hf
  refine (e_loop_ok (P := fun (v3 : Int32 × Int32) => eRun G X 4 [some (.ref 64), some (.int v3.1), some (.int v3.2)] [] h [] nx 0 0) (K := fun (x4 : Int32) => eRun G X 37 [none, some (.int x4), none] [] h [] nx 0 0) ?_ e_fuel (0, 0) x4 hx5 ?_ : _)
  · intro v3 z hz ih hx
    refine r_iload_n F dX10_mostLinks_4 rfl ?_
    refine r_sipush F dX10_mostLinks_5 (v := 162) (by decide) ?_
    refine r_icmp_ge F dX10_mostLinks_8 (tgt := 37) (by decide) (fun hc => ?_) (fun hc => ?_)
    · have hz := e_t hc hz
      refine r_drop 0 (L' := [none, some (.int v3.1), some (.int v3.2)]) rfl ?_
      refine r_drop 2 (L' := [none, some (.int v3.1), none]) rfl ?_
      obtain rfl := Option.some.inj hz
      exact hx v3.1 rfl
    · have hz := e_f hc hz
      refine r_aload_n F dX10_mostLinks_11 rfl ?_
      refine r_get F dX10_mostLinks_12 flX10_11 h64 rfl (e_le rfl) (e_lt hnx rfl) ?_
      refine r_iload_n F dX10_mostLinks_15 rfl ?_
      obtain ⟨hg, hz⟩ := e_gd hz
      refine r_iald F dX10_mostLinks_16 (i := v3.2) h65 (e_le rfl) (e_lt hnx rfl) (e_vp hg) ?_
      refine r_iload_n F dX10_mostLinks_17 rfl ?_
      obtain ⟨q6, hq7, hz⟩ := e_bd hz
      have Jq6 : eRun G X 31 [some (.ref 64), some (.int q6), some (.int v3.2)] [] h [] nx 0 0 := by
        refine r_inc F dX10_mostLinks_31 (k9 := 1) (by decide) rfl (L' := [some (.ref 64), some (.int q6), some (.int (v3.2 + 1))]) rfl ?_
        refine r_goto F dX10_mostLinks_34 (tgt := 4) (by decide) ?_
        obtain rfl := Option.some.inj hz
        exact ih (q6, v3.2 + 1) rfl
      refine r_icmp_ne F dX10_mostLinks_18 (tgt := 31) (by decide) (fun hc => ?_) (fun hc => ?_)
      · have hq7 := e_f hc hq7
        obtain rfl := Option.some.inj hq7
        exact Jq6
      · have hq7 := e_t hc hq7
        refine r_iload_n F dX10_mostLinks_21 rfl ?_
        refine r_aload_n F dX10_mostLinks_22 rfl ?_
        refine r_iload_n F dX10_mostLinks_23 rfl ?_
        obtain ⟨q8, hq9, hq7⟩ := e_bd hq7
        refine r_callV F dX10_mostLinks_24 (b := 64) (dc := 0) (ds := 0) (As := [.int v3.2]) (S0 := [.int v3.1]) lkX10_52 mX10_linksOf (tX10_linksOf_64 hG (la := x_l X) (h := e_up h []) hnx h64 h65 hq9) rfl rfl rfl (e_le rfl) (e_le rfl) (e_le rfl) h64 (ci := 10) e_cl10.1 rfl (e_le rfl) (e_lt hnx rfl) (Nat.zero_le _) (Nat.zero_le _) (e_k ?_)
        refine r_wr0 ?_
        obtain ⟨q10, hq11, hq7⟩ := e_bd hq7
        refine r_callS F dX10_mostLinks_27 (dc := 0) (ds := 0) (As := [.int v3.1, .int q8]) (S0 := []) lkX10_43 mJ9_max_7cf53 (tJ9_max_7cf53 hG (la := x_l X) (h := e_up h []) hnx  hq11) rfl rfl rfl (e_le rfl) (e_le rfl) (e_le rfl) (Nat.zero_le _) (Nat.zero_le _) (e_k ?_)
        refine r_wr0 ?_
        refine r_istore_n F dX10_mostLinks_30 (e_le rfl) (L' := [some (.ref 64), some (.int q10), some (.int v3.2)]) rfl ?_
        obtain rfl := Option.some.inj hq7
        exact Jq6
  · show eRun G X 37 [none, some (.int x4), none] [] h [] nx 0 0
    refine r_iload_n F dX10_mostLinks_37 rfl ?_
    obtain rfl := Option.some.inj hf
    exact r_iret F hq dX10_mostLinks_38 rfl rfl (Nat.le_refl _) (Nat.le_refl _) ⟨rfl, rfl⟩

def fX0_greatestNumber (a42_0 : Int32) (A44 : Nat → Int32)  : Option (Int32) :=
  (e_loop (fun (v3 : Int32 × Int32) => (
      if a42_0 ≤ v3.2 then
        some (.inr v3.1)
      else
        (fX0_numberOf a42_0 A44 v3.2 0).bind (fun q6 =>
        (fJ9_abs_0f7a4 q6).bind (fun q8 =>
        (fX0_numberOf a42_0 A44 v3.2 1).bind (fun q10 =>
        (fJ9_abs_0f7a4 q10).bind (fun q12 =>
        (fJ9_max_7cf53 q8 q12).bind (fun q14 =>
        (fJ9_max_7cf53 v3.1 q14).bind (fun q16 =>
        some (.inl (q16, v3.2 + 1)))))))) : Option ((Int32 × Int32) ⊕ (Int32)))) e_fuel (0, 0)).bind (fun x4 =>
  some x4)
set_option maxRecDepth 100000 in
theorem tX0_greatestNumber_42 {G : eG} (hG : e_GS G) {la : Launch} {h : Nat → eO} {nx : Nat} (hnx : 99 ≤ nx) {a42_0 : Int32} {A44 : Nat → Int32}  (h42 : h 42 = o42 a42_0) (h44 : h 44 = o44 A44) {R9 : Int32} (hf : fX0_greatestNumber a42_0 A44  = some R9) :
    eSem G la MX0_greatestNumber [.ref 42] h nx 0 0 (fun r9 h9 => r9 = some (.int R9) ∧ h9 = h) := by
  refine eSem.of (k := 2) (L := [some (.ref 42), none, none]) (by decide +kernel) rfl rfl (fun X F hxl hq hcR hsR => ?_)
  subst hxl
  unfold fX0_greatestNumber at hf
  refine r_iconst F dX0_greatestNumber_0 (v := 0) (by decide) ?_
  refine r_istore_n F dX0_greatestNumber_1 (e_le rfl) (L' := [some (.ref 42), some (.int 0), none]) rfl ?_
  refine r_iconst F dX0_greatestNumber_2 (v := 0) (by decide) ?_
  refine r_istore_n F dX0_greatestNumber_3 (e_le rfl) (L' := [some (.ref 42), some (.int 0), some (.int 0)]) rfl ?_
  obtain ⟨x4, hx5, hf⟩ := e_bd hf
  refine (e_loop_ok (P := fun (v3 : Int32 × Int32) => eRun G X 4 [some (.ref 42), some (.int v3.1), some (.int v3.2)] [] h [] nx 0 0) (K := fun (x4 : Int32) => eRun G X 44 [none, some (.int x4), none] [] h [] nx 0 0) ?_ e_fuel (0, 0) x4 hx5 ?_ : _)
  · intro v3 z hz ih hx
    refine r_iload_n F dX0_greatestNumber_4 rfl ?_
    refine r_aload_n F dX0_greatestNumber_5 rfl ?_
    refine r_get F dX0_greatestNumber_6 flX0_18 h42 rfl (e_le rfl) (e_lt hnx rfl) ?_
    refine r_icmp_ge F dX0_greatestNumber_9 (tgt := 44) (by decide) (fun hc => ?_) (fun hc => ?_)
    · have hz := e_t hc hz
      refine r_drop 0 (L' := [none, some (.int v3.1), some (.int v3.2)]) rfl ?_
      refine r_drop 2 (L' := [none, some (.int v3.1), none]) rfl ?_
      obtain rfl := Option.some.inj hz
      exact hx v3.1 rfl
    · have hz := e_f hc hz
      refine r_iload_n F dX0_greatestNumber_12 rfl ?_
      refine r_aload_n F dX0_greatestNumber_13 rfl ?_
      refine r_iload_n F dX0_greatestNumber_14 rfl ?_
      refine r_iconst F dX0_greatestNumber_15 (v := 0) (by decide) ?_
      obtain ⟨q6, hq7, hz⟩ := e_bd hz
      refine r_callV F dX0_greatestNumber_16 (b := 42) (dc := 0) (ds := 0) (As := [.int v3.2, .int 0]) (S0 := [.int v3.1]) lkX0_38 mX0_numberOf (tX0_numberOf_42 hG (la := x_l X) (h := e_up h []) hnx h42 h44 hq7) rfl rfl rfl (e_le rfl) (e_le rfl) (e_le rfl) h42 (ci := 0) e_cl0.1 rfl (e_le rfl) (e_lt hnx rfl) (Nat.zero_le _) (Nat.zero_le _) (e_k ?_)
      refine r_wr0 ?_
      obtain ⟨q8, hq9, hz⟩ := e_bd hz
      refine r_callS F dX0_greatestNumber_19 (dc := 0) (ds := 0) (As := [.int q6]) (S0 := [.int v3.1]) lkX0_61 mJ9_abs_0f7a4 (tJ9_abs_0f7a4 hG (la := x_l X) (h := e_up h []) hnx  hq9) rfl rfl rfl (e_le rfl) (e_le rfl) (e_le rfl) (Nat.zero_le _) (Nat.zero_le _) (e_k ?_)
      refine r_wr0 ?_
      refine r_aload_n F dX0_greatestNumber_22 rfl ?_
      refine r_iload_n F dX0_greatestNumber_23 rfl ?_
      refine r_iconst F dX0_greatestNumber_24 (v := 1) (by decide) ?_
      obtain ⟨q10, hq11, hz⟩ := e_bd hz
      refine r_callV F dX0_greatestNumber_25 (b := 42) (dc := 0) (ds := 0) (As := [.int v3.2, .int 1]) (S0 := [.int q8, .int v3.1]) lkX0_38 mX0_numberOf (tX0_numberOf_42 hG (la := x_l X) (h := e_up h []) hnx h42 h44 hq11) rfl rfl rfl (e_le rfl) (e_le rfl) (e_le rfl) h42 (ci := 0) e_cl0.1 rfl (e_le rfl) (e_lt hnx rfl) (Nat.zero_le _) (Nat.zero_le _) (e_k ?_)
      refine r_wr0 ?_
      obtain ⟨q12, hq13, hz⟩ := e_bd hz
      refine r_callS F dX0_greatestNumber_28 (dc := 0) (ds := 0) (As := [.int q10]) (S0 := [.int q8, .int v3.1]) lkX0_61 mJ9_abs_0f7a4 (tJ9_abs_0f7a4 hG (la := x_l X) (h := e_up h []) hnx  hq13) rfl rfl rfl (e_le rfl) (e_le rfl) (e_le rfl) (Nat.zero_le _) (Nat.zero_le _) (e_k ?_)
      refine r_wr0 ?_
      obtain ⟨q14, hq15, hz⟩ := e_bd hz
      refine r_callS F dX0_greatestNumber_31 (dc := 0) (ds := 0) (As := [.int q8, .int q12]) (S0 := [.int v3.1]) lkX0_70 mJ9_max_7cf53 (tJ9_max_7cf53 hG (la := x_l X) (h := e_up h []) hnx  hq15) rfl rfl rfl (e_le rfl) (e_le rfl) (e_le rfl) (Nat.zero_le _) (Nat.zero_le _) (e_k ?_)
      refine r_wr0 ?_
      obtain ⟨q16, hq17, hz⟩ := e_bd hz
      refine r_callS F dX0_greatestNumber_34 (dc := 0) (ds := 0) (As := [.int v3.1, .int q14]) (S0 := []) lkX0_70 mJ9_max_7cf53 (tJ9_max_7cf53 hG (la := x_l X) (h := e_up h []) hnx  hq17) rfl rfl rfl (e_le rfl) (e_le rfl) (e_le rfl) (Nat.zero_le _) (Nat.zero_le _) (e_k ?_)
      refine r_wr0 ?_
      refine r_istore_n F dX0_greatestNumber_37 (e_le rfl) (L' := [some (.ref 42), some (.int q16), some (.int v3.2)]) rfl ?_
      refine r_inc F dX0_greatestNumber_38 (k9 := 1) (by decide) rfl (L' := [some (.ref 42), some (.int q16), some (.int (v3.2 + 1))]) rfl ?_
      refine r_goto F dX0_greatestNumber_41 (tgt := 4) (by decide) ?_
      obtain rfl := Option.some.inj hz
      exact ih (q16, v3.2 + 1) rfl
  · show eRun G X 44 [none, some (.int x4), none] [] h [] nx 0 0
    refine r_iload_n F dX0_greatestNumber_44 rfl ?_
    obtain rfl := Option.some.inj hf
    exact r_iret F hq dX0_greatestNumber_45 rfl rfl (Nat.le_refl _) (Nat.le_refl _) ⟨rfl, rfl⟩

def fX0_withOpposite (a42_0 : Int32) (A44 : Nat → Int32)  : Option (Int32) :=
  (e_loop (fun (v3 : Int32 × Int32) => (
      if a42_0 ≤ v3.2 then
        some (.inr v3.1)
      else
        (fX0_hasOpposite a42_0 A44 v3.2).bind (fun q6 =>
        Option.bind (α := Int32) (
          if q6 = true then
            some (v3.1 + 1)
          else
            some v3.1) (fun q8 =>
        some (.inl (q8, v3.2 + 1)))) : Option ((Int32 × Int32) ⊕ (Int32)))) e_fuel (0, 0)).bind (fun x4 =>
  some x4)
set_option maxRecDepth 100000 in
theorem tX0_withOpposite_42 {G : eG} (hG : e_GS G) {la : Launch} {h : Nat → eO} {nx : Nat} (hnx : 99 ≤ nx) {a42_0 : Int32} {A44 : Nat → Int32}  (h42 : h 42 = o42 a42_0) (h44 : h 44 = o44 A44) {R9 : Int32} (hf : fX0_withOpposite a42_0 A44  = some R9) :
    eSem G la MX0_withOpposite [.ref 42] h nx 0 0 (fun r9 h9 => r9 = some (.int R9) ∧ h9 = h) := by
  refine eSem.of (k := 2) (L := [some (.ref 42), none, none]) (by decide +kernel) rfl rfl (fun X F hxl hq hcR hsR => ?_)
  subst hxl
  unfold fX0_withOpposite at hf
  refine r_iconst F dX0_withOpposite_0 (v := 0) (by decide) ?_
  refine r_istore_n F dX0_withOpposite_1 (e_le rfl) (L' := [some (.ref 42), some (.int 0), none]) rfl ?_
  refine r_iconst F dX0_withOpposite_2 (v := 0) (by decide) ?_
  refine r_istore_n F dX0_withOpposite_3 (e_le rfl) (L' := [some (.ref 42), some (.int 0), some (.int 0)]) rfl ?_
  obtain ⟨x4, hx5, hf⟩ := e_bd hf
  refine (e_loop_ok (P := fun (v3 : Int32 × Int32) => eRun G X 4 [some (.ref 42), some (.int v3.1), some (.int v3.2)] [] h [] nx 0 0) (K := fun (x4 : Int32) => eRun G X 29 [none, some (.int x4), none] [] h [] nx 0 0) ?_ e_fuel (0, 0) x4 hx5 ?_ : _)
  · intro v3 z hz ih hx
    refine r_iload_n F dX0_withOpposite_4 rfl ?_
    refine r_aload_n F dX0_withOpposite_5 rfl ?_
    refine r_get F dX0_withOpposite_6 flX0_18 h42 rfl (e_le rfl) (e_lt hnx rfl) ?_
    refine r_icmp_ge F dX0_withOpposite_9 (tgt := 29) (by decide) (fun hc => ?_) (fun hc => ?_)
    · have hz := e_t hc hz
      refine r_drop 0 (L' := [none, some (.int v3.1), some (.int v3.2)]) rfl ?_
      refine r_drop 2 (L' := [none, some (.int v3.1), none]) rfl ?_
      obtain rfl := Option.some.inj hz
      exact hx v3.1 rfl
    · have hz := e_f hc hz
      refine r_aload_n F dX0_withOpposite_12 rfl ?_
      refine r_iload_n F dX0_withOpposite_13 rfl ?_
      obtain ⟨q6, hq7, hz⟩ := e_bd hz
      refine r_callV F dX0_withOpposite_14 (b := 42) (dc := 0) (ds := 0) (As := [.int v3.2]) (S0 := []) lkX0_86 mX0_hasOpposite (tX0_hasOpposite_42 hG (la := x_l X) (h := e_up h []) hnx h42 h44 hq7) rfl rfl rfl (e_le rfl) (e_le rfl) (e_le rfl) h42 (ci := 0) e_cl0.1 rfl (e_le rfl) (e_lt hnx rfl) (Nat.zero_le _) (Nat.zero_le _) (e_k ?_)
      refine r_wr0 ?_
      obtain ⟨q8, hq9, hz⟩ := e_bd hz
      have Jq8 : eRun G X 23 [some (.ref 42), some (.int q8), some (.int v3.2)] [] h [] nx 0 0 := by
        refine r_inc F dX0_withOpposite_23 (k9 := 1) (by decide) rfl (L' := [some (.ref 42), some (.int q8), some (.int (v3.2 + 1))]) rfl ?_
        refine r_goto F dX0_withOpposite_26 (tgt := 4) (by decide) ?_
        obtain rfl := Option.some.inj hz
        exact ih (q8, v3.2 + 1) rfl
      refine r_z_eq F dX0_withOpposite_17 (tgt := 23) (by decide) (fun hc => ?_) (fun hc => ?_)
      · have hq9 := e_t hc hq9
        refine r_inc F dX0_withOpposite_20 (k9 := 1) (by decide) rfl (L' := [some (.ref 42), some (.int (v3.1 + 1)), some (.int v3.2)]) rfl ?_
        obtain rfl := Option.some.inj hq9
        exact Jq8
      · have hq9 := e_f hc hq9
        obtain rfl := Option.some.inj hq9
        exact Jq8
  · show eRun G X 29 [none, some (.int x4), none] [] h [] nx 0 0
    refine r_iload_n F dX0_withOpposite_29 rfl ?_
    obtain rfl := Option.some.inj hf
    exact r_iret F hq dX0_withOpposite_30 rfl rfl (Nat.le_refl _) (Nat.le_refl _) ⟨rfl, rfl⟩

def fX11_most (a40_0 : Int32) (a40_1 : Int32) (a42_0 : Int32) (A41 : Nat → Int32) (A43 : Nat → Int32) (A44 : Nat → Int32) (A53 : Nat → Int32) (A65 : Nat → Int32) (p0 : Int32) : Option (Int32 × (Nat → Int32)) :=
  (fX11_isEmpty a40_0).bind (fun q1 =>
  if q1 = true then
    some ((-1), A65)
  else
    if p0 = 0 then
      (fX0_mostAlike a42_0 A43 A44).bind (fun q3 =>
      some (q3, A65))
    else
      if p0 = 1 then
        (fX0_columnOfMostAlike a42_0 A43 A44).bind (fun q5 =>
        some (q5, A65))
      else
        if p0 = 2 then
          (fX0_mostForced a42_0 A43 A44 A53).bind (fun q7 =>
          some (q7, A65))
        else
          if p0 = 3 then
            (fX0_nearestPair a42_0 A43).bind (fun q9 =>
            some (q9, A65))
          else
            if p0 = 4 then
              (fX0_nearestPair a42_0 A43).bind (fun q11 =>
              (fX0_squareOfPair a42_0 A43 q11).bind (fun q13 =>
              some (q13, A65)))
            else
              if p0 = 5 then
                (fX10_find a40_0 a40_1 A41 A65).bind (fun q15 =>
                (fX10_mostLinks q15).bind (fun q17 =>
                some (q17, q15)))
              else
                if p0 = 6 then
                  (fX0_greatestNumber a42_0 A44).bind (fun q19 =>
                  some (q19, A65))
                else
                  if p0 = 7 then
                    (fX0_withOpposite a42_0 A44).bind (fun q21 =>
                    some (q21, A65))
                  else
                    some ((-1), A65))
set_option maxRecDepth 100000 in
theorem tX11_most_32 {G : eG} (hG : e_GS G) {la : Launch} {h : Nat → eO} {nx : Nat} (hnx : 99 ≤ nx) {a32_8 : Bool} {a32_10 : Bool} {a40_0 : Int32} {a40_1 : Int32} {A41 : Nat → Int32} {a42_0 : Int32} {A43 : Nat → Int32} {A44 : Nat → Int32} {A53 : Nat → Int32} {A65 : Nat → Int32} {p0 : Int32} (h32 : h 32 = o32 a32_8 a32_10) (h39 : h 39 = o39) (h40 : h 40 = o40 a40_0 a40_1) (h41 : h 41 = o41 A41) (h42 : h 42 = o42 a42_0) (h43 : h 43 = o43 A43) (h44 : h 44 = o44 A44) (h53 : h 53 = o53 A53) (h64 : h 64 = o64) (h65 : h 65 = o65 A65) {R9 : Int32 × (Nat → Int32)} (hf : fX11_most a40_0 a40_1 a42_0 A41 A43 A44 A53 A65 p0 = some R9) :
    eSem G la MX11_most [.ref 32, .int p0] h nx 0 0 (fun r9 h9 => r9 = some (.int R9.1) ∧ h9 = e_up h [(65, o65 R9.2)]) := by
  refine eSem.of (k := 0) (L := [some (.ref 32), some (.int p0)]) (by decide +kernel) rfl rfl (fun X F hxl hq hcR hsR => ?_)
  subst hxl
  unfold fX11_most at hf
  refine r_aload_n F dX11_most_0 rfl ?_
  obtain ⟨q1, hq2, hf⟩ := e_bd hf
  refine r_callV F dX11_most_1 (b := 32) (dc := 0) (ds := 0) (As := []) (S0 := []) lkX11_136 mX11_isEmpty (tX11_isEmpty_32 hG (la := x_l X) (h := e_up h []) hnx h32 h39 h40 hq2) rfl rfl rfl (e_le rfl) (e_le rfl) (e_le rfl) h32 (ci := 11) e_cl11.1 rfl (e_le rfl) (e_lt hnx rfl) (Nat.zero_le _) (Nat.zero_le _) (e_k ?_)
  refine r_wr0 ?_
  refine r_z_eq F dX11_most_4 (tgt := 9) (by decide) (fun hc => ?_) (fun hc => ?_)
  · have hf := e_t hc hf
    refine r_iconst F dX11_most_7 (v := (-1)) (by decide) ?_
    refine r_mat (k := 65) h65 (l' := [(65, o65 A65)]) rfl ?_
    obtain rfl := Option.some.inj hf
    exact r_iret F hq dX11_most_8 rfl rfl (Nat.le_refl _) (Nat.le_refl _) ⟨rfl, rfl⟩
  · have hf := e_f hc hf
    refine r_iload_n F dX11_most_9 rfl ?_
    refine Classical.byCases (p := p0 = 0) (fun hc => ?_) (fun hk0 => ?_)
    · have hf := e_t hc hf
      refine r_tsIn F dX11_most_10 (by rw [hc]; decide) (by rw [hc]; decide) (off := 46) (by rw [hc]; decide) (tgt := 56) (by decide) ?_
      refine r_aload_n F dX11_most_56 rfl ?_
      refine r_get F dX11_most_57 flX11_28 h32 rfl (e_le rfl) (e_lt hnx rfl) ?_
      refine r_get F dX11_most_60 flX11_127 h39 rfl (e_le rfl) (e_lt hnx rfl) ?_
      obtain ⟨q3, hq4, hf⟩ := e_bd hf
      refine r_callV F dX11_most_63 (b := 42) (dc := 0) (ds := 0) (As := []) (S0 := []) lkX11_361 mX0_mostAlike (tX0_mostAlike_42 hG (la := x_l X) (h := e_up h []) hnx h42 h43 h44 hq4) rfl rfl rfl (e_le rfl) (e_le rfl) (e_le rfl) h42 (ci := 0) e_cl0.1 rfl (e_le rfl) (e_lt hnx rfl) (Nat.zero_le _) (Nat.zero_le _) (e_k ?_)
      refine r_wr0 ?_
      refine r_mat (k := 65) h65 (l' := [(65, o65 A65)]) rfl ?_
      obtain rfl := Option.some.inj hf
      exact r_iret F hq dX11_most_66 rfl rfl (Nat.le_refl _) (Nat.le_refl _) ⟨rfl, rfl⟩
    have hf := e_f hk0 hf
    refine Classical.byCases (p := p0 = 1) (fun hc => ?_) (fun hk1 => ?_)
    · have hf := e_t hc hf
      refine r_tsIn F dX11_most_10 (by rw [hc]; decide) (by rw [hc]; decide) (off := 57) (by rw [hc]; decide) (tgt := 67) (by decide) ?_
      refine r_aload_n F dX11_most_67 rfl ?_
      refine r_get F dX11_most_68 flX11_28 h32 rfl (e_le rfl) (e_lt hnx rfl) ?_
      refine r_get F dX11_most_71 flX11_127 h39 rfl (e_le rfl) (e_lt hnx rfl) ?_
      obtain ⟨q5, hq6, hf⟩ := e_bd hf
      refine r_callV F dX11_most_74 (b := 42) (dc := 0) (ds := 0) (As := []) (S0 := []) lkX11_364 mX0_columnOfMostAlike (tX0_columnOfMostAlike_42 hG (la := x_l X) (h := e_up h []) hnx h42 h43 h44 hq6) rfl rfl rfl (e_le rfl) (e_le rfl) (e_le rfl) h42 (ci := 0) e_cl0.1 rfl (e_le rfl) (e_lt hnx rfl) (Nat.zero_le _) (Nat.zero_le _) (e_k ?_)
      refine r_wr0 ?_
      refine r_mat (k := 65) h65 (l' := [(65, o65 A65)]) rfl ?_
      obtain rfl := Option.some.inj hf
      exact r_iret F hq dX11_most_77 rfl rfl (Nat.le_refl _) (Nat.le_refl _) ⟨rfl, rfl⟩
    have hf := e_f hk1 hf
    refine Classical.byCases (p := p0 = 2) (fun hc => ?_) (fun hk2 => ?_)
    · have hf := e_t hc hf
      refine r_tsIn F dX11_most_10 (by rw [hc]; decide) (by rw [hc]; decide) (off := 68) (by rw [hc]; decide) (tgt := 78) (by decide) ?_
      refine r_aload_n F dX11_most_78 rfl ?_
      refine r_get F dX11_most_79 flX11_28 h32 rfl (e_le rfl) (e_lt hnx rfl) ?_
      refine r_get F dX11_most_82 flX11_127 h39 rfl (e_le rfl) (e_lt hnx rfl) ?_
      refine r_aload_n F dX11_most_85 rfl ?_
      refine r_get F dX11_most_86 flX11_35 h32 rfl (e_le rfl) (e_lt hnx rfl) ?_
      obtain ⟨q7, hq8, hf⟩ := e_bd hf
      refine r_callV F dX11_most_89 (b := 42) (dc := 0) (ds := 0) (As := [.ref 53]) (S0 := []) lkX11_367 mX0_mostForced (tX0_mostForced_42_53 hG (la := x_l X) (h := e_up h []) hnx h42 h43 h44 h53 hq8) rfl rfl rfl (e_le rfl) (e_le rfl) (e_le rfl) h42 (ci := 0) e_cl0.1 rfl (e_le rfl) (e_lt hnx rfl) (Nat.zero_le _) (Nat.zero_le _) (e_k ?_)
      refine r_wr0 ?_
      refine r_mat (k := 65) h65 (l' := [(65, o65 A65)]) rfl ?_
      obtain rfl := Option.some.inj hf
      exact r_iret F hq dX11_most_92 rfl rfl (Nat.le_refl _) (Nat.le_refl _) ⟨rfl, rfl⟩
    have hf := e_f hk2 hf
    refine Classical.byCases (p := p0 = 3) (fun hc => ?_) (fun hk3 => ?_)
    · have hf := e_t hc hf
      refine r_tsIn F dX11_most_10 (by rw [hc]; decide) (by rw [hc]; decide) (off := 83) (by rw [hc]; decide) (tgt := 93) (by decide) ?_
      refine r_aload_n F dX11_most_93 rfl ?_
      refine r_get F dX11_most_94 flX11_28 h32 rfl (e_le rfl) (e_lt hnx rfl) ?_
      refine r_get F dX11_most_97 flX11_127 h39 rfl (e_le rfl) (e_lt hnx rfl) ?_
      obtain ⟨q9, hq10, hf⟩ := e_bd hf
      refine r_callV F dX11_most_100 (b := 42) (dc := 0) (ds := 0) (As := []) (S0 := []) lkX11_370 mX0_nearestPair (tX0_nearestPair_42 hG (la := x_l X) (h := e_up h []) hnx h42 h43 hq10) rfl rfl rfl (e_le rfl) (e_le rfl) (e_le rfl) h42 (ci := 0) e_cl0.1 rfl (e_le rfl) (e_lt hnx rfl) (Nat.zero_le _) (Nat.zero_le _) (e_k ?_)
      refine r_wr0 ?_
      refine r_mat (k := 65) h65 (l' := [(65, o65 A65)]) rfl ?_
      obtain rfl := Option.some.inj hf
      exact r_iret F hq dX11_most_103 rfl rfl (Nat.le_refl _) (Nat.le_refl _) ⟨rfl, rfl⟩
    have hf := e_f hk3 hf
    refine Classical.byCases (p := p0 = 4) (fun hc => ?_) (fun hk4 => ?_)
    · have hf := e_t hc hf
      refine r_tsIn F dX11_most_10 (by rw [hc]; decide) (by rw [hc]; decide) (off := 94) (by rw [hc]; decide) (tgt := 104) (by decide) ?_
      refine r_aload_n F dX11_most_104 rfl ?_
      refine r_get F dX11_most_105 flX11_28 h32 rfl (e_le rfl) (e_lt hnx rfl) ?_
      refine r_get F dX11_most_108 flX11_127 h39 rfl (e_le rfl) (e_lt hnx rfl) ?_
      refine r_aload_n F dX11_most_111 rfl ?_
      refine r_get F dX11_most_112 flX11_28 h32 rfl (e_le rfl) (e_lt hnx rfl) ?_
      refine r_get F dX11_most_115 flX11_127 h39 rfl (e_le rfl) (e_lt hnx rfl) ?_
      obtain ⟨q11, hq12, hf⟩ := e_bd hf
      refine r_callV F dX11_most_118 (b := 42) (dc := 0) (ds := 0) (As := []) (S0 := [.ref 42]) lkX11_370 mX0_nearestPair (tX0_nearestPair_42 hG (la := x_l X) (h := e_up h []) hnx h42 h43 hq12) rfl rfl rfl (e_le rfl) (e_le rfl) (e_le rfl) h42 (ci := 0) e_cl0.1 rfl (e_le rfl) (e_lt hnx rfl) (Nat.zero_le _) (Nat.zero_le _) (e_k ?_)
      refine r_wr0 ?_
      obtain ⟨q13, hq14, hf⟩ := e_bd hf
      refine r_callV F dX11_most_121 (b := 42) (dc := 0) (ds := 0) (As := [.int q11]) (S0 := []) lkX11_373 mX0_squareOfPair (tX0_squareOfPair_42 hG (la := x_l X) (h := e_up h []) hnx h42 h43 hq14) rfl rfl rfl (e_le rfl) (e_le rfl) (e_le rfl) h42 (ci := 0) e_cl0.1 rfl (e_le rfl) (e_lt hnx rfl) (Nat.zero_le _) (Nat.zero_le _) (e_k ?_)
      refine r_wr0 ?_
      refine r_mat (k := 65) h65 (l' := [(65, o65 A65)]) rfl ?_
      obtain rfl := Option.some.inj hf
      exact r_iret F hq dX11_most_124 rfl rfl (Nat.le_refl _) (Nat.le_refl _) ⟨rfl, rfl⟩
    have hf := e_f hk4 hf
    refine Classical.byCases (p := p0 = 5) (fun hc => ?_) (fun hk5 => ?_)
    · have hf := e_t hc hf
      refine r_tsIn F dX11_most_10 (by rw [hc]; decide) (by rw [hc]; decide) (off := 115) (by rw [hc]; decide) (tgt := 125) (by decide) ?_
      refine r_aload_n F dX11_most_125 rfl ?_
      refine r_get F dX11_most_126 flX11_76 h32 rfl (e_le rfl) (e_lt hnx rfl) ?_
      refine r_aload_n F dX11_most_129 rfl ?_
      refine r_get F dX11_most_130 flX11_28 h32 rfl (e_le rfl) (e_lt hnx rfl) ?_
      refine r_get F dX11_most_133 flX11_141 h39 rfl (e_le rfl) (e_lt hnx rfl) ?_
      obtain ⟨q15, hq16, hf⟩ := e_bd hf
      refine r_callV F dX11_most_136 (b := 64) (dc := 0) (ds := 0) (As := [.ref 40]) (S0 := []) lkX11_162 mX10_find (tX10_find_64_40 hG (la := x_l X) (h := e_up h []) hnx h40 h41 h64 h65 hq16) rfl rfl rfl (e_le rfl) (e_le rfl) (e_le rfl) h64 (ci := 10) e_cl10.1 rfl (e_le rfl) (e_lt hnx rfl) (Nat.zero_le _) (Nat.zero_le _) (e_k ?_)
      refine r_wr (l' := [(65, o65 q15)]) rfl rfl ?_
      refine r_aload_n F dX11_most_139 rfl ?_
      refine r_get F dX11_most_140 flX11_76 h32 rfl (e_le rfl) (e_lt hnx rfl) ?_
      obtain ⟨q17, hq18, hf⟩ := e_bd hf
      refine r_callV F dX11_most_143 (b := 64) (dc := 0) (ds := 0) (As := []) (S0 := []) lkX11_376 mX10_mostLinks (tX10_mostLinks_64 hG (la := x_l X) (h := e_up h [(65, o65 q15)]) hnx h64 rfl hq18) rfl rfl rfl (e_le rfl) (e_le rfl) (e_le rfl) h64 (ci := 10) e_cl10.1 rfl (e_le rfl) (e_lt hnx rfl) (Nat.zero_le _) (Nat.zero_le _) (e_k ?_)
      refine r_wr0 ?_
      obtain rfl := Option.some.inj hf
      exact r_iret F hq dX11_most_146 rfl rfl (Nat.le_refl _) (Nat.le_refl _) ⟨rfl, rfl⟩
    have hf := e_f hk5 hf
    refine Classical.byCases (p := p0 = 6) (fun hc => ?_) (fun hk6 => ?_)
    · have hf := e_t hc hf
      refine r_tsIn F dX11_most_10 (by rw [hc]; decide) (by rw [hc]; decide) (off := 137) (by rw [hc]; decide) (tgt := 147) (by decide) ?_
      refine r_aload_n F dX11_most_147 rfl ?_
      refine r_get F dX11_most_148 flX11_28 h32 rfl (e_le rfl) (e_lt hnx rfl) ?_
      refine r_get F dX11_most_151 flX11_127 h39 rfl (e_le rfl) (e_lt hnx rfl) ?_
      obtain ⟨q19, hq20, hf⟩ := e_bd hf
      refine r_callV F dX11_most_154 (b := 42) (dc := 0) (ds := 0) (As := []) (S0 := []) lkX11_379 mX0_greatestNumber (tX0_greatestNumber_42 hG (la := x_l X) (h := e_up h []) hnx h42 h44 hq20) rfl rfl rfl (e_le rfl) (e_le rfl) (e_le rfl) h42 (ci := 0) e_cl0.1 rfl (e_le rfl) (e_lt hnx rfl) (Nat.zero_le _) (Nat.zero_le _) (e_k ?_)
      refine r_wr0 ?_
      refine r_mat (k := 65) h65 (l' := [(65, o65 A65)]) rfl ?_
      obtain rfl := Option.some.inj hf
      exact r_iret F hq dX11_most_157 rfl rfl (Nat.le_refl _) (Nat.le_refl _) ⟨rfl, rfl⟩
    have hf := e_f hk6 hf
    refine Classical.byCases (p := p0 = 7) (fun hc => ?_) (fun hk7 => ?_)
    · have hf := e_t hc hf
      refine r_tsIn F dX11_most_10 (by rw [hc]; decide) (by rw [hc]; decide) (off := 148) (by rw [hc]; decide) (tgt := 158) (by decide) ?_
      refine r_aload_n F dX11_most_158 rfl ?_
      refine r_get F dX11_most_159 flX11_28 h32 rfl (e_le rfl) (e_lt hnx rfl) ?_
      refine r_get F dX11_most_162 flX11_127 h39 rfl (e_le rfl) (e_lt hnx rfl) ?_
      obtain ⟨q21, hq22, hf⟩ := e_bd hf
      refine r_callV F dX11_most_165 (b := 42) (dc := 0) (ds := 0) (As := []) (S0 := []) lkX11_382 mX0_withOpposite (tX0_withOpposite_42 hG (la := x_l X) (h := e_up h []) hnx h42 h44 hq22) rfl rfl rfl (e_le rfl) (e_le rfl) (e_le rfl) h42 (ci := 0) e_cl0.1 rfl (e_le rfl) (e_lt hnx rfl) (Nat.zero_le _) (Nat.zero_le _) (e_k ?_)
      refine r_wr0 ?_
      refine r_mat (k := 65) h65 (l' := [(65, o65 A65)]) rfl ?_
      obtain rfl := Option.some.inj hf
      exact r_iret F hq dX11_most_168 rfl rfl (Nat.le_refl _) (Nat.le_refl _) ⟨rfl, rfl⟩
    have hf := e_f hk7 hf
    refine r_tsOut F dX11_most_10 (e_out8 hk0 hk1 hk2 hk3 hk4 hk5 hk6 hk7) (tgt := 169) (by decide) ?_
    refine r_iconst F dX11_most_169 (v := (-1)) (by decide) ?_
    refine r_mat (k := 65) h65 (l' := [(65, o65 A65)]) rfl ?_
    obtain rfl := Option.some.inj hf
    exact r_iret F hq dX11_most_170 rfl rfl (Nat.le_refl _) (Nat.le_refl _) ⟨rfl, rfl⟩

set_option maxRecDepth 100000 in
theorem tX7_addTo_40 {G : eG} (hG : e_GS G) {la : Launch} {h : Nat → eO} {nx : Nat} (hnx : 99 ≤ nx) {a40_0 : Int32} {a40_1 : Int32} {A41 : Nat → Int32} {p0 : Int32} {p1 : Int32} {p2 : Int32} {p3 : Int32} {p4 : Int32} (h40 : h 40 = o40 a40_0 a40_1) (h41 : h 41 = o41 A41) {R9 : (Nat → Int32)} (hf : fX7_addTo a40_0 a40_1 A41 p0 p1 p2 p3 p4 = some R9) :
    eSem G la MX7_addTo [.ref 40, .int p0, .int p1, .int p2, .int p3, .int p4] h nx 0 0 (fun r9 h9 => r9 = none ∧ h9 = e_up h [(41, o41 R9)]) := by
  refine eSem.of (k := 0) (L := [some (.ref 40), some (.int p0), some (.int p1), some (.int p2), some (.int p3), some (.int p4)]) (by decide +kernel) rfl rfl (fun X F hxl hq hcR hsR => ?_)
  subst hxl
  unfold fX7_addTo at hf
  refine r_aload_n F dX7_addTo_0 rfl ?_
  refine r_iload_n F dX7_addTo_1 rfl ?_
  refine r_iload_n F dX7_addTo_2 rfl ?_
  refine r_iload_n F dX7_addTo_3 rfl ?_
  obtain ⟨q1, hq2, hf⟩ := e_bd hf
  refine r_callV F dX7_addTo_4 (b := 40) (dc := 0) (ds := 0) (As := [.int p0, .int p1, .int p2]) (S0 := []) lkX7_28 mX7_hasLink (tX7_hasLink_40 hG (la := x_l X) (h := e_up h []) hnx h40 hq2) rfl rfl rfl (e_le rfl) (e_le rfl) (e_le rfl) h40 (ci := 7) e_cl7.1 rfl (e_le rfl) (e_lt hnx rfl) (Nat.zero_le _) (Nat.zero_le _) (e_k ?_)
  refine r_wr0 ?_
  refine r_z_eq F dX7_addTo_7 (tgt := 44) (by decide) (fun hc => ?_) (fun hc => ?_)
  · have hf := e_t hc hf
    refine r_aload_n F dX7_addTo_10 rfl ?_
    refine r_get F dX7_addTo_11 flX7_11 h40 rfl (e_le rfl) (e_lt hnx rfl) ?_
    refine r_iload_n F dX7_addTo_14 rfl ?_
    refine r_iload_n F dX7_addTo_15 rfl ?_
    refine r_iload_n F dX7_addTo_16 rfl ?_
    obtain ⟨q3, hq4, hf⟩ := e_bd hf
    refine r_callS F dX7_addTo_17 (dc := 0) (ds := 0) (As := [.int p0, .int p1, .int p2]) (S0 := [.ref 41]) lkX7_32 mX7_placeOf (tX7_placeOf hG (la := x_l X) (h := e_up h []) hnx  hq4) rfl rfl rfl (e_le rfl) (e_le rfl) (e_le rfl) (Nat.zero_le _) (Nat.zero_le _) (e_k ?_)
    refine r_wr0 ?_
    refine r_dup2 F dX7_addTo_20 rfl rfl ?_
    obtain ⟨hg, hf⟩ := e_gd hf
    refine r_iald F dX7_addTo_21 (i := q3) h41 (e_le rfl) (e_lt hnx rfl) (e_vp hg) ?_
    refine r_iload F dX7_addTo_22 rfl ?_
    refine r_iadd F dX7_addTo_24 ?_
    obtain ⟨hg, hf⟩ := e_gd hf
    refine r_iast F dX7_addTo_25 h41 (e_le rfl) (e_lt hnx rfl) (e_vp hg) (l' := [(41, o41 (upd A41 (tn q3) ((A41 (tn q3)) + p3)))]) rfl ?_
    refine r_aload_n F dX7_addTo_26 rfl ?_
    refine r_get F dX7_addTo_27 flX7_11 h40 rfl (e_le rfl) (e_lt hnx rfl) ?_
    refine r_iload_n F dX7_addTo_30 rfl ?_
    refine r_iload_n F dX7_addTo_31 rfl ?_
    refine r_iload_n F dX7_addTo_32 rfl ?_
    obtain ⟨q5, hq6, hf⟩ := e_bd hf
    refine r_callS F dX7_addTo_33 (dc := 0) (ds := 0) (As := [.int p0, .int p1, .int p2]) (S0 := [.ref 41]) lkX7_32 mX7_placeOf (tX7_placeOf hG (la := x_l X) (h := e_up h [(41, o41 (upd A41 (tn q3) ((A41 (tn q3)) + p3)))]) hnx  hq6) rfl rfl rfl (e_le rfl) (e_le rfl) (e_le rfl) (Nat.zero_le _) (Nat.zero_le _) (e_k ?_)
    refine r_wr0 ?_
    refine r_iconst F dX7_addTo_36 (v := 1) (by decide) ?_
    refine r_iadd F dX7_addTo_37 ?_
    refine r_dup2 F dX7_addTo_38 rfl rfl ?_
    obtain ⟨hg, hf⟩ := e_gd hf
    refine r_iald F dX7_addTo_39 (i := (q5 + 1)) rfl (e_le rfl) (e_lt hnx rfl) (e_vp hg) ?_
    refine r_iload F dX7_addTo_40 rfl ?_
    refine r_iadd F dX7_addTo_42 ?_
    obtain ⟨hg, hf⟩ := e_gd hf
    refine r_iast F dX7_addTo_43 rfl (e_le rfl) (e_lt hnx rfl) (e_vp hg) (l' := [(41, o41 (upd (upd A41 (tn q3) ((A41 (tn q3)) + p3)) (tn (q5 + 1)) (((upd A41 (tn q3) ((A41 (tn q3)) + p3)) (tn (q5 + 1))) + p4)))]) rfl ?_
    obtain rfl := Option.some.inj hf
    exact r_vret F hq dX7_addTo_44 rfl rfl (Nat.le_refl _) (Nat.le_refl _) ⟨rfl, rfl⟩
  · have hf := e_f hc hf
    refine r_mat (k := 41) h41 (l' := [(41, o41 A41)]) rfl ?_
    obtain rfl := Option.some.inj hf
    exact r_vret F hq dX7_addTo_44 rfl rfl (Nat.le_refl _) (Nat.le_refl _) ⟨rfl, rfl⟩

set_option maxRecDepth 100000 in
theorem tX7_isPlain_40 {G : eG} (hG : e_GS G) {la : Launch} {h : Nat → eO} {nx : Nat} (hnx : 99 ≤ nx) {a40_0 : Int32} {a40_1 : Int32} {A41 : Nat → Int32} {p0 : Int32} {p1 : Int32} (h40 : h 40 = o40 a40_0 a40_1) (h41 : h 41 = o41 A41) {R9 : Bool} (hf : fX7_isPlain a40_0 a40_1 A41 p0 p1 = some R9) :
    eSem G la MX7_isPlain [.ref 40, .int p0, .int p1] h nx 0 0 (fun r9 h9 => r9 = some (.int (e_b R9)) ∧ h9 = h) := by
  refine eSem.of (k := 0) (L := [some (.ref 40), some (.int p0), some (.int p1)]) (by decide +kernel) rfl rfl (fun X F hxl hq hcR hsR => ?_)
  subst hxl
  unfold fX7_isPlain at hf
  refine r_aload_n F dX7_isPlain_0 rfl ?_
  refine r_iload_n F dX7_isPlain_1 rfl ?_
  refine r_iload_n F dX7_isPlain_2 rfl ?_
  refine r_iconst F dX7_isPlain_3 (v := 0) (by decide) ?_
  obtain ⟨q1, hq2, hf⟩ := e_bd hf
  refine r_callV F dX7_isPlain_4 (b := 40) (dc := 0) (ds := 0) (As := [.int p0, .int p1, .int 0]) (S0 := []) lkX7_55 mX7_vectorOf (tX7_vectorOf_40 hG (la := x_l X) (h := e_up h []) hnx h40 h41 hq2) rfl rfl rfl (e_le rfl) (e_le rfl) (e_le rfl) h40 (ci := 7) e_cl7.1 rfl (e_le rfl) (e_lt hnx rfl) (Nat.zero_le _) (Nat.zero_le _) (e_k ?_)
  refine r_wr0 ?_
  refine r_if_ne F dX7_isPlain_7 (tgt := 24) (by decide) (fun hc => ?_) (fun hc => ?_)
  · have hf := e_f hc hf
    refine r_iconst F dX7_isPlain_24 (v := 0) (by decide) ?_
    obtain rfl := Option.some.inj hf
    exact r_zret F hq (v := false) dX7_isPlain_25 rfl rfl (Nat.le_refl _) (Nat.le_refl _) ⟨rfl, rfl⟩
  · have hf := e_t hc hf
    refine r_aload_n F dX7_isPlain_10 rfl ?_
    refine r_iload_n F dX7_isPlain_11 rfl ?_
    refine r_iload_n F dX7_isPlain_12 rfl ?_
    refine r_iconst F dX7_isPlain_13 (v := 1) (by decide) ?_
    obtain ⟨q3, hq4, hf⟩ := e_bd hf
    refine r_callV F dX7_isPlain_14 (b := 40) (dc := 0) (ds := 0) (As := [.int p0, .int p1, .int 1]) (S0 := []) lkX7_55 mX7_vectorOf (tX7_vectorOf_40 hG (la := x_l X) (h := e_up h []) hnx h40 h41 hq4) rfl rfl rfl (e_le rfl) (e_le rfl) (e_le rfl) h40 (ci := 7) e_cl7.1 rfl (e_le rfl) (e_lt hnx rfl) (Nat.zero_le _) (Nat.zero_le _) (e_k ?_)
    refine r_wr0 ?_
    refine r_if_ne F dX7_isPlain_17 (tgt := 24) (by decide) (fun hc => ?_) (fun hc => ?_)
    · have hf := e_f hc hf
      refine r_iconst F dX7_isPlain_24 (v := 0) (by decide) ?_
      obtain rfl := Option.some.inj hf
      exact r_zret F hq (v := false) dX7_isPlain_25 rfl rfl (Nat.le_refl _) (Nat.le_refl _) ⟨rfl, rfl⟩
    · have hf := e_t hc hf
      refine r_iconst F dX7_isPlain_20 (v := 1) (by decide) ?_
      refine r_goto F dX7_isPlain_21 (tgt := 25) (by decide) ?_
      obtain rfl := Option.some.inj hf
      exact r_zret F hq (v := true) dX7_isPlain_25 rfl rfl (Nat.le_refl _) (Nat.le_refl _) ⟨rfl, rfl⟩

set_option maxRecDepth 100000 in
theorem tX7_carry_40 {G : eG} (hG : e_GS G) {la : Launch} {h : Nat → eO} {nx : Nat} (hnx : 99 ≤ nx) {a40_0 : Int32} {a40_1 : Int32} {A41 : Nat → Int32} {p0 : Int32} {p1 : Int32} {p2 : Int32} {p3 : Int32} {p4 : Int32} (h40 : h 40 = o40 a40_0 a40_1) (h41 : h 41 = o41 A41) {R9 : Int32 × (Nat → Int32)} (hf : fX7_carry a40_0 a40_1 A41 p0 p1 p2 p3 p4 = some R9) :
    eSem G la MX7_carry [.ref 40, .int p0, .int p1, .int p2, .int p3, .int p4] h nx 0 0 (fun r9 h9 => r9 = some (.int R9.1) ∧ h9 = e_up h [(41, o41 R9.2)]) := by
  refine eSem.of (k := 2) (L := [some (.ref 40), some (.int p0), some (.int p1), some (.int p2), some (.int p3), some (.int p4), none, none]) (by decide +kernel) rfl rfl (fun X F hxl hq hcR hsR => ?_)
  subst hxl
  unfold fX7_carry at hf
  refine r_iload F dX7_carry_0 rfl ?_
  refine r_if_lt F dX7_carry_2 (tgt := 11) (by decide) (fun hc => ?_) (fun hc => ?_)
  · have hf := e_t hc hf
    refine r_iconst F dX7_carry_11 (v := 0) (by decide) ?_
    refine r_mat (k := 41) h41 (l' := [(41, o41 A41)]) rfl ?_
    obtain rfl := Option.some.inj hf
    exact r_iret F hq dX7_carry_12 rfl rfl (Nat.le_refl _) (Nat.le_refl _) ⟨rfl, rfl⟩
  · have hf := e_f hc hf
    refine r_iload F dX7_carry_5 rfl ?_
    refine r_iconst F dX7_carry_7 (v := 3) (by decide) ?_
    refine r_icmp_le F dX7_carry_8 (tgt := 13) (by decide) (fun hc => ?_) (fun hc => ?_)
    · have hf := e_t hc hf
      refine r_iload F dX7_carry_13 rfl ?_
      obtain ⟨q1, hq2, hf⟩ := e_bd hf
      have Jq1 : eRun G X 97 [some (.ref 40), some (.int p0), some (.int p1), none, none, some (.int p4), none, none] [] h [(41, o41 q1)] nx 0 0 := by
        refine r_iload_n F dX7_carry_97 rfl ?_
        refine r_getsN F dX7_carry_98 (C := "SlipLattice") (n := "ACROSS") (d := "[I") (host := "SlipLattice") (v := .ref 3) (by decide +kernel) (by decide +kernel) ?_
        refine r_iload F dX7_carry_101 rfl ?_
        obtain ⟨hg, hf⟩ := e_gd hf
        refine r_ialdS F dX7_carry_103 (i := p4) (hG.s3) (e_vp hg) ?_
        refine r_iadd F dX7_carry_104 ?_
        refine r_istore F dX7_carry_105 (e_le rfl) (L' := [some (.ref 40), some (.int p0), some (.int p1), none, none, some (.int p4), some (.int (p0 + (sA3 (tn p4)))), none]) rfl ?_
        refine r_iload_n F dX7_carry_107 rfl ?_
        refine r_getsN F dX7_carry_108 (C := "SlipLattice") (n := "UPWARDS") (d := "[I") (host := "SlipLattice") (v := .ref 4) (by decide +kernel) (by decide +kernel) ?_
        refine r_iload F dX7_carry_111 rfl ?_
        obtain ⟨hg, hf⟩ := e_gd hf
        refine r_ialdS F dX7_carry_113 (i := p4) (hG.s4) (e_vp hg) ?_
        refine r_iadd F dX7_carry_114 ?_
        refine r_istore F dX7_carry_115 (e_le rfl) (L' := [some (.ref 40), some (.int p0), some (.int p1), none, none, some (.int p4), some (.int (p0 + (sA3 (tn p4)))), some (.int (p1 + (sA4 (tn p4))))]) rfl ?_
        refine r_aload_n F dX7_carry_117 rfl ?_
        refine r_iload F dX7_carry_118 rfl ?_
        refine r_iload F dX7_carry_120 rfl ?_
        obtain ⟨q3, hq4, hf⟩ := e_bd hf
        refine r_callV F dX7_carry_122 (b := 40) (dc := 0) (ds := 0) (As := [.int (p0 + (sA3 (tn p4))), .int (p1 + (sA4 (tn p4)))]) (S0 := []) lkX7_51 mX7_hasFace (tX7_hasFace_40 hG (la := x_l X) (h := e_up h [(41, o41 q1)]) hnx h40 hq4) rfl rfl rfl (e_le rfl) (e_le rfl) (e_le rfl) h40 (ci := 7) e_cl7.1 rfl (e_le rfl) (e_lt hnx rfl) (Nat.zero_le _) (Nat.zero_le _) (e_k ?_)
        refine r_wr0 ?_
        refine r_z_ne F dX7_carry_125 (tgt := 130) (by decide) (fun hc => ?_) (fun hc => ?_)
        · have hf := e_t hc hf
          refine r_aload_n F dX7_carry_130 rfl ?_
          refine r_iload F dX7_carry_131 rfl ?_
          refine r_iload F dX7_carry_133 rfl ?_
          obtain ⟨q5, hq6, hf⟩ := e_bd hf
          refine r_callV F dX7_carry_135 (b := 40) (dc := 0) (ds := 0) (As := [.int (p0 + (sA3 (tn p4))), .int (p1 + (sA4 (tn p4)))]) (S0 := []) lkX7_68 mX7_isPlain (tX7_isPlain_40 hG (la := x_l X) (h := e_up h [(41, o41 q1)]) hnx h40 rfl hq6) rfl rfl rfl (e_le rfl) (e_le rfl) (e_le rfl) h40 (ci := 7) e_cl7.1 rfl (e_le rfl) (e_lt hnx rfl) (Nat.zero_le _) (Nat.zero_le _) (e_k ?_)
          refine r_wr0 ?_
          refine r_z_eq F dX7_carry_138 (tgt := 145) (by decide) (fun hc => ?_) (fun hc => ?_)
          · have hf := e_t hc hf
            refine r_iconst F dX7_carry_141 (v := 2) (by decide) ?_
            refine r_goto F dX7_carry_142 (tgt := 146) (by decide) ?_
            obtain rfl := Option.some.inj hf
            exact r_iret F hq dX7_carry_146 rfl rfl (Nat.le_refl _) (Nat.le_refl _) ⟨rfl, rfl⟩
          · have hf := e_f hc hf
            refine r_iconst F dX7_carry_145 (v := 0) (by decide) ?_
            obtain rfl := Option.some.inj hf
            exact r_iret F hq dX7_carry_146 rfl rfl (Nat.le_refl _) (Nat.le_refl _) ⟨rfl, rfl⟩
        · have hf := e_f hc hf
          refine r_iconst F dX7_carry_128 (v := 3) (by decide) ?_
          obtain rfl := Option.some.inj hf
          exact r_iret F hq dX7_carry_129 rfl rfl (Nat.le_refl _) (Nat.le_refl _) ⟨rfl, rfl⟩
      refine Classical.byCases (p := p4 = 0) (fun hc => ?_) (fun hk0 => ?_)
      · have hq2 := e_t hc hq2
        refine r_tsIn F dX7_carry_15 (by rw [hc]; decide) (by rw [hc]; decide) (off := 25) (by rw [hc]; decide) (tgt := 40) (by decide) ?_
        refine r_aload_n F dX7_carry_40 rfl ?_
        refine r_iload_n F dX7_carry_41 rfl ?_
        refine r_iconst F dX7_carry_42 (v := 1) (by decide) ?_
        refine r_iadd F dX7_carry_43 ?_
        refine r_iload_n F dX7_carry_44 rfl ?_
        refine r_iconst F dX7_carry_45 (v := 1) (by decide) ?_
        refine r_iload_n F dX7_carry_46 rfl ?_
        refine r_ineg F dX7_carry_47 ?_
        refine r_iload F dX7_carry_48 rfl ?_
        refine r_ineg F dX7_carry_50 ?_
        obtain ⟨q7, hq8, hq2⟩ := e_bd hq2
        refine r_callV F dX7_carry_51 (b := 40) (dc := 0) (ds := 0) (As := [.int (p0 + 1), .int p1, .int 1, .int ((0 : Int32) - p2), .int ((0 : Int32) - p3)]) (S0 := []) lkX7_58 mX7_addTo (tX7_addTo_40 hG (la := x_l X) (h := e_up h []) hnx h40 h41 hq8) rfl rfl rfl (e_le rfl) (e_le rfl) (e_le rfl) h40 (ci := 7) e_cl7.1 rfl (e_le rfl) (e_lt hnx rfl) (Nat.zero_le _) (Nat.zero_le _) (e_k ?_)
        refine r_wr (l' := [(41, o41 q7)]) rfl rfl ?_
        refine r_goto F dX7_carry_54 (tgt := 97) (by decide) ?_
        refine r_drop 3 (L' := [some (.ref 40), some (.int p0), some (.int p1), none, some (.int p3), some (.int p4), none, none]) rfl ?_
        refine r_drop 4 (L' := [some (.ref 40), some (.int p0), some (.int p1), none, none, some (.int p4), none, none]) rfl ?_
        obtain rfl := Option.some.inj hq2
        exact Jq1
      have hq2 := e_f hk0 hq2
      refine Classical.byCases (p := p4 = 1) (fun hc => ?_) (fun hk1 => ?_)
      · have hq2 := e_t hc hq2
        refine r_tsIn F dX7_carry_15 (by rw [hc]; decide) (by rw [hc]; decide) (off := 42) (by rw [hc]; decide) (tgt := 57) (by decide) ?_
        refine r_aload_n F dX7_carry_57 rfl ?_
        refine r_iload_n F dX7_carry_58 rfl ?_
        refine r_iload_n F dX7_carry_59 rfl ?_
        refine r_iconst F dX7_carry_60 (v := 1) (by decide) ?_
        refine r_iadd F dX7_carry_61 ?_
        refine r_iconst F dX7_carry_62 (v := 0) (by decide) ?_
        refine r_iload_n F dX7_carry_63 rfl ?_
        refine r_iload F dX7_carry_64 rfl ?_
        obtain ⟨q9, hq10, hq2⟩ := e_bd hq2
        refine r_callV F dX7_carry_66 (b := 40) (dc := 0) (ds := 0) (As := [.int p0, .int (p1 + 1), .int 0, .int p2, .int p3]) (S0 := []) lkX7_58 mX7_addTo (tX7_addTo_40 hG (la := x_l X) (h := e_up h []) hnx h40 h41 hq10) rfl rfl rfl (e_le rfl) (e_le rfl) (e_le rfl) h40 (ci := 7) e_cl7.1 rfl (e_le rfl) (e_lt hnx rfl) (Nat.zero_le _) (Nat.zero_le _) (e_k ?_)
        refine r_wr (l' := [(41, o41 q9)]) rfl rfl ?_
        refine r_goto F dX7_carry_69 (tgt := 97) (by decide) ?_
        refine r_drop 3 (L' := [some (.ref 40), some (.int p0), some (.int p1), none, some (.int p3), some (.int p4), none, none]) rfl ?_
        refine r_drop 4 (L' := [some (.ref 40), some (.int p0), some (.int p1), none, none, some (.int p4), none, none]) rfl ?_
        obtain rfl := Option.some.inj hq2
        exact Jq1
      have hq2 := e_f hk1 hq2
      refine Classical.byCases (p := p4 = 2) (fun hc => ?_) (fun hk2 => ?_)
      · have hq2 := e_t hc hq2
        refine r_tsIn F dX7_carry_15 (by rw [hc]; decide) (by rw [hc]; decide) (off := 57) (by rw [hc]; decide) (tgt := 72) (by decide) ?_
        refine r_aload_n F dX7_carry_72 rfl ?_
        refine r_iload_n F dX7_carry_73 rfl ?_
        refine r_iload_n F dX7_carry_74 rfl ?_
        refine r_iconst F dX7_carry_75 (v := 1) (by decide) ?_
        refine r_iload_n F dX7_carry_76 rfl ?_
        refine r_iload F dX7_carry_77 rfl ?_
        obtain ⟨q11, hq12, hq2⟩ := e_bd hq2
        refine r_callV F dX7_carry_79 (b := 40) (dc := 0) (ds := 0) (As := [.int p0, .int p1, .int 1, .int p2, .int p3]) (S0 := []) lkX7_58 mX7_addTo (tX7_addTo_40 hG (la := x_l X) (h := e_up h []) hnx h40 h41 hq12) rfl rfl rfl (e_le rfl) (e_le rfl) (e_le rfl) h40 (ci := 7) e_cl7.1 rfl (e_le rfl) (e_lt hnx rfl) (Nat.zero_le _) (Nat.zero_le _) (e_k ?_)
        refine r_wr (l' := [(41, o41 q11)]) rfl rfl ?_
        refine r_goto F dX7_carry_82 (tgt := 97) (by decide) ?_
        refine r_drop 3 (L' := [some (.ref 40), some (.int p0), some (.int p1), none, some (.int p3), some (.int p4), none, none]) rfl ?_
        refine r_drop 4 (L' := [some (.ref 40), some (.int p0), some (.int p1), none, none, some (.int p4), none, none]) rfl ?_
        obtain rfl := Option.some.inj hq2
        exact Jq1
      have hq2 := e_f hk2 hq2
      refine r_tsOut F dX7_carry_15 (e_out3 hk0 hk1 hk2) (tgt := 85) (by decide) ?_
      refine r_aload_n F dX7_carry_85 rfl ?_
      refine r_iload_n F dX7_carry_86 rfl ?_
      refine r_iload_n F dX7_carry_87 rfl ?_
      refine r_iconst F dX7_carry_88 (v := 0) (by decide) ?_
      refine r_iload_n F dX7_carry_89 rfl ?_
      refine r_ineg F dX7_carry_90 ?_
      refine r_iload F dX7_carry_91 rfl ?_
      refine r_ineg F dX7_carry_93 ?_
      obtain ⟨q13, hq14, hq2⟩ := e_bd hq2
      refine r_callV F dX7_carry_94 (b := 40) (dc := 0) (ds := 0) (As := [.int p0, .int p1, .int 0, .int ((0 : Int32) - p2), .int ((0 : Int32) - p3)]) (S0 := []) lkX7_58 mX7_addTo (tX7_addTo_40 hG (la := x_l X) (h := e_up h []) hnx h40 h41 hq14) rfl rfl rfl (e_le rfl) (e_le rfl) (e_le rfl) h40 (ci := 7) e_cl7.1 rfl (e_le rfl) (e_lt hnx rfl) (Nat.zero_le _) (Nat.zero_le _) (e_k ?_)
      refine r_wr (l' := [(41, o41 q13)]) rfl rfl ?_
      refine r_drop 3 (L' := [some (.ref 40), some (.int p0), some (.int p1), none, some (.int p3), some (.int p4), none, none]) rfl ?_
      refine r_drop 4 (L' := [some (.ref 40), some (.int p0), some (.int p1), none, none, some (.int p4), none, none]) rfl ?_
      obtain rfl := Option.some.inj hq2
      exact Jq1
    · have hf := e_f hc hf
      refine r_iconst F dX7_carry_11 (v := 0) (by decide) ?_
      refine r_mat (k := 41) h41 (l' := [(41, o41 A41)]) rfl ?_
      obtain rfl := Option.some.inj hf
      exact r_iret F hq dX7_carry_12 rfl rfl (Nat.le_refl _) (Nat.le_refl _) ⟨rfl, rfl⟩

def fX11_wouldSplit (a40_0 : Int32) (a40_1 : Int32) (A41 : Nat → Int32) (p0 : Int32) (p1 : Int32) (p2 : Int32) (p3 : Int32) (p4 : Int32) : Option (Bool) :=
  if p4 < 0 then
    some false
  else
    if p4 ≤ 3 then
      e_g (e_in p4 4) (
      e_g (e_in p4 4) (
      (fX7_vectorOf a40_0 a40_1 A41 p0 p1 0).bind (fun q1 =>
      Option.bind (α := Bool) (
        if q1 = p2 then
          (fX7_vectorOf a40_0 a40_1 A41 p0 p1 1).bind (fun q9 =>
          if q9 = p3 then
            some false
          else
            some true)
        else
          some true) (fun q3 =>
      if q3 = true then
        (fX7_hasFace a40_0 a40_1 (p0 + (sA3 (tn p4))) (p1 + (sA4 (tn p4)))).bind (fun q5 =>
        if q5 = true then
          (fX7_isPlain a40_0 a40_1 A41 (p0 + (sA3 (tn p4))) (p1 + (sA4 (tn p4)))).bind (fun q7 =>
          if q7 = true then
            some true
          else
            some false)
        else
          some false)
      else
        some false))))
    else
      some false
set_option maxRecDepth 100000 in
theorem tX11_wouldSplit_32 {G : eG} (hG : e_GS G) {la : Launch} {h : Nat → eO} {nx : Nat} (hnx : 99 ≤ nx) {a32_8 : Bool} {a32_10 : Bool} {a40_0 : Int32} {a40_1 : Int32} {A41 : Nat → Int32} {p0 : Int32} {p1 : Int32} {p2 : Int32} {p3 : Int32} {p4 : Int32} (h32 : h 32 = o32 a32_8 a32_10) (h39 : h 39 = o39) (h40 : h 40 = o40 a40_0 a40_1) (h41 : h 41 = o41 A41) {R9 : Bool} (hf : fX11_wouldSplit a40_0 a40_1 A41 p0 p1 p2 p3 p4 = some R9) :
    eSem G la MX11_wouldSplit [.ref 32, .int p0, .int p1, .int p2, .int p3, .int p4] h nx 0 0 (fun r9 h9 => r9 = some (.int (e_b R9)) ∧ h9 = h) := by
  refine eSem.of (k := 3) (L := [some (.ref 32), some (.int p0), some (.int p1), some (.int p2), some (.int p3), some (.int p4), none, none, none]) (by decide +kernel) rfl rfl (fun X F hxl hq hcR hsR => ?_)
  subst hxl
  unfold fX11_wouldSplit at hf
  refine r_iload F dX11_wouldSplit_0 rfl ?_
  refine r_if_lt F dX11_wouldSplit_2 (tgt := 11) (by decide) (fun hc => ?_) (fun hc => ?_)
  · have hf := e_t hc hf
    refine r_iconst F dX11_wouldSplit_11 (v := 0) (by decide) ?_
    obtain rfl := Option.some.inj hf
    exact r_zret F hq (v := false) dX11_wouldSplit_12 rfl rfl (Nat.le_refl _) (Nat.le_refl _) ⟨rfl, rfl⟩
  · have hf := e_f hc hf
    refine r_iload F dX11_wouldSplit_5 rfl ?_
    refine r_iconst F dX11_wouldSplit_7 (v := 3) (by decide) ?_
    refine r_icmp_le F dX11_wouldSplit_8 (tgt := 13) (by decide) (fun hc => ?_) (fun hc => ?_)
    · have hf := e_t hc hf
      refine r_iload_n F dX11_wouldSplit_13 rfl ?_
      refine r_gets F dX11_wouldSplit_14 (C := "SlipLattice") (n := "ACROSS") (d := "[I") (v := .ref 3) (by decide +kernel) fsX11_234 ?_
      refine r_iload F dX11_wouldSplit_17 rfl ?_
      obtain ⟨hg, hf⟩ := e_gd hf
      refine r_ialdS F dX11_wouldSplit_19 (i := p4) (hG.s3) (e_vp hg) ?_
      refine r_iadd F dX11_wouldSplit_20 ?_
      refine r_istore F dX11_wouldSplit_21 (e_le rfl) (L' := [some (.ref 32), some (.int p0), some (.int p1), some (.int p2), some (.int p3), some (.int p4), some (.int (p0 + (sA3 (tn p4)))), none, none]) rfl ?_
      refine r_iload_n F dX11_wouldSplit_23 rfl ?_
      refine r_gets F dX11_wouldSplit_24 (C := "SlipLattice") (n := "UPWARDS") (d := "[I") (v := .ref 4) (by decide +kernel) fsX11_237 ?_
      refine r_iload F dX11_wouldSplit_27 rfl ?_
      obtain ⟨hg, hf⟩ := e_gd hf
      refine r_ialdS F dX11_wouldSplit_29 (i := p4) (hG.s4) (e_vp hg) ?_
      refine r_iadd F dX11_wouldSplit_30 ?_
      refine r_istore F dX11_wouldSplit_31 (e_le rfl) (L' := [some (.ref 32), some (.int p0), some (.int p1), some (.int p2), some (.int p3), some (.int p4), some (.int (p0 + (sA3 (tn p4)))), some (.int (p1 + (sA4 (tn p4)))), none]) rfl ?_
      refine r_aload_n F dX11_wouldSplit_33 rfl ?_
      refine r_get F dX11_wouldSplit_34 flX11_28 h32 rfl (e_le rfl) (e_lt hnx rfl) ?_
      refine r_get F dX11_wouldSplit_37 flX11_141 h39 rfl (e_le rfl) (e_lt hnx rfl) ?_
      refine r_iload_n F dX11_wouldSplit_40 rfl ?_
      refine r_iload_n F dX11_wouldSplit_41 rfl ?_
      refine r_iconst F dX11_wouldSplit_42 (v := 0) (by decide) ?_
      obtain ⟨q1, hq2, hf⟩ := e_bd hf
      refine r_callV F dX11_wouldSplit_43 (b := 40) (dc := 0) (ds := 0) (As := [.int p0, .int p1, .int 0]) (S0 := []) lkX11_195 mX7_vectorOf (tX7_vectorOf_40 hG (la := x_l X) (h := e_up h []) hnx h40 h41 hq2) rfl rfl rfl (e_le rfl) (e_le rfl) (e_le rfl) h40 (ci := 7) e_cl7.1 rfl (e_le rfl) (e_lt hnx rfl) (Nat.zero_le _) (Nat.zero_le _) (e_k ?_)
      refine r_wr0 ?_
      refine r_iload_n F dX11_wouldSplit_46 rfl ?_
      obtain ⟨q3, hq4, hf⟩ := e_bd hf
      have Jq3 : eRun G X 73 [some (.ref 32), none, none, none, none, none, some (.int (p0 + (sA3 (tn p4)))), some (.int (p1 + (sA4 (tn p4)))), none] [.int (e_b q3)] h [] nx 0 0 := by
        refine r_istore F dX11_wouldSplit_73 (e_le rfl) (L' := [some (.ref 32), none, none, none, none, none, some (.int (p0 + (sA3 (tn p4)))), some (.int (p1 + (sA4 (tn p4)))), some (.int (e_b q3))]) rfl ?_
        refine r_iload F dX11_wouldSplit_75 rfl ?_
        refine r_z_eq F dX11_wouldSplit_77 (tgt := 118) (by decide) (fun hc => ?_) (fun hc => ?_)
        · have hf := e_t hc hf
          refine r_aload_n F dX11_wouldSplit_80 rfl ?_
          refine r_get F dX11_wouldSplit_81 flX11_28 h32 rfl (e_le rfl) (e_lt hnx rfl) ?_
          refine r_get F dX11_wouldSplit_84 flX11_141 h39 rfl (e_le rfl) (e_lt hnx rfl) ?_
          refine r_iload F dX11_wouldSplit_87 rfl ?_
          refine r_iload F dX11_wouldSplit_89 rfl ?_
          obtain ⟨q5, hq6, hf⟩ := e_bd hf
          refine r_callV F dX11_wouldSplit_91 (b := 40) (dc := 0) (ds := 0) (As := [.int (p0 + (sA3 (tn p4))), .int (p1 + (sA4 (tn p4)))]) (S0 := []) lkX11_188 mX7_hasFace (tX7_hasFace_40 hG (la := x_l X) (h := e_up h []) hnx h40 hq6) rfl rfl rfl (e_le rfl) (e_le rfl) (e_le rfl) h40 (ci := 7) e_cl7.1 rfl (e_le rfl) (e_lt hnx rfl) (Nat.zero_le _) (Nat.zero_le _) (e_k ?_)
          refine r_wr0 ?_
          refine r_z_eq F dX11_wouldSplit_94 (tgt := 118) (by decide) (fun hc => ?_) (fun hc => ?_)
          · have hf := e_t hc hf
            refine r_aload_n F dX11_wouldSplit_97 rfl ?_
            refine r_get F dX11_wouldSplit_98 flX11_28 h32 rfl (e_le rfl) (e_lt hnx rfl) ?_
            refine r_get F dX11_wouldSplit_101 flX11_141 h39 rfl (e_le rfl) (e_lt hnx rfl) ?_
            refine r_iload F dX11_wouldSplit_104 rfl ?_
            refine r_iload F dX11_wouldSplit_106 rfl ?_
            obtain ⟨q7, hq8, hf⟩ := e_bd hf
            refine r_callV F dX11_wouldSplit_108 (b := 40) (dc := 0) (ds := 0) (As := [.int (p0 + (sA3 (tn p4))), .int (p1 + (sA4 (tn p4)))]) (S0 := []) lkX11_385 mX7_isPlain (tX7_isPlain_40 hG (la := x_l X) (h := e_up h []) hnx h40 h41 hq8) rfl rfl rfl (e_le rfl) (e_le rfl) (e_le rfl) h40 (ci := 7) e_cl7.1 rfl (e_le rfl) (e_lt hnx rfl) (Nat.zero_le _) (Nat.zero_le _) (e_k ?_)
            refine r_wr0 ?_
            refine r_z_eq F dX11_wouldSplit_111 (tgt := 118) (by decide) (fun hc => ?_) (fun hc => ?_)
            · have hf := e_t hc hf
              refine r_iconst F dX11_wouldSplit_114 (v := 1) (by decide) ?_
              refine r_goto F dX11_wouldSplit_115 (tgt := 119) (by decide) ?_
              obtain rfl := Option.some.inj hf
              exact r_zret F hq (v := true) dX11_wouldSplit_119 rfl rfl (Nat.le_refl _) (Nat.le_refl _) ⟨rfl, rfl⟩
            · have hf := e_f hc hf
              refine r_iconst F dX11_wouldSplit_118 (v := 0) (by decide) ?_
              obtain rfl := Option.some.inj hf
              exact r_zret F hq (v := false) dX11_wouldSplit_119 rfl rfl (Nat.le_refl _) (Nat.le_refl _) ⟨rfl, rfl⟩
          · have hf := e_f hc hf
            refine r_iconst F dX11_wouldSplit_118 (v := 0) (by decide) ?_
            obtain rfl := Option.some.inj hf
            exact r_zret F hq (v := false) dX11_wouldSplit_119 rfl rfl (Nat.le_refl _) (Nat.le_refl _) ⟨rfl, rfl⟩
        · have hf := e_f hc hf
          refine r_iconst F dX11_wouldSplit_118 (v := 0) (by decide) ?_
          obtain rfl := Option.some.inj hf
          exact r_zret F hq (v := false) dX11_wouldSplit_119 rfl rfl (Nat.le_refl _) (Nat.le_refl _) ⟨rfl, rfl⟩
      refine r_icmp_ne F dX11_wouldSplit_47 (tgt := 68) (by decide) (fun hc => ?_) (fun hc => ?_)
      · have hq4 := e_f hc hq4
        refine r_iconst F dX11_wouldSplit_68 (v := 1) (by decide) ?_
        refine r_goto F dX11_wouldSplit_69 (tgt := 73) (by decide) ?_
        refine r_drop 1 (L' := [some (.ref 32), none, some (.int p1), some (.int p2), some (.int p3), some (.int p4), some (.int (p0 + (sA3 (tn p4)))), some (.int (p1 + (sA4 (tn p4)))), none]) rfl ?_
        refine r_drop 2 (L' := [some (.ref 32), none, none, some (.int p2), some (.int p3), some (.int p4), some (.int (p0 + (sA3 (tn p4)))), some (.int (p1 + (sA4 (tn p4)))), none]) rfl ?_
        refine r_drop 3 (L' := [some (.ref 32), none, none, none, some (.int p3), some (.int p4), some (.int (p0 + (sA3 (tn p4)))), some (.int (p1 + (sA4 (tn p4)))), none]) rfl ?_
        refine r_drop 4 (L' := [some (.ref 32), none, none, none, none, some (.int p4), some (.int (p0 + (sA3 (tn p4)))), some (.int (p1 + (sA4 (tn p4)))), none]) rfl ?_
        refine r_drop 5 (L' := [some (.ref 32), none, none, none, none, none, some (.int (p0 + (sA3 (tn p4)))), some (.int (p1 + (sA4 (tn p4)))), none]) rfl ?_
        obtain rfl := Option.some.inj hq4
        exact Jq3
      · have hq4 := e_t hc hq4
        refine r_aload_n F dX11_wouldSplit_50 rfl ?_
        refine r_get F dX11_wouldSplit_51 flX11_28 h32 rfl (e_le rfl) (e_lt hnx rfl) ?_
        refine r_get F dX11_wouldSplit_54 flX11_141 h39 rfl (e_le rfl) (e_lt hnx rfl) ?_
        refine r_iload_n F dX11_wouldSplit_57 rfl ?_
        refine r_iload_n F dX11_wouldSplit_58 rfl ?_
        refine r_iconst F dX11_wouldSplit_59 (v := 1) (by decide) ?_
        obtain ⟨q9, hq10, hq4⟩ := e_bd hq4
        refine r_callV F dX11_wouldSplit_60 (b := 40) (dc := 0) (ds := 0) (As := [.int p0, .int p1, .int 1]) (S0 := []) lkX11_195 mX7_vectorOf (tX7_vectorOf_40 hG (la := x_l X) (h := e_up h []) hnx h40 h41 hq10) rfl rfl rfl (e_le rfl) (e_le rfl) (e_le rfl) h40 (ci := 7) e_cl7.1 rfl (e_le rfl) (e_lt hnx rfl) (Nat.zero_le _) (Nat.zero_le _) (e_k ?_)
        refine r_wr0 ?_
        refine r_iload F dX11_wouldSplit_63 rfl ?_
        refine r_icmp_eq F dX11_wouldSplit_65 (tgt := 72) (by decide) (fun hc => ?_) (fun hc => ?_)
        · have hq4 := e_t hc hq4
          refine r_iconst F dX11_wouldSplit_72 (v := 0) (by decide) ?_
          refine r_drop 1 (L' := [some (.ref 32), none, some (.int p1), some (.int p2), some (.int p3), some (.int p4), some (.int (p0 + (sA3 (tn p4)))), some (.int (p1 + (sA4 (tn p4)))), none]) rfl ?_
          refine r_drop 2 (L' := [some (.ref 32), none, none, some (.int p2), some (.int p3), some (.int p4), some (.int (p0 + (sA3 (tn p4)))), some (.int (p1 + (sA4 (tn p4)))), none]) rfl ?_
          refine r_drop 3 (L' := [some (.ref 32), none, none, none, some (.int p3), some (.int p4), some (.int (p0 + (sA3 (tn p4)))), some (.int (p1 + (sA4 (tn p4)))), none]) rfl ?_
          refine r_drop 4 (L' := [some (.ref 32), none, none, none, none, some (.int p4), some (.int (p0 + (sA3 (tn p4)))), some (.int (p1 + (sA4 (tn p4)))), none]) rfl ?_
          refine r_drop 5 (L' := [some (.ref 32), none, none, none, none, none, some (.int (p0 + (sA3 (tn p4)))), some (.int (p1 + (sA4 (tn p4)))), none]) rfl ?_
          obtain rfl := Option.some.inj hq4
          exact Jq3
        · have hq4 := e_f hc hq4
          refine r_iconst F dX11_wouldSplit_68 (v := 1) (by decide) ?_
          refine r_goto F dX11_wouldSplit_69 (tgt := 73) (by decide) ?_
          refine r_drop 1 (L' := [some (.ref 32), none, some (.int p1), some (.int p2), some (.int p3), some (.int p4), some (.int (p0 + (sA3 (tn p4)))), some (.int (p1 + (sA4 (tn p4)))), none]) rfl ?_
          refine r_drop 2 (L' := [some (.ref 32), none, none, some (.int p2), some (.int p3), some (.int p4), some (.int (p0 + (sA3 (tn p4)))), some (.int (p1 + (sA4 (tn p4)))), none]) rfl ?_
          refine r_drop 3 (L' := [some (.ref 32), none, none, none, some (.int p3), some (.int p4), some (.int (p0 + (sA3 (tn p4)))), some (.int (p1 + (sA4 (tn p4)))), none]) rfl ?_
          refine r_drop 4 (L' := [some (.ref 32), none, none, none, none, some (.int p4), some (.int (p0 + (sA3 (tn p4)))), some (.int (p1 + (sA4 (tn p4)))), none]) rfl ?_
          refine r_drop 5 (L' := [some (.ref 32), none, none, none, none, none, some (.int (p0 + (sA3 (tn p4)))), some (.int (p1 + (sA4 (tn p4)))), none]) rfl ?_
          obtain rfl := Option.some.inj hq4
          exact Jq3
    · have hf := e_f hc hf
      refine r_iconst F dX11_wouldSplit_11 (v := 0) (by decide) ?_
      obtain rfl := Option.some.inj hf
      exact r_zret F hq (v := false) dX11_wouldSplit_12 rfl rfl (Nat.le_refl _) (Nat.le_refl _) ⟨rfl, rfl⟩

def fX11_nextState  (p0 : Int64) : Option (Int64) :=
  some ((p0 * 6364136223846793005) + 1442695040888963407)
set_option maxRecDepth 100000 in
theorem tX11_nextState {G : eG} (hG : e_GS G) {la : Launch} {h : Nat → eO} {nx : Nat} (hnx : 99 ≤ nx)  {p0 : Int64}  {R9 : Int64} (hf : fX11_nextState  p0 = some R9) :
    eSem G la MX11_nextState [.long p0] h nx 0 0 (fun r9 h9 => r9 = some (.long R9) ∧ h9 = h) := by
  refine eSem.of (k := 0) (L := [some (.long p0), none]) (by decide +kernel) rfl rfl (fun X F hxl hq hcR hsR => ?_)
  subst hxl
  unfold fX11_nextState at hf
  refine r_lload_n F dX11_nextState_0 rfl ?_
  refine r_ldc2 F dX11_nextState_1 klX11_388 ?_
  refine r_lmul F dX11_nextState_4 ?_
  refine r_ldc2 F dX11_nextState_5 klX11_390 ?_
  refine r_ladd F dX11_nextState_8 ?_
  obtain rfl := Option.some.inj hf
  exact r_lret F hq dX11_nextState_9 rfl rfl (Nat.le_refl _) (Nat.le_refl _) ⟨rfl, rfl⟩

def fX7_strideFrom (a40_0 : Int32) (a40_1 : Int32) (A41 : Nat → Int32) (p0 : Int32) (p1 : Int32) (p2 : Int32) (p3 : Int32) : Option (Int32) :=
  if p2 = 0 then
    (fX7_stepOf a40_0 a40_1 A41 p0 p1 0 p3).bind (fun q1 =>
    some q1)
  else
    if p2 = 1 then
      (fX7_stepOf a40_0 a40_1 A41 p0 p1 1 p3).bind (fun q3 =>
      some q3)
    else
      if p2 = 2 then
        (fX7_stepOf a40_0 a40_1 A41 (p0 - 1) p1 0 p3).bind (fun q5 =>
        some ((0 : Int32) - q5))
      else
        (fX7_stepOf a40_0 a40_1 A41 p0 (p1 - 1) 1 p3).bind (fun q7 =>
        some ((0 : Int32) - q7))
set_option maxRecDepth 100000 in
theorem tX7_strideFrom_40 {G : eG} (hG : e_GS G) {la : Launch} {h : Nat → eO} {nx : Nat} (hnx : 99 ≤ nx) {a40_0 : Int32} {a40_1 : Int32} {A41 : Nat → Int32} {p0 : Int32} {p1 : Int32} {p2 : Int32} {p3 : Int32} (h40 : h 40 = o40 a40_0 a40_1) (h41 : h 41 = o41 A41) {R9 : Int32} (hf : fX7_strideFrom a40_0 a40_1 A41 p0 p1 p2 p3 = some R9) :
    eSem G la MX7_strideFrom [.ref 40, .int p0, .int p1, .int p2, .int p3] h nx 0 0 (fun r9 h9 => r9 = some (.int R9) ∧ h9 = h) := by
  refine eSem.of (k := 0) (L := [some (.ref 40), some (.int p0), some (.int p1), some (.int p2), some (.int p3)]) (by decide +kernel) rfl rfl (fun X F hxl hq hcR hsR => ?_)
  subst hxl
  unfold fX7_strideFrom at hf
  refine r_iload_n F dX7_strideFrom_0 rfl ?_
  refine Classical.byCases (p := p2 = 0) (fun hc => ?_) (fun hk0 => ?_)
  · have hf := e_t hc hf
    refine r_tsIn F dX7_strideFrom_1 (by rw [hc]; decide) (by rw [hc]; decide) (off := 27) (by rw [hc]; decide) (tgt := 28) (by decide) ?_
    refine r_aload_n F dX7_strideFrom_28 rfl ?_
    refine r_iload_n F dX7_strideFrom_29 rfl ?_
    refine r_iload_n F dX7_strideFrom_30 rfl ?_
    refine r_iconst F dX7_strideFrom_31 (v := 0) (by decide) ?_
    refine r_iload F dX7_strideFrom_32 rfl ?_
    obtain ⟨q1, hq2, hf⟩ := e_bd hf
    refine r_callV F dX7_strideFrom_34 (b := 40) (dc := 0) (ds := 0) (As := [.int p0, .int p1, .int 0, .int p3]) (S0 := []) lkX7_36 mX7_stepOf (tX7_stepOf_40 hG (la := x_l X) (h := e_up h []) hnx h40 h41 hq2) rfl rfl rfl (e_le rfl) (e_le rfl) (e_le rfl) h40 (ci := 7) e_cl7.1 rfl (e_le rfl) (e_lt hnx rfl) (Nat.zero_le _) (Nat.zero_le _) (e_k ?_)
    refine r_wr0 ?_
    obtain rfl := Option.some.inj hf
    exact r_iret F hq dX7_strideFrom_37 rfl rfl (Nat.le_refl _) (Nat.le_refl _) ⟨rfl, rfl⟩
  have hf := e_f hk0 hf
  refine Classical.byCases (p := p2 = 1) (fun hc => ?_) (fun hk1 => ?_)
  · have hf := e_t hc hf
    refine r_tsIn F dX7_strideFrom_1 (by rw [hc]; decide) (by rw [hc]; decide) (off := 37) (by rw [hc]; decide) (tgt := 38) (by decide) ?_
    refine r_aload_n F dX7_strideFrom_38 rfl ?_
    refine r_iload_n F dX7_strideFrom_39 rfl ?_
    refine r_iload_n F dX7_strideFrom_40 rfl ?_
    refine r_iconst F dX7_strideFrom_41 (v := 1) (by decide) ?_
    refine r_iload F dX7_strideFrom_42 rfl ?_
    obtain ⟨q3, hq4, hf⟩ := e_bd hf
    refine r_callV F dX7_strideFrom_44 (b := 40) (dc := 0) (ds := 0) (As := [.int p0, .int p1, .int 1, .int p3]) (S0 := []) lkX7_36 mX7_stepOf (tX7_stepOf_40 hG (la := x_l X) (h := e_up h []) hnx h40 h41 hq4) rfl rfl rfl (e_le rfl) (e_le rfl) (e_le rfl) h40 (ci := 7) e_cl7.1 rfl (e_le rfl) (e_lt hnx rfl) (Nat.zero_le _) (Nat.zero_le _) (e_k ?_)
    refine r_wr0 ?_
    obtain rfl := Option.some.inj hf
    exact r_iret F hq dX7_strideFrom_47 rfl rfl (Nat.le_refl _) (Nat.le_refl _) ⟨rfl, rfl⟩
  have hf := e_f hk1 hf
  refine Classical.byCases (p := p2 = 2) (fun hc => ?_) (fun hk2 => ?_)
  · have hf := e_t hc hf
    refine r_tsIn F dX7_strideFrom_1 (by rw [hc]; decide) (by rw [hc]; decide) (off := 47) (by rw [hc]; decide) (tgt := 48) (by decide) ?_
    refine r_aload_n F dX7_strideFrom_48 rfl ?_
    refine r_iload_n F dX7_strideFrom_49 rfl ?_
    refine r_iconst F dX7_strideFrom_50 (v := 1) (by decide) ?_
    refine r_isub F dX7_strideFrom_51 ?_
    refine r_iload_n F dX7_strideFrom_52 rfl ?_
    refine r_iconst F dX7_strideFrom_53 (v := 0) (by decide) ?_
    refine r_iload F dX7_strideFrom_54 rfl ?_
    obtain ⟨q5, hq6, hf⟩ := e_bd hf
    refine r_callV F dX7_strideFrom_56 (b := 40) (dc := 0) (ds := 0) (As := [.int (p0 - 1), .int p1, .int 0, .int p3]) (S0 := []) lkX7_36 mX7_stepOf (tX7_stepOf_40 hG (la := x_l X) (h := e_up h []) hnx h40 h41 hq6) rfl rfl rfl (e_le rfl) (e_le rfl) (e_le rfl) h40 (ci := 7) e_cl7.1 rfl (e_le rfl) (e_lt hnx rfl) (Nat.zero_le _) (Nat.zero_le _) (e_k ?_)
    refine r_wr0 ?_
    refine r_ineg F dX7_strideFrom_59 ?_
    obtain rfl := Option.some.inj hf
    exact r_iret F hq dX7_strideFrom_60 rfl rfl (Nat.le_refl _) (Nat.le_refl _) ⟨rfl, rfl⟩
  have hf := e_f hk2 hf
  refine r_tsOut F dX7_strideFrom_1 (e_out3 hk0 hk1 hk2) (tgt := 61) (by decide) ?_
  refine r_aload_n F dX7_strideFrom_61 rfl ?_
  refine r_iload_n F dX7_strideFrom_62 rfl ?_
  refine r_iload_n F dX7_strideFrom_63 rfl ?_
  refine r_iconst F dX7_strideFrom_64 (v := 1) (by decide) ?_
  refine r_isub F dX7_strideFrom_65 ?_
  refine r_iconst F dX7_strideFrom_66 (v := 1) (by decide) ?_
  refine r_iload F dX7_strideFrom_67 rfl ?_
  obtain ⟨q7, hq8, hf⟩ := e_bd hf
  refine r_callV F dX7_strideFrom_69 (b := 40) (dc := 0) (ds := 0) (As := [.int p0, .int (p1 - 1), .int 1, .int p3]) (S0 := []) lkX7_36 mX7_stepOf (tX7_stepOf_40 hG (la := x_l X) (h := e_up h []) hnx h40 h41 hq8) rfl rfl rfl (e_le rfl) (e_le rfl) (e_le rfl) h40 (ci := 7) e_cl7.1 rfl (e_le rfl) (e_lt hnx rfl) (Nat.zero_le _) (Nat.zero_le _) (e_k ?_)
  refine r_wr0 ?_
  refine r_ineg F dX7_strideFrom_72 ?_
  obtain rfl := Option.some.inj hf
  exact r_iret F hq dX7_strideFrom_73 rfl rfl (Nat.le_refl _) (Nat.le_refl _) ⟨rfl, rfl⟩

def fX11_path (a32_10 : Bool) (a33_1 : Int32) (a40_0 : Int32) (a40_1 : Int32) (A34 : Nat → Int32) (A41 : Nat → Int32) (A61 : Nat → Int32) (p0 : Int32) (p1 : Int32) : Option (Int32 × Bool × Int32 × (Nat → Int32)) :=
  (fX7_hasSite a40_0 a40_1 p0 p1).bind (fun q1 =>
  if q1 = true then
    (e_loop (fun (v5 : Int32 × Int32 × Int32 × Int32 × Int32) => (
        if a33_1 ≤ v5.2.2.2.2 then
          some (.inr (.inl (v5.1, v5.2.1, v5.2.2.1, v5.2.2.2.1)))
        else
          Option.bind (α := Int32) (
            if 120 ≤ v5.2.2.2.2 then
              some (-1)
            else
              (fX9_byteAt a33_1 A34 v5.2.2.2.2).bind (fun q16 =>
              (fX11_directionOf q16).bind (fun q18 =>
              some q18))) (fun q8 =>
          if q8 < 0 then
            some (.inr (.inr (((-2) : Int32) - v5.2.2.2.2, a32_10, a33_1, A61)))
          else
            if 3 < q8 then
              some (.inr (.inr (((-2) : Int32) - v5.2.2.2.2, a32_10, a33_1, A61)))
            else
              e_g (e_in q8 4) (
              e_g (e_in q8 4) (
              (fX7_hasSite a40_0 a40_1 (v5.1 + (sA3 (tn q8))) (v5.2.1 + (sA4 (tn q8)))).bind (fun q10 =>
              if q10 = true then
                (fX7_strideFrom a40_0 a40_1 A41 v5.1 v5.2.1 q8 0).bind (fun q12 =>
                (fX7_strideFrom a40_0 a40_1 A41 v5.1 v5.2.1 q8 1).bind (fun q14 =>
                e_g (e_in q8 4) (
                e_g (e_in q8 4) (
                some (.inl (v5.1 + (sA3 (tn q8)), v5.2.1 + (sA4 (tn q8)), v5.2.2.1 + q12, v5.2.2.2.1 + q14, v5.2.2.2.2 + 1))))))
              else
                some (.inr (.inr (((-2) : Int32) - v5.2.2.2.2, a32_10, a33_1, A61))))))) : Option ((Int32 × Int32 × Int32 × Int32 × Int32) ⊕ ((Int32 × Int32 × Int32 × Int32) ⊕ (Int32 × Bool × Int32 × (Nat → Int32)))))) e_fuel (p0, p1, 0, 0, 0)).bind (fun x6 => Sum.elim (fun x6e =>
      if x6e.1 = p0 then
        if x6e.2.1 = p1 then
          some (1, true, 0, upd (upd (upd (upd (upd A61 (tn 0) x6e.2.2.1) (tn 1) x6e.2.2.2) (tn 2) a33_1) (tn 3) x6e.1) (tn 4) x6e.2.1)
        else
          some (0, true, 0, upd (upd (upd (upd (upd A61 (tn 0) x6e.2.2.1) (tn 1) x6e.2.2.2) (tn 2) a33_1) (tn 3) x6e.1) (tn 4) x6e.2.1)
      else
        some (0, true, 0, upd (upd (upd (upd (upd A61 (tn 0) x6e.2.2.1) (tn 1) x6e.2.2.2) (tn 2) a33_1) (tn 3) x6e.1) (tn 4) x6e.2.1)) (fun r9 => some r9) x6)
  else
    some ((-1), a32_10, a33_1, A61))
set_option maxRecDepth 100000 in
theorem tX11_path_32 {G : eG} (hG : e_GS G) {la : Launch} {h : Nat → eO} {nx : Nat} (hnx : 99 ≤ nx) {a32_8 : Bool} {a32_10 : Bool} {a33_1 : Int32} {A34 : Nat → Int32} {a40_0 : Int32} {a40_1 : Int32} {A41 : Nat → Int32} {A61 : Nat → Int32} {p0 : Int32} {p1 : Int32} (h32 : h 32 = o32 a32_8 a32_10) (h33 : h 33 = o33 a33_1) (h34 : h 34 = o34 A34) (h39 : h 39 = o39) (h40 : h 40 = o40 a40_0 a40_1) (h41 : h 41 = o41 A41) (h61 : h 61 = o61 A61) {R9 : Int32 × Bool × Int32 × (Nat → Int32)} (hf : fX11_path a32_10 a33_1 a40_0 a40_1 A34 A41 A61 p0 p1 = some R9) :
    eSem G la MX11_path [.ref 32, .int p0, .int p1] h nx 0 0 (fun r9 h9 => r9 = some (.int R9.1) ∧ h9 = e_up h [(32, o32 a32_8 R9.2.1), (33, o33 R9.2.2.1), (61, o61 R9.2.2.2)]) := by
  refine eSem.of (k := 6) (L := [some (.ref 32), some (.int p0), some (.int p1), none, none, none, none, none, none]) (by decide +kernel) rfl rfl (fun X F hxl hq hcR hsR => ?_)
  subst hxl
  unfold fX11_path at hf
  refine r_aload_n F dX11_path_0 rfl ?_
  refine r_get F dX11_path_1 flX11_28 h32 rfl (e_le rfl) (e_lt hnx rfl) ?_
  refine r_get F dX11_path_4 flX11_141 h39 rfl (e_le rfl) (e_lt hnx rfl) ?_
  refine r_iload_n F dX11_path_7 rfl ?_
  refine r_iload_n F dX11_path_8 rfl ?_
  obtain ⟨q1, hq2, hf⟩ := e_bd hf
  refine r_callV F dX11_path_9 (b := 40) (dc := 0) (ds := 0) (As := [.int p0, .int p1]) (S0 := []) lkX11_207 mX7_hasSite (tX7_hasSite_40 hG (la := x_l X) (h := e_up h []) hnx h40 hq2) rfl rfl rfl (e_le rfl) (e_le rfl) (e_le rfl) h40 (ci := 7) e_cl7.1 rfl (e_le rfl) (e_lt hnx rfl) (Nat.zero_le _) (Nat.zero_le _) (e_k ?_)
  refine r_wr0 ?_
  refine r_z_ne F dX11_path_12 (tgt := 17) (by decide) (fun hc => ?_) (fun hc => ?_)
  · have hf := e_t hc hf
    refine r_iload_n F dX11_path_17 rfl ?_
    refine r_istore_n F dX11_path_18 (e_le rfl) (L' := [some (.ref 32), some (.int p0), some (.int p1), some (.int p0), none, none, none, none, none]) rfl ?_
    refine r_iload_n F dX11_path_19 rfl ?_
    refine r_istore F dX11_path_20 (e_le rfl) (L' := [some (.ref 32), some (.int p0), some (.int p1), some (.int p0), some (.int p1), none, none, none, none]) rfl ?_
    refine r_iconst F dX11_path_22 (v := 0) (by decide) ?_
    refine r_istore F dX11_path_23 (e_le rfl) (L' := [some (.ref 32), some (.int p0), some (.int p1), some (.int p0), some (.int p1), some (.int 0), none, none, none]) rfl ?_
    refine r_iconst F dX11_path_25 (v := 0) (by decide) ?_
    refine r_istore F dX11_path_26 (e_le rfl) (L' := [some (.ref 32), some (.int p0), some (.int p1), some (.int p0), some (.int p1), some (.int 0), some (.int 0), none, none]) rfl ?_
    refine r_iconst F dX11_path_28 (v := 0) (by decide) ?_
    refine r_istore F dX11_path_29 (e_le rfl) (L' := [some (.ref 32), some (.int p0), some (.int p1), some (.int p0), some (.int p1), some (.int 0), some (.int 0), some (.int 0), none]) rfl ?_
    obtain ⟨x6, hx7, hf⟩ := e_bd hf
    refine (e_loop_ok (P := fun (v5 : Int32 × Int32 × Int32 × Int32 × Int32) => eRun G X 31 [some (.ref 32), some (.int p0), some (.int p1), some (.int v5.1), some (.int v5.2.1), some (.int v5.2.2.1), some (.int v5.2.2.2.1), some (.int v5.2.2.2.2), none] [] h [] nx 0 0) (K := fun (x6 : (Int32 × Int32 × Int32 × Int32) ⊕ (Int32 × Bool × Int32 × (Nat → Int32))) => Sum.elim (fun x6e => eRun G X 183 [some (.ref 32), some (.int p0), some (.int p1), some (.int x6e.1), some (.int x6e.2.1), some (.int x6e.2.2.1), some (.int x6e.2.2.2), none, none] [] h [] nx 0 0) (fun r9 => r9 = R9) x6) ?_ e_fuel (p0, p1, 0, 0, 0) x6 hx7 ?_ : _)
    · intro v5 z hz ih hx
      refine r_iload F dX11_path_31 rfl ?_
      refine r_aload_n F dX11_path_33 rfl ?_
      refine r_get F dX11_path_34 flX11_10 h32 rfl (e_le rfl) (e_lt hnx rfl) ?_
      refine r_get F dX11_path_37 flX11_91 h33 rfl (e_le rfl) (e_lt hnx rfl) ?_
      refine r_icmp_ge F dX11_path_40 (tgt := 183) (by decide) (fun hc => ?_) (fun hc => ?_)
      · have hz := e_t hc hz
        refine r_drop 7 (L' := [some (.ref 32), some (.int p0), some (.int p1), some (.int v5.1), some (.int v5.2.1), some (.int v5.2.2.1), some (.int v5.2.2.2.1), none, none]) rfl ?_
        obtain rfl := Option.some.inj hz
        exact hx (.inl (v5.1, v5.2.1, v5.2.2.1, v5.2.2.2.1)) rfl
      · have hz := e_f hc hz
        refine r_iload F dX11_path_43 rfl ?_
        refine r_bipush F dX11_path_45 (v := 120) (by decide) ?_
        obtain ⟨q8, hq9, hz⟩ := e_bd hz
        have Jq8 : eRun G X 66 [some (.ref 32), some (.int p0), some (.int p1), some (.int v5.1), some (.int v5.2.1), some (.int v5.2.2.1), some (.int v5.2.2.2.1), some (.int v5.2.2.2.2), none] [.int q8] h [] nx 0 0 := by
          refine r_istore F dX11_path_66 (e_le rfl) (L' := [some (.ref 32), some (.int p0), some (.int p1), some (.int v5.1), some (.int v5.2.1), some (.int v5.2.2.1), some (.int v5.2.2.2.1), some (.int v5.2.2.2.2), some (.int q8)]) rfl ?_
          refine r_iload F dX11_path_68 rfl ?_
          refine r_if_lt F dX11_path_70 (tgt := 109) (by decide) (fun hc => ?_) (fun hc => ?_)
          · have hz := e_t hc hz
            refine r_bipush F dX11_path_109 (v := (-2)) (by decide) ?_
            refine r_iload F dX11_path_111 rfl ?_
            refine r_isub F dX11_path_113 ?_
            refine r_mat (k := 32) h32 (l' := [(32, o32 a32_8 a32_10)]) rfl ?_
            refine r_mat (k := 33) h33 (l' := [(32, o32 a32_8 a32_10), (33, o33 a33_1)]) rfl ?_
            refine r_mat (k := 61) h61 (l' := [(32, o32 a32_8 a32_10), (33, o33 a33_1), (61, o61 A61)]) rfl ?_
            obtain rfl := Option.some.inj hz
            have e9 := hx (.inr (((-2) : Int32) - v5.2.2.2.2, a32_10, a33_1, A61)) rfl
            subst e9
            exact r_iret F hq dX11_path_114 rfl rfl (Nat.le_refl _) (Nat.le_refl _) ⟨rfl, rfl⟩
          · have hz := e_f hc hz
            refine r_iload F dX11_path_73 rfl ?_
            refine r_iconst F dX11_path_75 (v := 3) (by decide) ?_
            refine r_icmp_gt F dX11_path_76 (tgt := 109) (by decide) (fun hc => ?_) (fun hc => ?_)
            · have hz := e_t hc hz
              refine r_bipush F dX11_path_109 (v := (-2)) (by decide) ?_
              refine r_iload F dX11_path_111 rfl ?_
              refine r_isub F dX11_path_113 ?_
              refine r_mat (k := 32) h32 (l' := [(32, o32 a32_8 a32_10)]) rfl ?_
              refine r_mat (k := 33) h33 (l' := [(32, o32 a32_8 a32_10), (33, o33 a33_1)]) rfl ?_
              refine r_mat (k := 61) h61 (l' := [(32, o32 a32_8 a32_10), (33, o33 a33_1), (61, o61 A61)]) rfl ?_
              obtain rfl := Option.some.inj hz
              have e9 := hx (.inr (((-2) : Int32) - v5.2.2.2.2, a32_10, a33_1, A61)) rfl
              subst e9
              exact r_iret F hq dX11_path_114 rfl rfl (Nat.le_refl _) (Nat.le_refl _) ⟨rfl, rfl⟩
            · have hz := e_f hc hz
              refine r_aload_n F dX11_path_79 rfl ?_
              refine r_get F dX11_path_80 flX11_28 h32 rfl (e_le rfl) (e_lt hnx rfl) ?_
              refine r_get F dX11_path_83 flX11_141 h39 rfl (e_le rfl) (e_lt hnx rfl) ?_
              refine r_iload_n F dX11_path_86 rfl ?_
              refine r_gets F dX11_path_87 (C := "SlipLattice") (n := "ACROSS") (d := "[I") (v := .ref 3) (by decide +kernel) fsX11_234 ?_
              refine r_iload F dX11_path_90 rfl ?_
              obtain ⟨hg, hz⟩ := e_gd hz
              refine r_ialdS F dX11_path_92 (i := q8) (hG.s3) (e_vp hg) ?_
              refine r_iadd F dX11_path_93 ?_
              refine r_iload F dX11_path_94 rfl ?_
              refine r_gets F dX11_path_96 (C := "SlipLattice") (n := "UPWARDS") (d := "[I") (v := .ref 4) (by decide +kernel) fsX11_237 ?_
              refine r_iload F dX11_path_99 rfl ?_
              obtain ⟨hg, hz⟩ := e_gd hz
              refine r_ialdS F dX11_path_101 (i := q8) (hG.s4) (e_vp hg) ?_
              refine r_iadd F dX11_path_102 ?_
              obtain ⟨q10, hq11, hz⟩ := e_bd hz
              refine r_callV F dX11_path_103 (b := 40) (dc := 0) (ds := 0) (As := [.int (v5.1 + (sA3 (tn q8))), .int (v5.2.1 + (sA4 (tn q8)))]) (S0 := []) lkX11_207 mX7_hasSite (tX7_hasSite_40 hG (la := x_l X) (h := e_up h []) hnx h40 hq11) rfl rfl rfl (e_le rfl) (e_le rfl) (e_le rfl) h40 (ci := 7) e_cl7.1 rfl (e_le rfl) (e_lt hnx rfl) (Nat.zero_le _) (Nat.zero_le _) (e_k ?_)
              refine r_wr0 ?_
              refine r_z_ne F dX11_path_106 (tgt := 115) (by decide) (fun hc => ?_) (fun hc => ?_)
              · have hz := e_t hc hz
                refine r_iload F dX11_path_115 rfl ?_
                refine r_aload_n F dX11_path_117 rfl ?_
                refine r_get F dX11_path_118 flX11_28 h32 rfl (e_le rfl) (e_lt hnx rfl) ?_
                refine r_get F dX11_path_121 flX11_141 h39 rfl (e_le rfl) (e_lt hnx rfl) ?_
                refine r_iload_n F dX11_path_124 rfl ?_
                refine r_iload F dX11_path_125 rfl ?_
                refine r_iload F dX11_path_127 rfl ?_
                refine r_iconst F dX11_path_129 (v := 0) (by decide) ?_
                obtain ⟨q12, hq13, hz⟩ := e_bd hz
                refine r_callV F dX11_path_130 (b := 40) (dc := 0) (ds := 0) (As := [.int v5.1, .int v5.2.1, .int q8, .int 0]) (S0 := [.int v5.2.2.1]) lkX11_240 mX7_strideFrom (tX7_strideFrom_40 hG (la := x_l X) (h := e_up h []) hnx h40 h41 hq13) rfl rfl rfl (e_le rfl) (e_le rfl) (e_le rfl) h40 (ci := 7) e_cl7.1 rfl (e_le rfl) (e_lt hnx rfl) (Nat.zero_le _) (Nat.zero_le _) (e_k ?_)
                refine r_wr0 ?_
                refine r_iadd F dX11_path_133 ?_
                refine r_istore F dX11_path_134 (e_le rfl) (L' := [some (.ref 32), some (.int p0), some (.int p1), some (.int v5.1), some (.int v5.2.1), some (.int (v5.2.2.1 + q12)), some (.int v5.2.2.2.1), some (.int v5.2.2.2.2), some (.int q8)]) rfl ?_
                refine r_iload F dX11_path_136 rfl ?_
                refine r_aload_n F dX11_path_138 rfl ?_
                refine r_get F dX11_path_139 flX11_28 h32 rfl (e_le rfl) (e_lt hnx rfl) ?_
                refine r_get F dX11_path_142 flX11_141 h39 rfl (e_le rfl) (e_lt hnx rfl) ?_
                refine r_iload_n F dX11_path_145 rfl ?_
                refine r_iload F dX11_path_146 rfl ?_
                refine r_iload F dX11_path_148 rfl ?_
                refine r_iconst F dX11_path_150 (v := 1) (by decide) ?_
                obtain ⟨q14, hq15, hz⟩ := e_bd hz
                refine r_callV F dX11_path_151 (b := 40) (dc := 0) (ds := 0) (As := [.int v5.1, .int v5.2.1, .int q8, .int 1]) (S0 := [.int v5.2.2.2.1]) lkX11_240 mX7_strideFrom (tX7_strideFrom_40 hG (la := x_l X) (h := e_up h []) hnx h40 h41 hq15) rfl rfl rfl (e_le rfl) (e_le rfl) (e_le rfl) h40 (ci := 7) e_cl7.1 rfl (e_le rfl) (e_lt hnx rfl) (Nat.zero_le _) (Nat.zero_le _) (e_k ?_)
                refine r_wr0 ?_
                refine r_iadd F dX11_path_154 ?_
                refine r_istore F dX11_path_155 (e_le rfl) (L' := [some (.ref 32), some (.int p0), some (.int p1), some (.int v5.1), some (.int v5.2.1), some (.int (v5.2.2.1 + q12)), some (.int (v5.2.2.2.1 + q14)), some (.int v5.2.2.2.2), some (.int q8)]) rfl ?_
                refine r_iload_n F dX11_path_157 rfl ?_
                refine r_gets F dX11_path_158 (C := "SlipLattice") (n := "ACROSS") (d := "[I") (v := .ref 3) (by decide +kernel) fsX11_234 ?_
                refine r_iload F dX11_path_161 rfl ?_
                obtain ⟨hg, hz⟩ := e_gd hz
                refine r_ialdS F dX11_path_163 (i := q8) (hG.s3) (e_vp hg) ?_
                refine r_iadd F dX11_path_164 ?_
                refine r_istore_n F dX11_path_165 (e_le rfl) (L' := [some (.ref 32), some (.int p0), some (.int p1), some (.int (v5.1 + (sA3 (tn q8)))), some (.int v5.2.1), some (.int (v5.2.2.1 + q12)), some (.int (v5.2.2.2.1 + q14)), some (.int v5.2.2.2.2), some (.int q8)]) rfl ?_
                refine r_iload F dX11_path_166 rfl ?_
                refine r_gets F dX11_path_168 (C := "SlipLattice") (n := "UPWARDS") (d := "[I") (v := .ref 4) (by decide +kernel) fsX11_237 ?_
                refine r_iload F dX11_path_171 rfl ?_
                obtain ⟨hg, hz⟩ := e_gd hz
                refine r_ialdS F dX11_path_173 (i := q8) (hG.s4) (e_vp hg) ?_
                refine r_iadd F dX11_path_174 ?_
                refine r_istore F dX11_path_175 (e_le rfl) (L' := [some (.ref 32), some (.int p0), some (.int p1), some (.int (v5.1 + (sA3 (tn q8)))), some (.int (v5.2.1 + (sA4 (tn q8)))), some (.int (v5.2.2.1 + q12)), some (.int (v5.2.2.2.1 + q14)), some (.int v5.2.2.2.2), some (.int q8)]) rfl ?_
                refine r_inc F dX11_path_177 (k9 := 1) (by decide) rfl (L' := [some (.ref 32), some (.int p0), some (.int p1), some (.int (v5.1 + (sA3 (tn q8)))), some (.int (v5.2.1 + (sA4 (tn q8)))), some (.int (v5.2.2.1 + q12)), some (.int (v5.2.2.2.1 + q14)), some (.int (v5.2.2.2.2 + 1)), some (.int q8)]) rfl ?_
                refine r_goto F dX11_path_180 (tgt := 31) (by decide) ?_
                refine r_drop 8 (L' := [some (.ref 32), some (.int p0), some (.int p1), some (.int (v5.1 + (sA3 (tn q8)))), some (.int (v5.2.1 + (sA4 (tn q8)))), some (.int (v5.2.2.1 + q12)), some (.int (v5.2.2.2.1 + q14)), some (.int (v5.2.2.2.2 + 1)), none]) rfl ?_
                obtain rfl := Option.some.inj hz
                exact ih (v5.1 + (sA3 (tn q8)), v5.2.1 + (sA4 (tn q8)), v5.2.2.1 + q12, v5.2.2.2.1 + q14, v5.2.2.2.2 + 1) rfl
              · have hz := e_f hc hz
                refine r_bipush F dX11_path_109 (v := (-2)) (by decide) ?_
                refine r_iload F dX11_path_111 rfl ?_
                refine r_isub F dX11_path_113 ?_
                refine r_mat (k := 32) h32 (l' := [(32, o32 a32_8 a32_10)]) rfl ?_
                refine r_mat (k := 33) h33 (l' := [(32, o32 a32_8 a32_10), (33, o33 a33_1)]) rfl ?_
                refine r_mat (k := 61) h61 (l' := [(32, o32 a32_8 a32_10), (33, o33 a33_1), (61, o61 A61)]) rfl ?_
                obtain rfl := Option.some.inj hz
                have e9 := hx (.inr (((-2) : Int32) - v5.2.2.2.2, a32_10, a33_1, A61)) rfl
                subst e9
                exact r_iret F hq dX11_path_114 rfl rfl (Nat.le_refl _) (Nat.le_refl _) ⟨rfl, rfl⟩
        refine r_icmp_ge F dX11_path_47 (tgt := 65) (by decide) (fun hc => ?_) (fun hc => ?_)
        · have hq9 := e_t hc hq9
          refine r_iconst F dX11_path_65 (v := (-1)) (by decide) ?_
          obtain rfl := Option.some.inj hq9
          exact Jq8
        · have hq9 := e_f hc hq9
          refine r_aload_n F dX11_path_50 rfl ?_
          refine r_get F dX11_path_51 flX11_10 h32 rfl (e_le rfl) (e_lt hnx rfl) ?_
          refine r_iload F dX11_path_54 rfl ?_
          obtain ⟨q16, hq17, hq9⟩ := e_bd hq9
          refine r_callV F dX11_path_56 (b := 33) (dc := 0) (ds := 0) (As := [.int v5.2.2.2.2]) (S0 := []) lkX11_228 mX9_byteAt (tX9_byteAt_33 hG (la := x_l X) (h := e_up h []) hnx h33 h34 hq17) rfl rfl rfl (e_le rfl) (e_le rfl) (e_le rfl) h33 (ci := 9) e_cl9.1 rfl (e_le rfl) (e_lt hnx rfl) (Nat.zero_le _) (Nat.zero_le _) (e_k ?_)
          refine r_wr0 ?_
          obtain ⟨q18, hq19, hq9⟩ := e_bd hq9
          refine r_callS F dX11_path_59 (dc := 0) (ds := 0) (As := [.int q16]) (S0 := []) lkX11_231 mX11_directionOf (tX11_directionOf hG (la := x_l X) (h := e_up h []) hnx  hq19) rfl rfl rfl (e_le rfl) (e_le rfl) (e_le rfl) (Nat.zero_le _) (Nat.zero_le _) (e_k ?_)
          refine r_wr0 ?_
          refine r_goto F dX11_path_62 (tgt := 66) (by decide) ?_
          obtain rfl := Option.some.inj hq9
          exact Jq8
    · cases x6 with
      | inr r9 => exact Option.some.inj hf
      | inl x6e =>
        simp only [Sum.elim_inl] at hf
        show eRun G X 183 [some (.ref 32), some (.int p0), some (.int p1), some (.int x6e.1), some (.int x6e.2.1), some (.int x6e.2.2.1), some (.int x6e.2.2.2), none, none] [] h [] nx 0 0
        refine r_aload_n F dX11_path_183 rfl ?_
        refine r_get F dX11_path_184 flX11_60 h32 rfl (e_le rfl) (e_lt hnx rfl) ?_
        refine r_iconst F dX11_path_187 (v := 0) (by decide) ?_
        refine r_iload F dX11_path_188 rfl ?_
        refine r_iast F dX11_path_190 h61 (e_le rfl) (e_lt hnx rfl) (e_vp (by decide)) (l' := [(61, o61 (upd A61 (tn 0) x6e.2.2.1))]) rfl ?_
        refine r_aload_n F dX11_path_191 rfl ?_
        refine r_get F dX11_path_192 flX11_60 h32 rfl (e_le rfl) (e_lt hnx rfl) ?_
        refine r_iconst F dX11_path_195 (v := 1) (by decide) ?_
        refine r_iload F dX11_path_196 rfl ?_
        refine r_iast F dX11_path_198 rfl (e_le rfl) (e_lt hnx rfl) (e_vp (by decide)) (l' := [(61, o61 (upd (upd A61 (tn 0) x6e.2.2.1) (tn 1) x6e.2.2.2))]) rfl ?_
        refine r_aload_n F dX11_path_199 rfl ?_
        refine r_get F dX11_path_200 flX11_60 h32 rfl (e_le rfl) (e_lt hnx rfl) ?_
        refine r_iconst F dX11_path_203 (v := 2) (by decide) ?_
        refine r_aload_n F dX11_path_204 rfl ?_
        refine r_get F dX11_path_205 flX11_10 h32 rfl (e_le rfl) (e_lt hnx rfl) ?_
        refine r_get F dX11_path_208 flX11_91 h33 rfl (e_le rfl) (e_lt hnx rfl) ?_
        refine r_iast F dX11_path_211 rfl (e_le rfl) (e_lt hnx rfl) (e_vp (by decide)) (l' := [(61, o61 (upd (upd (upd A61 (tn 0) x6e.2.2.1) (tn 1) x6e.2.2.2) (tn 2) a33_1))]) rfl ?_
        refine r_aload_n F dX11_path_212 rfl ?_
        refine r_get F dX11_path_213 flX11_60 h32 rfl (e_le rfl) (e_lt hnx rfl) ?_
        refine r_iconst F dX11_path_216 (v := 3) (by decide) ?_
        refine r_iload_n F dX11_path_217 rfl ?_
        refine r_iast F dX11_path_218 rfl (e_le rfl) (e_lt hnx rfl) (e_vp (by decide)) (l' := [(61, o61 (upd (upd (upd (upd A61 (tn 0) x6e.2.2.1) (tn 1) x6e.2.2.2) (tn 2) a33_1) (tn 3) x6e.1))]) rfl ?_
        refine r_aload_n F dX11_path_219 rfl ?_
        refine r_get F dX11_path_220 flX11_60 h32 rfl (e_le rfl) (e_lt hnx rfl) ?_
        refine r_iconst F dX11_path_223 (v := 4) (by decide) ?_
        refine r_iload F dX11_path_224 rfl ?_
        refine r_iast F dX11_path_226 rfl (e_le rfl) (e_lt hnx rfl) (e_vp (by decide)) (l' := [(61, o61 (upd (upd (upd (upd (upd A61 (tn 0) x6e.2.2.1) (tn 1) x6e.2.2.2) (tn 2) a33_1) (tn 3) x6e.1) (tn 4) x6e.2.1))]) rfl ?_
        refine r_aload_n F dX11_path_227 rfl ?_
        refine r_iconst F dX11_path_228 (v := 1) (by decide) ?_
        refine r_put F dX11_path_229 (v := .int (e_b true)) flX11_124 rfl (e_b_nar _) (e_b_fit _) h32 (e_le rfl) (e_le rfl) (e_lt hnx rfl) (l' := [(32, o32 a32_8 true), (61, o61 (upd (upd (upd (upd (upd A61 (tn 0) x6e.2.2.1) (tn 1) x6e.2.2.2) (tn 2) a33_1) (tn 3) x6e.1) (tn 4) x6e.2.1))]) rfl ?_
        refine r_aload_n F dX11_path_232 rfl ?_
        refine r_get F dX11_path_233 flX11_10 rfl rfl (e_le rfl) (e_lt hnx rfl) ?_
        refine r_iconst F dX11_path_236 (v := 0) (by decide) ?_
        refine r_put F dX11_path_237 flX11_91 rfl rfl rfl h33 (e_le rfl) (e_le rfl) (e_lt hnx rfl) (l' := [(32, o32 a32_8 true), (33, o33 0), (61, o61 (upd (upd (upd (upd (upd A61 (tn 0) x6e.2.2.1) (tn 1) x6e.2.2.2) (tn 2) a33_1) (tn 3) x6e.1) (tn 4) x6e.2.1))]) rfl ?_
        refine r_iload_n F dX11_path_240 rfl ?_
        refine r_iload_n F dX11_path_241 rfl ?_
        refine r_icmp_ne F dX11_path_242 (tgt := 255) (by decide) (fun hc => ?_) (fun hc => ?_)
        · have hf := e_f hc hf
          refine r_iconst F dX11_path_255 (v := 0) (by decide) ?_
          obtain rfl := Option.some.inj hf
          exact r_iret F hq dX11_path_256 rfl rfl (Nat.le_refl _) (Nat.le_refl _) ⟨rfl, rfl⟩
        · have hf := e_t hc hf
          refine r_iload F dX11_path_245 rfl ?_
          refine r_iload_n F dX11_path_247 rfl ?_
          refine r_icmp_ne F dX11_path_248 (tgt := 255) (by decide) (fun hc => ?_) (fun hc => ?_)
          · have hf := e_f hc hf
            refine r_iconst F dX11_path_255 (v := 0) (by decide) ?_
            obtain rfl := Option.some.inj hf
            exact r_iret F hq dX11_path_256 rfl rfl (Nat.le_refl _) (Nat.le_refl _) ⟨rfl, rfl⟩
          · have hf := e_t hc hf
            refine r_iconst F dX11_path_251 (v := 1) (by decide) ?_
            refine r_goto F dX11_path_252 (tgt := 256) (by decide) ?_
            obtain rfl := Option.some.inj hf
            exact r_iret F hq dX11_path_256 rfl rfl (Nat.le_refl _) (Nat.le_refl _) ⟨rfl, rfl⟩
  · have hf := e_f hc hf
    refine r_iconst F dX11_path_15 (v := (-1)) (by decide) ?_
    refine r_mat (k := 32) h32 (l' := [(32, o32 a32_8 a32_10)]) rfl ?_
    refine r_mat (k := 33) h33 (l' := [(32, o32 a32_8 a32_10), (33, o33 a33_1)]) rfl ?_
    refine r_mat (k := 61) h61 (l' := [(32, o32 a32_8 a32_10), (33, o33 a33_1), (61, o61 A61)]) rfl ?_
    obtain rfl := Option.some.inj hf
    exact r_iret F hq dX11_path_16 rfl rfl (Nat.le_refl _) (Nat.le_refl _) ⟨rfl, rfl⟩
