def fX6_plan (a40_0 : Int32) (a40_1 : Int32) (a42_0 : Int32) (a66_0 : Int32) (a66_4 : Int32) (a66_6 : Nat) (A43 : Nat → Int32) (A44 : Nat → Int32) (A67 : Nat → Int32) (A68 : Nat → Int32) (A69 : Nat → Int32) (A70 : Nat → Int32) (LE : Nat → Int32) (nl : Nat) (p1 : Int32) (nx : Nat) : Option (Int32 × Int32 × Nat × (Nat → Int32) × (Nat → Int32) × (Nat → Int32) × (Nat → Int32) × (Nat → Int32) × Nat × Nat) :=
  (fX6_weigh a40_0 a40_1 a42_0 a66_0 a66_4 A43 A44 A67 A68 A69 A70 p1).bind (fun q1 =>
  (f_fill q1.2.1 q1.2.2.2.1 q1.2.2.2.2.1 q1.2.2.2.2.2 a66_6 nl LE nx).bind (fun q3 =>
  (fX6_leastOf q3.1 q3.2.2.1 q3.2.1 (((1 : Int32) <<< (q1.2.1 &&& 31)) - 1)).bind (fun q5 =>
  (fX6_choose q1.2.1 q3.1 q1.2.2.1 q1.2.2.2.1 q1.2.2.2.2.1 q1.2.2.2.2.2 q3.2.2.1 q3.2.1 (((1 : Int32) <<< (q1.2.1 &&& 31)) - 1)).bind (fun q7 =>
  some (q1.1 + q5, q1.2.1, q3.1, q7, q1.2.2.2.1, q1.2.2.2.2.1, q1.2.2.2.2.2, q3.2.2.1, q3.2.1, q3.2.2.2)))))
set_option maxRecDepth 100000 in
theorem tX6_plan_66_39 {G : eG} (hG : e_GS G) {la : Launch} {h : Nat → eO} {nx : Nat} (hnx : 99 ≤ nx) {a40_0 : Int32} {a40_1 : Int32} {a42_0 : Int32} {A43 : Nat → Int32} {A44 : Nat → Int32} {a66_0 : Int32} {a66_4 : Int32} {a66_6 : Nat} {A67 : Nat → Int32} {A68 : Nat → Int32} {A69 : Nat → Int32} {A70 : Nat → Int32} {nl : Nat} {LE : Nat → Int32} {A57 : Nat → Option Nat} {SS : eSS} {p1 : Int32} (h39 : h 39 = o39) (h40 : h 40 = o40 a40_0 a40_1) (h42 : h 42 = o42 a42_0) (h43 : h 43 = o43 A43) (h44 : h 44 = o44 A44) (h66 : h 66 = o66 a66_0 a66_4 a66_6) (h67 : h 67 = o67 A67) (h68 : h 68 = o68 A68) (h69 : h 69 = o69 A69) (h70 : h 70 = o70 A70) (hdy : e_dyn h nx A57 SS a66_6 nl LE) {R9 : Int32 × Int32 × Nat × (Nat → Int32) × (Nat → Int32) × (Nat → Int32) × (Nat → Int32) × (Nat → Int32) × Nat × Nat} (hf : fX6_plan a40_0 a40_1 a42_0 a66_0 a66_4 a66_6 A43 A44 A67 A68 A69 A70 LE nl p1 nx = some R9) :
    eSemB G la MX6_plan [.ref 66, .ref 39, .int p1] h nx 1 4096 (fun r9 h9 nx9 => r9 = none ∧ nx9 = R9.2.2.2.2.2.2.2.2.2 ∧ nx ≤ nx9 ∧ (∀ k, k < 99 → [66, 67, 68, 69, 70, 71].contains k = false → h9 k = h k) ∧ h9 66 = o66 R9.1 R9.2.1 R9.2.2.1 ∧ h9 67 = o67 R9.2.2.2.1 ∧ h9 68 = o68 R9.2.2.2.2.1 ∧ h9 69 = o69 R9.2.2.2.2.2.1 ∧ h9 70 = o70 R9.2.2.2.2.2.2.1 ∧ e_dyn h9 nx9 A57 SS R9.2.2.1 R9.2.2.2.2.2.2.2.2.1 R9.2.2.2.2.2.2.2.1) := by
  refine eSemB.of (k := 1) (L := [some (.ref 66), some (.ref 39), some (.int p1), none]) (by decide +kernel) rfl rfl (fun X F hxl hq hcR hsR => ?_)
  subst hxl
  unfold fX6_plan at hf
  have hz6 := hdy.2.2.1.imp id (fun z => z.1)
  have hzn := hdy.2.2.2.1
  have hzQ := hdy.2.2.2.2
  refine r_aload_n F dX6_plan_0 rfl ?_
  refine r_aload_n F dX6_plan_1 rfl ?_
  refine r_iload_n F dX6_plan_2 rfl ?_
  obtain ⟨q1, hq2, hf⟩ := e_bd hf
  refine r_callV F dX6_plan_3 (b := 66) (dc := 0) (ds := 0) (As := [.ref 39, .int p1]) (S0 := []) lkX6_27 mX6_weigh (tX6_weigh_66_39 hG (la := x_l X) (h := e_up h []) hnx h39 h40 h42 h43 h44 h66 h67 h68 h69 h70 hq2) rfl rfl rfl (e_le rfl) (e_le rfl) (e_le rfl) h66 (ci := 6) e_cl6.1 rfl (e_le rfl) (e_lt hnx rfl) (Nat.zero_le _) (Nat.zero_le _) (e_k ?_)
  refine r_wr (l' := [(66, o66 q1.1 q1.2.1 a66_6), (67, o67 q1.2.2.1), (68, o68 q1.2.2.2.1), (69, o69 q1.2.2.2.2.1), (70, o70 q1.2.2.2.2.2)]) rfl rfl ?_
  refine r_aload_n F dX6_plan_6 rfl ?_
  obtain ⟨q3, hq4, hf⟩ := e_bd hf
  refine r_callVB F dX6_plan_7 (b := 66) (mc := 1) (ms := 4096) (As := []) (S0 := []) lkX6_31 mX6_fillLeast (t_fill hG (la := x_l X) (h := e_up h [(66, o66 q1.1 q1.2.1 a66_6), (67, o67 q1.2.2.1), (68, o68 q1.2.2.2.1), (69, o69 q1.2.2.2.2.1), (70, o70 q1.2.2.2.2.2)]) hnx rfl rfl rfl rfl (e_dyn.up rfl hdy) hq4) rfl rfl rfl (e_le rfl) (e_le rfl) (e_le rfl) rfl (ci := 6) e_cl6.1 rfl (e_le rfl) (e_lt hnx rfl) (by rw [hcR]; omega) (by rw [hsR]; omega) (fun r9 hB nxB p9 => ?_)
  obtain ⟨e9, en9, hle, fr9, hB66, hdy⟩ := p9
  subst e9
  have fr := e_frW (WL := [66, 67, 68, 69, 70, 71]) fr9 rfl rfl
  have h39 := (fr9 39 (by decide) rfl).trans h39
  have h40 := (fr9 40 (by decide) rfl).trans h40
  have h42 := (fr9 42 (by decide) rfl).trans h42
  have h43 := (fr9 43 (by decide) rfl).trans h43
  have h44 := (fr9 44 (by decide) rfl).trans h44
  have h67 := (fr9 67 (by decide) rfl).trans rfl
  have h68 := (fr9 68 (by decide) rfl).trans rfl
  have h69 := (fr9 69 (by decide) rfl).trans rfl
  have h70 := (fr9 70 (by decide) rfl).trans rfl
  have h66 := hB66
  have hnx : 99 ≤ nxB := Nat.le_trans hnx hle
  have hz6 := hdy.2.2.1.imp id (fun z => z.1)
  have hzn := hdy.2.2.2.1
  have hzQ := hdy.2.2.2.2
  refine r_iconst F dX6_plan_10 (v := 1) (by decide) ?_
  refine r_aload_n F dX6_plan_11 rfl ?_
  refine r_get F dX6_plan_12 flX6_34 h66 rfl (e_le rfl) (e_lt hnx rfl) ?_
  refine r_ishl F dX6_plan_15 ?_
  refine r_iconst F dX6_plan_16 (v := 1) (by decide) ?_
  refine r_isub F dX6_plan_17 ?_
  refine r_istore_n F dX6_plan_18 (e_le rfl) (L' := [some (.ref 66), some (.ref 39), some (.int p1), some (.int (((1 : Int32) <<< (q1.2.1 &&& 31)) - 1))]) rfl ?_
  refine r_aload_n F dX6_plan_19 rfl ?_
  refine r_dup F dX6_plan_20 rfl ?_
  refine r_get F dX6_plan_21 flX6_38 h66 rfl (e_le rfl) (e_lt hnx rfl) ?_
  refine r_aload_n F dX6_plan_24 rfl ?_
  refine r_iload_n F dX6_plan_25 rfl ?_
  obtain ⟨q5, hq6, hf⟩ := e_bd hf
  refine r_callV F dX6_plan_26 (b := 66) (dc := 0) (ds := 0) (As := [.int (((1 : Int32) <<< (q1.2.1 &&& 31)) - 1)]) (S0 := [.int q1.1, .ref 66]) lkX6_41 mX6_leastOf (tX6_leastOf_66 hG (la := x_l X) (h := e_up hB []) hnx h66 hz6 hzn ((e_upq hz6 rfl).trans hzQ) hq6) rfl rfl rfl (e_le rfl) (e_le rfl) (e_le rfl) h66 (ci := 6) e_cl6.1 rfl (e_le rfl) (e_lt hnx rfl) (by rw [hcR]; omega) (by rw [hsR]; omega) (e_k ?_)
  refine r_wr0 ?_
  refine r_iadd F dX6_plan_29 ?_
  refine r_put F dX6_plan_30 flX6_38 rfl rfl rfl h66 (e_le rfl) (e_le rfl) (e_lt hnx rfl) (l' := [(66, o66 (q1.1 + q5) q1.2.1 q3.1)]) rfl ?_
  refine r_aload_n F dX6_plan_33 rfl ?_
  refine r_iload_n F dX6_plan_34 rfl ?_
  obtain ⟨q7, hq8, hf⟩ := e_bd hf
  refine r_callV F dX6_plan_35 (b := 66) (dc := 0) (ds := 0) (As := [.int (((1 : Int32) <<< (q1.2.1 &&& 31)) - 1)]) (S0 := []) lkX6_45 mX6_choose (tX6_choose_66 hG (la := x_l X) (h := e_up hB [(66, o66 (q1.1 + q5) q1.2.1 q3.1)]) hnx rfl h67 h68 h69 h70 hz6 hzn ((e_upq hz6 rfl).trans hzQ) hq8) rfl rfl rfl (e_le rfl) (e_le rfl) (e_le rfl) rfl (ci := 6) e_cl6.1 rfl (e_le rfl) (e_lt hnx rfl) (by rw [hcR]; omega) (by rw [hsR]; omega) (e_k ?_)
  refine r_wr (l' := [(66, o66 (q1.1 + q5) q1.2.1 q3.1), (67, o67 q7)]) rfl rfl ?_
  obtain rfl := Option.some.inj hf
  exact r_vretB F hq dX6_plan_38 rfl (by omega) (by omega) ⟨rfl, en9, hle, (e_frF fr rfl), rfl, rfl, h68, h69, h70, e_dyn.up rfl hdy⟩
