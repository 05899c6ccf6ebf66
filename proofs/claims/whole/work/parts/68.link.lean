/-! ===== link(x, y, up, part) ===== -/
theorem crys_eq {W : Nat} (hW : W ≤ 9) : fX12_isCrystal (nI W) = some (decide (0 < W)) := by
  unfold fX12_isCrystal
  rw [z0]
  simp only [nI_le_iff (show W < 2147483648 by omega) (show 0 < 2147483648 by decide)]
  split
  all_goals (apply some_d; simp; omega)
theorem eb_nat (u : Bool) : e_b u = nI u.toNat := by cases u <;> rfl
theorem link_sm {W H : Nat} {g f : Nat → Int32} (h : agr W H g f) (hW : W ≤ 9) (hH : H ≤ 9) (x y : Int32) (u : Bool) (p t : Int32) : SM (fX11_link (nI W) (nI H) g x y u p) (fX12_link t (nI W) (nI H) f x y u p) (fun y z => z = (y, 0)) := by
  have hu : u.toNat ≤ 1 := by cases u <;> decide
  unfold fX11_link fX12_link
  have e : (if u = true then some true else some false : Option Bool) = some u := by cases u <;> rfl
  refine SM.eqL e (SM.eqL (by rw [eb_nat]; exact hasLink_eq hW hH x y hu) (SM.eqR (crys_eq hW) ?_))
  by_cases hl : 0 ≤ x.toInt ∧ x.toInt < (W : Int) - 1 + u.toNat ∧ 0 ≤ y.toInt ∧ y.toInt < (H : Int) - u.toNat
  · refine SM.tL (decide_eq_true hl) (SM.tR (decide_eq_true (by omega)) (SM.eqR (isLink_eq hW hH x y u) (SM.tR (decide_eq_true hl) (SM.eqR (in_eq _ _ _) ?_))))
    rw [i_l]
    have l1 : (1 : Int64).toInt = 1 := rfl
    rw [l0, l1]
    by_cases hp : 0 ≤ p.toInt ∧ p.toInt ≤ 1
    · obtain ⟨k, hk, rfl⟩ := of_rng (n := 2) hp.1 (by omega)
      obtain ⟨a, ha, rfl⟩ := of_rng (n := 10) hl.1 (by omega)
      obtain ⟨b, hb, rfl⟩ := of_rng (n := 10) hl.2.2.1 (by omega)
      rw [nI_ti a (by omega), nI_ti b (by omega)] at hl
      have s := lnk h hW hH (x := a) (y := b) (p := k) u (by omega) (by omega) (by omega)
      refine SM.fL (by rw [lt_i, c0]; omega) (SM.tL (by rw [le_i, c1]; omega) (SM.tR (decide_eq_true hp) (SM.eqL (by rw [eb_nat]; exact s.1) (SM.eqR s.2 (SM.ret rfl)))))
    · refine SM.fR (by rw [decide_eq_true_eq]; exact hp) ?_
      by_cases q : p < 0
      · exact SM.tL q (SM.ret rfl)
      · refine SM.fL q (SM.fL (fun z => ?_) (SM.ret rfl))
        rw [lt_i, c0] at q
        rw [le_i, c1] at z
        omega
  · refine SM.fL (by rw [decide_eq_true_eq]; exact hl) ?_
    by_cases w0 : 0 < W
    · exact SM.tR (decide_eq_true w0) (SM.eqR (isLink_eq hW hH x y u) (SM.fR (by rw [decide_eq_true_eq]; exact hl) (SM.ret rfl)))
    · exact SM.fR (by rw [decide_eq_true_eq]; exact w0) (SM.ret rfl)
