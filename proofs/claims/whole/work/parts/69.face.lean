/-! ===== face(x, y, part) ===== -/
theorem face_sm {W H : Nat} {g f pl ve told X Y Dx Dy Fo : Nat → Int32} (h : agr W H g f) (hW : W ≤ 9) (hH : H ≤ 9) (ho : okL f (coreL f W H)) (hc : celC f (coreL f W H) pl ve) (x y p t k0 : Int32) : SM (fX11_face (nI W) (nI H) (nI (coreL f W H).length) g pl x y p) (fX12_face t (nI W) (nI H) k0 f told X Y Dx Dy Fo x y p) (fun y z => z.1 = y ∧ z.2.1 = 0) := by
  unfold fX11_face fX12_face
  refine SM.eqL (hasFace_eq hW hH x y) (SM.eqR (crys_eq hW) ?_)
  by_cases hl : 0 ≤ x.toInt ∧ x.toInt < (W : Int) - 1 ∧ 0 ≤ y.toInt ∧ y.toInt < (H : Int) - 1
  · refine SM.tL (decide_eq_true hl) (SM.tR (decide_eq_true (by omega)) (SM.eqR (isFace_eq hW hH x y) (SM.tR (decide_eq_true hl) (SM.eqR (in_eq _ _ _) ?_))))
    rw [i_l]
    have l2 : (2 : Int64).toInt = 2 := rfl
    rw [l0, l2]
    by_cases hp : 0 ≤ p.toInt ∧ p.toInt ≤ 2
    · refine SM.fL (by rw [lt_i, c0]; omega) (SM.tL (by rw [le_i, c2]; omega) (SM.tR (decide_eq_true hp) (SM.okR (lays_eq hW hH f told X Y Dx Dy Fo k0 ho) ?_)))
      rintro ⟨R1, R2, X', Y', Dx', Dy', Fo'⟩ ⟨_, hR2, hcel, hF⟩
      simp only at hR2 hcel hF ⊢
      subst hR2
      refine SM.ite Iff.rfl (fun _ => SM.bind (coreOf_sm ho.1 hc hcel x y) (fun a b e => SM.ret ⟨e.symm, rfl⟩)) (fun q => ?_)
      obtain ⟨k, hk, rfl⟩ := of_rng (n := 3) hp.1 (by omega)
      obtain ⟨a, ha, rfl⟩ := of_rng (n := 10) hl.1 (by omega)
      obtain ⟨b, hb, rfl⟩ := of_rng (n := 10) hl.2.2.1 (by omega)
      rw [nI_ti a (by omega), nI_ti b (by omega)] at hl
      have k2 : k ≠ 2 := fun e => q (by rw [e]; rfl)
      have s1 := vectorOf_eq hW hH g (x := a) (y := b) (p := k) (by omega) (by omega) (by omega)
      rw [if_pos (by omega), vec_agr h (by omega) (by omega) (by omega)] at s1
      exact SM.eqL s1 (SM.eqR (vector_eq f (by omega) (by omega) (by omega)) (SM.ret ⟨rfl, rfl⟩))
    · refine SM.fR (by rw [decide_eq_true_eq]; exact hp) ?_
      by_cases q : p < 0
      · exact SM.tL q (SM.ret ⟨rfl, rfl⟩)
      · refine SM.fL q (SM.fL (fun z => ?_) (SM.ret ⟨rfl, rfl⟩))
        rw [lt_i, c0] at q
        rw [le_i, c2] at z
        omega
  · refine SM.fL (by rw [decide_eq_true_eq]; exact hl) ?_
    by_cases w0 : 0 < W
    · exact SM.tR (decide_eq_true w0) (SM.eqR (isFace_eq hW hH x y) (SM.fR (by rw [decide_eq_true_eq]; exact hl) (SM.ret ⟨rfl, rfl⟩)))
    · exact SM.fR (by rw [decide_eq_true_eq]; exact w0) (SM.ret ⟨rfl, rfl⟩)
