/-! ===== stills() ===== -/
theorem stills_sm {W H : Nat} {f pl ve told X Y Dx Dy Fo : Nat → Int32} (hW : W ≤ 9) (hH : H ≤ 9) (ho : okL f (coreL f W H)) (hc : celC f (coreL f W H) pl ve) (t k0 : Int32) : SM (fX11_stills (nI W) (nI (coreL f W H).length) pl ve told) (fX12_stills t (nI W) (nI H) k0 f told X Y Dx Dy Fo) (fun y z => z.1 = y ∧ z.2.1 = 0) := by
  unfold fX11_stills fX12_stills
  refine SM.eqL (empty_eq hW) (SM.eqR (crys_eq hW) ?_)
  by_cases w0 : W = 0
  · exact SM.tL (decide_eq_true w0) (SM.fR (by rw [decide_eq_true_eq]; omega) (SM.ret ⟨rfl, rfl⟩))
  · refine SM.fL (by rw [decide_eq_true_eq]; exact w0) (SM.tR (decide_eq_true (by omega)) (SM.bind (gForce_sm hW hH ho hc) ?_))
    rintro y ⟨z1, z2⟩ ⟨e, _⟩
    simp only at e ⊢
    subst e
    exact SM.ite Iff.rfl (fun _ => SM.ret ⟨rfl, rfl⟩) (fun _ => SM.ret ⟨rfl, rfl⟩)
