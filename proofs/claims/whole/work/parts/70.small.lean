/-! ===== status, count, stills ===== -/
theorem status_sm {A B : Nat → Int32} (h : ∀ k, k < 4 → A k = B k) (p t : Int32) : SM (fX11_status A p) (fX12_status t B p) (fun y z => z.1 = y ∧ z.2 = 0) := by
  unfold fX11_status fX12_status
  have l3 : (3 : Int64).toInt = 3 := rfl
  have c4 : (4 : Int32).toInt = 4 := rfl
  refine SM.eqR (in_eq _ _ _) ?_
  rw [i_l, l0, l3]
  by_cases hp : 0 ≤ p.toInt ∧ p.toInt ≤ 3
  · obtain ⟨k, hk, rfl⟩ := of_rng (n := 4) hp.1 (by omega)
    have g : e_in (nI k) 4 = true := ein_nI hk (by omega)
    refine SM.fL (by rw [lt_i, c0]; omega) (SM.fL (by rw [le_i, c4]; omega) (SM.tR (decide_eq_true hp) (SM.gL g (SM.gR g (SM.ret ⟨?_, rfl⟩)))))
    simp only [tn_nI (show k < 2147483648 by omega)]
    exact (h k hk).symm
  · refine SM.fR (by rw [decide_eq_true_eq]; exact hp) ?_
    by_cases q : p < 0
    · exact SM.tL q (SM.ret ⟨rfl, rfl⟩)
    · refine SM.fL q (SM.tL ?_ (SM.ret ⟨rfl, rfl⟩))
      rw [lt_i, c0] at q
      rw [le_i, c4]
      omega
theorem empty_eq {W : Nat} (hW : W ≤ 9) : fX11_isEmpty (nI W) = some (decide (W = 0)) := by
  unfold fX11_isEmpty
  rw [z0]
  simp only [nI_inj (show W < 2147483648 by omega) (show 0 < 2147483648 by decide)]
  split
  all_goals (apply some_d; simp_all)
