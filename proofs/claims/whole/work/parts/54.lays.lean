/-! ===== the reference lays the same cores ===== -/
set_option maxHeartbeats 4000000 in
theorem lays_ok {W H : Nat} (hW : W ≤ 9) (hH : H ≤ 9) (f told X0 Y0 Dx0 Dy0 Fo0 : Nat → Int32) (c0' : Int32) (fo : Nat → Int32) (hc : (coreL f W H).length ≤ 12)
    (hfo : ∀ X Y Dx Dy : Nat → Int32, celR f (coreL f W H) X Y Dx Dy → ∀ i, i < (coreL f W H).length → fX12_forceOn (nI (coreL f W H).length) told X Y Dx Dy (nI i) = some (fo i)) :
    OK (fX12_laysCores (nI W) (nI H) c0' f told X0 Y0 Dx0 Dy0 Fo0) (fun R => R.1 = nI (coreL f W H).length ∧ R.2.1 = nI (coreL f W H).length ∧ celR f (coreL f W H) R.2.2.1 R.2.2.2.1 R.2.2.2.2.1 R.2.2.2.2.2.1 ∧ ∀ i, i < (coreL f W H).length → R.2.2.2.2.2.2 i = fo i) := by
  unfold fX12_laysCores
  refine OK.bind (OK.loop (Q := fun y => y.1 = nI (coreL f W H).length ∧ celR f (coreL f W H) y.2.1 y.2.2.1 y.2.2.2.1 y.2.2.2.2) (fun j v => v.1 = nI j ∧ v.2.1 = nI (rowsL f W j).length ∧ celR f (rowsL f W j) v.2.2.1 v.2.2.2.1 v.2.2.2.2.1 v.2.2.2.2.2) (H - 1) (by omega) ⟨rfl, rfl, fun i hi => by simp [rowsL] at hi⟩ ?_ ?_) ?_
  · rintro j ⟨v1, v2, X, Y, Dx, Dy⟩ hj ⟨rfl, rfl, hcel⟩
    simp only at hcel ⊢
    refine OK.f (by rw [le_pred hH (by omega)]; omega) ?_
    refine OK.bind (OK.loop (Q := fun y => y.1 = nI (rowsL f W (j + 1)).length ∧ celR f (rowsL f W (j + 1)) y.2.1 y.2.2.1 y.2.2.2.1 y.2.2.2.2) (fun k v => v.1 = nI k ∧ v.2.1 = nI (rowsL f W j ++ rowL f j k).length ∧ celR f (rowsL f W j ++ rowL f j k) v.2.2.1 v.2.2.2.1 v.2.2.2.2.1 v.2.2.2.2.2) (W - 1) (by omega) ⟨rfl, by simp [rowL], by simpa [rowL] using hcel⟩ ?_ ?_) (fun y hy => OK.inl ⟨by simp only [z1, nI_add], hy.1, hy.2⟩)
    · rintro k ⟨v1, v2, X, Y, Dx, Dy⟩ hk ⟨rfl, rfl, hcel⟩
      simp only at hcel ⊢
      have hle := part_le f W H hj (show k + 1 ≤ W - 1 by omega)
      have v0 := vector_eq f (x := k) (y := j) (p := 0) (by omega) (by omega) (by omega)
      have v1 := vector_eq f (x := k) (y := j) (p := 1) (by omega) (by omega) (by omega)
      rw [← z0] at v0
      rw [← z1] at v1
      refine OK.f (by rw [le_pred hW (by omega)]; omega) (OK.eq (isCore_eq f (by omega) (by omega)) ?_)
      by_cases hcore : isC f k j = true
      · have hn := isC_true.mp hcore
        have hrow : rowL f j (k + 1) = rowL f j k ++ [(k, j)] := by simp [rowL, hcore]
        rw [hrow, ← List.append_assoc] at hle ⊢
        have hs := hcel.snoc (x := k) (y := j)
        generalize hL : rowsL f W j ++ rowL f j k = L at hle hs hcel ⊢
        rw [List.length_append, List.length_singleton] at hle ⊢
        generalize hn9 : L.length = n at hle hs hcel ⊢
        have g1 : e_in (nI n) 64 = true := ein_nI (by omega) (by omega)
        have t1 : tn (nI n) = n := tn_nI (by omega)
        refine OK.bind (Q := fun q => q.1 = nI (n + 1) ∧ celR f (L ++ [(k, j)]) q.2.1 q.2.2.1 q.2.2.2.1 q.2.2.2.2) ?_ (fun q hq => OK.inl ⟨by simp only [z1, nI_add], hq.1, hq.2⟩)
        refine OK.t (by by_cases h5 : vec f k j 0 = 0 <;> by_cases h6 : vec f k j 1 = 0 <;> simp_all) (OK.g g1 (OK.g g1 (OK.eq v0 (OK.g g1 (OK.eq v1 (OK.g g1 (OK.ret ⟨by simp only [z1, nI_add], ?_⟩)))))))
        simp only [t1]
        exact hs
      · have hn : vec f k j 0 = 0 ∧ vec f k j 1 = 0 := Classical.byContradiction fun q => hcore (isC_true.mpr q)
        have hcf : isC f k j = false := by simpa using hcore
        have hrow : rowL f j (k + 1) = rowL f j k := by simp [rowL, hcf]
        rw [hrow]
        refine OK.bind (Q := fun q => q.1 = nI (rowsL f W j ++ rowL f j k).length ∧ celR f (rowsL f W j ++ rowL f j k) q.2.1 q.2.2.1 q.2.2.2.1 q.2.2.2.2) (OK.f (by simp [hn.1, hn.2]) (OK.ret ⟨rfl, hcel⟩)) (fun q hq => OK.inl ⟨by simp only [z1, nI_add], hq.1, hq.2⟩)
    · rintro ⟨v1, v2, X, Y, Dx, Dy⟩ ⟨rfl, rfl, hcel⟩
      simp only at hcel ⊢
      exact OK.t (by rw [le_pred hW (by omega)]; omega) (OK.inr ⟨rfl, hcel⟩)
  · rintro ⟨v1, v2, X, Y, Dx, Dy⟩ ⟨rfl, rfl, hcel⟩
    simp only at hcel ⊢
    exact OK.t (by rw [le_pred hH (by omega)]; omega) (OK.inr ⟨rfl, hcel⟩)
  · rintro ⟨y1, X, Y, Dx, Dy⟩ ⟨rfl, hcel⟩
    simp only at hcel ⊢
    generalize hn : (coreL f W H).length = n at hc hfo ⊢
    refine OK.bind (OK.loop (Q := fun Fo => ∀ i, i < n → Fo i = fo i) (fun k v => v.1 = nI k ∧ ∀ i, i < k → v.2 i = fo i) n (by omega) ⟨rfl, fun i hi => by omega⟩ ?_ ?_) (fun Fo h => OK.ret ⟨rfl, rfl, hcel, h⟩)
    · rintro k ⟨v1, Fo⟩ hk ⟨rfl, hF⟩
      simp only at hF ⊢
      refine OK.f (by rw [nI_le_iff (by omega) (by omega)]; omega) (OK.eq (hfo X Y Dx Dy hcel k hk) (OK.g (ein_nI (by omega) (by omega)) (OK.inl ⟨by simp only [z1, nI_add], fun i hi => ?_⟩)))
      rw [tn_nI (by omega)]
      by_cases e : i = k
      · subst e; simp [upd]
      · simp only [upd, if_neg e]; exact hF i (by omega)
    · rintro ⟨v1, Fo⟩ ⟨rfl, hF⟩
      exact OK.t (by show nI n ≤ nI n; rw [nI_le_iff (by omega) (by omega)]; omega) (OK.inr hF)
