/-! ===== the nearest pair ===== -/
def prR (L : List (Nat × Nat)) (v w1 w2 : Int32) : Prop := w1 = v ∧ ((v = -1 ∧ w2 = -1) ∨ ∃ i j, i < L.length ∧ j < L.length ∧ i ≠ j ∧ v = nI (16 * i + j) ∧ w2 = sqA L i j)
theorem max0_pos {x : Int32} (h : 0 < x.toInt) : fJ9_max_7cf53 0 x = some x := by
  unfold fJ9_max_7cf53
  rw [if_pos (by rw [lt_i, c0]; exact h)]
set_option maxHeartbeats 1000000 in
theorem nearest_sm {f pl ve X Y Dx Dy : Nat → Int32} {L : List (Nat × Nat)} (h : okL f L) (hc : celC f L pl ve) (hr : celR f L X Y Dx Dy) (b : Bool) : SM (fX0_nearestPair (nI L.length) pl) (fX12_nearest (nI L.length) X Y b) (fun y z => if b = true then fX0_squareOfPair (nI L.length) pl y = some z else y = z) := by
  have hn := h.1
  have z16 : (16 : Int32) = nI 16 := rfl
  unfold fX0_nearestPair fX12_nearest
  refine SM.bind (SM.loop (Q := fun y z => prR L y z.1 z.2) (fun k v w => prR L v.1 w.1 w.2.1 ∧ v.2 = nI k ∧ w.2.2 = nI k) L.length (by omega) ⟨⟨rfl, Or.inl ⟨rfl, rfl⟩⟩, rfl, rfl⟩ ?_ ?_) ?_
  · rintro k ⟨v, v2⟩ ⟨w1, w2, w3⟩ hk ⟨hp, rfl, rfl⟩
    simp only at hp ⊢
    refine SM.fL (nle hk (by omega)) (SM.fR (nle hk (by omega)) ?_)
    refine SM.bind (SM.loop (Q := fun y z => prR L y z.1 z.2) (fun j v w => prR L v.1 w.1 w.2.1 ∧ v.2 = nI (k + 1 + j) ∧ w.2.2 = nI (k + 1 + j)) (L.length - (k + 1)) (by omega) ⟨hp, nI_s1 k, nI_s1 k⟩ ?_ ?_) (fun y z e => SM.inl ⟨e, nI_s1 k, nI_s1 k⟩)
    · rintro j ⟨v, v2⟩ ⟨w1, w2, w3⟩ hj ⟨hp, rfl, rfl⟩
      simp only at hp ⊢
      have hj2 : k + 1 + j < L.length := by omega
      have ne : prR L ((16 : Int32) * nI k + nI (k + 1 + j)) ((16 : Int32) * nI k + nI (k + 1 + j)) (sqA L k (k + 1 + j)) := ⟨rfl, Or.inr ⟨k, k + 1 + j, hk, hj2, by omega, by rw [z16, pk_mul, nI_add], rfl⟩⟩
      refine SM.fL (nle hj2 (by omega)) (SM.fR (nle hj2 (by omega)) ?_)
      refine SM.bind (Q := fun y z => prR L y z.1 z.2) ?_ (fun y z e => SM.inl ⟨e, nI_s1 _, nI_s1 _⟩)
      obtain ⟨rfl, hp | ⟨i, m, hi, hm, him, e1, e2⟩⟩ := hp
      · exact SM.tL hp.1 (SM.tR hp.1 (SM.eqR (apart_eq hn hr hk hj2) (SM.ret ne)))
      · have hne : nI (16 * i + m) ≠ -1 := (pair_tab ⟨i, by omega⟩ ⟨m, by omega⟩).2.2
        have sp := sqPair_eq hn hc hi hm
        subst e1
        subst e2
        refine SM.fL hne (SM.fR hne (SM.eqL (square_eq hn hc hk hj2) (SM.eqL sp (SM.eqR (apart_eq hn hr hk hj2) (SM.ite Iff.rfl (fun _ => SM.ret ⟨rfl, Or.inr ⟨i, m, hi, hm, him, rfl, rfl⟩⟩) (fun _ => SM.eqR (apart_eq hn hr hk hj2) (SM.ret ne)))))))
    · rintro ⟨v, v2⟩ ⟨w1, w2, w3⟩ ⟨hp, rfl, rfl⟩
      simp only at hp ⊢
      rw [show k + 1 + (L.length - (k + 1)) = L.length by omega]
      exact SM.tL (yle (by omega)) (SM.tR (yle (by omega)) (SM.inr hp))
  · rintro ⟨v, v2⟩ ⟨w1, w2, w3⟩ ⟨hp, rfl, rfl⟩
    exact SM.tL (yle (by omega)) (SM.tR (yle (by omega)) (SM.inr hp))
  · rintro v ⟨w1, w2⟩ hp
    simp only at hp ⊢
    obtain ⟨rfl, hp⟩ := hp
    cases b with
    | false => exact SM.fR (by decide) (SM.ret rfl)
    | true =>
      refine SM.tR rfl ?_
      rcases hp with ⟨rfl, rfl⟩ | ⟨i, m, hi, hm, him, rfl, rfl⟩
      · exact ⟨-1, 0, rfl, rfl, rfl⟩
      · rw [max0_pos (sqA_pos h hi hm him)]
        exact SM.ret (sqPair_eq hn hc hi hm)
/-! ===== forces keep to bounds ===== -/
theorem pull_tab : ∀ a b : Fin 9, a.val * (a.val * a.val - b.val * b.val) ≤ (a.val * a.val + b.val * b.val) * (a.val * a.val + b.val * b.val) ∧ a.val * (b.val * b.val - a.val * a.val) ≤ (a.val * a.val + b.val * b.val) * (a.val * a.val + b.val * b.val) := by decide
theorem nat_sq (a : Int) : a * a = ((a.natAbs * a.natAbs : Nat) : Int) := (Int.natAbs_mul_self).symm
theorem pullZ_le {r : Int32} {m a b : Int} (hm : m.natAbs ≤ 400) (ha : a.natAbs ≤ 8) (hb : b.natAbs ≤ 8) (hne : ¬ (a = 0 ∧ b = 0)) : (pullZ r m a b).natAbs ≤ 400000 := by
  have hs := sqs hne
  have t := pull_tab ⟨a.natAbs, by omega⟩ ⟨b.natAbs, by omega⟩
  simp only at t
  have qa := nat_sq a
  have qb := nat_sq b
  generalize hA : a.natAbs * a.natAbs = A at t qa
  generalize hB : b.natAbs * b.natAbs = B at t qb
  unfold pullZ
  split
  · rw [Int.natAbs_tdiv]
    apply Nat.div_le_of_le_mul
    have e1 : ((a * a + b * b) * (a * a + b * b)).natAbs = (A + B) * (A + B) := by
      rw [Int.natAbs_mul, qa, qb]
      have : ((A : Int) + (B : Int)).natAbs = A + B := by omega
      rw [this]
    have e2 : a.natAbs * (a * a - b * b).natAbs ≤ (A + B) * (A + B) := by
      rw [qa, qb]
      rcases Nat.le_total A B with q | q
      · have : ((A : Int) - (B : Int)).natAbs = B - A := by omega
        rw [this]; exact t.2
      · have : ((A : Int) - (B : Int)).natAbs = A - B := by omega
        rw [this]; exact t.1
    rw [e1, Int.natAbs_mul, Int.natAbs_mul, Int.natAbs_mul]
    calc (1000 : Int).natAbs * m.natAbs * a.natAbs * (a * a - b * b).natAbs = ((1000 : Int).natAbs * m.natAbs) * (a.natAbs * (a * a - b * b).natAbs) := Nat.mul_assoc _ _ _
      _ ≤ (1000 * 400) * ((A + B) * (A + B)) := Nat.mul_le_mul (Nat.mul_le_mul (Nat.le_refl _) hm) e2
      _ = (A + B) * (A + B) * 400000 := Nat.mul_comm _ _
  · split
    · refine Nat.le_trans (tdiv_le _ _) ?_
      rw [Int.natAbs_mul, Int.natAbs_mul]
      have hsg : a.sign.natAbs ≤ 1 := by rw [Int.natAbs_sign]; split <;> omega
      exact Nat.le_trans (Nat.mul_le_mul (Nat.mul_le_mul (Nat.le_refl _) hm) hsg) (by decide)
    · refine Nat.le_trans (tdiv_le _ _) ?_
      rw [Int.natAbs_mul, Int.natAbs_mul]
      exact Nat.le_trans (Nat.mul_le_mul (Nat.mul_le_mul (Nat.le_refl _) hm) ha) (by decide)
