/-! ===== the plain questions ===== -/
theorem cmp_lt (a b : Int64) : lg_cmp a b < 0 ↔ a.toInt < b.toInt := by
  unfold lg_cmp
  by_cases h : a > b
  · rw [if_pos h]
    have h' : b.toInt < a.toInt := lt_l b a |>.mp h
    exact ⟨fun q => absurd q (by decide), fun q => by omega⟩
  · rw [if_neg h]
    have h' : ¬ b.toInt < a.toInt := fun q => h ((lt_l b a).mpr q)
    by_cases e : a = b
    · rw [if_pos e]
      subst e
      exact ⟨fun q => absurd q (by decide), fun q => by omega⟩
    · rw [if_neg e]
      have e' : a.toInt ≠ b.toInt := fun q => e (Int64.toInt_inj.mp q)
      exact ⟨fun _ => by omega, fun _ => by decide⟩
theorem cmp_gt (a b : Int64) : 0 < lg_cmp a b ↔ b.toInt < a.toInt := by
  unfold lg_cmp
  by_cases h : a > b
  · rw [if_pos h]
    have h' : b.toInt < a.toInt := lt_l b a |>.mp h
    exact ⟨fun _ => h', fun _ => by decide⟩
  · rw [if_neg h]
    have h' : ¬ b.toInt < a.toInt := fun q => h ((lt_l b a).mpr q)
    by_cases e : a = b
    · rw [if_pos e]
      exact ⟨fun q => absurd q (by decide), fun q => absurd q h'⟩
    · rw [if_neg e]
      exact ⟨fun q => absurd q (by decide), fun q => absurd q h'⟩
theorem some_d {P : Prop} [Decidable P] {b : Bool} (h : b = true ↔ P) : some b = some (decide P) := by
  congr 1
  rw [Bool.eq_iff_iff, h, decide_eq_true_eq]
theorem in_eq (a b c : Int64) : fX12_in a b c = some (decide (b.toInt ≤ a.toInt ∧ a.toInt ≤ c.toInt)) := by
  unfold fX12_in
  simp only [cmp_lt, cmp_gt]
  repeat' split
  all_goals (apply some_d; simp; omega)
theorem l0 : (0 : Int64).toInt = 0 := rfl
/-- a crystal's sides -/
def okS (n : Nat) : Prop := n = 0 ∨ (2 ≤ n ∧ n ≤ 9)
theorem okS.le {n : Nat} (h : okS n) : n ≤ 9 := by rcases h with h | h <;> omega
theorem nIs1 {n : Nat} (h : n ≤ 9) : (nI n - 1).toInt = (n : Int) - 1 := by
  have h1 := nI_ti n (by omega)
  rw [ti_sub] <;> (rw [h1]; show _ ; simp; try omega)
theorem isSite_eq {W H : Nat} (hW : W ≤ 9) (hH : H ≤ 9) (x y : Int32) : fX12_isSite (nI W) (nI H) x y = some (decide (0 ≤ x.toInt ∧ x.toInt < W ∧ 0 ≤ y.toInt ∧ y.toInt < H)) := by
  unfold fX12_isSite
  simp only [in_eq, i_l, l0, nIs1 hW, nIs1 hH, Option.bind_some, decide_eq_true_eq]
  repeat' split
  all_goals (apply some_d; simp; omega)
theorem hasSite_eq {W H : Nat} (hW : W ≤ 9) (hH : H ≤ 9) (x y : Int32) : fX7_hasSite (nI W) (nI H) x y = some (decide (0 ≤ x.toInt ∧ x.toInt < W ∧ 0 ≤ y.toInt ∧ y.toInt < H)) := by
  unfold fX7_hasSite
  have c9 : (9 : Int32).toInt = 9 := rfl
  have c0 : (0 : Int32).toInt = 0 := rfl
  simp only [lt_i, le_i, nI_ti W (by omega), nI_ti H (by omega), c9, c0]
  repeat' split
  all_goals (apply some_d; simp; omega)
