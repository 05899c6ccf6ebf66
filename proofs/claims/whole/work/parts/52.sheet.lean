/-! ===== sheets: steps and vectors at plain numbers ===== -/
theorem z0 : (0 : Int32) = nI 0 := rfl
theorem z1 : (1 : Int32) = nI 1 := rfl
theorem z2 : (2 : Int32) = nI 2 := rfl
theorem z4 : (4 : Int32) = nI 4 := rfl
theorem z9 : (9 : Int32) = nI 9 := rfl
theorem c0 : (0 : Int32).toInt = 0 := rfl
theorem c1 : (1 : Int32).toInt = 1 := rfl
theorem c2 : (2 : Int32).toInt = 2 := rfl
theorem c9 : (9 : Int32).toInt = 9 := rfl
theorem nI_inj {a b : Nat} (ha : a < 2147483648) (hb : b < 2147483648) : nI a = nI b ↔ a = b := nI_eq ha hb
theorem placeOf_eq (x y r : Nat) : fX7_placeOf (nI x) (nI y) (nI r) = some (nI (4 * (9 * y + x) + 2 * r)) := by
  unfold fX7_placeOf
  simp only [z4, z9, z2, pk_mul, nI_add]
theorem linkAt_eq (x y p : Nat) (u : Bool) : fX12_linkAt (nI x) (nI y) u (nI p) = some (nI (4 * (9 * y + x) + 2 * u.toNat + p)) := by
  unfold fX12_linkAt
  cases u <;> simp [z4, z9, z2, z0, pk_mul, nI_add]
/-- a step's number: of the link from site x, y to the right (r 0) or upwards (r 1) -/
def st (f : Nat → Int32) (x y r p : Nat) : Int32 := f (4 * (9 * y + x) + 2 * r + p)
theorem step_eq (f : Nat → Int32) {x y p : Nat} (u : Bool) (hx : x ≤ 9) (hy : y ≤ 9) (hp : p ≤ 1) : fX12_step f (nI x) (nI y) u (nI p) = some (st f x y u.toNat p) := by
  unfold fX12_step
  have hu : u.toNat ≤ 1 := by cases u <;> decide
  rw [linkAt_eq, Option.bind_some, g_t (ein_nI (by omega) (by omega)), tn_nI (by omega)]
  rfl
/-- the sum round a face -/
def vec (f : Nat → Int32) (x y p : Nat) : Int32 := st f x y 0 p + st f (x + 1) y 1 p - st f x (y + 1) 0 p - st f x y 1 p
theorem vector_eq (f : Nat → Int32) {x y p : Nat} (hx : x < 9) (hy : y < 9) (hp : p ≤ 1) : fX12_vector f (nI x) (nI y) (nI p) = some (vec f x y p) := by
  unfold fX12_vector
  simp only [z1, nI_add]
  rw [step_eq f false (by omega) (by omega) hp, Option.bind_some, step_eq f true (by omega) (by omega) hp, Option.bind_some, step_eq f false (by omega) (by omega) hp, Option.bind_some, step_eq f true (by omega) (by omega) hp]
  rfl
theorem isCore_eq (f : Nat → Int32) {x y : Nat} (hx : x < 9) (hy : y < 9) : fX12_isCore f (nI x) (nI y) = some (decide (¬ (vec f x y 0 = 0 ∧ vec f x y 1 = 0))) := by
  unfold fX12_isCore
  have h0 := vector_eq f (p := 0) hx hy (by omega)
  have h1 := vector_eq f (p := 1) hx hy (by omega)
  rw [← z0] at h0
  rw [← z1] at h1
  rw [h0, h1]
  simp only [Option.bind_some]
  repeat' split
  all_goals (apply some_d; simp_all)
theorem nIs2 {n : Nat} (h : n ≤ 9) : (nI n - 2).toInt = (n : Int) - 2 := by
  have h1 := nI_ti n (by omega)
  rw [ti_sub] <;> (rw [h1]; show _ ; simp; try omega)
theorem isFace_eq {W H : Nat} (hW : W ≤ 9) (hH : H ≤ 9) (x y : Int32) : fX12_isFace (nI W) (nI H) x y = some (decide (0 ≤ x.toInt ∧ x.toInt < (W : Int) - 1 ∧ 0 ≤ y.toInt ∧ y.toInt < (H : Int) - 1)) := by
  unfold fX12_isFace
  simp only [in_eq, i_l, l0, nIs2 hW, nIs2 hH, Option.bind_some, decide_eq_true_eq]
  repeat' split
  all_goals (apply some_d; simp; omega)
theorem hasFace_eq {W H : Nat} (hW : W ≤ 9) (hH : H ≤ 9) (x y : Int32) : fX7_hasFace (nI W) (nI H) x y = some (decide (0 ≤ x.toInt ∧ x.toInt < (W : Int) - 1 ∧ 0 ≤ y.toInt ∧ y.toInt < (H : Int) - 1)) := by
  unfold fX7_hasFace
  have c8 : (8 : Int32).toInt = 8 := rfl
  simp only [lt_i, le_i, nIs1 hW, nIs1 hH, c8, c0]
  repeat' split
  all_goals (apply some_d; simp; omega)
theorem isLink_eq {W H : Nat} (hW : W ≤ 9) (hH : H ≤ 9) (x y : Int32) (u : Bool) : fX12_isLink (nI W) (nI H) x y u = some (decide (0 ≤ x.toInt ∧ x.toInt < (W : Int) - 1 + u.toNat ∧ 0 ≤ y.toInt ∧ y.toInt < (H : Int) - u.toNat)) := by
  unfold fX12_isLink
  simp only [isSite_eq hW hH, Option.bind_some, decide_eq_true_eq, le_i, nIs1 hW, nIs1 hH]
  cases u
  all_goals simp only [if_true, Bool.toNat_true, Bool.toNat_false, Bool.false_eq_true, if_false]
  all_goals repeat' split
  all_goals (apply some_d; simp; omega)
theorem hasLink_eq {W H : Nat} (hW : W ≤ 9) (hH : H ≤ 9) (x y : Int32) {r : Nat} (hr : r ≤ 1) : fX7_hasLink (nI W) (nI H) x y (nI r) = some (decide (0 ≤ x.toInt ∧ x.toInt < (W : Int) - 1 + r ∧ 0 ≤ y.toInt ∧ y.toInt < (H : Int) - r)) := by
  unfold fX7_hasLink
  have e1 : (nI W - 1 + nI r).toInt = (W : Int) - 1 + r := by
    have h1 := nIs1 hW
    have h2 := nI_ti r (by omega)
    rw [ti_add] <;> omega
  have e2 : (nI H - nI r).toInt = (H : Int) - r := by
    have h1 := nI_ti H (by omega)
    have h2 := nI_ti r (by omega)
    rw [ti_sub] <;> omega
  simp only [z0, z1, nI_inj (show r < 2147483648 by omega) (show 0 < 2147483648 by decide), nI_inj (show r < 2147483648 by omega) (show 1 < 2147483648 by decide)]
  simp only [← z0, ← z1, lt_i, le_i, e1, e2, c9, c0]
  repeat' split
  all_goals (apply some_d; simp; omega)
/-- the class's step: 0 where there is no link -/
theorem stepOf_eq {W H : Nat} (hW : W ≤ 9) (hH : H ≤ 9) (f : Nat → Int32) {x y r p : Nat} (hx : x < 2147483648) (hy : y < 2147483648) (hr : r ≤ 1) (hp : p ≤ 1) : fX7_stepOf (nI W) (nI H) f (nI x) (nI y) (nI r) (nI p) = some (if x + 1 < W + r ∧ y + r < H then st f x y r p else 0) := by
  unfold fX7_stepOf
  rw [hasLink_eq hW hH _ _ hr, Option.bind_some, nI_ti x hx, nI_ti y hy]
  simp only [decide_eq_true_eq]
  by_cases hl : x + 1 < W + r ∧ y + r < H
  · rw [if_pos hl, if_pos (by omega), placeOf_eq]
    simp only [Option.bind_some, nI_add]
    have e : e_in (nI (4 * (9 * y + x) + 2 * r + p)) 324 = true := ein_nI (by omega) (by omega)
    have e2 : tn (nI (4 * (9 * y + x) + 2 * r + p)) = 4 * (9 * y + x) + 2 * r + p := tn_nI (by omega)
    rw [g_t e, e2]
    have hp2 : p = 0 ∨ p = 1 := by omega
    rcases hp2 with rfl | rfl
    · rw [if_pos (by decide)]; rfl
    · rw [if_neg (by decide), if_pos (by decide)]; rfl
  · rw [if_neg hl, if_neg (by omega)]
theorem vectorOf_eq {W H : Nat} (hW : W ≤ 9) (hH : H ≤ 9) (f : Nat → Int32) {x y p : Nat} (hx : x < 2147483648) (hy : y < 2147483648) (hp : p ≤ 1) : fX7_vectorOf (nI W) (nI H) f (nI x) (nI y) (nI p) = some (if x + 1 < W ∧ y + 1 < H then vec f x y p else 0) := by
  unfold fX7_vectorOf
  rw [hasFace_eq hW hH, Option.bind_some, nI_ti x hx, nI_ti y hy]
  simp only [decide_eq_true_eq]
  by_cases hl : x + 1 < W ∧ y + 1 < H
  · rw [if_pos hl, if_pos (by omega)]
    simp only [z0, z1, nI_add, placeOf_eq, Option.bind_some]
    have e : ∀ k, k < 324 → e_in (nI k) 324 = true := fun k hk => ein_nI hk (by omega)
    have e2 : ∀ k, k < 324 → tn (nI k) = k := fun k hk => tn_nI (by omega)
    rw [g_t (e _ (by omega)), g_t (e _ (by omega)), g_t (e _ (by omega)), g_t (e _ (by omega)), e2 _ (by omega), e2 _ (by omega), e2 _ (by omega), e2 _ (by omega)]
    have hp2 : p = 0 ∨ p = 1 := by omega
    rcases hp2 with rfl | rfl
    · rw [if_pos rfl]; rfl
    · rw [if_neg (by decide), if_pos rfl]; rfl
  · rw [if_neg hl, if_neg (by omega)]
theorem isPlain_eq {W H : Nat} (hW : W ≤ 9) (hH : H ≤ 9) (f : Nat → Int32) {x y : Nat} (hx : x + 1 < W) (hy : y + 1 < H) : fX7_isPlain (nI W) (nI H) f (nI x) (nI y) = some (decide (vec f x y 0 = 0 ∧ vec f x y 1 = 0)) := by
  unfold fX7_isPlain
  have h0 := vectorOf_eq hW hH f (x := x) (y := y) (p := 0) (by omega) (by omega) (by omega)
  have h1 := vectorOf_eq hW hH f (x := x) (y := y) (p := 1) (by omega) (by omega) (by omega)
  rw [← z0, if_pos ⟨hx, hy⟩] at h0
  rw [← z1, if_pos ⟨hx, hy⟩] at h1
  rw [h0, h1]
  simp only [Option.bind_some]
  repeat' split
  all_goals (apply some_d; simp_all)
