/-! ===== plain mathematics: loops, small numbers ===== -/
/-- a loop that goes N times and then out -/
theorem e_loop_for {V Y : Type} {b : V → Option (V ⊕ Y)} (I : Nat → V → Prop) (Q : Y → Prop) (N : Nat) {v0 : V} (hN : N < e_fuel) (h0 : I 0 v0)
    (hs : ∀ (k : Nat) (v : V), k < N → I k v → ∃ v', b v = some (.inl v') ∧ I (k + 1) v') (hx : ∀ v : V, I N v → ∃ y, b v = some (.inr y) ∧ Q y) : ∃ y, e_loop b e_fuel v0 = some y ∧ Q y := by
  have key : ∀ (m k n : Nat) (v : V), k + m = N → m < n → I k v → ∃ y, e_loop b n v = some y ∧ Q y := by
    intro m
    induction m with
    | zero =>
      intro k n v hk hn hI
      obtain ⟨n, rfl⟩ : ∃ j, n = j + 1 := ⟨n - 1, by omega⟩
      have e : k = N := by omega
      subst e
      obtain ⟨y, hy, hq⟩ := hx v hI
      exact ⟨y, by simp [e_loop, hy], hq⟩
    | succ m ih =>
      intro k n v hk hn hI
      obtain ⟨n, rfl⟩ : ∃ j, n = j + 1 := ⟨n - 1, by omega⟩
      obtain ⟨v', hv, hI'⟩ := hs k v (by omega) hI
      obtain ⟨y, hy, hq⟩ := ih (k + 1) n v' (by omega) (by omega) hI'
      exact ⟨y, by simp [e_loop, hv, hy], hq⟩
  exact key N 0 e_fuel v0 (by omega) hN h0
/-- a loop that goes at most N times, and may go out before -/
theorem e_loop_any {V Y : Type} {b : V → Option (V ⊕ Y)} (I : Nat → V → Prop) (Q : Y → Prop) (N : Nat) {v0 : V} (hN : N < e_fuel) (h0 : I 0 v0)
    (hs : ∀ (k : Nat) (v : V), k < N → I k v → (∃ v', b v = some (.inl v') ∧ I (k + 1) v') ∨ ∃ y, b v = some (.inr y) ∧ Q y) (hx : ∀ v : V, I N v → ∃ y, b v = some (.inr y) ∧ Q y) : ∃ y, e_loop b e_fuel v0 = some y ∧ Q y := by
  have key : ∀ (m k n : Nat) (v : V), k + m = N → m < n → I k v → ∃ y, e_loop b n v = some y ∧ Q y := by
    intro m
    induction m with
    | zero =>
      intro k n v hk hn hI
      obtain ⟨n, rfl⟩ : ∃ j, n = j + 1 := ⟨n - 1, by omega⟩
      have e : k = N := by omega
      subst e
      obtain ⟨y, hy, hq⟩ := hx v hI
      exact ⟨y, by simp [e_loop, hy], hq⟩
    | succ m ih =>
      intro k n v hk hn hI
      obtain ⟨n, rfl⟩ : ∃ j, n = j + 1 := ⟨n - 1, by omega⟩
      rcases hs k v (by omega) hI with ⟨v', hv, hI'⟩ | ⟨y, hy, hq⟩
      · obtain ⟨y, hy, hq⟩ := ih (k + 1) n v' (by omega) (by omega) hI'
        exact ⟨y, by simp [e_loop, hv, hy], hq⟩
      · exact ⟨y, by simp [e_loop, hy], hq⟩
  exact key N 0 e_fuel v0 (by omega) hN h0
theorem e_loop_eq {V Y : Type} {b : V → Option (V ⊕ Y)} (s : Nat → V) (y : Y) (N : Nat) (hN : N < e_fuel) {v0 : V} (h0 : v0 = s 0) (hs : ∀ k, k < N → b (s k) = some (.inl (s (k + 1)))) (hx : b (s N) = some (.inr y)) : e_loop b e_fuel v0 = some y := by
  obtain ⟨y', h1, h2⟩ := e_loop_for (b := b) (fun k v => v = s k) (fun y' => y' = y) N hN h0 (fun k v hk hv => ⟨_, by rw [hv]; exact hs k hk, rfl⟩) (fun v hv => ⟨y, by rw [hv]; exact hx, rfl⟩)
  rw [h1, h2]
theorem lt_i (a b : Int32) : a < b ↔ a.toInt < b.toInt := Int32.lt_iff_toInt_lt
theorem le_i (a b : Int32) : a ≤ b ↔ a.toInt ≤ b.toInt := Int32.le_iff_toInt_le
theorem eq_i (a b : Int32) : a = b ↔ a.toInt = b.toInt := Int32.toInt_inj.symm
theorem lt_l (a b : Int64) : a < b ↔ a.toInt < b.toInt := Int64.lt_iff_toInt_lt
theorem le_l (a b : Int64) : a ≤ b ↔ a.toInt ≤ b.toInt := Int64.le_iff_toInt_le
theorem nI_ti (n : Nat) (h : n < 2147483648) : (nI n).toInt = (n : Int) := nI_toInt h
theorem i_rng (x : Int32) : -2147483648 ≤ x.toInt ∧ x.toInt ≤ 2147483647 := ⟨Int32.le_toInt x, Int32.toInt_le x⟩
theorem i_l (x : Int32) : x.toInt64.toInt = x.toInt := Int32.toInt_toInt64 x
/-- sums that don't run over -/
theorem ti_add {a b : Int32} (h1 : -2147483648 ≤ a.toInt + b.toInt) (h2 : a.toInt + b.toInt ≤ 2147483647) : (a + b).toInt = a.toInt + b.toInt := by
  rw [Int32.toInt_add, Int.bmod_def]
  split <;> omega
theorem ti_sub {a b : Int32} (h1 : -2147483648 ≤ a.toInt - b.toInt) (h2 : a.toInt - b.toInt ≤ 2147483647) : (a - b).toInt = a.toInt - b.toInt := by
  rw [Int32.toInt_sub, Int.bmod_def]
  split <;> omega
theorem of_nn {x : Int32} (h : 0 ≤ x.toInt) : x = nI x.toInt.toNat := by
  apply Int32.toInt_inj.mp
  rw [nI_ti _ (by have := i_rng x; omega)]
  omega
/-- an Int32 of a range is that number -/
theorem of_rng {x : Int32} {n : Nat} (h0 : 0 ≤ x.toInt) (h1 : x.toInt < n) : ∃ k, k < n ∧ x = nI k := ⟨x.toInt.toNat, by omega, of_nn h0⟩
theorem ein_nI {k n : Nat} (h : k < n) (hn : n < 2147483648) : e_in (nI k) n = true := by
  unfold e_in
  have h1 : ¬ nI k < 0 := nI_pos (by omega)
  have h2 : (nI k).toNatClampNeg = k := nI_clamp (by omega)
  simp [h1, h2]; omega
theorem tn_nI {k : Nat} (h : k < 2147483648) : tn (nI k) = k := nI_clamp h
theorem g_t {α : Type} {b : Bool} {k : Option α} (h : b = true) : e_g b k = k := by rw [h]; rfl
theorem nlit (n : Nat) : (OfNat.ofNat n : Int32) = nI n := rfl
