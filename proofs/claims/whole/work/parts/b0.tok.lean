/-! ===== reading the tape: scans and tokens ===== -/
def isE (P : Nat → Bool) (n p e : Nat) : Prop := p ≤ e ∧ e ≤ n ∧ (∀ i, p ≤ i → i < e → P i = true) ∧ (e = n ∨ P e = false)
theorem isE_eq {P : Nat → Bool} {n p a b : Nat} (h : isE P n p a) (k : isE P n p b) : a = b := by
  obtain ⟨h1, h2, h3, h4⟩ := h
  obtain ⟨k1, k2, k3, k4⟩ := k
  by_cases c : a < b
  · rcases h4 with e | e
    · omega
    · have := k3 a h1 c; rw [e] at this; exact absurd this (by decide)
  · by_cases c2 : b < a
    · rcases k4 with e | e
      · omega
      · have := h3 b k1 c2; rw [e] at this; exact absurd this (by decide)
    · omega
def blk (A : Nat → Int32) (i : Nat) : Bool := decide (A i = 32)
def sml (A : Nat → Int32) (i : Nat) : Bool := decide (97 ≤ (A i).toInt ∧ (A i).toInt ≤ 122)
def dgt (A : Nat → Int32) (i : Nat) : Bool := decide (48 ≤ (A i).toInt ∧ (A i).toInt ≤ 57)
theorem isE_cg {P Q : Nat → Bool} {n p e : Nat} (h : isE P n p e) (hpq : ∀ i, i < n → P i = Q i) : isE Q n p e := by
  obtain ⟨h1, h2, h3, h4⟩ := h
  refine ⟨h1, h2, fun i a b => by rw [← hpq i (by omega)]; exact h3 i a b, ?_⟩
  rcases h4 with q | q
  · exact Or.inl q
  · by_cases c : e = n
    · exact Or.inl c
    · exact Or.inr (by rw [← hpq e (by omega)]; exact q)
theorem small_eq (c : Int32) : fX12_isSmall c = some (decide (97 ≤ c.toInt ∧ c.toInt ≤ 122)) := by
  unfold fX12_isSmall
  simp only [lt_i, show (97 : Int32).toInt = 97 from rfl, show (122 : Int32).toInt = 122 from rfl]
  repeat' split
  all_goals (apply some_d; simp; omega)
theorem digit_eq (c : Int32) : fX12_isDigit c = some (decide (48 ≤ c.toInt ∧ c.toInt ≤ 57)) := by
  unfold fX12_isDigit
  simp only [lt_i, show (48 : Int32).toInt = 48 from rfl, show (57 : Int32).toInt = 57 from rfl]
  repeat' split
  all_goals (apply some_d; simp; omega)
theorem see_in {n k : Nat} {A : Nat → Int32} (hn : n ≤ 300) (hk : k < n) : fX12_see (nI n) A (nI k) = some (A k) := by
  unfold fX12_see
  rw [if_neg (nle hk (by omega)), g_t (ein_nI (by omega) (by omega)), tn_nI (by omega)]
theorem see_out {n k : Nat} {A : Nat → Int32} (hn : n ≤ 300) (hk : n ≤ k) (hk2 : k < 2147483648) : fX12_see (nI n) A (nI k) = some (-1) := by
  unfold fX12_see
  rw [if_pos ((nI_le_iff (by omega) hk2).mpr hk)]
theorem byteAt_out {n : Nat} {A : Nat → Int32} (hn : n ≤ 300) : fX9_byteAt (nI n) A (nI n) = some 0 := by
  unfold fX9_byteAt
  rw [if_neg (nI_pos (by omega)), if_pos (yle (by omega))]
/-- a scan: as long as the byte is such a one -/
theorem scanC {P : Nat → Bool} {n p : Nat} (hp : p ≤ n) (hn : n ≤ 300) {b : Int32 → Option (Int32 ⊕ Int32)} (h1 : ∀ k, k < n → P k = true → b (nI k) = some (.inl (nI k + 1))) (h2 : ∀ k, k ≤ n → (k = n ∨ P k = false) → b (nI k) = some (.inr (nI k))) : OK (e_loop b e_fuel (nI p)) (fun z => ∃ e, isE P n p e ∧ z = nI e) := by
  refine OK.loopm (fun m v => ∃ k, v = nI k ∧ p ≤ k ∧ k + m = n ∧ ∀ i, p ≤ i → i < k → P i = true) (n - p) (by omega) ⟨p, rfl, Nat.le_refl _, by omega, fun i a b => by omega⟩ ?_
  rintro m v hm ⟨k, rfl, k1, k2, k3⟩
  by_cases c : k < n ∧ P k = true
  · refine ⟨_, h1 k c.1 c.2, Or.inl ⟨_, m - 1, rfl, by omega, k + 1, nI_s1 k, by omega, by omega, fun i a b => ?_⟩⟩
    by_cases e : i = k
    · rw [e]; exact c.2
    · exact k3 i a (by omega)
  · have c2 : k = n ∨ P k = false := by
      by_cases e : k = n
      · exact Or.inl e
      · right
        cases q : P k with
        | false => rfl
        | true => exact absurd ⟨by omega, q⟩ c
    exact ⟨_, h2 k (by omega) c2, Or.inr ⟨_, rfl, k, ⟨k1, by omega, k3, c2⟩, rfl⟩⟩
theorem nextByte_ok {n p : Nat} {A : Nat → Int32} (hn : n ≤ 300) (hp : p ≤ n) : OK (fX5_nextByte (nI n) (nI p) A) (fun z => ∃ q, isE (blk A) n p q ∧ z.2 = nI q ∧ z.1 = if q < n then A q else 0) := by
  unfold fX5_nextByte
  refine OK.bind (scanC (P := blk A) hp hn ?_ ?_) ?_
  · intro k hk hb
    rw [if_neg (nle hk (by omega)), byteAt_eq hn hk, Option.bind_some, if_pos (of_decide_eq_true hb)]
  · intro k hk hb
    by_cases e : k = n
    · rw [e, if_pos (yle (by omega))]
    · have hk2 : k < n := by omega
      have hb : blk A k = false := by rcases hb with q | q; exact absurd q e; exact q
      rw [if_neg (nle hk2 (by omega)), byteAt_eq hn hk2, Option.bind_some, if_neg (of_decide_eq_false hb)]
  · rintro _ ⟨q, hq, rfl⟩
    by_cases e : q < n
    · exact OK.eq (byteAt_eq hn e) (OK.ret ⟨q, hq, rfl, by rw [if_pos e]⟩)
    · have : q = n := by have := hq.2.1; omega
      subst this
      exact OK.eq (byteAt_out hn) (OK.ret ⟨q, hq, rfl, by rw [if_neg e]⟩)
theorem readWord_ok {n p : Nat} {A : Nat → Int32} (hn : n ≤ 300) (hp : p ≤ n) (bg : Int32) : OK (fX5_readWord (nI n) (nI p) bg A) (fun z => ∃ q e, isE (blk A) n p q ∧ isE (sml A) n q e ∧ z = (nI e, nI q)) := by
  unfold fX5_readWord
  refine OK.bind (nextByte_ok hn hp) ?_
  rintro ⟨z1, z2⟩ ⟨q, hq, rfl, _⟩
  simp only
  refine OK.bind (scanC (P := sml A) hq.2.1 hn ?_ ?_) (fun z hz => ?_)
  · intro k hk hb
    have hb := of_decide_eq_true hb
    rw [if_neg (nle hk (by omega)), byteAt_eq hn hk, Option.bind_some, if_neg (by rw [lt_i]; show ¬ _ < (97 : Int); omega), Option.bind_some, if_neg (by rw [lt_i]; show ¬ (122 : Int) < _; omega)]
  · intro k hk hb
    by_cases e : k = n
    · rw [e, if_pos (yle (by omega))]
    · have hk2 : k < n := by omega
      have hb : sml A k = false := by rcases hb with q | q; exact absurd q e; exact q
      have hb := of_decide_eq_false hb
      rw [if_neg (nle hk2 (by omega)), byteAt_eq hn hk2, Option.bind_some]
      by_cases c : (A k).toInt < 97
      · rw [if_pos (by rw [lt_i]; exact c)]
      · rw [if_neg (by rw [lt_i]; exact c), Option.bind_some, if_pos (by rw [lt_i]; show (122 : Int) < _; omega)]
  · obtain ⟨e, he, rfl⟩ := hz
    exact OK.ret ⟨q, e, hq, he, rfl⟩
/-- digits' value -/
def vI (A : Nat → Int32) (b : Nat) : Nat → Int32
  | 0 => 0
  | k + 1 => ((10 : Int32) * vI A b k + A (b + k)) - 48
theorem vI_b {A : Nat → Int32} {b : Nat} {k : Nat} (hk : k ≤ 2) (hd : ∀ i, b ≤ i → i < b + k → dgt A i = true) : 0 ≤ (vI A b k).toInt ∧ (vI A b k).toInt ≤ 10 ^ k - 1 := by
  have step : ∀ {v c : Int32} {m : Int}, 0 ≤ v.toInt → v.toInt ≤ m → m ≤ 100 → 48 ≤ c.toInt → c.toInt ≤ 57 → (((10 : Int32) * v + c) - 48).toInt = 10 * v.toInt + c.toInt - 48 := by
    intro v c m h1 h2 h3 h4 h5
    have b1 : Bn v v.toInt 100 := ⟨rfl, by omega⟩
    have b2 : Bn c c.toInt 57 := ⟨rfl, by omega⟩
    have b3 : Bn (10 : Int32) 10 10 := ⟨rfl, by omega⟩
    have b4 : Bn (48 : Int32) 48 48 := ⟨rfl, by omega⟩
    exact (((b3.mul b1 (by omega)).add b2 (by omega)).sub b4 (by omega)).e
  rcases (show k = 0 ∨ k = 1 ∨ k = 2 by omega) with rfl | rfl | rfl
  · simp [vI]
  · have d0 := of_decide_eq_true (hd b (by omega) (by omega))
    have s0 := step (v := 0) (c := A b) (m := 0) (by decide) (by decide) (by omega) d0.1 d0.2
    simp only [vI, Nat.add_zero]
    rw [s0, c0]
    omega
  · have d0 := of_decide_eq_true (hd b (by omega) (by omega))
    have d1 := of_decide_eq_true (hd (b + 1) (by omega) (by omega))
    have s0 := step (v := 0) (c := A b) (m := 0) (by decide) (by decide) (by omega) d0.1 d0.2
    simp only [vI, Nat.add_zero]
    rw [c0] at s0
    have s1 := step (v := ((10 : Int32) * 0 + A b) - 48) (c := A (b + 1)) (m := 9) (by rw [s0]; omega) (by rw [s0]; omega) (by omega) d1.1 d1.2
    rw [s1, s0]
    omega
/-- a token: where it begins, its end, its kind, its number -/
def tokN (A : Nat → Int32) (n q b e : Nat) : Prop := ((b = q ∧ dgt A q = true) ∨ (b = q + 1 ∧ A q = 45 ∧ q + 1 < n ∧ dgt A (q + 1) = true)) ∧ isE (dgt A) n b e
def tokR (A : Nat → Int32) (n p : Nat) (at' fr pt nb : Int32) : Prop :=
  ∃ q, isE (blk A) n p q ∧ fr = nI q ∧ ((q = n ∧ pt = 0) ∨ (q < n ∧ sml A q = true ∧ pt = 1 ∧ ∃ e, isE (sml A) n q e ∧ at' = nI e) ∨ (q < n ∧ pt = 2 ∧ ∃ b e, tokN A n q b e ∧ at' = nI e ∧ nb = if e - b ≤ 2 then (if b = q then vI A b (e - b) else 0 - vI A b (e - b)) else 10000) ∨ (q < n ∧ pt = 3 ∧ at' = nI (q + 1) ∧ sml A q = false ∧ ¬ ∃ b e, tokN A n q b e))
