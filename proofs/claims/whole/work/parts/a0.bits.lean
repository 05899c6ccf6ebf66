/-! ===== sets of cores: bits ===== -/
theorem bv_nI (s : Nat) : (nI s).toBitVec = BitVec.ofNat 32 s := rfl
theorem sh31_tab : ∀ c : Fin 13, (nI c.val &&& 31) = nI c.val ∧ ((1 : Int32) <<< (nI c.val &&& 31)) = nI (2 ^ c.val) := by decide
theorem sr_tab : ∀ c : Fin 13, ((nI c.val &&& 31).toBitVec.smod 32).toNat = c.val := by decide
theorem shl_eq {c : Nat} (hc : c < 13) : ((1 : Int32) <<< (nI c &&& 31)) = nI (2 ^ c) := (sh31_tab ⟨c, hc⟩).2
theorem tb_hi {s i : Nat} (hs : s < 4096) (hi : 12 ≤ i) : s.testBit i = false := by
  apply Nat.testBit_lt_two_pow
  exact Nat.lt_of_lt_of_le hs (show (4096 : Nat) ≤ 2 ^ i by rw [show (4096 : Nat) = 2 ^ 12 from rfl]; exact Nat.pow_le_pow_right (by omega) hi)
theorem getb (s i : Nat) (hi : i < 32) : (BitVec.ofNat 32 s).getLsbD i = s.testBit i := by
  rw [BitVec.getLsbD_ofNat]
  simp [hi]
theorem m1b (i : Nat) : (1#32).getLsbD i = decide (i = 0) := by
  rw [BitVec.getLsbD_ofNat, show (1 : Nat) = 2 ^ 1 - 1 from rfl, Nat.testBit_two_pow_sub_one]
  by_cases h : i = 0
  · subst h; rfl
  · rw [decide_eq_false h, decide_eq_false (show ¬ i < 1 by omega)]; simp
/-- a bit of a set -/
theorem bit_eq {s c : Nat} (hs : s < 4096) (hc : c < 12) : ((nI s >>> (nI c &&& 31)) &&& 1) = nI (s.testBit c).toNat := by
  have e1 : (nI s >>> (nI c &&& 31)).toBitVec = (BitVec.ofNat 32 s).sshiftRight c := by
    rw [Int32.toBitVec_shiftRight]
    show (BitVec.ofNat 32 s).sshiftRight ((nI c &&& 31).toBitVec.smod 32).toNat = _
    rw [sr_tab ⟨c, by omega⟩]
  apply Int32.toBitVec_inj.mp
  rw [Int32.toBitVec_and, e1, bv_nI]
  apply BitVec.eq_of_getLsbD_eq
  intro i hi
  have e2 : (1 : Int32).toBitVec = 1#32 := rfl
  rw [e2, BitVec.getLsbD_and, m1b, getb _ i hi]
  by_cases h : i = 0
  · subst h
    rw [BitVec.getLsbD_sshiftRight, if_pos (by omega), getb s _ (by omega)]
    simp
    cases s.testBit c <;> rfl
  · rw [decide_eq_false h, Bool.and_false]
    cases s.testBit c
    · simp
    · simp only [Bool.toNat_true]
      rw [show (1 : Nat) = 2 ^ 1 - 1 from rfl, Nat.testBit_two_pow_sub_one]
      exact (decide_eq_false (by omega)).symm
theorem bit_1 {s c : Nat} (hs : s < 4096) (hc : c < 12) : ((nI s >>> (nI c &&& 31)) &&& 1) = 1 ↔ s.testBit c = true := by
  rw [bit_eq hs hc]
  cases s.testBit c <;> decide
theorem bit_0 {s c : Nat} (hs : s < 4096) (hc : c < 12) : ((nI s >>> (nI c &&& 31)) &&& 1) = 0 ↔ s.testBit c = false := by
  rw [bit_eq hs hc]
  cases s.testBit c <;> decide
/-- a set without one -/
def rmv (s c : Nat) : Nat := s &&& (4095 ^^^ 2 ^ c)
theorem tb_4095 {i : Nat} : (4095 : Nat).testBit i = decide (i < 12) := by
  rw [show (4095 : Nat) = 2 ^ 12 - 1 from rfl, Nat.testBit_two_pow_sub_one]
theorem tb_pow (c i : Nat) : (2 ^ c).testBit i = decide (c = i) := Nat.testBit_two_pow
theorem rmv_tb {s c i : Nat} (hs : s < 4096) : (rmv s c).testBit i = (s.testBit i && decide (c ≠ i)) := by
  unfold rmv
  rw [Nat.testBit_and, Nat.testBit_xor, tb_4095, tb_pow]
  by_cases h : i < 12
  · rw [decide_eq_true h]
    by_cases e : c = i <;> simp [e]
  · rw [tb_hi hs (by omega)]; simp
theorem rmv_lt {s c : Nat} (hs : s < 4096) : rmv s c < 4096 := by
  unfold rmv
  exact Nat.lt_of_le_of_lt Nat.and_le_left hs
theorem rmv_less {s c : Nat} (hs : s < 4096) (hb : s.testBit c = true) : rmv s c < s := by
  have h1 : rmv s c ≤ s := Nat.and_le_left
  have h2 : rmv s c ≠ s := by
    intro e
    have := rmv_tb (c := c) (i := c) hs
    rw [e, hb] at this
    simp at this
  omega
theorem rmv_eq {s c : Nat} (hs : s < 4096) (hc : c < 12) : (nI s &&& (((1 : Int32) <<< (nI c &&& 31)) ^^^ (-1))) = nI (rmv s c) := by
  rw [shl_eq (by omega)]
  apply Int32.toBitVec_inj.mp
  rw [Int32.toBitVec_and, Int32.toBitVec_xor, bv_nI, bv_nI, bv_nI]
  apply BitVec.eq_of_getLsbD_eq
  intro i hi
  have e1 : (-1 : Int32).toBitVec = BitVec.allOnes 32 := by decide
  rw [e1, BitVec.getLsbD_and, BitVec.getLsbD_xor, getb _ i hi, getb _ i hi, getb _ i hi, BitVec.getLsbD_allOnes, rmv_tb hs, tb_pow]
  simp only [hi, decide_true, Bool.xor_true]
  by_cases e : c = i <;> simp [e]
theorem rmv2_eq {s c o : Nat} (hs : s < 4096) (hc : c < 12) (ho : o < 12) : (nI s &&& ((((1 : Int32) <<< (nI c &&& 31)) ||| ((1 : Int32) <<< (nI o &&& 31))) ^^^ (-1))) = nI (rmv (rmv s c) o) := by
  rw [shl_eq (by omega), shl_eq (by omega)]
  apply Int32.toBitVec_inj.mp
  rw [Int32.toBitVec_and, Int32.toBitVec_xor, Int32.toBitVec_or, bv_nI, bv_nI, bv_nI, bv_nI]
  apply BitVec.eq_of_getLsbD_eq
  intro i hi
  have e1 : (-1 : Int32).toBitVec = BitVec.allOnes 32 := by decide
  rw [e1, BitVec.getLsbD_and, BitVec.getLsbD_xor, BitVec.getLsbD_or, getb _ i hi, getb _ i hi, getb _ i hi, getb _ i hi, BitVec.getLsbD_allOnes, rmv_tb (rmv_lt hs), rmv_tb hs, tb_pow, tb_pow]
  simp only [hi, decide_true, Bool.xor_true]
  by_cases e : c = i <;> by_cases e2 : o = i <;> simp [e, e2]
theorem rmvR_eq {s c o : Nat} (hs : s < 4096) (hc : c < 12) (ho : o < 12) : (nI s &&& ((((1 : Int32) <<< (nI c &&& 31)) ^^^ (-1)) &&& (((1 : Int32) <<< (nI o &&& 31)) ^^^ (-1)))) = nI (rmv (rmv s c) o) := by
  rw [← rmv_eq (rmv_lt hs) ho, ← rmv_eq hs hc, Int32.and_assoc]
theorem full_tb {n i : Nat} : (2 ^ n - 1).testBit i = decide (i < n) := Nat.testBit_two_pow_sub_one _ _
/-- the lowest of a set -/
def low (s : Nat) : Nat → Nat
  | 0 => 0
  | k + 1 => if s.testBit (low s k) = true then low s k else k + 1
theorem low_spec (s : Nat) : ∀ k, (∀ i, i < low s k → s.testBit i = false) ∧ (low s k ≤ k) ∧ (s.testBit (low s k) = true ∨ low s k = k) := by
  intro k
  induction k with
  | zero => exact ⟨fun i hi => by simp [low] at hi, Nat.le_refl _, Or.inr rfl⟩
  | succ k ih =>
    simp only [low]
    by_cases e : s.testBit (low s k) = true
    · rw [if_pos e]; exact ⟨ih.1, by omega, Or.inl e⟩
    · rw [if_neg e]
      have e2 : low s k = k := by rcases ih.2.2 with q | q; exact absurd q e; exact q
      rw [e2] at e ih
      refine ⟨fun i hi => ?_, Nat.le_refl _, Or.inr rfl⟩
      by_cases q : i = k
      · rw [q]; simpa using e
      · exact ih.1 i (by omega)
abbrev lw (s : Nat) : Nat := low s 12
theorem lw_spec {s : Nat} (hs : s < 4096) (h0 : s ≠ 0) : s.testBit (lw s) = true ∧ lw s < 12 ∧ ∀ i, i < lw s → s.testBit i = false := by
  have h := low_spec s 12
  by_cases hb : s.testBit (lw s) = true
  · refine ⟨hb, ?_, h.1⟩
    by_cases e : lw s < 12
    · exact e
    · rw [tb_hi hs (by omega)] at hb; exact absurd hb (by decide)
  · exfalso
    have e : lw s = 12 := by rcases h.2.2 with q | q; exact absurd q hb; exact q
    apply h0
    apply Nat.eq_of_testBit_eq
    intro i
    rw [Nat.zero_testBit]
    by_cases hi : i < 12
    · exact h.1 i (by have e2 : low s 12 = 12 := e; rw [e2]; exact hi)
    · exact tb_hi hs (by omega)
theorem lw_is {s c : Nat} (hs : s < 4096) (hb : s.testBit c = true) (hl : ∀ i, i < c → s.testBit i = false) : lw s = c := by
  have h0 : s ≠ 0 := by intro e; rw [e, Nat.zero_testBit] at hb; exact absurd hb (by decide)
  have h := lw_spec hs h0
  by_cases e1 : lw s < c
  · have := hl _ e1; rw [h.1] at this; exact absurd this (by decide)
  · by_cases e2 : c < lw s
    · have := h.2.2 c e2; rw [hb] at this; exact absurd this (by decide)
    · omega
