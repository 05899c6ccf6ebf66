/-! ===== the cheapest way, set by set ===== -/
abbrev eP : Type := (Nat → Nat) × (Nat → Nat → Nat) × (Nat → Nat → Bool)
def cnd (P : eP) (s c j : Nat) : Bool := decide (c < j) && (s.testBit j && P.2.2 c j)
def vv (P : eP) (φ : Nat → Nat) (s c j : Nat) : Nat := P.2.1 c j + φ (rmv (rmv s c) j)
def mn (P : eP) (φ : Nat → Nat) (s c : Nat) : Nat → Nat
  | 0 => P.1 c + φ (rmv s c)
  | j + 1 => if cnd P s c j = true then min (mn P φ s c j) (vv P φ s c j) else mn P φ s c j
/-- with whom: itself, or the first of the cheapest -/
def wt (P : eP) (φ : Nat → Nat) (s c : Nat) : Nat → Nat
  | 0 => c
  | j + 1 => if cnd P s c j = true then (if mn P φ s c j ≤ vv P φ s c j then wt P φ s c j else j) else wt P φ s c j
def Cf (P : eP) (n : Nat) : Nat → Nat → Nat
  | 0, _ => 0
  | k + 1, s => if s = 0 then 0 else mn P (Cf P n k) s (lw s) n
def Cs (P : eP) (n s : Nat) : Nat := Cf P n s s
theorem mn_cg {P : eP} {φ ψ : Nat → Nat} {s c : Nat} (hs : s < 4096) (hb : s.testBit c = true) (h : ∀ t, t < s → φ t = ψ t) : ∀ j, mn P φ s c j = mn P ψ s c j := by
  intro j
  have h1 := rmv_less hs hb
  induction j with
  | zero => simp only [mn, h _ h1]
  | succ j ih =>
    have h2 : rmv (rmv s c) j ≤ rmv s c := Nat.and_le_left
    simp only [mn, ih, vv, h _ (show rmv (rmv s c) j < s by omega)]
theorem Cf_eq (P : eP) (n : Nat) : ∀ (k k' s : Nat), s < 4096 → s ≤ k → s ≤ k' → Cf P n k s = Cf P n k' s := by
  intro k
  induction k with
  | zero =>
    intro k' s _ h1 _
    have e : s = 0 := by omega
    subst e
    cases k' <;> simp [Cf]
  | succ k ih =>
    intro k' s hs h1 h2
    cases k' with
    | zero =>
      have e : s = 0 := by omega
      subst e
      simp [Cf]
    | succ k' =>
      simp only [Cf]
      by_cases e : s = 0
      · rw [if_pos e, if_pos e]
      · rw [if_neg e, if_neg e]
        exact mn_cg hs (lw_spec hs e).1 (fun t ht => ih k' t (by omega) (by omega) (by omega)) n
theorem Cs_0 (P : eP) (n : Nat) : Cs P n 0 = 0 := rfl
theorem Cs_s (P : eP) (n : Nat) {s : Nat} (hs : s < 4096) (h0 : s ≠ 0) : Cs P n s = mn P (Cs P n) s (lw s) n := by
  unfold Cs
  obtain ⟨k, rfl⟩ : ∃ k, s = k + 1 := ⟨s - 1, by omega⟩
  simp only [Cf]
  rw [if_neg h0]
  exact mn_cg hs (lw_spec hs h0).1 (fun t ht => Cf_eq P n k t t (by omega) (by omega) (Nat.le_refl _)) n
theorem mn_le (P : eP) (φ : Nat → Nat) (s c : Nat) : ∀ j, mn P φ s c j ≤ P.1 c + φ (rmv s c) := by
  intro j
  induction j with
  | zero => exact Nat.le_refl _
  | succ j ih =>
    simp only [mn]
    split
    · omega
    · exact ih
theorem Cs_le {P : eP} {n M : Nat} (hM : ∀ c, c < 12 → P.1 c ≤ M) : ∀ s, s < 4096 → Cs P n s ≤ M * s := by
  intro s
  induction s using Nat.strongRecOn with
  | _ s ih =>
    intro hs
    by_cases h0 : s = 0
    · subst h0; rw [Cs_0]; exact Nat.zero_le _
    · rw [Cs_s P n hs h0]
      have hl := lw_spec hs h0
      have hr := rmv_less hs hl.1
      have h1 := mn_le P (Cs P n) s (lw s) n
      have h2 := ih _ hr (by omega)
      have h3 := hM _ hl.2.1
      have h4 : M * (rmv s (lw s)) + M ≤ M * s := by
        rw [← Nat.mul_succ]
        exact Nat.mul_le_mul_left M (by omega)
      omega
/-- what 'with' is -/
theorem wt_spec (P : eP) (φ : Nat → Nat) (s c : Nat) : ∀ j, (wt P φ s c j = c ∧ mn P φ s c j = P.1 c + φ (rmv s c)) ∨ (c < wt P φ s c j ∧ wt P φ s c j < j ∧ cnd P s c (wt P φ s c j) = true ∧ vv P φ s c (wt P φ s c j) = mn P φ s c j ∧ mn P φ s c j < P.1 c + φ (rmv s c) ∧ ∀ o, o < wt P φ s c j → cnd P s c o = true → mn P φ s c j < vv P φ s c o) := by
  intro j
  induction j with
  | zero => exact Or.inl ⟨rfl, rfl⟩
  | succ j ih =>
    simp only [wt, mn]
    by_cases hc : cnd P s c j = true
    · rw [if_pos hc, if_pos hc]
      by_cases hl : mn P φ s c j ≤ vv P φ s c j
      · rw [if_pos hl, Nat.min_eq_left hl]
        rcases ih with ih | ⟨a1, a2, a3, a4, a5, a6⟩
        · exact Or.inl ih
        · exact Or.inr ⟨a1, by omega, a3, a4, a5, a6⟩
      · rw [if_neg hl, Nat.min_eq_right (by omega)]
        have hle := mn_le P φ s c j
        have hcj : c < j := by unfold cnd at hc; simp at hc; exact hc.1
        refine Or.inr ⟨hcj, by omega, hc, rfl, by omega, fun o ho co => ?_⟩
        -- an earlier one isn't cheaper than the least so far
        have key : ∀ k, ∀ o, o < k → cnd P s c o = true → mn P φ s c k ≤ vv P φ s c o := by
          intro k
          induction k with
          | zero => intro o ho; omega
          | succ k ihk =>
            intro o ho co
            simp only [mn]
            by_cases e : o = k
            · subst e; rw [if_pos co]; omega
            · have := ihk o (by omega) co
              split
              · omega
              · exact this
        have := key j o (by omega) co
        omega
    · rw [if_neg hc, if_neg hc]
      rcases ih with ih | ⟨a1, a2, a3, a4, a5, a6⟩
      · exact Or.inl ih
      · exact Or.inr ⟨a1, by omega, a3, a4, a5, a6⟩
/-! ===== only those with an opposite have a choice ===== -/
/-- a set of cores, and the set of its choosers -/
def PR (n : Nat) (ch : Nat → Bool) (s t : Nat) : Prop := s < 4096 ∧ t < 4096 ∧ (∀ i, n ≤ i → s.testBit i = false) ∧ (∀ i, i < n → ch i = true → t.testBit (cnt ch i) = s.testBit i) ∧ ∀ a, cnt ch n ≤ a → t.testBit a = false
/-- what the cores without a choice pay -/
def non (P : eP) (ch : Nat → Bool) (s : Nat) : Nat → Nat
  | 0 => 0
  | k + 1 => non P ch s k + (if s.testBit k = true ∧ ch k = false then P.1 k else 0)
theorem non_ch {P : eP} {ch : Nat → Bool} {s c : Nat} (hs : s < 4096) (hc : ch c = true) : ∀ k, non P ch (rmv s c) k = non P ch s k := by
  intro k
  induction k with
  | zero => rfl
  | succ k ih =>
    simp only [non, ih, rmv_tb hs]
    congr 1
    by_cases e : c = k
    · subst e
      rw [if_neg (fun q => by rw [hc] at q; exact absurd q.2 (by decide)), if_neg (fun q => by rw [hc] at q; exact absurd q.2 (by decide))]
    · simp [e]
theorem non_no {P : eP} {ch : Nat → Bool} {s c : Nat} (hs : s < 4096) (hb : s.testBit c = true) (hc : ch c = false) : ∀ k, non P ch s k = non P ch (rmv s c) k + (if c < k then P.1 c else 0) := by
  intro k
  induction k with
  | zero => rfl
  | succ k ih =>
    simp only [non, ih, rmv_tb hs]
    by_cases e : c = k
    · subst e
      rw [if_neg (Nat.lt_irrefl _), if_pos ⟨hb, hc⟩, if_neg (by simp), if_pos (by omega)]
    · have e1 : (s.testBit k && decide (c ≠ k)) = s.testBit k := by simp [e]
      have e2 : (if c < k + 1 then P.1 c else 0) = if c < k then P.1 c else 0 := by
        by_cases q : c < k
        · rw [if_pos q, if_pos (by omega)]
        · rw [if_neg q, if_neg (by omega)]
      rw [e1, e2]
      omega
theorem PR.rm {n : Nat} {ch : Nat → Bool} {s t c : Nat} (h : PR n ch s t) (hcn : c < n) (hc : ch c = true) : PR n ch (rmv s c) (rmv t (cnt ch c)) := by
  obtain ⟨h1, h2, h3, h4, h5⟩ := h
  refine ⟨rmv_lt h1, rmv_lt h2, fun i hi => by rw [rmv_tb h1, h3 i hi]; rfl, fun i hi ci => ?_, fun a ha => by rw [rmv_tb h2, h5 a ha]; rfl⟩
  rw [rmv_tb h1, rmv_tb h2, h4 i hi ci]
  congr 1
  by_cases e : c = i
  · subst e; simp
  · rw [decide_eq_true e]
    exact decide_eq_true (fun q => e (cnt_inj hc ci q))
theorem PR.no {n : Nat} {ch : Nat → Bool} {s t c : Nat} (h : PR n ch s t) (hc : ch c = false) : PR n ch (rmv s c) t := by
  obtain ⟨h1, h2, h3, h4, h5⟩ := h
  refine ⟨rmv_lt h1, h2, fun i hi => by rw [rmv_tb h1, h3 i hi]; rfl, fun i hi ci => ?_, h5⟩
  have e : c ≠ i := fun e => by rw [e, ci] at hc; exact absurd hc (by decide)
  rw [rmv_tb h1, h4 i hi ci, decide_eq_true e, Bool.and_true]
/-- the class's numbers, by choosers -/
def okQ (n : Nat) (ch : Nat → Bool) (P Q : eP) : Prop := (∀ i, i < n → ch i = true → Q.1 (cnt ch i) = P.1 i) ∧ (∀ i j, i < n → j < n → ch i = true → ch j = true → i < j → Q.2.1 (cnt ch i) (cnt ch j) = P.2.1 i j ∧ Q.2.2 (cnt ch i) (cnt ch j) = P.2.2 i j) ∧ (∀ i j, i < n → j < n → i < j → P.2.2 i j = true → ch i = true ∧ ch j = true)
theorem low_ch {n : Nat} {ch : Nat → Bool} {s t : Nat} (h : PR n ch s t) (h0 : s ≠ 0) (hc : ch (lw s) = true) : t ≠ 0 ∧ lw t = cnt ch (lw s) := by
  obtain ⟨h1, h2, h3, h4, h5⟩ := h
  have hl := lw_spec h1 h0
  have hn : lw s < n := by
    by_cases e : lw s < n
    · exact e
    · have := h3 (lw s) (by omega); rw [hl.1] at this; exact absurd this (by decide)
  have hb : t.testBit (cnt ch (lw s)) = true := by rw [h4 _ hn hc]; exact hl.1
  refine ⟨fun e => by rw [e, Nat.zero_testBit] at hb; exact absurd hb (by decide), lw_is h2 hb (fun a ha => ?_)⟩
  obtain ⟨i, i1, i2, i3⟩ := cnt_at ch ha
  rw [← i3, h4 i (by omega) i2]
  exact hl.2.2 i i1
theorem mn_PR {n : Nat} {ch : Nat → Bool} {P Q : eP} (hQ : okQ n ch P Q) {s t c : Nat} (h : PR n ch s t) (hb : s.testBit c = true) (hcn : c < n) (hc : ch c = true) (ih : ∀ s' t', s' < s → PR n ch s' t' → Cs P n s' = non P ch s' n + Cs Q (cnt ch n) t') : ∀ j, j ≤ n → mn P (Cs P n) s c j = non P ch s n + mn Q (Cs Q (cnt ch n)) t (cnt ch c) (cnt ch j) := by
  intro j
  have h1 := h.1
  have hless := rmv_less h1 hb
  have hrm := h.rm hcn hc
  induction j with
  | zero =>
    intro _
    have e : cnt ch 0 = 0 := rfl
    rw [e]
    simp only [mn]
    rw [ih _ _ hless hrm, non_ch h1 hc, hQ.1 c hcn hc]
    omega
  | succ j ihj =>
    intro hj
    have ihj := ihj (by omega)
    simp only [mn]
    cases hcj : ch j with
    | false =>
      have e : cnt ch (j + 1) = cnt ch j := by simp only [cnt, hcj, Bool.toNat_false, Nat.add_zero]
      have nc : cnd P s c j = false := by
        unfold cnd
        by_cases q : c < j
        · have : P.2.2 c j = false := by
            cases z : P.2.2 c j with
            | false => rfl
            | true => have := (hQ.2.2 c j hcn (by omega) q z).2; rw [hcj] at this; exact absurd this (by decide)
          rw [this]; simp
        · simp [q]
      rw [nc, e, if_neg (by decide)]
      exact ihj
    | true =>
      have e : cnt ch (j + 1) = cnt ch j + 1 := by simp only [cnt, hcj, Bool.toNat_true]
      rw [e]
      simp only [mn]
      have ec : cnd Q t (cnt ch c) (cnt ch j) = cnd P s c j := by
        unfold cnd
        rw [h.2.2.2.1 j (by omega) hcj]
        by_cases q : c < j
        · rw [(hQ.2.1 c j hcn (by omega) hc hcj q).2, decide_eq_true q, decide_eq_true (cnt_lt q hc)]
        · rw [decide_eq_false q]
          have : ¬ cnt ch c < cnt ch j := by have := cnt_mono ch (show j ≤ c by omega); omega
          rw [decide_eq_false this]
          rfl
      rw [ec]
      by_cases hq : cnd P s c j = true
      · rw [if_pos hq, if_pos hq]
        have hcj' : c < j := by unfold cnd at hq; simp at hq; exact hq.1
        have hr2 := hrm.rm (c := j) (by omega) hcj
        have l2 : rmv (rmv s c) j ≤ rmv s c := Nat.and_le_left
        have hv : vv P (Cs P n) s c j = non P ch s n + vv Q (Cs Q (cnt ch n)) t (cnt ch c) (cnt ch j) := by
          unfold vv
          rw [ih _ _ (by omega) hr2, non_ch (rmv_lt h1) hcj, non_ch h1 hc, (hQ.2.1 c j hcn (by omega) hc hcj hcj').1]
          omega
        rw [ihj, hv]
        omega
      · rw [if_neg hq, if_neg hq]
        exact ihj
theorem mn_no {n : Nat} {ch : Nat → Bool} {P Q : eP} (hQ : okQ n ch P Q) {φ : Nat → Nat} {s c : Nat} (hcn : c < n) (hc : ch c = false) : ∀ j, j ≤ n → mn P φ s c j = P.1 c + φ (rmv s c) ∧ wt P φ s c j = c := by
  intro j
  induction j with
  | zero => intro _; exact ⟨rfl, rfl⟩
  | succ j ih =>
    intro hj
    have nc : cnd P s c j = false := by
      unfold cnd
      by_cases q : c < j
      · have : P.2.2 c j = false := by
          cases z : P.2.2 c j with
          | false => rfl
          | true => have := (hQ.2.2 c j hcn (by omega) q z).1; rw [hc] at this; exact absurd this (by decide)
        rw [this]; simp
      · simp [q]
    simp only [mn, wt, nc]
    rw [if_neg (by decide), if_neg (by decide)]
    exact ih (by omega)
theorem Cs_PR {n : Nat} (hn : n ≤ 12) {ch : Nat → Bool} {P Q : eP} (hQ : okQ n ch P Q) : ∀ s t, PR n ch s t → Cs P n s = non P ch s n + Cs Q (cnt ch n) t := by
  intro s
  induction s using Nat.strongRecOn with
  | _ s ih =>
    intro t h
    obtain ⟨h1, h2, h3, h4, h5⟩ := id h
    by_cases h0 : s = 0
    · subst h0
      have t0 : t = 0 := by
        apply Nat.eq_of_testBit_eq
        intro a
        rw [Nat.zero_testBit]
        by_cases ha : a < cnt ch n
        · obtain ⟨i, i1, i2, i3⟩ := cnt_at ch ha
          rw [← i3, h4 i i1 i2, Nat.zero_testBit]
        · exact h5 a (by omega)
      subst t0
      have : ∀ k, non P ch 0 k = 0 := by
        intro k
        induction k with
        | zero => rfl
        | succ k ihk => simp only [non, ihk, Nat.zero_testBit]; simp
      rw [this, Cs_0, Cs_0]
    · have hl := lw_spec h1 h0
      have hcn : lw s < n := by
        by_cases e : lw s < n
        · exact e
        · have := h3 (lw s) (by omega); rw [hl.1] at this; exact absurd this (by decide)
      rw [Cs_s P n h1 h0]
      cases hc : ch (lw s) with
      | false =>
        rw [(mn_no hQ hcn hc n (Nat.le_refl _)).1, ih _ (rmv_less h1 hl.1) t (h.no hc), non_no h1 hl.1 hc n, if_pos hcn]
        omega
      | true =>
        have lc := low_ch h h0 hc
        rw [mn_PR hQ h hl.1 hcn hc (fun s' t' hs' hp => ih s' hs' t' hp) n (Nat.le_refl _), Cs_s Q (cnt ch n) h2 lc.1, lc.2]
