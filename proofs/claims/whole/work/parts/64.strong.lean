/-! ===== the greatest force, and on which core ===== -/
theorem pullI_b {r : Int32} {m a b : Int} (hm : m.natAbs ≤ 400) (ha : a.natAbs ≤ 8) (hb : b.natAbs ≤ 8) (hne : ¬ (a = 0 ∧ b = 0)) : Bn (pullI r m a b) (pullZ r m a b) 400000 := by
  have h := pullZ_le (r := r) hm ha hb hne
  exact ⟨by unfold pullI; rw [Int32.toInt_ofInt]; exact bmod32 (by omega), h⟩
/-- settings that keep the forces small -/
def okT (told : Nat → Int32) : Prop := ∀ w, w ≤ 1 → (told w).toInt.natAbs ≤ 100000000
theorem frc_b {f told : Nat → Int32} {L : List (Nat × Nat)} (h : okL f L) (ht : okT told) {i w : Nat} (hi : i < L.length) (hw : w ≤ 1) : ∀ j, j ≤ L.length → ∃ z, Bn (frc f L told w i j) z (2000000000 + 400000 * j) := by
  have hn := h.1
  intro j
  induction j with
  | zero =>
    intro _
    have b1 : Bn (told w) (told w).toInt 100000000 := ⟨rfl, ht w hw⟩
    exact ⟨_, (b1.mul (okL_kv h hi hw) (by decide)).le (by omega)⟩
  | succ j ih =>
    intro hj
    obtain ⟨z, hz⟩ := ih (by omega)
    simp only [frc]
    by_cases e : j = i
    · rw [if_pos e]; exact ⟨z, hz.le (by omega)⟩
    · rw [if_neg e]
      have hj2 : j < L.length := by omega
      have hm := ((okL_kv h hi hw).mul (okL_kv h hj2 hw) (by decide)).b
      exact ⟨_, (hz.add (pullI_b hm (okL_sub h hi hj2 w).b (okL_sub h hi hj2 (1 - w)).b (okL_ne h hi hj2 hw (Ne.symm e))) (by omega)).le (by omega)⟩
def fA (f : Nat → Int32) (L : List (Nat × Nat)) (told : Nat → Int32) (i : Nat) : Nat := (frcA f L told i).toInt.natAbs
theorem fA_le {f told : Nat → Int32} {L : List (Nat × Nat)} (h : okL f L) (ht : okT told) {i : Nat} (hi : i < L.length) : fA f L told i ≤ 2010000000 := by
  have hn := h.1
  unfold fA frcA
  split
  · obtain ⟨z, hz⟩ := frc_b h ht hi (show 0 ≤ 1 by omega) L.length (Nat.le_refl _)
    have := hz.b
    rw [hz.e]; omega
  · split
    · obtain ⟨z, hz⟩ := frc_b h ht hi (show 1 ≤ 1 by omega) L.length (Nat.le_refl _)
      have := hz.b
      rw [hz.e]; omega
    · exact Nat.zero_le _
theorem fabs_eq {f told : Nat → Int32} {L : List (Nat × Nat)} (h : okL f L) (ht : okT told) {i : Nat} (hi : i < L.length) : fJ9_abs_0f7a4 (frcA f L told i) = some (nI (fA f L told i)) := by
  have hb := fA_le h ht hi
  obtain ⟨s, h1, h2⟩ := abs_eq (x := frcA f L told i) (z := (frcA f L told i).toInt) (n := 2010000000) ⟨rfl, hb⟩ (by decide)
  rw [h1]
  congr 1
  apply Int32.toInt_inj.mp
  rw [h2.e, nI_ti _ (by omega)]
  rfl
theorem max_nI {a b : Nat} (ha : a < 2147483648) (hb : b < 2147483648) : fJ9_max_7cf53 (nI a) (nI b) = some (nI (max a b)) := by
  unfold fJ9_max_7cf53
  by_cases q : a < b
  · rw [if_pos (by rw [lt_i, nI_ti a ha, nI_ti b hb]; omega), Nat.max_eq_right (by omega)]
  · rw [if_neg (by rw [lt_i, nI_ti a ha, nI_ti b hb]; omega), Nat.max_eq_left (by omega)]
/-- the greatest of F 0 .. F (k - 1), or 0 -/
def gMx (F : Nat → Nat) : Nat → Nat
  | 0 => 0
  | k + 1 => max (gMx F k) (F k)
theorem gMx_ge (F : Nat → Nat) : ∀ {k j : Nat}, j < k → F j ≤ gMx F k := by
  intro k
  induction k with
  | zero => intro j hj; omega
  | succ k ih =>
    intro j hj
    simp only [gMx]
    by_cases e : j = k
    · subst e; omega
    · have := ih (show j < k by omega); omega
theorem gMx_le (F : Nat → Nat) {M : Nat} : ∀ {k : Nat}, (∀ j, j < k → F j ≤ M) → gMx F k ≤ M := by
  intro k
  induction k with
  | zero => intro _; exact Nat.zero_le _
  | succ k ih =>
    intro h
    simp only [gMx]
    have h1 := ih (fun j hj => h j (by omega))
    have h2 := h k (by omega)
    omega
theorem gMx_at (F : Nat → Nat) : ∀ {k : Nat}, 0 < k → ∃ j, j < k ∧ F j = gMx F k := by
  intro k
  induction k with
  | zero => intro h; omega
  | succ k ih =>
    intro _
    simp only [gMx]
    by_cases q : gMx F k ≤ F k
    · exact ⟨k, by omega, by omega⟩
    · by_cases e : k = 0
      · subst e; simp [gMx] at q
      · obtain ⟨j, hj, h⟩ := ih (by omega)
        exact ⟨j, by omega, by omega⟩
theorem gForce_eq {f pl ve told : Nat → Int32} {L : List (Nat × Nat)} (h : okL f L) (ht : okT told) (hc : celC f L pl ve) : fX0_greatestForce (nI L.length) pl ve told = some (nI (gMx (fA f L told) L.length)) := by
  have hn := h.1
  apply OK.val
  unfold fX0_greatestForce
  refine OK.bind (OK.loop (Q := fun y => y = nI (gMx (fA f L told) L.length)) (fun k v => v.1 = nI (gMx (fA f L told) k) ∧ v.2 = nI k) L.length (by omega) ⟨rfl, rfl⟩ ?_ ?_) (fun y hy => OK.ret hy)
  · rintro k ⟨a, b⟩ hk ⟨rfl, rfl⟩
    simp only
    have m1 : gMx (fA f L told) k ≤ 2010000000 := gMx_le _ (fun j hj => fA_le h ht (by omega))
    have m2 := fA_le h ht hk
    exact OK.f (nle hk (by omega)) (OK.eq (cforce_eq h hc hk) (OK.eq (fabs_eq h ht hk) (OK.eq (max_nI (by omega) (by omega)) (OK.inl ⟨rfl, nI_s1 k⟩))))
  · rintro ⟨a, b⟩ ⟨rfl, rfl⟩
    exact OK.t (yle (by omega)) (OK.inr rfl)
/-- the first of the greatest -/
def firstMx (F : Nat → Nat) (n : Nat) (q : Int32) : Prop := (n = 0 ∧ q = -1) ∨ ∃ m, m < n ∧ q = nI m ∧ (∀ j, j < n → F j ≤ F m) ∧ ∀ j, j < m → F j < F m
theorem firstMx_eq {F : Nat → Nat} {n : Nat} {p q : Int32} (h : firstMx F n p) (g : firstMx F n q) : p = q := by
  rcases h with ⟨h0, rfl⟩ | ⟨m, hm, rfl, h1, h2⟩
  · rcases g with ⟨_, rfl⟩ | ⟨m, hm, _⟩
    · rfl
    · omega
  · rcases g with ⟨g0, _⟩ | ⟨k, hk, rfl, g1, g2⟩
    · omega
    · have e : m = k := by
        rcases Nat.lt_trichotomy m k with q | q | q
        · have := g2 m q; have := h1 k hk; omega
        · exact q
        · have := h2 k q; have := g1 m hm; omega
      rw [e]
theorem mostForced_ok {f pl ve told : Nat → Int32} {L : List (Nat × Nat)} (h : okL f L) (ht : okT told) (hc : celC f L pl ve) : OK (fX0_mostForced (nI L.length) pl ve told) (firstMx (fA f L told) L.length) := by
  have hn := h.1
  have mx : gMx (fA f L told) L.length ≤ 2010000000 := gMx_le _ (fun j hj => fA_le h ht hj)
  unfold fX0_mostForced
  refine OK.eq (gForce_eq h ht hc) (OK.bind (OK.loopx (Q := fun y : Unit ⊕ Int32 => OK (Sum.elim (fun _ => some (-1)) (fun r => some r) y) (firstMx (fA f L told) L.length)) (fun k v => v = nI k ∧ ∀ j, j < k → fA f L told j ≠ gMx (fA f L told) L.length) L.length (by omega) ⟨rfl, fun j hj => by omega⟩ ?_ ?_) (fun y hy => hy))
  · rintro k v hk ⟨rfl, hno⟩
    have m2 := fA_le h ht hk
    refine OK.f (nle hk (by omega)) (OK.eq (cforce_eq h hc hk) (OK.eq (fabs_eq h ht hk) ?_))
    by_cases e : fA f L told k = gMx (fA f L told) L.length
    · refine OK.t (by rw [e]) ⟨_, rfl, Or.inr ⟨_, rfl, OK.ret (Or.inr ⟨k, hk, rfl, fun j hj => ?_, fun j hj => ?_⟩)⟩⟩
      · have := gMx_ge (fA f L told) hj; omega
      · have h1 := gMx_ge (fA f L told) (show j < L.length by omega)
        have h2 := hno j hj
        omega
    · refine OK.f (by rw [nI_inj (by omega) (by omega)]; exact e) ⟨_, rfl, Or.inl ⟨_, rfl, nI_s1 k, fun j hj => ?_⟩⟩
      by_cases e2 : j = k
      · rw [e2]; exact e
      · exact hno j (by omega)
  · rintro v ⟨rfl, hno⟩
    refine OK.t (yle (by omega)) ⟨_, rfl, _, rfl, OK.ret (Or.inl ⟨?_, rfl⟩)⟩
    refine Classical.byContradiction fun q => ?_
    obtain ⟨j, hj, e⟩ := gMx_at (fA f L told) (show 0 < L.length by omega)
    exact hno j hj e
theorem strongest_ok {f told Fo : Nat → Int32} {L : List (Nat × Nat)} (h : okL f L) (ht : okT told) (hF : ∀ i, i < L.length → Fo i = frcA f L told i) : OK (fX12_strongest (nI L.length) Fo) (firstMx (fA f L told) L.length) := by
  have hn := h.1
  unfold fX12_strongest
  refine OK.bind (OK.loop (Q := firstMx (fA f L told) L.length) (fun k v => firstMx (fA f L told) k v.1 ∧ v.2 = nI k) L.length (by omega) ⟨Or.inl ⟨rfl, rfl⟩, rfl⟩ ?_ ?_) (fun y hy => OK.ret hy)
  · rintro k ⟨a, b⟩ hk ⟨hp, rfl⟩
    simp only at hp ⊢
    refine OK.f (nle hk (by omega)) (OK.bind (Q := firstMx (fA f L told) (k + 1)) ?_ (fun y hy => OK.inl ⟨hy, nI_s1 k⟩))
    rcases hp with ⟨rfl, rfl⟩ | ⟨m, hm, rfl, h1, h2⟩
    · exact OK.t rfl (OK.ret (Or.inr ⟨0, by omega, rfl, fun j hj => by rw [show j = 0 by omega]; exact Nat.le_refl _, fun j hj => by omega⟩))
    · have g1 : e_in (nI k) 64 = true := ein_nI (by omega) (by omega)
      have g2 : e_in (nI m) 64 = true := ein_nI (by omega) (by omega)
      have b1 := fA_le h ht hk
      have b2 := fA_le h ht (show m < L.length by omega)
      have nm1 : nI m ≠ -1 := by
        intro q
        have := (eq_i _ _).mp q
        rw [nI_ti m (by omega)] at this
        have e9 : (-1 : Int32).toInt = -1 := rfl
        omega
      simp only [tn_nI (show k < 2147483648 by omega), tn_nI (show m < 2147483648 by omega), hF k hk, hF m (by omega)]
      refine OK.f nm1 (OK.g g1 (OK.eq (fabs_eq h ht hk) (OK.g g2 (OK.eq (fabs_eq h ht (by omega)) ?_))))
      by_cases q : fA f L told k ≤ fA f L told m
      · refine OK.t (by rw [nI_le_iff (by omega) (by omega)]; exact q) (OK.ret (Or.inr ⟨m, by omega, rfl, fun j hj => ?_, h2⟩))
        by_cases e : j = k
        · rw [e]; exact q
        · exact h1 j (by omega)
      · refine OK.f (by rw [nI_le_iff (by omega) (by omega)]; exact q) (OK.ret (Or.inr ⟨k, by omega, rfl, fun j hj => ?_, fun j hj => ?_⟩))
        · by_cases e : j = k
          · rw [e]; exact Nat.le_refl _
          · have := h1 j (by omega); omega
        · have := h1 j hj; omega
  · rintro ⟨a, b⟩ ⟨hp, rfl⟩
    exact OK.t (yle (by omega)) (OK.inr hp)
theorem strong_sm {f pl ve told Fo : Nat → Int32} {L : List (Nat × Nat)} (h : okL f L) (ht : okT told) (hc : celC f L pl ve) (hF : ∀ i, i < L.length → Fo i = frcA f L told i) : SM (fX0_mostForced (nI L.length) pl ve told) (fX12_strongest (nI L.length) Fo) (fun y z => y = z) := by
  obtain ⟨p, e1, h1⟩ := mostForced_ok h ht hc
  obtain ⟨q, e2, h2⟩ := strongest_ok h ht hF
  exact ⟨p, q, e1, e2, firstMx_eq h1 h2⟩
