/-! ===== wall(k, what) ===== -/
theorem cnt_at (P : Nat → Bool) : ∀ {n k : Nat}, k < cnt P n → ∃ l, l < n ∧ P l = true ∧ cnt P l = k := by
  intro n
  induction n with
  | zero => intro k h; simp [cnt] at h
  | succ n ih =>
    intro k h
    simp only [cnt] at h
    by_cases e : k < cnt P n
    · obtain ⟨l, l1, l2, l3⟩ := ih e
      exact ⟨l, by omega, l2, l3⟩
    · cases hp : P n with
      | false => rw [hp] at h; simp at h; omega
      | true => rw [hp] at h; simp at h; exact ⟨n, by omega, hp, by omega⟩
theorem cnt_lt {P : Nat → Bool} {l n : Nat} (hl : l < n) (hp : P l = true) : cnt P l < cnt P n := by
  have h := cnt_mono P (show l + 1 ≤ n by omega)
  simp only [cnt, hp, Bool.toNat_true] at h
  omega
theorem cnt_inj {P : Nat → Bool} {a b : Nat} (ha : P a = true) (hb : P b = true) (e : cnt P a = cnt P b) : a = b := by
  by_cases h : a < b
  · have := cnt_lt h ha; omega
  · by_cases h2 : b < a
    · have := cnt_lt h2 hb; omega
    · omega
theorem firstLink_ok {S : Nat → Bool} {ρ : Nat → Nat} {lo : Nat → Int32} (h : clsW S ρ lo) (p : Int32) : OK (fX10_firstLinkOf lo p) (fun q => (∃ l, l < 162 ∧ rtb S ρ l = true ∧ p = nI (cnt (rtb S ρ) l) ∧ q = nI l) ∨ (q = -1 ∧ ∀ l, l < 162 → rtb S ρ l = true → p ≠ nI (cnt (rtb S ρ) l))) := by
  unfold fX10_firstLinkOf
  have c162 : (162 : Int32) = nI 162 := rfl
  by_cases hp : p < 0
  · refine OK.bind (Q := fun q => q = .inl ()) (OK.loop (fun k v => v = (p, 0)) 0 (by omega) rfl (fun k v hk => by omega) ?_) (fun q hq => by
      rw [hq]
      refine OK.ret (Or.inr ⟨rfl, fun l hl _ e => ?_⟩)
      rw [e] at hp
      exact absurd hp (nI_pos (by have := cnt_le (rtb S ρ) l; omega)))
    rintro v rfl
    exact OK.f (by show ¬ (162 : Int32) ≤ 0; decide) (OK.t hp (OK.inr rfl))
  · rw [lt_i, c0] at hp
    have hk : p = nI p.toInt.toNat := of_nn (by omega)
    have hkl : p.toInt.toNat < 2147483648 := by have := i_rng p; omega
    generalize p.toInt.toNat = k at hk hkl
    subst hk
    refine OK.bind (Q := fun q => (∃ l, l < 162 ∧ rtb S ρ l = true ∧ k = cnt (rtb S ρ) l ∧ q = .inr (nI l)) ∨ (q = .inl () ∧ ∀ l, l < 162 → rtb S ρ l = true → k ≠ cnt (rtb S ρ) l)) (OK.loopx (fun i v => v.2 = nI i ∧ cnt (rtb S ρ) i ≤ k ∧ v.1 = nI (k - cnt (rtb S ρ) i)) 162 (by omega) ⟨rfl, Nat.zero_le _, rfl⟩ ?_ ?_) ?_
    · rintro i ⟨v1, v2⟩ hi ⟨rfl, h1, rfl⟩
      simp only
      have ci := cnt_le (rtb S ρ) i
      refine OK.f (by rw [c162]; exact nle hi (by omega)) (OK.f (nI_pos (by omega)) (OK.g (ein_nI hi (by omega)) ?_))
      rw [tn_nI (by omega)]
      refine OK.ite (fun e => ?_) (fun e => ?_)
      · have rt := (h.2 i hi).mp e
        refine OK.ite (fun e2 => ⟨_, rfl, Or.inr ⟨_, rfl, Or.inl ⟨i, hi, rt, ?_, rfl⟩⟩⟩) (fun e2 => ⟨_, rfl, Or.inl ⟨_, rfl, nI_s1 i, ?_, ?_⟩⟩)
        · rw [z0, nI_inj (by omega) (by omega)] at e2; omega
        · rw [z0, nI_inj (by omega) (by omega)] at e2
          simp only [cnt, rt, Bool.toNat_true]; omega
        · rw [z0, nI_inj (by omega) (by omega)] at e2
          simp only [cnt, rt, Bool.toNat_true]
          rw [← Int32.sub_eq_add_neg, sub1_nI (by omega) (by omega)]
          congr 1
      · have rt : rtb S ρ i = false := by
          cases q : rtb S ρ i with
          | false => rfl
          | true => exact absurd ((h.2 i hi).mpr q) e
        refine ⟨_, rfl, Or.inl ⟨_, rfl, nI_s1 i, ?_, ?_⟩⟩
        · simp only [cnt, rt, Bool.toNat_false, Nat.add_zero]; exact h1
        · simp only [cnt, rt, Bool.toNat_false, Nat.add_zero]
    · rintro ⟨v1, v2⟩ ⟨rfl, h1, rfl⟩
      refine OK.t (by show (162 : Int32) ≤ nI 162; decide) (OK.inr (Or.inr ⟨rfl, fun l hl rl e => ?_⟩))
      have := cnt_lt hl rl
      omega
    · rintro q (⟨l, l1, l2, l3, rfl⟩ | ⟨rfl, hq⟩)
      · exact OK.ret (Or.inl ⟨l, l1, l2, by rw [l3], rfl⟩)
      · refine OK.ret (Or.inr ⟨rfl, fun l hl rl e => hq l hl rl ?_⟩)
        exact (nI_inj hkl (by have := cnt_le (rtb S ρ) l; omega)).mp e
/-- whether a wall is beside a face -/
def bsd (S : Nat → Bool) (ρ : Nat → Nat) (r x y : Nat) : Bool := onW S ρ r (fl x y 0) || (onW S ρ r (fl x y 1) || (onW S ρ r (fl x y 2) || onW S ρ r (fl x y 3)))
def anyB (P : Nat → Bool) : Nat → Bool
  | 0 => false
  | k + 1 => anyB P k || P k
theorem isBeside_eq {S : Nat → Bool} {ρ : Nat → Nat} {lo : Nat → Int32} (h : clsW S ρ lo) (hρ : ∀ l, l < 162 → S l = true → ρ l < 162) {r x y : Nat} (hr : r < 162) (hx : x < 8) (hy : y < 8) : fX10_isBeside lo (nI r) (nI x) (nI y) = some (bsd S ρ r x y) := by
  apply OK.val
  unfold fX10_isBeside
  have on : ∀ k, k < 4 → ((if S (fl x y k) = true then nI (ρ (fl x y k)) else -1) = nI r ↔ onW S ρ r (fl x y k) = true) := by
    intro k _
    have fk := fl_lt (k := k) hx hy
    unfold onW
    by_cases sk : S (fl x y k) = true
    · rw [if_pos sk, sk, nI_inj (by have := hρ _ fk sk; omega) (by omega)]; simp
    · have sk2 : S (fl x y k) = false := by simpa using sk
      rw [if_neg sk, sk2]
      exact ⟨fun q => absurd q.symm (nI_m1 (by omega)), fun q => absurd q (by simp)⟩
  have e4 : bsd S ρ r x y = anyB (fun k => onW S ρ r (fl x y k)) 4 := by simp [bsd, anyB, Bool.or_assoc]
  refine OK.bind (Q := fun q => (q = .inr true ∧ bsd S ρ r x y = true) ∨ (q = .inl () ∧ bsd S ρ r x y = false)) (OK.loopx (fun k v => v = nI k ∧ anyB (fun k => onW S ρ r (fl x y k)) k = false) 4 (by omega) ⟨rfl, rfl⟩ ?_ ?_) ?_
  · rintro k v hk ⟨rfl, hv⟩
    have fk := fl_lt (k := k) hx hy
    refine OK.f (by rw [z4]; exact nle hk (by omega)) (OK.eq (beside_eq x y hk) (OK.eq (h.1 _ fk) (OK.ite (fun e => ⟨_, rfl, Or.inr ⟨_, rfl, Or.inl ⟨rfl, ?_⟩⟩⟩) (fun e => ⟨_, rfl, Or.inl ⟨_, rfl, nI_s1 k, ?_⟩⟩))))
    · have := (on k hk).mp e
      unfold bsd
      rcases (show k = 0 ∨ k = 1 ∨ k = 2 ∨ k = 3 by omega) with rfl | rfl | rfl | rfl <;> rw [this] <;> simp
    · have : onW S ρ r (fl x y k) = false := by
        cases q : onW S ρ r (fl x y k) with
        | false => rfl
        | true => exact absurd ((on k hk).mpr q) e
      simp only [anyB, hv, this, Bool.or_self]
  · rintro v ⟨rfl, hv⟩
    exact OK.t (by show (4 : Int32) ≤ nI 4; decide) (OK.inr (Or.inr ⟨rfl, by rw [e4]; exact hv⟩))
  · rintro q (⟨rfl, hq⟩ | ⟨rfl, hq⟩)
    · exact OK.ret hq.symm
    · exact OK.ret hq.symm
theorem cbeside_eq {S : Nat → Bool} {ρ : Nat → Nat} {lo f pl ve : Nat → Int32} {L : List (Nat × Nat)} (hok : okL f L) (hc : celC f L pl ve) (h : clsW S ρ lo) (hρ : ∀ l, l < 162 → S l = true → ρ l < 162) {r : Nat} (hr : r < 162) : fX10_coresBeside (nI L.length) pl lo (nI r) = some (nI (lcnt (fun q => bsd S ρ r q.1 q.2) L L.length)) := by
  apply OK.val
  unfold fX10_coresBeside
  have hn := hok.1
  refine OK.bind (OK.loop (Q := fun q => q = nI (lcnt (fun q => bsd S ρ r q.1 q.2) L L.length)) (fun k v => v.1 = nI (lcnt (fun q => bsd S ρ r q.1 q.2) L k) ∧ v.2 = nI k) L.length (by omega) ⟨rfl, rfl⟩ ?_ ?_) (fun q hq => OK.ret hq)
  · rintro k ⟨a, b⟩ hk ⟨rfl, rfl⟩
    simp only
    have q1 := cplace_eq hc (w := 0) hn hk (by omega)
    have q2 := cplace_eq hc (w := 1) hn hk (by omega)
    have b1 := okL_kp hok hk 0
    have b2 := okL_kp hok hk 1
    rw [← z0] at q1
    rw [← z1] at q2
    refine OK.f (nle hk (by omega)) (OK.eq q1 (OK.eq q2 (OK.eq (isBeside_eq h hρ hr (by omega) (by omega)) (OK.bind (Q := fun q => q = nI (lcnt (fun q => bsd S ρ r q.1 q.2) L (k + 1))) ?_ (fun q hq => OK.inl ⟨hq, nI_s1 k⟩)))))
    have eb : bsd S ρ r (kp L k 0) (kp L k 1) = bsd S ρ r (L.getD k (0, 0)).1 (L.getD k (0, 0)).2 := rfl
    rw [eb]
    refine OK.ite (fun e => OK.ret ?_) (fun e => OK.ret ?_)
    · simp only [lcnt, e, Bool.toNat_true]; exact nI_s1 _
    · have : bsd S ρ r (L.getD k (0, 0)).1 (L.getD k (0, 0)).2 = false := by simpa using e
      simp only [lcnt, this, Bool.toNat_false, Nat.add_zero]
  · rintro ⟨a, b⟩ ⟨rfl, rfl⟩
    exact OK.t (yle (by omega)) (OK.inr rfl)
set_option maxHeartbeats 1000000 in
theorem rbeside_eq {W H : Nat} (hW : W ≤ 9) (hH : H ≤ 9) {f wo : Nat → Int32} {ρ : Nat → Nat} (h : rep wo ρ) {r : Nat} (hr : r < 162) : fX12_coresBeside (nI W) (nI H) f wo (nI r) = some (nI (rsum (fun y => cnt (fun x => isC f x y && bsd (slA f W H) ρ r x y) (W - 1)) (H - 1))) := by
  apply OK.val
  unfold fX12_coresBeside
  generalize hS : slA f W H = S
  have sA : ∀ k, k < 162 → fX12_isSlippedAt (nI W) (nI H) f (nI k) = some (S k) := fun k hk => by rw [slipAt_eq hW hH hk, hS]
  refine OK.bind (OK.loop (Q := fun q => q = nI (rsum (fun y => cnt (fun x => isC f x y && bsd S ρ r x y) (W - 1)) (H - 1))) (fun k v => v.1 = nI (rsum (fun y => cnt (fun x => isC f x y && bsd S ρ r x y) (W - 1)) k) ∧ v.2 = nI k) (H - 1) (by omega) ⟨rfl, rfl⟩ ?_ ?_) (fun q hq => OK.ret hq)
  · rintro k ⟨a, b⟩ hk ⟨rfl, rfl⟩
    simp only
    refine OK.f (by rw [le_pred hH (by omega)]; omega) (OK.bind (Q := fun q => q = nI (rsum (fun y => cnt (fun x => isC f x y && bsd S ρ r x y) (W - 1)) (k + 1))) (OK.loop (fun j v => v.1 = nI (rsum (fun y => cnt (fun x => isC f x y && bsd S ρ r x y) (W - 1)) k + cnt (fun x => isC f x k && bsd S ρ r x k) j) ∧ v.2 = nI j) (W - 1) (by omega) ⟨rfl, rfl⟩ ?_ ?_) (fun q hq => OK.inl ⟨hq, nI_s1 k⟩))
    · rintro j ⟨a, b⟩ hj ⟨rfl, rfl⟩
      simp only
      refine OK.f (by rw [le_pred hW (by omega)]; omega) (OK.bind (Q := fun q => q = bsd S ρ r j k) (OK.loop (fun i v => v.2 = nI i ∧ v.1 = anyB (fun i => onW S ρ r (fr j k i)) i) 4 (by omega) ⟨rfl, rfl⟩ ?_ ?_) ?_)
      · rintro i ⟨a, b⟩ hi ⟨rfl, rfl⟩
        simp only
        have fi : fr j k i < 162 := by
          obtain ⟨t, _, e⟩ := fr_fl (x := j) (y := k) (k := i)
          rw [e]; exact fl_lt (by omega) (by omega)
        have hl := h _ fi
        refine OK.f (by rw [z4]; exact nle hi (by omega)) (OK.eq (ofFace_eq j k hi) (OK.bind (Q := fun q => q = anyB (fun i => onW S ρ r (fr j k i)) (i + 1)) (OK.ite (fun e => OK.ret (by simp only [anyB, e, Bool.true_or])) (fun e => OK.eq (sA _ fi) (OK.ite (fun e2 => OK.g (ein_nI fi (by omega)) ?_) (fun e2 => OK.ret ?_)))) (fun q hq => OK.inl ⟨nI_s1 i, hq⟩)))
        · rw [tn_nI (by omega), hl.1]
          have e3 : anyB (fun i => onW S ρ r (fr j k i)) i = false := by simpa using e
          simp only [anyB, e3, Bool.false_or]
          unfold onW
          rw [e2]
          simp only [Bool.true_and]
          refine OK.ite (fun e1 => OK.ret ?_) (fun e1 => OK.ret ?_)
          · rw [nI_inj (by omega) (by omega)] at e1; exact (decide_eq_true e1).symm
          · rw [nI_inj (by omega) (by omega)] at e1; exact (decide_eq_false e1).symm
        · have e3 : anyB (fun i => onW S ρ r (fr j k i)) i = false := by simpa using e
          have e4 : S (fr j k i) = false := by simpa using e2
          simp only [anyB, e3, Bool.false_or]
          unfold onW
          rw [e4]; rfl
      · rintro ⟨a, b⟩ ⟨rfl, rfl⟩
        refine OK.t (by show (4 : Int32) ≤ nI 4; decide) (OK.inr ?_)
        simp only [anyB, bsd, fr, Bool.false_or]
        simp
        generalize onW S ρ r (fl j k 0) = b0
        generalize onW S ρ r (fl j k 1) = b1
        generalize onW S ρ r (fl j k 2) = b2
        generalize onW S ρ r (fl j k 3) = b3
        cases b0 <;> cases b1 <;> cases b2 <;> cases b3 <;> rfl
      · rintro _ rfl
        refine OK.bind (Q := fun q => q = (isC f j k && bsd S ρ r j k)) (OK.ite (fun e => OK.eq (isCore_eq f (by omega) (by omega)) (OK.ite (fun e2 => OK.ret ?_) (fun e2 => OK.ret ?_))) (fun e => OK.ret ?_)) (fun q hq => OK.inl ⟨?_, nI_s1 j⟩)
        · have : isC f j k = true := e2
          rw [this, e]; rfl
        · have : isC f j k = false := by unfold isC; simpa using e2
          rw [this]; rfl
        · have : bsd S ρ r j k = false := by simpa using e
          rw [this, Bool.and_false]
        · rw [hq, eb_nat, nI_add]
          simp only [cnt]
          rw [Nat.add_assoc]
    · rintro ⟨a, b⟩ ⟨rfl, rfl⟩
      exact OK.t (by show nI W - 1 ≤ nI (W - 1); rw [le_pred hW (by omega)]; omega) (OK.inr rfl)
  · rintro ⟨a, b⟩ ⟨rfl, rfl⟩
    exact OK.t (by show nI H - 1 ≤ nI (H - 1); rw [le_pred hH (by omega)]; omega) (OK.inr rfl)
