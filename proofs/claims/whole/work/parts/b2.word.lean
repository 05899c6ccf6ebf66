/-! ===== both read: a number, a word ===== -/
theorem tokR_cg {A B : Nat → Int32} {n p : Nat} {at' fr pt nb : Int32} (hAB : ∀ k, k < n → A k = B k) (h : tokR B n p at' fr pt nb) : tokR A n p at' fr pt nb := by
  have e1 : ∀ i, i < n → blk B i = blk A i := fun i hi => by unfold blk; rw [hAB i hi]
  have e2 : ∀ i, i < n → sml B i = sml A i := fun i hi => by unfold sml; rw [hAB i hi]
  have e3 : ∀ i, i < n → dgt B i = dgt A i := fun i hi => by unfold dgt; rw [hAB i hi]
  have e4 : ∀ b k, b + k ≤ n → vI B b k = vI A b k := by
    intro b k
    induction k with
    | zero => intro _; rfl
    | succ k ih => intro h; simp only [vI, ih (by omega), hAB (b + k) (by omega)]
  have tn9 : ∀ q b e, q < n → (tokN B n q b e ↔ tokN A n q b e) := by
    intro q b e hq
    have s3 : ∀ i, i < n → dgt A i = dgt B i := fun i hi => (e3 i hi).symm
    constructor
    · rintro ⟨h1, h2⟩
      refine ⟨?_, isE_cg h2 e3⟩
      rcases h1 with ⟨a, b9⟩ | ⟨a, b9, c, d⟩
      · exact Or.inl ⟨a, by rw [← e3 q hq]; exact b9⟩
      · exact Or.inr ⟨a, by rw [hAB q hq]; exact b9, c, by rw [← e3 _ c]; exact d⟩
    · rintro ⟨h1, h2⟩
      refine ⟨?_, isE_cg h2 s3⟩
      rcases h1 with ⟨a, b9⟩ | ⟨a, b9, c, d⟩
      · exact Or.inl ⟨a, by rw [e3 q hq]; exact b9⟩
      · exact Or.inr ⟨a, by rw [← hAB q hq]; exact b9, c, by rw [e3 _ c]; exact d⟩
  obtain ⟨q, hq, hf, h⟩ := h
  refine ⟨q, isE_cg hq e1, hf, ?_⟩
  rcases h with h | ⟨h1, h2, h3, e, he, h4⟩ | ⟨h1, h2, b, e, he, h3, h4⟩ | ⟨h1, h2, h3, h4, h5⟩
  · exact Or.inl h
  · exact Or.inr (Or.inl ⟨h1, by rw [← e2 q h1]; exact h2, h3, e, isE_cg he e2, h4⟩)
  · refine Or.inr (Or.inr (Or.inl ⟨h1, h2, b, e, (tn9 q b e h1).mp he, h3, ?_⟩))
    have := he.2.1
    have := he.2.2.1
    rw [h4, e4 b (e - b) (by omega)]
  · exact Or.inr (Or.inr (Or.inr ⟨h1, h2, h3, by rw [← e2 q h1]; exact h4, fun ⟨b, e, he⟩ => h5 ⟨b, e, (tn9 q b e h1).mpr he⟩⟩))
/-- where both stand: c: the class's at, begun, fault; r: the reference's at, from, wrong, part, number -/
def good (A : Nat → Int32) (n p : Nat) (c : Int32 × Int32 × Int32) (r : Int32 × Int32 × Int32 × Int32 × Int32) : Prop := p ≤ n ∧ c.1 = nI p ∧ c.2.2 = -1 ∧ r.2.2.1 = -1 ∧ tokR A n p r.1 r.2.1 r.2.2.2.1 r.2.2.2.2
def badS (n : Nat) (c : Int32 × Int32 × Int32) (r : Int32 × Int32 × Int32 × Int32 × Int32) : Prop := ∃ q, q ≤ n ∧ c.2.2 = nI q ∧ r.2.2.1 = nI q
/-- the tapes -/
def tpe (n : Nat) (A B : Nat → Int32) : Prop := n ≤ 300 ∧ (∀ k, k < n → A k = B k) ∧ ∀ k, k < n → B k ≠ -1
set_option maxHeartbeats 1000000 in
theorem num_sm {n p : Nat} {A B : Nat → Int32} (ht : tpe n A B) {c : Int32 × Int32 × Int32} {r : Int32 × Int32 × Int32 × Int32 × Int32} (h : good A n p c r) (lo hi : Int32) (hhi : hi.toInt < 10000) :
    SM (fX5_readNumber (nI n) c.1 c.2.1 c.2.2 A lo hi) (fX12_takesNumber (nI n) r.1 r.2.1 r.2.2.1 r.2.2.2.1 r.2.2.2.2 B lo hi) (fun y z => (∃ e, p < e ∧ good A n e y.2 z.2 ∧ y.1 = z.1 ∧ lo.toInt ≤ y.1.toInt ∧ y.1.toInt ≤ hi.toInt ∧ y.2.2.1 = r.2.1 ∧ r.2.2.2.1 = 2 ∧ r.2.2.2.2 = y.1) ∨ (∃ q, q ≤ n ∧ y.2.2.2 = nI q ∧ z.2.2.2.1 = nI q ∧ r.2.1 = nI q)) := by
  obtain ⟨c1, c2, c3⟩ := c
  obtain ⟨r1, r2, r3, r4, r5⟩ := r
  obtain ⟨hp, e1, e2, e3, htok⟩ := h
  simp only at e1 e2 e3 htok ⊢
  subst e1; subst e2; subst e3
  have hn := ht.1
  obtain ⟨⟨y1, y2, y3, y4⟩, ey, q, b, e, hq, hb, he, h1, h2, h3, h4⟩ := cnum_ok (A := A) hn hp c2 lo hi
  simp only at h1 h2 h3 h4
  subst h1; subst h2
  obtain ⟨q', hq', hfr, htk⟩ := htok
  have hqq := isE_eq hq hq'
  subst hqq
  have hqn := hq.2.1
  have he1 := he.1
  have he2 := he.2.1
  unfold fX12_takesNumber
  have bad : (¬ ((1 ≤ e - b ∧ e - b ≤ 2) ∧ lo.toInt ≤ y1.toInt ∧ y1.toInt ≤ hi.toInt)) → SM (some (y1, nI e, nI q, y4)) ((fX12_bad r2 (-1)).bind (fun q9 => some (lo, r1, r2, q9, r4, r5))) (fun y z => (∃ e, p < e ∧ good A n e y.2 z.2 ∧ y.1 = z.1 ∧ lo.toInt ≤ y.1.toInt ∧ y.1.toInt ≤ hi.toInt ∧ y.2.2.1 = r2 ∧ r4 = 2 ∧ r5 = y.1) ∨ (∃ q, q ≤ n ∧ y.2.2.2 = nI q ∧ z.2.2.2.1 = nI q ∧ r2 = nI q)) := by
    intro hc
    rw [if_neg hc] at h4
    unfold fX12_bad
    rw [if_pos rfl]
    exact SM.ret (Or.inr ⟨q, hqn, h4, hfr, hfr⟩)
  rw [ey]
  refine SM.tR rfl ?_
  rcases htk with ⟨k1, k2⟩ | ⟨k1, k2, k3, _⟩ | ⟨k1, k2, b2, e2, ⟨kb, ke⟩, k3, k4⟩ | ⟨k1, k2, k3, k4, k5⟩
  · -- over
    refine SM.fR (by rw [k2]; decide) (bad (fun z => ?_))
    rw [if_neg (by omega)] at hb
    omega
  · -- a word
    refine SM.fR (by rw [k3]; decide) (bad (fun z => ?_))
    have k2 := of_decide_eq_true k2
    have n45 : A q ≠ 45 := fun w => by rw [w] at k2; exact absurd k2.1 (by decide)
    rw [if_neg (fun w => n45 w.2)] at hb
    subst hb
    have := he.2.2.1 b (Nat.le_refl _) (by omega)
    have := of_decide_eq_true this
    omega
  · -- a number
    rw [k2]
    have hbb : b = b2 := by
      rw [hb]
      rcases kb with ⟨kb1, kb2⟩ | ⟨kb1, kb2, kb3, kb4⟩
      · have kb2 := of_decide_eq_true kb2
        have n45 : A q ≠ 45 := fun w => by rw [w] at kb2; exact absurd kb2.1 (by decide)
        rw [if_neg (fun w => n45 w.2), kb1]
      · rw [if_pos ⟨k1, kb2⟩, kb1]
    subst hbb
    have hee := isE_eq he ke
    subst hee
    have hlt : b < e := by
      have hd : dgt A b = true := by
        rcases kb with ⟨kb1, kb2⟩ | ⟨kb1, kb2, kb3, kb4⟩
        · rw [kb1]; exact kb2
        · rw [kb1]; exact kb4
      by_cases z : b < e
      · exact z
      · have : e = b := by omega
        subst this
        rcases he.2.2.2 with w | w
        · rcases kb with ⟨kb1, kb2⟩ | ⟨kb1, kb2, kb3, kb4⟩ <;> omega
        · rw [w] at hd; exact absurd hd (by decide)
    have hbp : p ≤ b := by have := hq.1; rcases kb with ⟨kb1, _⟩ | ⟨kb1, _⟩ <;> omega
    refine SM.tR rfl (SM.eqR (in_c2 r5 (m := lo.toInt) (n := hi.toInt) (i_l lo) (i_l hi)) ?_)
    by_cases h2' : e - b ≤ 2
    · rw [if_pos h2'] at k4
      rw [show min (e - b) 2 = e - b by omega] at h3
      have hv : r5 = y1 := by rw [k4, h3]
      subst hv
      by_cases hr : lo.toInt ≤ r5.toInt ∧ r5.toInt ≤ hi.toInt
      · have hB : ∀ k, k < n → B k ≠ -1 := ht.2.2
        rw [k3]
        refine SM.tR (decide_eq_true hr) (SM.okR (next_ok hn hB he2 r2 2 r5) (fun z hz => SM.ret (Or.inl ⟨e, by omega, ⟨he2, rfl, ?_, rfl, tokR_cg ht.2.1 hz⟩, rfl, hr.1, hr.2, hfr.symm, rfl, rfl⟩)))
        show y4 = -1
        rw [h4, if_pos ⟨⟨by omega, h2'⟩, hr⟩]
      · exact SM.fR (by rw [decide_eq_true_eq]; exact hr) (k2 ▸ bad (fun z => hr z.2))
    · rw [if_neg h2'] at k4
      refine SM.fR ?_ (k2 ▸ bad (fun z => h2' z.1.2))
      rw [decide_eq_true_eq, k4, show (10000 : Int32).toInt = 10000 from rfl]
      omega
  · -- a sign
    refine SM.fR (by rw [k2]; decide) (bad (fun z => k5 ⟨b, e, ?_, he⟩))
    have hd : dgt A b = true := he.2.2.1 b (Nat.le_refl _) (by omega)
    by_cases w : q < n ∧ A q = 45
    · rw [if_pos w] at hb
      right
      refine ⟨hb, w.2, ?_, by rw [← hb]; exact hd⟩
      omega
    · rw [if_neg w] at hb
      exact Or.inl ⟨hb, by rw [← hb]; exact hd⟩
/-- behind a fault nothing more is read -/
theorem num_bad {n : Nat} {A B : Nat → Int32} (hn : n ≤ 300) {c : Int32 × Int32 × Int32} {r : Int32 × Int32 × Int32 × Int32 × Int32} (h : badS n c r) (lo hi lo' hi' : Int32) : SM (fX5_readNumber (nI n) c.1 c.2.1 c.2.2 A lo hi) (fX12_takesNumber (nI n) r.1 r.2.1 r.2.2.1 r.2.2.2.1 r.2.2.2.2 B lo' hi') (fun y z => badS n y.2 z.2) := by
  obtain ⟨q, hq, h1, h2⟩ := h
  unfold fX5_readNumber fX12_takesNumber fX12_bad
  have m1 : nI q ≠ -1 := nI_m1 (by omega)
  rw [h1, h2]
  refine SM.fL m1 (SM.fR m1 ?_)
  rw [if_neg m1]
  exact SM.ret ⟨q, hq, rfl, rfl⟩
