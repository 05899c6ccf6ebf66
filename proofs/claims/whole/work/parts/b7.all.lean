/-! ===== the loop over the pieces ===== -/
theorem piece_bad {n q : Nat} {A a36 a37 a38 : Nat → Int32} (hq : q ≤ 300) (at' bg w h : Int32) (s t l : Bool) (c : Int32) : fX5_readPiece (nI n) at' bg (nI q) w h s t l c A a36 a37 a38 = some (at', bg, nI q, s, t, l, c, a36, a37, a38) := by
  unfold fX5_readPiece
  rw [if_neg (nI_m1 (by omega))]
theorem sign_no {at' fr wr pt nb p0 N : Int32} {B : Nat → Int32} (h : wr ≠ -1 ∨ pt ≠ 3) : fX12_takesSign N at' fr wr pt nb B p0 = some (false, at', fr, pt, nb) := by
  unfold fX12_takesSign
  rcases h with h | h
  · rw [if_neg h]; rfl
  · by_cases c : wr = -1
    · rw [if_pos c, if_neg h]; rfl
    · rw [if_neg c]; rfl
theorem sign_other {at' wr pt nb p0 N : Int32} {q : Nat} {B : Nat → Int32} (hq : q < 300) (h : B q ≠ p0) : fX12_takesSign N at' (nI q) wr pt nb B p0 = some (false, at', nI q, pt, nb) := by
  unfold fX12_takesSign
  by_cases c : wr = -1
  · rw [if_pos c]
    by_cases d : pt = 3
    · rw [if_pos d, g_t (ein_nI hq (by omega)), tn_nI (by omega), if_neg h]; rfl
    · rw [if_neg d]; rfl
  · rw [if_neg c]; rfl
theorem sign_yes {at' nb p0 N : Int32} {q : Nat} {B : Nat → Int32} (hq : q < 300) (h : B q = p0) : fX12_takesSign N at' (nI q) (-1) 3 nb B p0 = (fX12_next N at' (nI q) 3 nb B).bind (fun q3 => some (true, q3.1, q3.2.1, q3.2.2.1, q3.2.2.2)) := by
  unfold fX12_takesSign
  rw [if_pos rfl, if_pos rfl, g_t (ein_nI hq (by omega)), tn_nI (by omega), if_pos h]; rfl
theorem semi_ok {n q : Nat} {A : Nat → Int32} (hn : n ≤ 300) (hq : q < n) (hb : blk A q = false) (f : Int32) : fX5_readSemicolon (nI n) (nI q) f A = if A q = 59 then some (nI q + 1, f) else some (nI q, nI q) := by
  unfold fX5_readSemicolon
  obtain ⟨z, e, r, hr, h1, h2⟩ := nextByte_ok (A := A) hn (show q ≤ n by omega)
  have er : r = q := isE_eq hr ⟨Nat.le_refl _, by omega, fun i a b => by omega, Or.inr hb⟩
  subst er
  rw [e, Option.bind_some, h2, h1, if_pos hq]
theorem tok_semi {A : Nat → Int32} {n p q : Nat} {at' fr pt nb : Int32} (hq : isE (blk A) n p q) (hqn : q < n) (h59 : A q = 59) (h : tokR A n p at' fr pt nb) : pt = 3 ∧ at' = nI (q + 1) ∧ fr = nI q := by
  obtain ⟨r, hr, hf, hc⟩ := h
  have er := isE_eq hr hq
  subst er
  have c59 : (59 : Int32).toInt = 59 := rfl
  rcases hc with ⟨a, _⟩ | ⟨_, a, _⟩ | ⟨_, _, b, e, ⟨⟨_, d⟩ | ⟨_, d, _⟩, _⟩, _⟩ | ⟨_, a, b, _⟩
  · omega
  · have := of_decide_eq_true a
    rw [h59, c59] at this
    omega
  · have := of_decide_eq_true d
    rw [h59, c59] at this
    omega
  · rw [h59] at d
    exact absurd d (by decide)
  · exact ⟨a, b, hf⟩
abbrev cLT := Int32 × Int32 × Int32 × Int32 × Bool × Bool × Bool × Int32 × (Nat → Int32) × (Nat → Int32) × (Nat → Int32)
abbrev rLT := Int32 × Int32 × Int32 × Int32 × Int32 × Int32 × Bool × Bool × Bool × (Nat → Int32) × (Nat → Int32) × (Nat → Int32) × (Nat → Int32) × (Nat → Int32)
abbrev cXT := Int32 × Int32 × Int32 × Int32 × Bool × Bool × Bool × (Nat → Int32) × (Nat → Int32) × (Nat → Int32)
abbrev rXT := Int32 × Bool × Bool × Bool × Int32 × Int32 × Int32 × Int32 × Int32 × (Nat → Int32) × (Nat → Int32) × (Nat → Int32) × (Nat → Int32) × (Nat → Int32)
def rdI (A : Nat → Int32) (n W H : Nat) (k : Nat) (v : cLT) (w : rLT) : Prop :=
  v.1 = nI k ∧ ((∃ p K, k ≤ p ∧ good A n p (v.2.1, v.2.2.1, v.2.2.2.1) (w.1, w.2.1, w.2.2.1, w.2.2.2.1, w.2.2.2.2.1) ∧ v.2.2.2.2.1 = w.2.2.2.2.2.2.1 ∧ v.2.2.2.2.2.1 = w.2.2.2.2.2.2.2.1 ∧ v.2.2.2.2.2.2.1 = w.2.2.2.2.2.2.2.2.1 ∧ v.2.2.2.2.2.2.2.1 = nI K ∧ w.2.2.2.2.2.1 = nI K ∧ dat W H K v.2.2.2.2.2.2.2.2.1 v.2.2.2.2.2.2.2.2.2.1 v.2.2.2.2.2.2.2.2.2.2 w.2.2.2.2.2.2.2.2.2.1 w.2.2.2.2.2.2.2.2.2.2.1 w.2.2.2.2.2.2.2.2.2.2.2.1 w.2.2.2.2.2.2.2.2.2.2.2.2.1 w.2.2.2.2.2.2.2.2.2.2.2.2.2) ∨ (∃ q, q ≤ n ∧ v.2.2.2.1 = nI q ∧ w.2.2.1 = nI q))
def rdX (n W H : Nat) (y : cXT) (z : rXT) : Prop :=
  (y.2.2.2.1 = -1 ∧ z.2.2.2.2.2.2.1 = -1 ∧ z.2.2.2.2.2.2.2.1 = 0 ∧ ∃ K, y.2.1 = nI K ∧ z.1 = nI K ∧ dat W H K y.2.2.2.2.2.2.2.1 y.2.2.2.2.2.2.2.2.1 y.2.2.2.2.2.2.2.2.2 z.2.2.2.2.2.2.2.2.2.1 z.2.2.2.2.2.2.2.2.2.2.1 z.2.2.2.2.2.2.2.2.2.2.2.1 z.2.2.2.2.2.2.2.2.2.2.2.2.1 z.2.2.2.2.2.2.2.2.2.2.2.2.2) ∨ (∃ q, q ≤ n ∧ y.2.2.2.1 = nI q ∧ z.2.2.2.2.2.2.1 = nI q) ∨ (∃ q, q ≤ n ∧ y.2.2.2.1 = nI q ∧ z.2.2.2.2.2.2.1 = -1 ∧ z.2.2.2.2.2.2.2.1 ≠ 0 ∧ z.2.2.2.2.2.1 = nI q)
theorem z300 : (300 : Int32) = nI 300 := rfl
theorem fin_pt {A : Nat → Int32} {n p q : Nat} {at' fr pt nb : Int32} (hq : isE (blk A) n p q) (hqn : ¬ q < n) (h : tokR A n p at' fr pt nb) : pt = 0 := by
  obtain ⟨r, hr, hf, hc⟩ := h
  have er := isE_eq hr hq
  subst er
  rcases hc with ⟨_, a⟩ | ⟨a, _⟩ | ⟨a, _⟩ | ⟨a, _⟩
  · exact a
  · exact absurd a hqn
  · exact absurd a hqn
  · exact absurd a hqn
theorem mid_pt {A : Nat → Int32} {n p q : Nat} {at' fr pt nb : Int32} (hq : isE (blk A) n p q) (hqn : q < n) (h : tokR A n p at' fr pt nb) : pt ≠ 0 ∧ fr = nI q := by
  obtain ⟨r, hr, hf, hc⟩ := h
  have er := isE_eq hr hq
  subst er
  refine ⟨?_, hf⟩
  rcases hc with ⟨a, _⟩ | ⟨_, _, a, _⟩ | ⟨_, a, _⟩ | ⟨_, a, _⟩
  · omega
  · rw [a]; decide
  · rw [a]; decide
  · rw [a]; decide
