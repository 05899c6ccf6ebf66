/-! ===== THE ENGINE: a method's run over an abstract heap ===== -/
/-- class numbers, slots, array classes, the law's first address, addresses of what stood before, arrays that stood before -/
abbrev eG : Type := (Nat → ClassId) × (Nat → Nat → Nat) × (FieldType → ClassId) × Nat × (Nat → Nat) × (Nat → Option (FieldType × Nat × (Nat → Int32)))
abbrev e_D (G : eG) : va_G := (G.1, G.2.1)
abbrev e_cA (G : eG) : FieldType → ClassId := G.2.2.1
abbrev e_S0 (G : eG) : Nat := G.2.2.2.1
def e_ad (G : eG) (k : Nat) : Nat := if k < 32 then G.2.2.2.2.1 k else G.2.2.2.1 + (k - 32)
abbrev e_stat (G : eG) : Nat → Option (FieldType × Nat × (Nat → Int32)) := G.2.2.2.2.2
def e_A (G : eG) : Nat → Prop := fun q => e_S0 G ≤ q
def e_tr (G : eG) (v : Value) : Value := match v with
  | .ref k => .ref (e_ad G k)
  | .int x => .int x
  | .long x => .long x
  | .null => .null
  | w => w
abbrev eO : Type := (FieldType × vp_A) ⊕ (Nat × List Value)
def e_fa (G : eG) (f : (Nat → Int32) ⊕ (Nat → Int64) ⊕ (Nat → UInt32) ⊕ (Nat → UInt64) ⊕ (Nat → Option Nat)) : (Nat → Int32) ⊕ (Nat → Int64) ⊕ (Nat → UInt32) ⊕ (Nat → UInt64) ⊕ (Nat → Option Nat) := match f with
  | .inr (.inr (.inr (.inr g))) => .inr (.inr (.inr (.inr (fun j => (g j).map (e_ad G)))))
  | .inl g => .inl g
  | .inr (.inl g) => .inr (.inl g)
  | .inr (.inr (.inl g)) => .inr (.inr (.inl g))
  | .inr (.inr (.inr (.inl g))) => .inr (.inr (.inr (.inl g)))
def e_E (G : eG) (o : eO) : va_E := match o with
  | .inl a => .inl (e_cA G a.1, a.2.1, e_fa G a.2.2)
  | .inr b => .inr (b.1, b.2.map (e_tr G))
/-- a heap, with what was written since -/
def e_up (h : Nat → eO) : List (Nat × eO) → Nat → eO
  | [], k => h k
  | (j, o) :: l, k => bif Nat.beq j k then o else e_up h l k
def e_ins : List (Nat × eO) → Nat → eO → List (Nat × eO)
  | [], k, o => [(k, o)]
  | (j, o') :: l, k, o => bif Nat.beq j k then (k, o) :: l else bif Nat.blt k j then (k, o) :: (j, o') :: l else (j, o') :: e_ins l k o
def e_mrg (l : List (Nat × eO)) : List (Nat × eO) → List (Nat × eO)
  | [] => l
  | (k, o) :: r => e_mrg (e_ins l k o) r
def e_set (h : Nat → eO) (k : Nat) (o : eO) : Nat → eO := fun j => if j = k then o else h j
theorem e_bf {i j : Nat} (h : i ≠ j) : Nat.beq i j = false := by
  cases hb : Nat.beq i j with
  | false => rfl
  | true => exact absurd (Nat.eq_of_beq_eq_true hb) h
theorem e_up_ins (h : Nat → eO) : ∀ (l : List (Nat × eO)) (k : Nat) (o : eO), e_up h (e_ins l k o) = e_set (e_up h l) k o := by
  intro l
  induction l with
  | nil =>
    intro k o
    funext j
    by_cases q : j = k
    · subst q; simp [e_ins, e_up, e_set]
    · have : Nat.beq k j = false := e_bf (Ne.symm q)
      simp [e_ins, e_up, e_set, q, this]
  | cons p l ih =>
    obtain ⟨i, o'⟩ := p
    intro k o
    funext j
    by_cases q1 : i = k
    · subst q1
      by_cases q : j = i
      · subst q; simp [e_ins, e_up, e_set]
      · have : Nat.beq i j = false := e_bf (Ne.symm q)
        simp [e_ins, e_up, e_set, q, this]
    · have h1 : Nat.beq i k = false := e_bf q1
      by_cases q2 : k < i
      · have h2 : Nat.blt k i = true := by simpa [Nat.blt_eq] using q2
        by_cases q : j = k
        · subst q; simp [e_ins, e_up, e_set, h1, h2]
        · have h3 : Nat.beq k j = false := e_bf (Ne.symm q)
          simp [e_ins, e_up, e_set, h1, h2, h3, q]
      · have h2 : Nat.blt k i = false := by
          cases hb : Nat.blt k i with
          | false => rfl
          | true => exact absurd (Nat.blt_eq.mp hb) q2
        simp only [e_ins, h1, h2, cond_false, e_up, ih]
        by_cases q : j = k
        · subst q
          simp [e_set, h1]
        · simp only [e_set, if_neg q]
/-- updates in a row: the later wins -/
def e_sets (h : Nat → eO) : List (Nat × eO) → Nat → eO
  | [] => h
  | (k, o) :: r => e_sets (e_set h k o) r
theorem e_up_mrg (h : Nat → eO) : ∀ (r l : List (Nat × eO)), e_up h (e_mrg l r) = e_sets (e_up h l) r := by
  intro r
  induction r with
  | nil => intro l; rfl
  | cons p r ih =>
    obtain ⟨k, o⟩ := p
    intro l
    show e_up h (e_mrg (e_ins l k o) r) = e_sets (e_set (e_up h l) k o) r
    rw [ih, e_up_ins]
/-- keys that rise strictly -/
def e_asc : List (Nat × eO) → Bool
  | [] => true
  | [_] => true
  | (j, _) :: (k, o) :: l => Nat.blt j k && e_asc ((k, o) :: l)
theorem e_up_low (h : Nat → eO) : ∀ (l : List (Nat × eO)) (j : Nat), (∀ p ∈ l, j < p.1) → e_up h l j = h j := by
  intro l
  induction l with
  | nil => intro j _; rfl
  | cons p l ih =>
    obtain ⟨k, o⟩ := p
    intro j hj
    have h1 : j < k := hj (k, o) List.mem_cons_self
    have h2 : Nat.beq k j = false := by
      cases hb : Nat.beq k j with
      | false => rfl
      | true => have := Nat.eq_of_beq_eq_true hb; omega
    simp only [e_up, h2, cond_false]
    exact ih j (fun p hp => hj p (List.mem_cons_of_mem _ hp))
theorem e_asc_lt : ∀ (l : List (Nat × eO)) (j : Nat) (o : eO), e_asc ((j, o) :: l) = true → e_asc l = true ∧ ∀ p ∈ l, j < p.1 := by
  intro l
  induction l with
  | nil => intro j o _; exact ⟨rfl, fun p h => by cases h⟩
  | cons p l ih =>
    obtain ⟨k, o'⟩ := p
    intro j o h
    simp only [e_asc, Bool.and_eq_true] at h
    have hjk : j < k := Nat.blt_eq.mp h.1
    refine ⟨h.2, fun p hp => ?_⟩
    rcases List.mem_cons.mp hp with rfl | hp
    · exact hjk
    · exact Nat.lt_trans hjk ((ih k o' h.2).2 p hp)
theorem e_sets_up (h : Nat → eO) : ∀ (r : List (Nat × eO)), e_asc r = true → e_sets h r = e_up h r := by
  have key : ∀ (r : List (Nat × eO)) (h : Nat → eO), e_asc r = true → ∀ j, e_sets h r j = e_up h r j := by
    intro r
    induction r with
    | nil => intro h _ j; rfl
    | cons p r ih =>
      obtain ⟨k, o⟩ := p
      intro h hs j
      obtain ⟨h1, h2⟩ := e_asc_lt r k o hs
      show e_sets (e_set h k o) r j = _
      rw [ih _ h1]
      by_cases q : j = k
      · subst q
        rw [e_up_low _ _ _ h2]
        simp [e_up, e_set]
      · have hb : Nat.beq k j = false := e_bf (Ne.symm q)
        simp only [e_up, hb, cond_false]
        have : ∀ (l : List (Nat × eO)) , e_up (e_set h k o) l j = e_up h l j := by
          intro l
          induction l with
          | nil => simp [e_up, e_set, q]
          | cons p l ihl =>
            obtain ⟨i, o'⟩ := p
            simp only [e_up, ihl]
        exact this r
  intro r hr
  funext j
  exact key r h hr j
/-- behind a call: the callee's writes over the caller's -/
theorem e_up_up (h : Nat → eO) {l r l' : List (Nat × eO)} (hr : e_asc r = true) (hl : e_mrg l r = l') : e_up (e_up h l) r = e_up h l' := by
  rw [← hl, e_up_mrg, e_sets_up _ r hr]
/-- an object that wasn't written may be written down as it is -/
theorem e_up_same (h : Nat → eO) {l l' : List (Nat × eO)} {k : Nat} {o : eO} (ho : e_up h l k = o) (hl : e_ins l k o = l') : e_up h l' = e_up h l := by
  rw [← hl, e_up_ins]
  funext j
  by_cases q : j = k
  · subst q; simp [e_set, ho]
  · simp [e_set, q]
