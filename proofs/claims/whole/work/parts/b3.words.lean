/-! ===== words ===== -/
theorem allm {P : Nat → Prop} {k : Nat} (h : ∀ j, j < k → P j) (hk : P k) : ∀ j, j < k + 1 → P j := by
  intro j hj
  by_cases e : j = k
  · rw [e]; exact hk
  · exact h j (by omega)
def wm (A : Nat → Int32) (q e L : Nat) (S : Nat → Int32) : Prop := e - q = L ∧ ∀ j, j < L → A (q + j) = S j
theorem len_s8 : fJ0_length_8abf5_s8 = some (nI 4) := by decide
theorem chr_s8 {j : Nat} (hj : j < 4) : fJ0_charAt_5068e_s8 (nI j) = some (sB0 j) := by
  have key : ∀ j : Fin 4, fJ0_charAt_5068e_s8 (nI j.val) = some (sB0 j.val) := by decide +kernel
  exact key ⟨j, hj⟩
theorem spells_s8 {n q e : Nat} {A : Nat → Int32} (hn : n ≤ 300) (hq : q ≤ e) (he : e ≤ n) : OK (fX5_spells_s8 (nI n) (nI e) (nI q) A) (fun b => b = true ↔ wm A q e 4 sB0) := by
  unfold fX5_spells_s8
  refine OK.eq len_s8 ?_
  rw [sub_nI hq (by omega)]
  by_cases hl : e - q = 4
  · refine OK.t (by rw [hl]) (OK.bind (Q := fun z => (z = .inl () ∧ wm A q e 4 sB0) ∨ (z = .inr false ∧ ¬ wm A q e 4 sB0)) (OK.loopx (fun k v => v = nI k ∧ ∀ j, j < k → A (q + j) = sB0 j) 4 (by omega) ⟨rfl, fun j hj => by omega⟩ ?_ ?_) ?_)
    · rintro k v hk ⟨rfl, hv⟩
      refine OK.eq len_s8 (OK.f (nle hk (by omega)) ?_)
      rw [nI_add]
      refine OK.eq (byteAt_eq hn (show q + k < n by omega)) (OK.eq (chr_s8 hk) (OK.ite (fun c => ⟨_, rfl, Or.inl ⟨_, rfl, nI_s1 k, allm hv c⟩⟩) (fun c => ⟨_, rfl, Or.inr ⟨_, rfl, Or.inr ⟨rfl, fun w => c (w.2 k hk)⟩⟩⟩)))
    · rintro v ⟨rfl, hv⟩
      exact OK.eq len_s8 (OK.t (yle (by omega)) (OK.inr (Or.inl ⟨rfl, hl, hv⟩)))
    · rintro z (⟨rfl, h⟩ | ⟨rfl, h⟩)
      · exact OK.ret ⟨fun _ => h, fun _ => rfl⟩
      · exact OK.ret ⟨fun c => absurd c (by decide), fun c => absurd c h⟩
  · refine OK.f (by rw [nI_inj (by omega) (by omega)]; exact hl) (OK.ret ⟨fun c => absurd c (by decide), fun c => absurd c.1 hl⟩)
theorem isWord_s8 {n q e : Nat} {A : Nat → Int32} {pt : Int32} (hn : n ≤ 300) (hq : q ≤ e) (he : e ≤ n) (hp : pt = 1 ∨ (pt ≠ 1 ∧ q = e)) {at' : Int32} (ha : pt = 1 → at' = nI e) : OK (fX12_isWord_s8 at' (nI q) (-1) pt A) (fun b => b = true ↔ wm A q e 4 sB0) := by
  unfold fX12_isWord_s8
  refine OK.bind (Q := fun b => b = true ↔ e - q = 4) (OK.t rfl ?_) ?_
  · rcases hp with hp | ⟨hp, hqe⟩
    · rw [ha hp]
      refine OK.t hp (OK.eq len_s8 ?_)
      rw [sub_nI hq (by omega)]
      exact OK.ite (fun c => OK.ret ⟨fun _ => (nI_inj (by omega) (by omega)).mp c, fun _ => rfl⟩) (fun c => OK.ret ⟨fun z => absurd z (by decide), fun z => absurd (by rw [z]) c⟩)
    · exact OK.f hp (OK.ret ⟨fun z => absurd z (by decide), fun z => by omega⟩)
  · intro b hb
    cases b with
    | false => exact OK.bind (Q := fun z => z = false) (OK.loop (fun k v => v = (false, 0)) 0 (by omega) rfl (fun k v hk => by omega) (by rintro v rfl; exact OK.f (by simp) (OK.inr rfl))) (fun z hz => OK.ret ⟨fun c => by rw [hz] at c; exact absurd c (by decide), fun c => absurd (hb.mpr c.1) (by decide)⟩)
    | true =>
      have hl := hb.mp rfl
      refine OK.bind (Q := fun z => z = true ↔ wm A q e 4 sB0) (OK.loopx (fun k v => v.2 = nI k ∧ ((v.1 = true ∧ ∀ j, j < k → A (q + j) = sB0 j) ∨ (v.1 = false ∧ ¬ wm A q e 4 sB0))) 4 (by omega) ⟨rfl, Or.inl ⟨rfl, fun j hj => by omega⟩⟩ ?_ ?_) (fun z hz => OK.ret hz)
      · rintro k ⟨v1, v2⟩ hk ⟨rfl, ⟨rfl, hv⟩ | ⟨rfl, hv⟩⟩
        · simp only at hv ⊢
          refine OK.t trivial (OK.eq len_s8 (OK.f (nle hk (by omega)) ?_))
          rw [nI_add]
          refine OK.g (ein_nI (by omega) (by omega)) (OK.eq (chr_s8 hk) ?_)
          rw [tn_nI (by omega)]
          by_cases c : A (q + k) = sB0 k
          · exact OK.eq (z := true) (by rw [if_pos c]) ⟨_, rfl, Or.inl ⟨_, rfl, nI_s1 k, Or.inl ⟨rfl, allm hv c⟩⟩⟩
          · exact OK.eq (z := false) (by rw [if_neg c]) ⟨_, rfl, Or.inl ⟨_, rfl, nI_s1 k, Or.inr ⟨rfl, fun w => c (w.2 k hk)⟩⟩⟩
        · exact OK.f (by simp) ⟨_, rfl, Or.inr ⟨_, rfl, ⟨fun c => absurd c (by simp), fun c => absurd c hv⟩⟩⟩
      · rintro ⟨v1, v2⟩ ⟨rfl, ⟨rfl, hv⟩ | ⟨rfl, hv⟩⟩
        · simp only at hv ⊢
          exact OK.t trivial (OK.eq len_s8 (OK.t (yle (by omega)) (OK.inr ⟨fun _ => ⟨hl, hv⟩, fun _ => rfl⟩)))
        · exact OK.f (by simp) (OK.inr ⟨fun c => absurd c (by simp), fun c => absurd c hv⟩)
theorem word_s8 {n p q e : Nat} {A B : Nat → Int32} {at' fr pt nb : Int32} (ht : tpe n A B) (hq : isE (blk A) n p q) (he : isE (sml A) n q e) (hk : tokR A n p at' fr pt nb) : ∃ b, fX5_spells_s8 (nI n) (nI e) (nI q) A = some b ∧ fX12_isWord_s8 at' fr (-1) pt B = some b ∧ (b = true → at' = nI e ∧ q < e) := by
  have hn := ht.1
  have h1 := he.1
  have h2 := he.2.1
  obtain ⟨q2, hq2, rfl, hk⟩ := hk
  have e1 := isE_eq hq hq2
  subst e1
  have pw : (pt = 1 ∨ (pt ≠ 1 ∧ q = e)) ∧ (pt = 1 → at' = nI e) := by
    have notw : sml A q = false ∨ q = n → q = e := fun hs => by
      by_cases c : q < e
      · rcases hs with hs | hs
        · have := he.2.2.1 q (Nat.le_refl _) c; rw [hs] at this; exact absurd this (by decide)
        · omega
      · omega
    rcases hk with ⟨k1, k2⟩ | ⟨k1, k2, k3, e2, k4, k5⟩ | ⟨k1, k2, b, e2, k3, _⟩ | ⟨k1, k2, k3, k4, _⟩
    · exact ⟨Or.inr ⟨by rw [k2]; decide, notw (Or.inr k1)⟩, fun z => by rw [k2] at z; exact absurd z (by decide)⟩
    · have := isE_eq he k4
      subst this
      exact ⟨Or.inl k3, fun _ => k5⟩
    · refine ⟨Or.inr ⟨by rw [k2]; decide, notw (Or.inl ?_)⟩, fun z => by rw [k2] at z; exact absurd z (by decide)⟩
      unfold sml
      apply decide_eq_false
      rcases k3.1 with ⟨_, w⟩ | ⟨_, w, _⟩
      · have w := of_decide_eq_true w; omega
      · rw [w]; decide
    · exact ⟨Or.inr ⟨by rw [k2]; decide, notw (Or.inl k4)⟩, fun z => by rw [k2] at z; exact absurd z (by decide)⟩
  obtain ⟨b, hb, hb2⟩ := spells_s8 (A := A) hn h1 h2
  obtain ⟨b', hb', hb2'⟩ := isWord_s8 (A := B) hn h1 h2 pw.1 pw.2
  have ew : wm A q e 4 sB0 ↔ wm B q e 4 sB0 := by
    unfold wm
    constructor
    · rintro ⟨w1, w2⟩; exact ⟨w1, fun j hj => by rw [← ht.2.1 (q + j) (by omega)]; exact w2 j hj⟩
    · rintro ⟨w1, w2⟩; exact ⟨w1, fun j hj => by rw [ht.2.1 (q + j) (by omega)]; exact w2 j hj⟩
  have eb : b = b' := by rw [Bool.eq_iff_iff, hb2, hb2', ew]
  subst eb
  refine ⟨b, hb, hb', fun hbt => ?_⟩
  have w := hb2.mp hbt
  have wl := w.1
  rcases pw.1 with z | ⟨_, z⟩
  · exact ⟨pw.2 z, by omega⟩
  · omega
theorem len_s9 : fJ0_length_8abf5_s9 = some (nI 4) := by decide
theorem chr_s9 {j : Nat} (hj : j < 4) : fJ0_charAt_5068e_s9 (nI j) = some (sB1 j) := by
  have key : ∀ j : Fin 4, fJ0_charAt_5068e_s9 (nI j.val) = some (sB1 j.val) := by decide +kernel
  exact key ⟨j, hj⟩
theorem spells_s9 {n q e : Nat} {A : Nat → Int32} (hn : n ≤ 300) (hq : q ≤ e) (he : e ≤ n) : OK (fX5_spells_s9 (nI n) (nI e) (nI q) A) (fun b => b = true ↔ wm A q e 4 sB1) := by
  unfold fX5_spells_s9
  refine OK.eq len_s9 ?_
  rw [sub_nI hq (by omega)]
  by_cases hl : e - q = 4
  · refine OK.t (by rw [hl]) (OK.bind (Q := fun z => (z = .inl () ∧ wm A q e 4 sB1) ∨ (z = .inr false ∧ ¬ wm A q e 4 sB1)) (OK.loopx (fun k v => v = nI k ∧ ∀ j, j < k → A (q + j) = sB1 j) 4 (by omega) ⟨rfl, fun j hj => by omega⟩ ?_ ?_) ?_)
    · rintro k v hk ⟨rfl, hv⟩
      refine OK.eq len_s9 (OK.f (nle hk (by omega)) ?_)
      rw [nI_add]
      refine OK.eq (byteAt_eq hn (show q + k < n by omega)) (OK.eq (chr_s9 hk) (OK.ite (fun c => ⟨_, rfl, Or.inl ⟨_, rfl, nI_s1 k, allm hv c⟩⟩) (fun c => ⟨_, rfl, Or.inr ⟨_, rfl, Or.inr ⟨rfl, fun w => c (w.2 k hk)⟩⟩⟩)))
    · rintro v ⟨rfl, hv⟩
      exact OK.eq len_s9 (OK.t (yle (by omega)) (OK.inr (Or.inl ⟨rfl, hl, hv⟩)))
    · rintro z (⟨rfl, h⟩ | ⟨rfl, h⟩)
      · exact OK.ret ⟨fun _ => h, fun _ => rfl⟩
      · exact OK.ret ⟨fun c => absurd c (by decide), fun c => absurd c h⟩
  · refine OK.f (by rw [nI_inj (by omega) (by omega)]; exact hl) (OK.ret ⟨fun c => absurd c (by decide), fun c => absurd c.1 hl⟩)
theorem isWord_s9 {n q e : Nat} {A : Nat → Int32} {pt : Int32} (hn : n ≤ 300) (hq : q ≤ e) (he : e ≤ n) (hp : pt = 1 ∨ (pt ≠ 1 ∧ q = e)) {at' : Int32} (ha : pt = 1 → at' = nI e) : OK (fX12_isWord_s9 at' (nI q) (-1) pt A) (fun b => b = true ↔ wm A q e 4 sB1) := by
  unfold fX12_isWord_s9
  refine OK.bind (Q := fun b => b = true ↔ e - q = 4) (OK.t rfl ?_) ?_
  · rcases hp with hp | ⟨hp, hqe⟩
    · rw [ha hp]
      refine OK.t hp (OK.eq len_s9 ?_)
      rw [sub_nI hq (by omega)]
      exact OK.ite (fun c => OK.ret ⟨fun _ => (nI_inj (by omega) (by omega)).mp c, fun _ => rfl⟩) (fun c => OK.ret ⟨fun z => absurd z (by decide), fun z => absurd (by rw [z]) c⟩)
    · exact OK.f hp (OK.ret ⟨fun z => absurd z (by decide), fun z => by omega⟩)
  · intro b hb
    cases b with
    | false => exact OK.bind (Q := fun z => z = false) (OK.loop (fun k v => v = (false, 0)) 0 (by omega) rfl (fun k v hk => by omega) (by rintro v rfl; exact OK.f (by simp) (OK.inr rfl))) (fun z hz => OK.ret ⟨fun c => by rw [hz] at c; exact absurd c (by decide), fun c => absurd (hb.mpr c.1) (by decide)⟩)
    | true =>
      have hl := hb.mp rfl
      refine OK.bind (Q := fun z => z = true ↔ wm A q e 4 sB1) (OK.loopx (fun k v => v.2 = nI k ∧ ((v.1 = true ∧ ∀ j, j < k → A (q + j) = sB1 j) ∨ (v.1 = false ∧ ¬ wm A q e 4 sB1))) 4 (by omega) ⟨rfl, Or.inl ⟨rfl, fun j hj => by omega⟩⟩ ?_ ?_) (fun z hz => OK.ret hz)
      · rintro k ⟨v1, v2⟩ hk ⟨rfl, ⟨rfl, hv⟩ | ⟨rfl, hv⟩⟩
        · simp only at hv ⊢
          refine OK.t trivial (OK.eq len_s9 (OK.f (nle hk (by omega)) ?_))
          rw [nI_add]
          refine OK.g (ein_nI (by omega) (by omega)) (OK.eq (chr_s9 hk) ?_)
          rw [tn_nI (by omega)]
          by_cases c : A (q + k) = sB1 k
          · exact OK.eq (z := true) (by rw [if_pos c]) ⟨_, rfl, Or.inl ⟨_, rfl, nI_s1 k, Or.inl ⟨rfl, allm hv c⟩⟩⟩
          · exact OK.eq (z := false) (by rw [if_neg c]) ⟨_, rfl, Or.inl ⟨_, rfl, nI_s1 k, Or.inr ⟨rfl, fun w => c (w.2 k hk)⟩⟩⟩
        · exact OK.f (by simp) ⟨_, rfl, Or.inr ⟨_, rfl, ⟨fun c => absurd c (by simp), fun c => absurd c hv⟩⟩⟩
      · rintro ⟨v1, v2⟩ ⟨rfl, ⟨rfl, hv⟩ | ⟨rfl, hv⟩⟩
        · simp only at hv ⊢
          exact OK.t trivial (OK.eq len_s9 (OK.t (yle (by omega)) (OK.inr ⟨fun _ => ⟨hl, hv⟩, fun _ => rfl⟩)))
        · exact OK.f (by simp) (OK.inr ⟨fun c => absurd c (by simp), fun c => absurd c hv⟩)
theorem word_s9 {n p q e : Nat} {A B : Nat → Int32} {at' fr pt nb : Int32} (ht : tpe n A B) (hq : isE (blk A) n p q) (he : isE (sml A) n q e) (hk : tokR A n p at' fr pt nb) : ∃ b, fX5_spells_s9 (nI n) (nI e) (nI q) A = some b ∧ fX12_isWord_s9 at' fr (-1) pt B = some b ∧ (b = true → at' = nI e ∧ q < e) := by
  have hn := ht.1
  have h1 := he.1
  have h2 := he.2.1
  obtain ⟨q2, hq2, rfl, hk⟩ := hk
  have e1 := isE_eq hq hq2
  subst e1
  have pw : (pt = 1 ∨ (pt ≠ 1 ∧ q = e)) ∧ (pt = 1 → at' = nI e) := by
    have notw : sml A q = false ∨ q = n → q = e := fun hs => by
      by_cases c : q < e
      · rcases hs with hs | hs
        · have := he.2.2.1 q (Nat.le_refl _) c; rw [hs] at this; exact absurd this (by decide)
        · omega
      · omega
    rcases hk with ⟨k1, k2⟩ | ⟨k1, k2, k3, e2, k4, k5⟩ | ⟨k1, k2, b, e2, k3, _⟩ | ⟨k1, k2, k3, k4, _⟩
    · exact ⟨Or.inr ⟨by rw [k2]; decide, notw (Or.inr k1)⟩, fun z => by rw [k2] at z; exact absurd z (by decide)⟩
    · have := isE_eq he k4
      subst this
      exact ⟨Or.inl k3, fun _ => k5⟩
    · refine ⟨Or.inr ⟨by rw [k2]; decide, notw (Or.inl ?_)⟩, fun z => by rw [k2] at z; exact absurd z (by decide)⟩
      unfold sml
      apply decide_eq_false
      rcases k3.1 with ⟨_, w⟩ | ⟨_, w, _⟩
      · have w := of_decide_eq_true w; omega
      · rw [w]; decide
    · exact ⟨Or.inr ⟨by rw [k2]; decide, notw (Or.inl k4)⟩, fun z => by rw [k2] at z; exact absurd z (by decide)⟩
  obtain ⟨b, hb, hb2⟩ := spells_s9 (A := A) hn h1 h2
  obtain ⟨b', hb', hb2'⟩ := isWord_s9 (A := B) hn h1 h2 pw.1 pw.2
  have ew : wm A q e 4 sB1 ↔ wm B q e 4 sB1 := by
    unfold wm
    constructor
    · rintro ⟨w1, w2⟩; exact ⟨w1, fun j hj => by rw [← ht.2.1 (q + j) (by omega)]; exact w2 j hj⟩
    · rintro ⟨w1, w2⟩; exact ⟨w1, fun j hj => by rw [ht.2.1 (q + j) (by omega)]; exact w2 j hj⟩
  have eb : b = b' := by rw [Bool.eq_iff_iff, hb2, hb2', ew]
  subst eb
  refine ⟨b, hb, hb', fun hbt => ?_⟩
  have w := hb2.mp hbt
  have wl := w.1
  rcases pw.1 with z | ⟨_, z⟩
  · exact ⟨pw.2 z, by omega⟩
  · omega
theorem len_s10 : fJ0_length_8abf5_s10 = some (nI 6) := by decide
theorem chr_s10 {j : Nat} (hj : j < 6) : fJ0_charAt_5068e_s10 (nI j) = some (sB2 j) := by
  have key : ∀ j : Fin 6, fJ0_charAt_5068e_s10 (nI j.val) = some (sB2 j.val) := by decide +kernel
  exact key ⟨j, hj⟩
theorem spells_s10 {n q e : Nat} {A : Nat → Int32} (hn : n ≤ 300) (hq : q ≤ e) (he : e ≤ n) : OK (fX5_spells_s10 (nI n) (nI e) (nI q) A) (fun b => b = true ↔ wm A q e 6 sB2) := by
  unfold fX5_spells_s10
  refine OK.eq len_s10 ?_
  rw [sub_nI hq (by omega)]
  by_cases hl : e - q = 6
  · refine OK.t (by rw [hl]) (OK.bind (Q := fun z => (z = .inl () ∧ wm A q e 6 sB2) ∨ (z = .inr false ∧ ¬ wm A q e 6 sB2)) (OK.loopx (fun k v => v = nI k ∧ ∀ j, j < k → A (q + j) = sB2 j) 6 (by omega) ⟨rfl, fun j hj => by omega⟩ ?_ ?_) ?_)
    · rintro k v hk ⟨rfl, hv⟩
      refine OK.eq len_s10 (OK.f (nle hk (by omega)) ?_)
      rw [nI_add]
      refine OK.eq (byteAt_eq hn (show q + k < n by omega)) (OK.eq (chr_s10 hk) (OK.ite (fun c => ⟨_, rfl, Or.inl ⟨_, rfl, nI_s1 k, allm hv c⟩⟩) (fun c => ⟨_, rfl, Or.inr ⟨_, rfl, Or.inr ⟨rfl, fun w => c (w.2 k hk)⟩⟩⟩)))
    · rintro v ⟨rfl, hv⟩
      exact OK.eq len_s10 (OK.t (yle (by omega)) (OK.inr (Or.inl ⟨rfl, hl, hv⟩)))
    · rintro z (⟨rfl, h⟩ | ⟨rfl, h⟩)
      · exact OK.ret ⟨fun _ => h, fun _ => rfl⟩
      · exact OK.ret ⟨fun c => absurd c (by decide), fun c => absurd c h⟩
  · refine OK.f (by rw [nI_inj (by omega) (by omega)]; exact hl) (OK.ret ⟨fun c => absurd c (by decide), fun c => absurd c.1 hl⟩)
theorem isWord_s10 {n q e : Nat} {A : Nat → Int32} {pt : Int32} (hn : n ≤ 300) (hq : q ≤ e) (he : e ≤ n) (hp : pt = 1 ∨ (pt ≠ 1 ∧ q = e)) {at' : Int32} (ha : pt = 1 → at' = nI e) : OK (fX12_isWord_s10 at' (nI q) (-1) pt A) (fun b => b = true ↔ wm A q e 6 sB2) := by
  unfold fX12_isWord_s10
  refine OK.bind (Q := fun b => b = true ↔ e - q = 6) (OK.t rfl ?_) ?_
  · rcases hp with hp | ⟨hp, hqe⟩
    · rw [ha hp]
      refine OK.t hp (OK.eq len_s10 ?_)
      rw [sub_nI hq (by omega)]
      exact OK.ite (fun c => OK.ret ⟨fun _ => (nI_inj (by omega) (by omega)).mp c, fun _ => rfl⟩) (fun c => OK.ret ⟨fun z => absurd z (by decide), fun z => absurd (by rw [z]) c⟩)
    · exact OK.f hp (OK.ret ⟨fun z => absurd z (by decide), fun z => by omega⟩)
  · intro b hb
    cases b with
    | false => exact OK.bind (Q := fun z => z = false) (OK.loop (fun k v => v = (false, 0)) 0 (by omega) rfl (fun k v hk => by omega) (by rintro v rfl; exact OK.f (by simp) (OK.inr rfl))) (fun z hz => OK.ret ⟨fun c => by rw [hz] at c; exact absurd c (by decide), fun c => absurd (hb.mpr c.1) (by decide)⟩)
    | true =>
      have hl := hb.mp rfl
      refine OK.bind (Q := fun z => z = true ↔ wm A q e 6 sB2) (OK.loopx (fun k v => v.2 = nI k ∧ ((v.1 = true ∧ ∀ j, j < k → A (q + j) = sB2 j) ∨ (v.1 = false ∧ ¬ wm A q e 6 sB2))) 6 (by omega) ⟨rfl, Or.inl ⟨rfl, fun j hj => by omega⟩⟩ ?_ ?_) (fun z hz => OK.ret hz)
      · rintro k ⟨v1, v2⟩ hk ⟨rfl, ⟨rfl, hv⟩ | ⟨rfl, hv⟩⟩
        · simp only at hv ⊢
          refine OK.t trivial (OK.eq len_s10 (OK.f (nle hk (by omega)) ?_))
          rw [nI_add]
          refine OK.g (ein_nI (by omega) (by omega)) (OK.eq (chr_s10 hk) ?_)
          rw [tn_nI (by omega)]
          by_cases c : A (q + k) = sB2 k
          · exact OK.eq (z := true) (by rw [if_pos c]) ⟨_, rfl, Or.inl ⟨_, rfl, nI_s1 k, Or.inl ⟨rfl, allm hv c⟩⟩⟩
          · exact OK.eq (z := false) (by rw [if_neg c]) ⟨_, rfl, Or.inl ⟨_, rfl, nI_s1 k, Or.inr ⟨rfl, fun w => c (w.2 k hk)⟩⟩⟩
        · exact OK.f (by simp) ⟨_, rfl, Or.inr ⟨_, rfl, ⟨fun c => absurd c (by simp), fun c => absurd c hv⟩⟩⟩
      · rintro ⟨v1, v2⟩ ⟨rfl, ⟨rfl, hv⟩ | ⟨rfl, hv⟩⟩
        · simp only at hv ⊢
          exact OK.t trivial (OK.eq len_s10 (OK.t (yle (by omega)) (OK.inr ⟨fun _ => ⟨hl, hv⟩, fun _ => rfl⟩)))
        · exact OK.f (by simp) (OK.inr ⟨fun c => absurd c (by simp), fun c => absurd c hv⟩)
theorem word_s10 {n p q e : Nat} {A B : Nat → Int32} {at' fr pt nb : Int32} (ht : tpe n A B) (hq : isE (blk A) n p q) (he : isE (sml A) n q e) (hk : tokR A n p at' fr pt nb) : ∃ b, fX5_spells_s10 (nI n) (nI e) (nI q) A = some b ∧ fX12_isWord_s10 at' fr (-1) pt B = some b ∧ (b = true → at' = nI e ∧ q < e) := by
  have hn := ht.1
  have h1 := he.1
  have h2 := he.2.1
  obtain ⟨q2, hq2, rfl, hk⟩ := hk
  have e1 := isE_eq hq hq2
  subst e1
  have pw : (pt = 1 ∨ (pt ≠ 1 ∧ q = e)) ∧ (pt = 1 → at' = nI e) := by
    have notw : sml A q = false ∨ q = n → q = e := fun hs => by
      by_cases c : q < e
      · rcases hs with hs | hs
        · have := he.2.2.1 q (Nat.le_refl _) c; rw [hs] at this; exact absurd this (by decide)
        · omega
      · omega
    rcases hk with ⟨k1, k2⟩ | ⟨k1, k2, k3, e2, k4, k5⟩ | ⟨k1, k2, b, e2, k3, _⟩ | ⟨k1, k2, k3, k4, _⟩
    · exact ⟨Or.inr ⟨by rw [k2]; decide, notw (Or.inr k1)⟩, fun z => by rw [k2] at z; exact absurd z (by decide)⟩
    · have := isE_eq he k4
      subst this
      exact ⟨Or.inl k3, fun _ => k5⟩
    · refine ⟨Or.inr ⟨by rw [k2]; decide, notw (Or.inl ?_)⟩, fun z => by rw [k2] at z; exact absurd z (by decide)⟩
      unfold sml
      apply decide_eq_false
      rcases k3.1 with ⟨_, w⟩ | ⟨_, w, _⟩
      · have w := of_decide_eq_true w; omega
      · rw [w]; decide
    · exact ⟨Or.inr ⟨by rw [k2]; decide, notw (Or.inl k4)⟩, fun z => by rw [k2] at z; exact absurd z (by decide)⟩
  obtain ⟨b, hb, hb2⟩ := spells_s10 (A := A) hn h1 h2
  obtain ⟨b', hb', hb2'⟩ := isWord_s10 (A := B) hn h1 h2 pw.1 pw.2
  have ew : wm A q e 6 sB2 ↔ wm B q e 6 sB2 := by
    unfold wm
    constructor
    · rintro ⟨w1, w2⟩; exact ⟨w1, fun j hj => by rw [← ht.2.1 (q + j) (by omega)]; exact w2 j hj⟩
    · rintro ⟨w1, w2⟩; exact ⟨w1, fun j hj => by rw [ht.2.1 (q + j) (by omega)]; exact w2 j hj⟩
  have eb : b = b' := by rw [Bool.eq_iff_iff, hb2, hb2', ew]
  subst eb
  refine ⟨b, hb, hb', fun hbt => ?_⟩
  have w := hb2.mp hbt
  have wl := w.1
  rcases pw.1 with z | ⟨_, z⟩
  · exact ⟨pw.2 z, by omega⟩
  · omega
theorem len_s11 : fJ0_length_8abf5_s11 = some (nI 4) := by decide
theorem chr_s11 {j : Nat} (hj : j < 4) : fJ0_charAt_5068e_s11 (nI j) = some (sB3 j) := by
  have key : ∀ j : Fin 4, fJ0_charAt_5068e_s11 (nI j.val) = some (sB3 j.val) := by decide +kernel
  exact key ⟨j, hj⟩
theorem spells_s11 {n q e : Nat} {A : Nat → Int32} (hn : n ≤ 300) (hq : q ≤ e) (he : e ≤ n) : OK (fX5_spells_s11 (nI n) (nI e) (nI q) A) (fun b => b = true ↔ wm A q e 4 sB3) := by
  unfold fX5_spells_s11
  refine OK.eq len_s11 ?_
  rw [sub_nI hq (by omega)]
  by_cases hl : e - q = 4
  · refine OK.t (by rw [hl]) (OK.bind (Q := fun z => (z = .inl () ∧ wm A q e 4 sB3) ∨ (z = .inr false ∧ ¬ wm A q e 4 sB3)) (OK.loopx (fun k v => v = nI k ∧ ∀ j, j < k → A (q + j) = sB3 j) 4 (by omega) ⟨rfl, fun j hj => by omega⟩ ?_ ?_) ?_)
    · rintro k v hk ⟨rfl, hv⟩
      refine OK.eq len_s11 (OK.f (nle hk (by omega)) ?_)
      rw [nI_add]
      refine OK.eq (byteAt_eq hn (show q + k < n by omega)) (OK.eq (chr_s11 hk) (OK.ite (fun c => ⟨_, rfl, Or.inl ⟨_, rfl, nI_s1 k, allm hv c⟩⟩) (fun c => ⟨_, rfl, Or.inr ⟨_, rfl, Or.inr ⟨rfl, fun w => c (w.2 k hk)⟩⟩⟩)))
    · rintro v ⟨rfl, hv⟩
      exact OK.eq len_s11 (OK.t (yle (by omega)) (OK.inr (Or.inl ⟨rfl, hl, hv⟩)))
    · rintro z (⟨rfl, h⟩ | ⟨rfl, h⟩)
      · exact OK.ret ⟨fun _ => h, fun _ => rfl⟩
      · exact OK.ret ⟨fun c => absurd c (by decide), fun c => absurd c h⟩
  · refine OK.f (by rw [nI_inj (by omega) (by omega)]; exact hl) (OK.ret ⟨fun c => absurd c (by decide), fun c => absurd c.1 hl⟩)
theorem isWord_s11 {n q e : Nat} {A : Nat → Int32} {pt : Int32} (hn : n ≤ 300) (hq : q ≤ e) (he : e ≤ n) (hp : pt = 1 ∨ (pt ≠ 1 ∧ q = e)) {at' : Int32} (ha : pt = 1 → at' = nI e) : OK (fX12_isWord_s11 at' (nI q) (-1) pt A) (fun b => b = true ↔ wm A q e 4 sB3) := by
  unfold fX12_isWord_s11
  refine OK.bind (Q := fun b => b = true ↔ e - q = 4) (OK.t rfl ?_) ?_
  · rcases hp with hp | ⟨hp, hqe⟩
    · rw [ha hp]
      refine OK.t hp (OK.eq len_s11 ?_)
      rw [sub_nI hq (by omega)]
      exact OK.ite (fun c => OK.ret ⟨fun _ => (nI_inj (by omega) (by omega)).mp c, fun _ => rfl⟩) (fun c => OK.ret ⟨fun z => absurd z (by decide), fun z => absurd (by rw [z]) c⟩)
    · exact OK.f hp (OK.ret ⟨fun z => absurd z (by decide), fun z => by omega⟩)
  · intro b hb
    cases b with
    | false => exact OK.bind (Q := fun z => z = false) (OK.loop (fun k v => v = (false, 0)) 0 (by omega) rfl (fun k v hk => by omega) (by rintro v rfl; exact OK.f (by simp) (OK.inr rfl))) (fun z hz => OK.ret ⟨fun c => by rw [hz] at c; exact absurd c (by decide), fun c => absurd (hb.mpr c.1) (by decide)⟩)
    | true =>
      have hl := hb.mp rfl
      refine OK.bind (Q := fun z => z = true ↔ wm A q e 4 sB3) (OK.loopx (fun k v => v.2 = nI k ∧ ((v.1 = true ∧ ∀ j, j < k → A (q + j) = sB3 j) ∨ (v.1 = false ∧ ¬ wm A q e 4 sB3))) 4 (by omega) ⟨rfl, Or.inl ⟨rfl, fun j hj => by omega⟩⟩ ?_ ?_) (fun z hz => OK.ret hz)
      · rintro k ⟨v1, v2⟩ hk ⟨rfl, ⟨rfl, hv⟩ | ⟨rfl, hv⟩⟩
        · simp only at hv ⊢
          refine OK.t trivial (OK.eq len_s11 (OK.f (nle hk (by omega)) ?_))
          rw [nI_add]
          refine OK.g (ein_nI (by omega) (by omega)) (OK.eq (chr_s11 hk) ?_)
          rw [tn_nI (by omega)]
          by_cases c : A (q + k) = sB3 k
          · exact OK.eq (z := true) (by rw [if_pos c]) ⟨_, rfl, Or.inl ⟨_, rfl, nI_s1 k, Or.inl ⟨rfl, allm hv c⟩⟩⟩
          · exact OK.eq (z := false) (by rw [if_neg c]) ⟨_, rfl, Or.inl ⟨_, rfl, nI_s1 k, Or.inr ⟨rfl, fun w => c (w.2 k hk)⟩⟩⟩
        · exact OK.f (by simp) ⟨_, rfl, Or.inr ⟨_, rfl, ⟨fun c => absurd c (by simp), fun c => absurd c hv⟩⟩⟩
      · rintro ⟨v1, v2⟩ ⟨rfl, ⟨rfl, hv⟩ | ⟨rfl, hv⟩⟩
        · simp only at hv ⊢
          exact OK.t trivial (OK.eq len_s11 (OK.t (yle (by omega)) (OK.inr ⟨fun _ => ⟨hl, hv⟩, fun _ => rfl⟩)))
        · exact OK.f (by simp) (OK.inr ⟨fun c => absurd c (by simp), fun c => absurd c hv⟩)
theorem word_s11 {n p q e : Nat} {A B : Nat → Int32} {at' fr pt nb : Int32} (ht : tpe n A B) (hq : isE (blk A) n p q) (he : isE (sml A) n q e) (hk : tokR A n p at' fr pt nb) : ∃ b, fX5_spells_s11 (nI n) (nI e) (nI q) A = some b ∧ fX12_isWord_s11 at' fr (-1) pt B = some b ∧ (b = true → at' = nI e ∧ q < e) := by
  have hn := ht.1
  have h1 := he.1
  have h2 := he.2.1
  obtain ⟨q2, hq2, rfl, hk⟩ := hk
  have e1 := isE_eq hq hq2
  subst e1
  have pw : (pt = 1 ∨ (pt ≠ 1 ∧ q = e)) ∧ (pt = 1 → at' = nI e) := by
    have notw : sml A q = false ∨ q = n → q = e := fun hs => by
      by_cases c : q < e
      · rcases hs with hs | hs
        · have := he.2.2.1 q (Nat.le_refl _) c; rw [hs] at this; exact absurd this (by decide)
        · omega
      · omega
    rcases hk with ⟨k1, k2⟩ | ⟨k1, k2, k3, e2, k4, k5⟩ | ⟨k1, k2, b, e2, k3, _⟩ | ⟨k1, k2, k3, k4, _⟩
    · exact ⟨Or.inr ⟨by rw [k2]; decide, notw (Or.inr k1)⟩, fun z => by rw [k2] at z; exact absurd z (by decide)⟩
    · have := isE_eq he k4
      subst this
      exact ⟨Or.inl k3, fun _ => k5⟩
    · refine ⟨Or.inr ⟨by rw [k2]; decide, notw (Or.inl ?_)⟩, fun z => by rw [k2] at z; exact absurd z (by decide)⟩
      unfold sml
      apply decide_eq_false
      rcases k3.1 with ⟨_, w⟩ | ⟨_, w, _⟩
      · have w := of_decide_eq_true w; omega
      · rw [w]; decide
    · exact ⟨Or.inr ⟨by rw [k2]; decide, notw (Or.inl k4)⟩, fun z => by rw [k2] at z; exact absurd z (by decide)⟩
  obtain ⟨b, hb, hb2⟩ := spells_s11 (A := A) hn h1 h2
  obtain ⟨b', hb', hb2'⟩ := isWord_s11 (A := B) hn h1 h2 pw.1 pw.2
  have ew : wm A q e 4 sB3 ↔ wm B q e 4 sB3 := by
    unfold wm
    constructor
    · rintro ⟨w1, w2⟩; exact ⟨w1, fun j hj => by rw [← ht.2.1 (q + j) (by omega)]; exact w2 j hj⟩
    · rintro ⟨w1, w2⟩; exact ⟨w1, fun j hj => by rw [ht.2.1 (q + j) (by omega)]; exact w2 j hj⟩
  have eb : b = b' := by rw [Bool.eq_iff_iff, hb2, hb2', ew]
  subst eb
  refine ⟨b, hb, hb', fun hbt => ?_⟩
  have w := hb2.mp hbt
  have wl := w.1
  rcases pw.1 with z | ⟨_, z⟩
  · exact ⟨pw.2 z, by omega⟩
  · omega
theorem len_s12 : fJ0_length_8abf5_s12 = some (nI 4) := by decide
theorem chr_s12 {j : Nat} (hj : j < 4) : fJ0_charAt_5068e_s12 (nI j) = some (sB4 j) := by
  have key : ∀ j : Fin 4, fJ0_charAt_5068e_s12 (nI j.val) = some (sB4 j.val) := by decide +kernel
  exact key ⟨j, hj⟩
theorem spells_s12 {n q e : Nat} {A : Nat → Int32} (hn : n ≤ 300) (hq : q ≤ e) (he : e ≤ n) : OK (fX5_spells_s12 (nI n) (nI e) (nI q) A) (fun b => b = true ↔ wm A q e 4 sB4) := by
  unfold fX5_spells_s12
  refine OK.eq len_s12 ?_
  rw [sub_nI hq (by omega)]
  by_cases hl : e - q = 4
  · refine OK.t (by rw [hl]) (OK.bind (Q := fun z => (z = .inl () ∧ wm A q e 4 sB4) ∨ (z = .inr false ∧ ¬ wm A q e 4 sB4)) (OK.loopx (fun k v => v = nI k ∧ ∀ j, j < k → A (q + j) = sB4 j) 4 (by omega) ⟨rfl, fun j hj => by omega⟩ ?_ ?_) ?_)
    · rintro k v hk ⟨rfl, hv⟩
      refine OK.eq len_s12 (OK.f (nle hk (by omega)) ?_)
      rw [nI_add]
      refine OK.eq (byteAt_eq hn (show q + k < n by omega)) (OK.eq (chr_s12 hk) (OK.ite (fun c => ⟨_, rfl, Or.inl ⟨_, rfl, nI_s1 k, allm hv c⟩⟩) (fun c => ⟨_, rfl, Or.inr ⟨_, rfl, Or.inr ⟨rfl, fun w => c (w.2 k hk)⟩⟩⟩)))
    · rintro v ⟨rfl, hv⟩
      exact OK.eq len_s12 (OK.t (yle (by omega)) (OK.inr (Or.inl ⟨rfl, hl, hv⟩)))
    · rintro z (⟨rfl, h⟩ | ⟨rfl, h⟩)
      · exact OK.ret ⟨fun _ => h, fun _ => rfl⟩
      · exact OK.ret ⟨fun c => absurd c (by decide), fun c => absurd c h⟩
  · refine OK.f (by rw [nI_inj (by omega) (by omega)]; exact hl) (OK.ret ⟨fun c => absurd c (by decide), fun c => absurd c.1 hl⟩)
theorem isWord_s12 {n q e : Nat} {A : Nat → Int32} {pt : Int32} (hn : n ≤ 300) (hq : q ≤ e) (he : e ≤ n) (hp : pt = 1 ∨ (pt ≠ 1 ∧ q = e)) {at' : Int32} (ha : pt = 1 → at' = nI e) : OK (fX12_isWord_s12 at' (nI q) (-1) pt A) (fun b => b = true ↔ wm A q e 4 sB4) := by
  unfold fX12_isWord_s12
  refine OK.bind (Q := fun b => b = true ↔ e - q = 4) (OK.t rfl ?_) ?_
  · rcases hp with hp | ⟨hp, hqe⟩
    · rw [ha hp]
      refine OK.t hp (OK.eq len_s12 ?_)
      rw [sub_nI hq (by omega)]
      exact OK.ite (fun c => OK.ret ⟨fun _ => (nI_inj (by omega) (by omega)).mp c, fun _ => rfl⟩) (fun c => OK.ret ⟨fun z => absurd z (by decide), fun z => absurd (by rw [z]) c⟩)
    · exact OK.f hp (OK.ret ⟨fun z => absurd z (by decide), fun z => by omega⟩)
  · intro b hb
    cases b with
    | false => exact OK.bind (Q := fun z => z = false) (OK.loop (fun k v => v = (false, 0)) 0 (by omega) rfl (fun k v hk => by omega) (by rintro v rfl; exact OK.f (by simp) (OK.inr rfl))) (fun z hz => OK.ret ⟨fun c => by rw [hz] at c; exact absurd c (by decide), fun c => absurd (hb.mpr c.1) (by decide)⟩)
    | true =>
      have hl := hb.mp rfl
      refine OK.bind (Q := fun z => z = true ↔ wm A q e 4 sB4) (OK.loopx (fun k v => v.2 = nI k ∧ ((v.1 = true ∧ ∀ j, j < k → A (q + j) = sB4 j) ∨ (v.1 = false ∧ ¬ wm A q e 4 sB4))) 4 (by omega) ⟨rfl, Or.inl ⟨rfl, fun j hj => by omega⟩⟩ ?_ ?_) (fun z hz => OK.ret hz)
      · rintro k ⟨v1, v2⟩ hk ⟨rfl, ⟨rfl, hv⟩ | ⟨rfl, hv⟩⟩
        · simp only at hv ⊢
          refine OK.t trivial (OK.eq len_s12 (OK.f (nle hk (by omega)) ?_))
          rw [nI_add]
          refine OK.g (ein_nI (by omega) (by omega)) (OK.eq (chr_s12 hk) ?_)
          rw [tn_nI (by omega)]
          by_cases c : A (q + k) = sB4 k
          · exact OK.eq (z := true) (by rw [if_pos c]) ⟨_, rfl, Or.inl ⟨_, rfl, nI_s1 k, Or.inl ⟨rfl, allm hv c⟩⟩⟩
          · exact OK.eq (z := false) (by rw [if_neg c]) ⟨_, rfl, Or.inl ⟨_, rfl, nI_s1 k, Or.inr ⟨rfl, fun w => c (w.2 k hk)⟩⟩⟩
        · exact OK.f (by simp) ⟨_, rfl, Or.inr ⟨_, rfl, ⟨fun c => absurd c (by simp), fun c => absurd c hv⟩⟩⟩
      · rintro ⟨v1, v2⟩ ⟨rfl, ⟨rfl, hv⟩ | ⟨rfl, hv⟩⟩
        · simp only at hv ⊢
          exact OK.t trivial (OK.eq len_s12 (OK.t (yle (by omega)) (OK.inr ⟨fun _ => ⟨hl, hv⟩, fun _ => rfl⟩)))
        · exact OK.f (by simp) (OK.inr ⟨fun c => absurd c (by simp), fun c => absurd c hv⟩)
theorem word_s12 {n p q e : Nat} {A B : Nat → Int32} {at' fr pt nb : Int32} (ht : tpe n A B) (hq : isE (blk A) n p q) (he : isE (sml A) n q e) (hk : tokR A n p at' fr pt nb) : ∃ b, fX5_spells_s12 (nI n) (nI e) (nI q) A = some b ∧ fX12_isWord_s12 at' fr (-1) pt B = some b ∧ (b = true → at' = nI e ∧ q < e) := by
  have hn := ht.1
  have h1 := he.1
  have h2 := he.2.1
  obtain ⟨q2, hq2, rfl, hk⟩ := hk
  have e1 := isE_eq hq hq2
  subst e1
  have pw : (pt = 1 ∨ (pt ≠ 1 ∧ q = e)) ∧ (pt = 1 → at' = nI e) := by
    have notw : sml A q = false ∨ q = n → q = e := fun hs => by
      by_cases c : q < e
      · rcases hs with hs | hs
        · have := he.2.2.1 q (Nat.le_refl _) c; rw [hs] at this; exact absurd this (by decide)
        · omega
      · omega
    rcases hk with ⟨k1, k2⟩ | ⟨k1, k2, k3, e2, k4, k5⟩ | ⟨k1, k2, b, e2, k3, _⟩ | ⟨k1, k2, k3, k4, _⟩
    · exact ⟨Or.inr ⟨by rw [k2]; decide, notw (Or.inr k1)⟩, fun z => by rw [k2] at z; exact absurd z (by decide)⟩
    · have := isE_eq he k4
      subst this
      exact ⟨Or.inl k3, fun _ => k5⟩
    · refine ⟨Or.inr ⟨by rw [k2]; decide, notw (Or.inl ?_)⟩, fun z => by rw [k2] at z; exact absurd z (by decide)⟩
      unfold sml
      apply decide_eq_false
      rcases k3.1 with ⟨_, w⟩ | ⟨_, w, _⟩
      · have w := of_decide_eq_true w; omega
      · rw [w]; decide
    · exact ⟨Or.inr ⟨by rw [k2]; decide, notw (Or.inl k4)⟩, fun z => by rw [k2] at z; exact absurd z (by decide)⟩
  obtain ⟨b, hb, hb2⟩ := spells_s12 (A := A) hn h1 h2
  obtain ⟨b', hb', hb2'⟩ := isWord_s12 (A := B) hn h1 h2 pw.1 pw.2
  have ew : wm A q e 4 sB4 ↔ wm B q e 4 sB4 := by
    unfold wm
    constructor
    · rintro ⟨w1, w2⟩; exact ⟨w1, fun j hj => by rw [← ht.2.1 (q + j) (by omega)]; exact w2 j hj⟩
    · rintro ⟨w1, w2⟩; exact ⟨w1, fun j hj => by rw [ht.2.1 (q + j) (by omega)]; exact w2 j hj⟩
  have eb : b = b' := by rw [Bool.eq_iff_iff, hb2, hb2', ew]
  subst eb
  refine ⟨b, hb, hb', fun hbt => ?_⟩
  have w := hb2.mp hbt
  have wl := w.1
  rcases pw.1 with z | ⟨_, z⟩
  · exact ⟨pw.2 z, by omega⟩
  · omega
