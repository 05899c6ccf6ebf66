/-! ===== the class's walls ===== -/
def rto (p : Nat → Nat) : Nat → Nat → Nat
  | 0, l => l
  | k + 1, l => if p l = l then l else rto p k (p l)
def root (p : Nat → Nat) (l : Nat) : Nat := rto p l l
theorem rto_eq {p : Nat → Nat} (hp : ∀ x, p x ≤ x) : ∀ (k k' l : Nat), l ≤ k → l ≤ k' → rto p k l = rto p k' l := by
  intro k
  induction k with
  | zero =>
    intro k' l h1 h2
    have e : l = 0 := by omega
    subst e
    cases k' with
    | zero => rfl
    | succ k' =>
      have := hp 0
      simp only [rto]
      rw [if_pos (by omega)]
  | succ k ih =>
    intro k' l h1 h2
    cases k' with
    | zero =>
      have e : l = 0 := by omega
      subst e
      have := hp 0
      simp only [rto]
      rw [if_pos (by omega)]
    | succ k' =>
      simp only [rto]
      by_cases e : p l = l
      · rw [if_pos e, if_pos e]
      · rw [if_neg e, if_neg e]
        have := hp l
        exact ih k' (p l) (by omega) (by omega)
theorem root_s {p : Nat → Nat} (hp : ∀ x, p x ≤ x) (l : Nat) : root p l = if p l = l then l else root p (p l) := by
  unfold root
  have := hp l
  cases l with
  | zero =>
    rw [if_pos (by omega)]; rfl
  | succ l =>
    by_cases e : p (l + 1) = l + 1
    · simp only [rto, if_pos e]
    · simp only [rto, if_neg e]
      exact rto_eq hp _ _ _ (by omega) (Nat.le_refl _)
theorem root_ind {p : Nat → Nat} (hp : ∀ x, p x ≤ x) {P : Nat → Nat → Prop} (h1 : ∀ l, p l = l → P l l) (h2 : ∀ l, p l < l → P (p l) (root p (p l)) → P l (root p (p l))) : ∀ l, P l (root p l) := by
  intro l
  induction l using Nat.strongRecOn with
  | _ l ih =>
    rw [root_s hp]
    have := hp l
    by_cases e : p l = l
    · rw [if_pos e]; exact h1 l e
    · rw [if_neg e]; exact h2 l (by omega) (ih (p l) (by omega))
theorem root_le {p : Nat → Nat} (hp : ∀ x, p x ≤ x) (l : Nat) : root p l ≤ l := root_ind hp (P := fun l r => r ≤ l) (fun _ _ => Nat.le_refl _) (fun _ a b => by omega) l
theorem root_fix {p : Nat → Nat} (hp : ∀ x, p x ≤ x) (l : Nat) : p (root p l) = root p l := root_ind hp (P := fun _ r => p r = r) (fun _ e => e) (fun _ _ b => b) l
theorem root_of {p : Nat → Nat} (hp : ∀ x, p x ≤ x) {l : Nat} (h : p l = l) : root p l = l := by rw [root_s hp, if_pos h]
theorem root_iff {p : Nat → Nat} (hp : ∀ x, p x ≤ x) {l : Nat} : root p l = l ↔ p l = l := by
  refine ⟨fun h => ?_, root_of hp⟩
  have := root_fix hp l
  rw [h] at this
  exact this
/-- one tree is hung under another's root -/
theorem root_upd {p : Nat → Nat} (hp : ∀ x, p x ≤ x) {hi lo : Nat} (h1 : p hi = hi) (h2 : p lo = lo) (h3 : lo < hi) (l : Nat) : root (fun x => if x = hi then lo else p x) l = if root p l = hi then lo else root p l := by
  have hp' : ∀ x, (fun x => if x = hi then lo else p x) x ≤ x := by
    intro x
    simp only
    by_cases e : x = hi
    · rw [if_pos e]; omega
    · rw [if_neg e]; exact hp x
  induction l using Nat.strongRecOn with
  | _ l ih =>
    rw [root_s hp']
    by_cases e : l = hi
    · subst e
      rw [if_pos rfl, if_neg (by omega), root_of hp h1, if_pos rfl]
      have e2 : (fun x => if x = l then lo else p x) lo = lo := by simp only; rw [if_neg (by omega)]; exact h2
      exact root_of hp' e2
    · rw [if_neg e]
      have := hp l
      by_cases e2 : p l = l
      · rw [if_pos e2, root_of hp e2, if_neg e]
      · rw [if_neg e2, ih (p l) (by omega), root_s hp l, if_neg e2]
/-- the class's row -/
def repC (S : Nat → Bool) (W H : Nat) (lo : Nat → Int32) (p : Nat → Nat) : Prop := (∀ x, p x ≤ x) ∧ (∀ l, l < 162 → S l = true → lo l = nI (p l) ∧ S (p l) = true ∧ Con S W H l (p l)) ∧ ∀ l, l < 162 → S l = false → lo l = -1
theorem repC.root {S : Nat → Bool} {W H : Nat} {lo : Nat → Int32} {p : Nat → Nat} (h : repC S W H lo p) {l : Nat} (hl : l < 162) (hs : S l = true) : S (root p l) = true ∧ Con S W H l (root p l) := by
  have key := root_ind h.1 (P := fun l r => l < 162 → S l = true → S r = true ∧ Con S W H l r) (fun l _ _ hs => ⟨hs, Con.refl l⟩) (fun l h1 h2 hl hs => ?_) l
  · exact key hl hs
  · have h3 := h.2.1 l hl hs
    have h4 := h2 (by omega) h3.2.1
    exact ⟨h4.1, h3.2.2.trans h4.2⟩
theorem first_eq {S : Nat → Bool} {W H : Nat} {lo : Nat → Int32} {p : Nat → Nat} (h : repC S W H lo p) {l : Nat} (hl : l < 162) : fX10_firstOf lo (nI l) = some (if S l = true then nI (root p l) else -1) := by
  apply OK.val
  unfold fX10_firstOf
  have c162 : (162 : Int32) = nI 162 := rfl
  by_cases hs : S l = true
  · rw [if_pos hs]
    refine OK.bind (Q := fun q => q = .inr (nI (root p l))) (OK.loopx (fun i v => v.2 = nI i ∧ ∃ a, v.1 = nI a ∧ S a = true ∧ a + i ≤ l ∧ root p a = root p l) l (by omega) ⟨rfl, l, rfl, hs, by omega, rfl⟩ ?_ ?_) (fun q hq => by rw [hq]; exact OK.ret rfl)
    · rintro i ⟨v1, v2⟩ hi ⟨rfl, a, rfl, sa, al, ra⟩
      simp only
      have ha := h.2.1 a (by omega) sa
      refine OK.f (by rw [c162]; exact nle (by omega) (by omega)) (OK.f (nI_pos (by omega)) (OK.t (by rw [lt_i, nI_ti a (by omega)]; show (a : Int) < 162; omega) (OK.g (ein_nI (by omega) (by omega)) ?_)))
      rw [tn_nI (by omega), ha.1]
      have pa := h.1 a
      refine OK.ite (fun e => ⟨_, rfl, Or.inr ⟨_, rfl, ?_⟩⟩) (fun e => OK.g (ein_nI (by omega) (by omega)) ⟨_, rfl, Or.inl ⟨_, rfl, nI_s1 i, p a, rfl, ha.2.1, ?_, ?_⟩⟩)
      · have : p a = a := (nI_inj (by omega) (by omega)).mp e
        rw [← ra, root_of h.1 this]
      · have : p a ≠ a := fun z => e (by rw [z])
        omega
      · have : p a ≠ a := fun z => e (by rw [z])
        rw [← ra, root_s h.1 a, if_neg this]
    · rintro ⟨v1, v2⟩ ⟨rfl, a, rfl, sa, al, ra⟩
      simp only
      have a0 : a = 0 := by omega
      subst a0
      have ha := h.2.1 0 (by omega) sa
      have p0 : p 0 = 0 := by have := h.1 0; omega
      refine OK.f (by rw [c162]; exact nle (by omega) (by omega)) (OK.f (nI_pos (by omega)) (OK.t (by decide) (OK.g (ein_nI (by omega) (by omega)) ?_)))
      rw [tn_nI (by omega), ha.1, p0]
      exact OK.t rfl (OK.inr (by rw [← ra, root_of h.1 p0]))
  · have hs2 : S l = false := by simpa using hs
    rw [if_neg hs]
    have hl2 := h.2.2 l hl hs2
    refine OK.bind (Q := fun q => q = .inr (-1)) (OK.loop (fun i v => v.2 = nI i ∧ v.1 = if i = 0 then nI l else -1) 1 (by omega) ⟨rfl, rfl⟩ ?_ ?_) (fun q hq => by rw [hq]; exact OK.ret rfl)
    · rintro i ⟨v1, v2⟩ hi ⟨rfl, rfl⟩
      simp only
      have i0 : i = 0 := by omega
      subst i0
      rw [if_pos rfl]
      refine OK.f (by decide) (OK.f (nI_pos (by omega)) (OK.t (by rw [lt_i, nI_ti l (by omega)]; show (l : Int) < 162; omega) (OK.g (ein_nI hl (by omega)) ?_)))
      rw [tn_nI (by omega), hl2]
      exact OK.f (fun e => nI_m1 (show l < 2147483648 by omega) e.symm) (OK.g (ein_nI hl (by omega)) (OK.inl ⟨rfl, rfl⟩))
    · rintro ⟨v1, v2⟩ ⟨rfl, rfl⟩
      simp only
      exact OK.f (by decide) (OK.t (by rw [if_neg (by decide)]; decide) (OK.inr rfl))
theorem numberOf_l (x y r : Nat) : fX7_numberOf (nI x) (nI y) (nI r) = some (nI (2 * (9 * y + x) + r)) := by
  unfold fX7_numberOf
  simp only [z2, z9, pk_mul, nI_add]
theorem beside_eq (x y : Nat) {k : Nat} (hk : k < 4) : fX10_linkBeside (nI x) (nI y) (nI k) = some (nI (fl x y k)) := by
  unfold fX10_linkBeside
  rcases (show k = 0 ∨ k = 1 ∨ k = 2 ∨ k = 3 by omega) with rfl | rfl | rfl | rfl
  · rw [if_pos (by decide), z0, numberOf_l]; rfl
  · rw [if_neg (by decide), if_pos (by decide), nI_s1, show (1 : Int32) = nI 1 from rfl, numberOf_l]; rfl
  · rw [if_neg (by decide), if_neg (by decide), if_pos (by decide), nI_s1, show (0 : Int32) = nI 0 from rfl, numberOf_l]; rfl
  · rw [if_neg (by decide), if_neg (by decide), if_neg (by decide), show (1 : Int32) = nI 1 from rfl, numberOf_l]; rfl
theorem max_m1 (q : Nat) (hq : q < 2147483648) : fJ9_max_7cf53 (-1) (nI q) = some (nI q) ∧ fJ9_max_7cf53 (nI q) (-1) = some (nI q) := by
  unfold fJ9_max_7cf53
  have t := nI_ti q hq
  exact ⟨by rw [if_pos (by rw [lt_i, t, show (-1 : Int32).toInt = -1 from rfl]; omega)], by rw [if_neg (by rw [lt_i, t, show (-1 : Int32).toInt = -1 from rfl]; omega)]⟩
set_option maxHeartbeats 1000000 in
theorem joinRound_ok {S : Nat → Bool} {W H : Nat} (hW : W ≤ 9) (hH : H ≤ 9) {lo : Nat → Int32} {p : Nat → Nat} (h : repC S W H lo p) {x y : Nat} (hx : x + 1 < W) (hy : y + 1 < H) :
    OK (fX10_joinRound lo (nI x) (nI y)) (fun z => ∃ p' : Nat → Nat, repC S W H z p' ∧ (∀ a b, root p a = root p b → root p' a = root p' b) ∧ ∀ i j, i < 4 → j < 4 → S (fl x y i) = true → S (fl x y j) = true → root p' (fl x y i) = root p' (fl x y j)) := by
  unfold fX10_joinRound
  have flt : ∀ k, fl x y k < 162 := fun k => fl_lt (by omega) (by omega)
  refine OK.bind (Q := fun z => ∃ p' : Nat → Nat, repC S W H z p' ∧ (∀ a b, root p a = root p b → root p' a = root p' b) ∧ ∀ i j, i < 4 → j < 4 → S (fl x y i) = true → S (fl x y j) = true → root p' (fl x y i) = root p' (fl x y j)) (OK.loop (fun k v => v.2.1 = nI k ∧ ∃ p' : Nat → Nat, repC S W H v.2.2 p' ∧ (∀ a b, root p a = root p b → root p' a = root p' b) ∧ ((v.1 = -1 ∧ ∀ i, i < k → S (fl x y i) = false) ∨ ∃ r, v.1 = nI r ∧ (∃ i, i < 4 ∧ S (fl x y i) = true ∧ root p' (fl x y i) = r) ∧ ∀ i, i < k → S (fl x y i) = true → root p' (fl x y i) = r)) 4 (by omega) ⟨rfl, p, h, fun _ _ e => e, Or.inl ⟨rfl, fun i hi => by omega⟩⟩ ?_ ?_) (fun z hz => OK.ret hz)
  · rintro k ⟨jo, b, lk⟩ hk ⟨rfl, q, a1, a2, a3⟩
    simp only at a1 a3 ⊢
    have fk := flt k
    refine OK.f (by rw [z4]; exact nle hk (by omega)) (OK.eq (beside_eq x y hk) (OK.eq (first_eq a1 fk) (OK.bind (Q := fun z => ∃ p' : Nat → Nat, repC S W H z.2 p' ∧ (∀ a b, root p a = root p b → root p' a = root p' b) ∧ ((z.1 = -1 ∧ ∀ i, i < k + 1 → S (fl x y i) = false) ∨ ∃ r, z.1 = nI r ∧ (∃ i, i < 4 ∧ S (fl x y i) = true ∧ root p' (fl x y i) = r) ∧ ∀ i, i < k + 1 → S (fl x y i) = true → root p' (fl x y i) = r)) ?_ (fun z hz => OK.inl ⟨nI_s1 k, hz⟩))))
    by_cases hs : S (fl x y k) = true
    · rw [if_pos hs]
      have hrt := a1.root fk hs
      have rle := root_le a1.1 (fl x y k)
      have rfx := root_fix a1.1 (fl x y k)
      generalize hq : root q (fl x y k) = t at hrt rle rfx
      rcases a3 with ⟨rfl, a3⟩ | ⟨r, rfl, ⟨i0, i1, i2, i3⟩, a4⟩
      · refine OK.t rfl (OK.eq (max_m1 t (by omega)).1 (OK.ret ⟨q, a1, a2, Or.inr ⟨t, rfl, ⟨k, hk, hs, hq⟩, fun i hi si => ?_⟩⟩))
        by_cases e : i = k
        · rw [e, hq]
        · have := a3 i (by omega); rw [this] at si; exact absurd si (by decide)
      · have rl : r < 162 := by rw [← i3]; have := root_le a1.1 (fl x y i0); have := flt i0; omega
        have rfx2 : q r = r := by rw [← i3]; exact root_fix a1.1 _
        have rS := a1.root (flt i0) i2
        rw [i3] at rS
        refine OK.f (nI_m1 (by omega)) (OK.f (nI_m1 (by omega)) (OK.eq (max_nI (by omega) (by omega)) (OK.eq (min_nI (by omega) (by omega)) (OK.g (ein_nI (by omega) (by omega)) (OK.ret ?_)))))
        rw [tn_nI (by omega)]
        have cn : Con S W H r t := (rS.2.symm.trans (Con.face hx hy i1 hk i2 hs)).trans hrt.2
        have mf : q (max r t) = max r t ∧ q (min r t) = min r t := by
          by_cases e : r ≤ t
          · rw [Nat.max_eq_right e, Nat.min_eq_left e]; exact ⟨rfx, rfx2⟩
          · rw [Nat.max_eq_left (by omega), Nat.min_eq_right (by omega)]; exact ⟨rfx2, rfx⟩
        have mS : S (max r t) = true ∧ S (min r t) = true := by
          by_cases e : r ≤ t
          · rw [Nat.max_eq_right e, Nat.min_eq_left e]; exact ⟨hrt.1, rS.1⟩
          · rw [Nat.max_eq_left (by omega), Nat.min_eq_right (by omega)]; exact ⟨rS.1, hrt.1⟩
        have mC : Con S W H (max r t) (min r t) := by
          by_cases e : r ≤ t
          · rw [Nat.max_eq_right e, Nat.min_eq_left e]; exact cn.symm
          · rw [Nat.max_eq_left (by omega), Nat.min_eq_right (by omega)]; exact cn
        have rt' : ∀ l, root (fun x => if x = max r t then min r t else q x) l = if root q l = max r t then min r t else root q l := by
          intro l
          by_cases e : r = t
          · subst e
            rw [Nat.max_self, Nat.min_self]
            have : (fun x => if x = r then r else q x) = q := by
              funext z
              by_cases ez : z = r
              · rw [if_pos ez, ez, rfx2]
              · rw [if_neg ez]
            rw [this]
            by_cases e2 : root q l = r
            · rw [if_pos e2, e2]
            · rw [if_neg e2]
          · exact root_upd a1.1 mf.1 mf.2 (by omega) l
        have rone : ∀ l, (root q l = r ∨ root q l = t) → root (fun x => if x = max r t then min r t else q x) l = min r t := by
          intro l hl
          rw [rt']
          by_cases e : root q l = max r t
          · rw [if_pos e]
          · rw [if_neg e]; omega
        refine ⟨fun x => if x = max r t then min r t else q x, ⟨?_, ?_, ?_⟩, ?_, Or.inr ⟨min r t, rfl, ⟨k, hk, hs, rone _ (Or.inr hq)⟩, fun i hi si => ?_⟩⟩
        · intro z
          simp only
          by_cases e : z = max r t
          · rw [if_pos e]; omega
          · rw [if_neg e]; exact a1.1 z
        · intro l hl sl
          simp only [upd]
          by_cases e : l = max r t
          · rw [if_pos e, if_pos e]
            exact ⟨rfl, mS.2, by rw [e]; exact mC⟩
          · rw [if_neg e, if_neg e]; exact a1.2.1 l hl sl
        · intro l hl sl
          simp only [upd]
          by_cases e : l = max r t
          · rw [e, mS.1] at sl; exact absurd sl (by decide)
          · rw [if_neg e]; exact a1.2.2 l hl sl
        · intro a b e
          rw [rt', rt', a2 a b e]
        · by_cases e : i = k
          · rw [e]; exact rone _ (Or.inr hq)
          · exact rone _ (Or.inl (a4 i (by omega) si))
    · have hs2 : S (fl x y k) = false := by simpa using hs
      rw [if_neg hs]
      rcases a3 with ⟨rfl, a3⟩ | ⟨r, rfl, ⟨i0, i1, i2, i3⟩, a4⟩
      · refine OK.t rfl (OK.eq (z := -1) (by decide) (OK.ret ⟨q, a1, a2, Or.inl ⟨rfl, fun i hi => ?_⟩⟩))
        by_cases e : i = k
        · rw [e]; exact hs2
        · exact a3 i (by omega)
      · have rl : r < 162 := by rw [← i3]; have := root_le a1.1 (fl x y i0); have := flt i0; omega
        refine OK.f (nI_m1 (by omega)) (OK.t rfl (OK.eq (max_m1 r (by omega)).2 (OK.ret ⟨q, a1, a2, Or.inr ⟨r, rfl, ⟨i0, i1, i2, i3⟩, fun i hi si => ?_⟩⟩)))
        by_cases e : i = k
        · rw [e] at si; exact absurd si hs
        · exact a4 i (by omega) si
  · rintro ⟨jo, b, lk⟩ ⟨rfl, q, a1, a2, a3⟩
    simp only at a1 a3 ⊢
    refine OK.t (by show (4 : Int32) ≤ nI 4; decide) (OK.inr ⟨q, a1, a2, fun i j hi hj si sj => ?_⟩)
    rcases a3 with ⟨_, a3⟩ | ⟨r, _, _, a4⟩
    · have := a3 i hi; rw [this] at si; exact absurd si (by decide)
    · rw [a4 i hi si, a4 j hj sj]
