/-! ===== walls: what they are ===== -/
/-- a face's four links, in the class's order -/
def fl (x y k : Nat) : Nat := if k = 0 then 2 * (9 * y + x) else if k = 1 then 2 * (9 * y + (x + 1)) + 1 else if k = 2 then 2 * (9 * (y + 1) + x) else 2 * (9 * y + x) + 1
theorem fl_lt {x y k : Nat} (hx : x < 8) (hy : y < 8) : fl x y k < 162 := by unfold fl; (repeat' split) <;> omega
/-- numbers that are one on all slipped links of a face -/
def Cst (S : Nat → Bool) (W H : Nat) (φ : Nat → Nat) : Prop := ∀ x y, x + 1 < W → y + 1 < H → ∀ i j, i < 4 → j < 4 → S (fl x y i) = true → S (fl x y j) = true → φ (fl x y i) = φ (fl x y j)
def Con (S : Nat → Bool) (W H a b : Nat) : Prop := ∀ φ, Cst S W H φ → φ a = φ b
theorem Con.refl {S : Nat → Bool} {W H : Nat} (a : Nat) : Con S W H a a := fun _ _ => rfl
theorem Con.symm {S : Nat → Bool} {W H a b : Nat} (h : Con S W H a b) : Con S W H b a := fun φ q => (h φ q).symm
theorem Con.trans {S : Nat → Bool} {W H a b c : Nat} (h : Con S W H a b) (k : Con S W H b c) : Con S W H a c := fun φ q => (h φ q).trans (k φ q)
theorem Con.face {S : Nat → Bool} {W H x y i j : Nat} (hx : x + 1 < W) (hy : y + 1 < H) (hi : i < 4) (hj : j < 4) (si : S (fl x y i) = true) (sj : S (fl x y j) = true) : Con S W H (fl x y i) (fl x y j) := fun _ q => q x y hx hy i j hi hj si sj
def inW (S : Nat → Bool) (W H : Nat) (ρ : Nat → Nat) : Prop := ∀ l, l < 162 → S l = true → ρ l ≤ l ∧ S (ρ l) = true ∧ Con S W H l (ρ l)
theorem wsp_eq {S : Nat → Bool} {W H : Nat} {ρ σ : Nat → Nat} (h1 : Cst S W H ρ) (h2 : inW S W H ρ) (k1 : Cst S W H σ) (k2 : inW S W H σ) {l : Nat} (hl : l < 162) (hs : S l = true) : ρ l = σ l := by
  have a := h2 l hl hs
  have b := k2 l hl hs
  have e1 : σ l = σ (ρ l) := a.2.2 σ k1
  have e2 : ρ l = ρ (σ l) := b.2.2 ρ h1
  have a2 := (k2 (ρ l) (by omega) a.2.1).1
  have b2 := (h2 (σ l) (by omega) b.2.1).1
  omega
/-! a loop that ends because a number falls -/
theorem OK.loopm {V Y : Type} {b : V → Option (V ⊕ Y)} {v0 : V} {Q : Y → Prop} (I : Nat → V → Prop) (N : Nat) (hN : N < 100000) (h0 : I N v0)
    (hs : ∀ (n : Nat) (v : V), n ≤ N → I n v → OK (b v) (fun z => (∃ v' n', z = .inl v' ∧ n' < n ∧ I n' v') ∨ ∃ y, z = .inr y ∧ Q y)) : OK (e_loop b e_fuel v0) Q := by
  have key : ∀ (m n : Nat) (v : V), n ≤ N → n < m → I n v → OK (e_loop b m v) Q := by
    intro m
    induction m with
    | zero => intro n v _ hm; omega
    | succ m ih =>
      intro n v hn hm hI
      obtain ⟨_, h1, ⟨v', n', rfl, h2, h3⟩ | ⟨y, rfl, h2⟩⟩ := hs n v hn hI
      · obtain ⟨z, h4, h5⟩ := ih n' v' (by omega) (by omega) h3
        exact ⟨z, by simp [e_loop, h1, h4], h5⟩
      · exact ⟨y, by simp [e_loop, h1], h2⟩
  exact key e_fuel N v0 (Nat.le_refl _) hN h0
/-! ===== the reference's walls ===== -/
def fr (x y k : Nat) : Nat := if k = 0 then fl x y 0 else if k = 1 then fl x y 3 else if k = 2 then fl x y 1 else fl x y 2
theorem fr_fl {x y k : Nat} : ∃ j, j < 4 ∧ fr x y k = fl x y j := by
  unfold fr
  repeat' split
  · exact ⟨0, by omega, rfl⟩
  · exact ⟨3, by omega, rfl⟩
  · exact ⟨1, by omega, rfl⟩
  · exact ⟨2, by omega, rfl⟩
theorem fl_fr {x y j : Nat} (hj : j < 4) : ∃ k, k < 4 ∧ fl x y j = fr x y k := by
  rcases (show j = 0 ∨ j = 1 ∨ j = 2 ∨ j = 3 by omega) with rfl | rfl | rfl | rfl
  · exact ⟨0, by omega, rfl⟩
  · exact ⟨2, by omega, rfl⟩
  · exact ⟨3, by omega, rfl⟩
  · exact ⟨1, by omega, rfl⟩
theorem ofFace_eq (x y : Nat) {k : Nat} (hk : k < 4) : fX12_ofFace (nI x) (nI y) (nI k) = some (nI (fr x y k)) := by
  unfold fX12_ofFace
  rcases (show k = 0 ∨ k = 1 ∨ k = 2 ∨ k = 3 by omega) with rfl | rfl | rfl | rfl
  · rw [if_pos (by decide), linkOf_eq]; rfl
  · rw [if_neg (by decide), if_pos (by decide), linkOf_eq]; rfl
  · rw [if_neg (by decide), if_neg (by decide), if_pos (by decide), nI_s1, linkOf_eq]; rfl
  · rw [if_neg (by decide), if_neg (by decide), if_neg (by decide), nI_s1, linkOf_eq]; rfl
def rep (wo : Nat → Int32) (u : Nat → Nat) : Prop := ∀ l, l < 162 → wo l = nI (u l) ∧ u l ≤ l
set_option maxHeartbeats 1000000 in
theorem joins_ok {W H : Nat} (hW : W ≤ 9) (hH : H ≤ 9) {f wo : Nat → Int32} {u : Nat → Nat} {x y : Nat} (hx : x + 1 < W) (hy : y + 1 < H) (hr : rep wo u) (hi : inW (slA f W H) W H u) :
    OK (fX12_joins (nI W) (nI H) f wo (nI x) (nI y)) (fun z => ∃ u', rep z.2 u' ∧ inW (slA f W H) W H u' ∧ (∀ l, l < 162 → u' l ≤ u l) ∧ (z.1 = true → ∃ l, l < 162 ∧ u' l < u l) ∧ (z.1 = false → (∀ l, l < 162 → u' l = u l) ∧ ∀ i j, i < 4 → j < 4 → slA f W H (fl x y i) = true → slA f W H (fl x y j) = true → u (fl x y i) = u (fl x y j))) := by
  unfold fX12_joins
  have flt : ∀ k, fr x y k < 162 := fun k => by
    obtain ⟨j, _, e⟩ := fr_fl (x := x) (y := y) (k := k)
    rw [e]; exact fl_lt (by omega) (by omega)
  refine OK.bind (Q := fun q => ∃ m, q = nI m ∧ m ≤ 162 ∧ (∀ k, k < 4 → slA f W H (fr x y k) = true → m ≤ u (fr x y k)) ∧ (m = 162 ∨ ∃ k, k < 4 ∧ slA f W H (fr x y k) = true ∧ m = u (fr x y k))) (OK.loop (fun k v => v.2 = nI k ∧ ∃ m, v.1 = nI m ∧ m ≤ 162 ∧ (∀ j, j < k → slA f W H (fr x y j) = true → m ≤ u (fr x y j)) ∧ (m = 162 ∨ ∃ j, j < k ∧ slA f W H (fr x y j) = true ∧ m = u (fr x y j))) 4 (by omega) ⟨rfl, 162, rfl, by omega, fun j hj => by omega, Or.inl rfl⟩ ?_ ?_) ?_
  · rintro k ⟨a, b⟩ hk ⟨rfl, m, rfl, m1, m2, m3⟩
    simp only
    have lk := flt k
    have ul := hr _ lk
    refine OK.f (by rw [z4]; exact nle hk (by omega)) (OK.eq (ofFace_eq x y hk) (OK.eq (slipAt_eq hW hH lk) (OK.bind (Q := fun q => ∃ m, q = nI m ∧ m ≤ 162 ∧ (∀ j, j < k + 1 → slA f W H (fr x y j) = true → m ≤ u (fr x y j)) ∧ (m = 162 ∨ ∃ j, j < k + 1 ∧ slA f W H (fr x y j) = true ∧ m = u (fr x y j))) (OK.ite (fun e => ?_) (fun e => OK.ret ?_)) (fun q hq => OK.inl ⟨nI_s1 k, hq⟩))))
    · refine OK.g (ein_nI lk (by omega)) ?_
      rw [tn_nI (by omega), ul.1]
      refine OK.eq (min_nI (by omega) (by omega)) (OK.ret ⟨min m (u (fr x y k)), rfl, by omega, fun j hj sj => ?_, ?_⟩)
      · by_cases q : j = k
        · subst q; omega
        · have := m2 j (by omega) sj; omega
      · by_cases q : m ≤ u (fr x y k)
        · rcases m3 with m3 | ⟨j, j1, j2, j3⟩
          · exact Or.inr ⟨k, by omega, e, by omega⟩
          · exact Or.inr ⟨j, by omega, j2, by omega⟩
        · exact Or.inr ⟨k, by omega, e, by omega⟩
    · refine ⟨m, rfl, m1, fun j hj sj => ?_, ?_⟩
      · by_cases q : j = k
        · subst q; exact absurd sj e
        · exact m2 j (by omega) sj
      · rcases m3 with m3 | ⟨j, j1, j2, j3⟩
        · exact Or.inl m3
        · exact Or.inr ⟨j, by omega, j2, j3⟩
  · rintro ⟨a, b⟩ ⟨rfl, hm⟩
    exact OK.t (by show (4 : Int32) ≤ nI 4; decide) (OK.inr hm)
  · rintro _ ⟨m, rfl, m1, m2, m3⟩
    refine OK.bind (Q := fun z => ∃ u' : Nat → Nat, (∀ l, l < 162 → z.2 l = nI (u' l)) ∧ (∀ l, u' l = u l ∨ (u' l = m ∧ slA f W H l = true ∧ ∃ j, j < 4 ∧ l = fr x y j)) ∧ (∀ j, j < 4 → slA f W H (fr x y j) = true → u' (fr x y j) = m) ∧ (z.1 = false → ∀ l, u' l = u l) ∧ (z.1 = true → ∃ l, l < 162 ∧ u' l < u l)) (OK.loop (fun k v => v.2.1 = nI k ∧ ∃ u' : Nat → Nat, (∀ l, l < 162 → v.2.2 l = nI (u' l)) ∧ (∀ l, u' l = u l ∨ (u' l = m ∧ slA f W H l = true ∧ ∃ j, j < 4 ∧ l = fr x y j)) ∧ (∀ j, j < k → slA f W H (fr x y j) = true → u' (fr x y j) = m) ∧ (v.1 = false → ∀ l, u' l = u l) ∧ (v.1 = true → ∃ l, l < 162 ∧ u' l < u l)) 4 (by omega) ⟨rfl, u, fun l hl => (hr l hl).1, fun l => Or.inl rfl, fun j hj => by omega, fun _ _ => rfl, fun q => absurd q (by simp)⟩ ?_ ?_) ?_
    · rintro k ⟨mo, b, wk⟩ hk ⟨rfl, uk, k1, k2, k3, k4, k5⟩
      simp only at k1 k4 k5 ⊢
      have lk := flt k
      have ule : uk (fr x y k) ≤ 162 := by
        rcases k2 (fr x y k) with q | q
        · rw [q]; have := (hr _ lk).2; omega
        · rw [q.1]; exact m1
      refine OK.f (by rw [z4]; exact nle hk (by omega)) (OK.eq (ofFace_eq x y hk) (OK.eq (slipAt_eq hW hH lk) (OK.bind (Q := fun q => ∃ u' : Nat → Nat, (∀ l, l < 162 → q.2 l = nI (u' l)) ∧ (∀ l, u' l = u l ∨ (u' l = m ∧ slA f W H l = true ∧ ∃ j, j < 4 ∧ l = fr x y j)) ∧ (∀ j, j < k + 1 → slA f W H (fr x y j) = true → u' (fr x y j) = m) ∧ (q.1 = false → ∀ l, u' l = u l) ∧ (q.1 = true → ∃ l, l < 162 ∧ u' l < u l)) (OK.ite (fun e => ?_) (fun e => OK.ret ?_)) (fun q hq => OK.inl ⟨nI_s1 k, hq⟩))))
      · refine OK.g (ein_nI lk (by omega)) ?_
        rw [tn_nI (by omega), k1 _ lk]
        refine OK.ite (fun e2 => OK.ret ⟨uk, k1, k2, fun j hj sj => ?_, k4, k5⟩) (fun e2 => OK.g (ein_nI lk (by omega)) (OK.ret ⟨fun l => if l = fr x y k then m else uk l, ?_, ?_, ?_, fun q => absurd q (by simp), fun _ => ⟨fr x y k, lk, ?_⟩⟩))
        · by_cases q : j = k
          · subst q; exact (nI_inj (by omega) (by omega)).mp e2
          · exact k3 j (by omega) sj
        · intro l hl
          simp only [upd]
          by_cases q : l = fr x y k
          · rw [if_pos q, if_pos q]
          · rw [if_neg q, if_neg q]; exact k1 l hl
        · intro l
          simp only
          by_cases q : l = fr x y k
          · rw [if_pos q]; exact Or.inr ⟨rfl, by rw [q]; exact e, k, hk, q⟩
          · rw [if_neg q]; exact k2 l
        · intro j hj sj
          simp only
          by_cases q : fr x y j = fr x y k
          · rw [if_pos q]
          · rw [if_neg q]
            by_cases q2 : j = k
            · exact absurd (by rw [q2]) q
            · exact k3 j (by omega) sj
        · simp only [if_true]
          have n1 : uk (fr x y k) ≠ m := fun z => e2 (by rw [z])
          have n2 := m2 k hk e
          rcases k2 (fr x y k) with q | q
          · omega
          · exact absurd q.1 n1
      · refine ⟨uk, k1, k2, fun j hj sj => ?_, k4, k5⟩
        by_cases q : j = k
        · subst q; exact absurd sj e
        · exact k3 j (by omega) sj
    · rintro ⟨mo, b, wk⟩ ⟨rfl, hk⟩
      exact OK.t (by show (4 : Int32) ≤ nI 4; decide) (OK.inr hk)
    · rintro ⟨mo, wk⟩ ⟨uk, k1, k2, k3, k4, k5⟩
      simp only at k1 k4 k5
      have le : ∀ l, uk l ≤ u l := by
        intro l
        rcases k2 l with q | ⟨q1, q2, j, q3, q4⟩
        · omega
        · rw [q1, q4]; exact m2 j q3 (q4 ▸ q2)
      refine OK.ret ⟨uk, fun l hl => ⟨k1 l hl, Nat.le_trans (le l) (hr l hl).2⟩, fun l hl sl => ?_, fun l _ => le l, k5, fun q => ⟨fun l _ => k4 q l, fun i j hi' hj' si sj => ?_⟩⟩
      · rcases k2 l with q | ⟨q1, q2, j, q3, q4⟩
        · rw [q]; exact hi l hl sl
        · rcases m3 with m3 | ⟨k, n1, n2, n3⟩
          · exfalso
            have := m2 j q3 (q4 ▸ q2)
            have := (hr _ (flt j)).2
            have := flt j
            omega
          · have h9 := hi _ (flt k) n2
            refine ⟨by rw [q1]; exact Nat.le_trans (by rw [q4]; exact m2 j q3 (q4 ▸ q2)) (hr l hl).2, by rw [q1, n3]; exact h9.2.1, ?_⟩
            rw [q1, n3]
            refine Con.trans ?_ h9.2.2
            rw [q4]
            obtain ⟨j2, j3, j4⟩ := fr_fl (x := x) (y := y) (k := j)
            obtain ⟨k2', k3', k4'⟩ := fr_fl (x := x) (y := y) (k := k)
            rw [j4, k4']
            refine Con.face hx hy j3 k3' ?_ ?_
            · rw [← j4, ← q4]; exact q2
            · rw [← k4']; exact n2
      · obtain ⟨a, a1, a2⟩ := fl_fr (x := x) (y := y) hi'
        obtain ⟨b, b1, b2⟩ := fl_fr (x := x) (y := y) hj'
        rw [a2] at si ⊢
        rw [b2] at sj ⊢
        have e := k4 q
        rw [← e, ← e, k3 a a1 si, k3 b b1 sj]
