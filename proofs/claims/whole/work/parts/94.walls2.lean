/-! ===== the reference lays its walls ===== -/
theorem rsum_lt {P Q : Nat → Nat} {n : Nat} (h : ∀ x, x < n → P x ≤ Q x) {l : Nat} (hl : l < n) (hs : P l < Q l) : rsum P n < rsum Q n := by
  induction n with
  | zero => omega
  | succ n ih =>
    simp only [rsum]
    by_cases e : l = n
    · subst e
      have := rsum_le (k := l) (fun x hx => h x (by omega))
      omega
    · have := ih (fun x hx => h x (by omega)) (by omega)
      have := h n (by omega)
      omega
theorem rsum_bd {P : Nat → Nat} {M : Nat} : ∀ {n : Nat}, (∀ x, x < n → P x ≤ M) → rsum P n ≤ n * M := by
  intro n
  induction n with
  | zero => intro _; simp [rsum]
  | succ n ih =>
    intro h
    have h1 := ih (fun x hx => h x (by omega))
    have h2 := h n (by omega)
    simp only [rsum]
    rw [Nat.succ_mul]
    omega
/-- the links that begin a wall -/
def rtb (S : Nat → Bool) (ρ : Nat → Nat) (l : Nat) : Bool := S l && decide (ρ l = l)
def passR (S : Nat → Bool) (W H : Nat) (u0 : Nat → Nat) (done : Nat → Nat → Prop) (mo : Bool) (wo : Nat → Int32) : Prop :=
  ∃ u : Nat → Nat, rep wo u ∧ inW S W H u ∧ (∀ l, l < 162 → u l ≤ u0 l) ∧ (mo = true → rsum u 162 < rsum u0 162) ∧ (mo = false → (∀ l, l < 162 → u l = u0 l) ∧ ∀ x y, x + 1 < W → y + 1 < H → done x y → ∀ i j, i < 4 → j < 4 → S (fl x y i) = true → S (fl x y j) = true → u0 (fl x y i) = u0 (fl x y j))
set_option maxHeartbeats 1000000 in
theorem pass_ok {W H : Nat} (hW : W ≤ 9) (hH : H ≤ 9) {f wo : Nat → Int32} {u0 : Nat → Nat} (hr : rep wo u0) (hi : inW (slA f W H) W H u0) :
    OK (e_loop (fun (v13 : Bool × Int32 × (Nat → Int32)) => (
            if (nI H - 1) ≤ v13.2.1 then
              some (.inr (v13.1, v13.2.2))
            else
              (e_loop (fun (v18 : Bool × Int32 × (Nat → Int32)) => (
                  if (nI W - 1) ≤ v18.2.1 then
                    some (.inr (v18.1, v18.2.2))
                  else
                    (fX12_joins (nI W) (nI H) f v18.2.2 v18.2.1 v13.2.1).bind (fun q21 =>
                    Option.bind (α := Bool) (
                      if q21.1 = true then
                        some true
                      else
                        if v18.1 = true then
                          some true
                        else
                          some false) (fun q23 =>
                    some (.inl (q23, v18.2.1 + 1, q21.2)))) : Option ((Bool × Int32 × (Nat → Int32)) ⊕ (Bool × (Nat → Int32))))) e_fuel (v13.1, 0, v13.2.2)).bind (fun x19 =>
              some (.inl (x19.1, v13.2.1 + 1, x19.2))) : Option ((Bool × Int32 × (Nat → Int32)) ⊕ (Bool × (Nat → Int32))))) e_fuel (false, 0, wo)) (fun z => passR (slA f W H) W H u0 (fun _ _ => True) z.1 z.2) := by
  refine OK.loop (fun k v => v.2.1 = nI k ∧ passR (slA f W H) W H u0 (fun _ y => y < k) v.1 v.2.2) (H - 1) (by omega) ⟨rfl, u0, hr, hi, fun _ _ => Nat.le_refl _, fun q => absurd q (by simp), fun _ => ⟨fun _ _ => rfl, fun x y _ _ d => by omega⟩⟩ ?_ ?_
  · rintro k ⟨mo, b, wk⟩ hk ⟨rfl, hp⟩
    simp only at hp ⊢
    refine OK.f (by rw [le_pred hH (by omega)]; omega) (OK.bind (Q := fun z => passR (slA f W H) W H u0 (fun _ y => y < k + 1) z.1 z.2) (OK.loop (fun j v => v.2.1 = nI j ∧ passR (slA f W H) W H u0 (fun x y => y < k ∨ (y = k ∧ x < j)) v.1 v.2.2) (W - 1) (by omega) ⟨rfl, ?_⟩ ?_ ?_) (fun z hz => OK.inl ⟨nI_s1 k, hz⟩))
    · obtain ⟨u, a1, a2, a3, a4, a5⟩ := hp
      refine ⟨u, a1, a2, a3, a4, fun q => ⟨(a5 q).1, fun x y hx hy d => (a5 q).2 x y hx hy (by omega)⟩⟩
    · rintro j ⟨mo, b, wj⟩ hj ⟨rfl, u, a1, a2, a3, a4, a5⟩
      simp only at a1 a4 a5 ⊢
      refine OK.f (by rw [le_pred hW (by omega)]; omega) (OK.bind (joins_ok hW hH (x := j) (y := k) (by omega) (by omega) a1 a2) ?_)
      rintro ⟨mo2, w2⟩ ⟨u2, b1, b2, b3, b4, b5⟩
      simp only at b1 b4 b5 ⊢
      have le2 : rsum u2 162 ≤ rsum u 162 := rsum_le b3
      have le1 : rsum u 162 ≤ rsum u0 162 := rsum_le a3
      refine OK.bind (Q := fun m => m = (mo2 || mo)) (by cases mo2 <;> cases mo <;> exact OK.ret rfl) (fun m hm => OK.inl ⟨nI_s1 j, u2, b1, b2, fun l hl => Nat.le_trans (b3 l hl) (a3 l hl), fun q => ?_, fun q => ?_⟩)
      · simp only at q
        rw [hm] at q
        cases mo2 with
        | true =>
          obtain ⟨l, hl, hs⟩ := b4 rfl
          have := rsum_lt b3 hl hs
          omega
        | false =>
          have := a4 (by simpa using q)
          omega
      · simp only at q
        rw [hm] at q
        have q1 : mo2 = false := by cases mo2 <;> simp_all
        have q2 : mo = false := by cases mo <;> simp_all
        have b5 := b5 q1
        have a5 := a5 q2
        refine ⟨fun l hl => (b5.1 l hl).trans (a5.1 l hl), fun x y hx hy d i i' hi hi' si si' => ?_⟩
        by_cases e : y = k ∧ x = j
        · have h9 := b5.2 i i' hi hi' (by rw [← e.1, ← e.2]; exact si) (by rw [← e.1, ← e.2]; exact si')
          rw [a5.1 _ (fl_lt (by omega) (by omega)), a5.1 _ (fl_lt (by omega) (by omega))] at h9
          rw [e.1, e.2]; exact h9
        · exact a5.2 x y hx hy (by omega) i i' hi hi' si si'
    · rintro ⟨mo, b, wj⟩ ⟨rfl, u, a1, a2, a3, a4, a5⟩
      simp only at a1 a4 a5 ⊢
      exact OK.t (by rw [le_pred hW (by omega)]; omega) (OK.inr ⟨u, a1, a2, a3, a4, fun q => ⟨(a5 q).1, fun x y hx hy d => (a5 q).2 x y hx hy (by omega)⟩⟩)
  · rintro ⟨mo, b, wk⟩ ⟨rfl, u, a1, a2, a3, a4, a5⟩
    simp only at a1 a4 a5 ⊢
    exact OK.t (by rw [le_pred hH (by omega)]; omega) (OK.inr ⟨u, a1, a2, a3, a4, fun q => ⟨(a5 q).1, fun x y hx hy d => (a5 q).2 x y hx hy (by omega)⟩⟩)
/-- what the reference's walls are -/
def refW (S : Nat → Bool) (W H : Nat) (ρ : Nat → Nat) (z : Int32 × Int32 × (Nat → Int32) × (Nat → Int32)) : Prop :=
  Cst S W H ρ ∧ inW S W H ρ ∧ rep z.2.2.1 ρ ∧ z.1 = nI (cnt (rtb S ρ) 162) ∧ z.2.1 = nI (cnt (rtb S ρ) 162) ∧ ∀ l, l < 162 → rtb S ρ l = true → z.2.2.2 (cnt (rtb S ρ) l) = nI l
set_option maxHeartbeats 1000000 in
theorem laysWalls_ok {W H : Nat} (hW : W ≤ 9) (hH : H ≤ 9) (f A B : Nat → Int32) (c : Int32) : OK (fX12_laysWalls (nI W) (nI H) c f A B) (fun z => ∃ ρ : Nat → Nat, refW (slA f W H) W H ρ z) := by
  unfold fX12_laysWalls
  refine OK.bind (Q := fun wo => rep wo (fun l => l)) (OK.loop (fun k v => v.1 = nI k ∧ ∀ l, l < k → v.2 l = nI l) 162 (by omega) ⟨rfl, fun l hl => by omega⟩ ?_ ?_) ?_
  · rintro k ⟨a, b⟩ hk ⟨rfl, hb⟩
    simp only at hb ⊢
    refine OK.f (by rw [show (162 : Int32) = nI 162 from rfl]; exact nle hk (by omega)) (OK.g (ein_nI hk (by omega)) (OK.inl ⟨nI_s1 k, fun l hl => ?_⟩))
    rw [tn_nI (by omega)]
    simp only [upd]
    by_cases e : l = k
    · rw [if_pos e, e]
    · rw [if_neg e]; exact hb l (by omega)
  · rintro ⟨a, b⟩ ⟨rfl, hb⟩
    exact OK.t (by show (162 : Int32) ≤ nI 162; decide) (OK.inr (fun l hl => ⟨hb l hl, Nat.le_refl _⟩))
  · intro wo hwo
    have id_in : inW (slA f W H) W H (fun l => l) := fun l hl hs => ⟨Nat.le_refl _, hs, Con.refl l⟩
    have bd : rsum (fun l => l) 162 ≤ 162 * 161 := rsum_bd (M := 161) (fun x hx => by omega)
    refine OK.bind (Q := fun wo => ∃ ρ : Nat → Nat, Cst (slA f W H) W H ρ ∧ inW (slA f W H) W H ρ ∧ rep wo ρ) (OK.loopm (fun n v => ∃ u : Nat → Nat, rep v.2 u ∧ inW (slA f W H) W H u ∧ n = 2 * rsum u 162 + v.1.toNat ∧ (v.1 = false → Cst (slA f W H) W H u)) (2 * rsum (fun l => l) 162 + 1) (by omega) ⟨fun l => l, hwo, id_in, rfl, fun q => absurd q (by simp)⟩ ?_) ?_
    · rintro n ⟨mo, wk⟩ hn ⟨u, a1, a2, a3, a4⟩
      simp only at a1 a3 a4 ⊢
      refine OK.ite (fun e => OK.bind (pass_ok hW hH a1 a2) ?_) (fun e => ?_)
      · rintro ⟨mo2, w2⟩ ⟨u2, b1, b2, b3, b4, b5⟩
        simp only at b1 b4 b5 ⊢
        rw [e] at a3
        refine ⟨_, rfl, Or.inl ⟨_, 2 * rsum u2 162 + mo2.toNat, rfl, ?_, u2, b1, b2, rfl, fun q => ?_⟩⟩
        · have le2 : rsum u2 162 ≤ rsum u 162 := rsum_le b3
          cases mo2 with
          | true => have := b4 rfl; simp at a3 ⊢; omega
          | false => simp at a3 ⊢; omega
        · have b5 := b5 q
          intro x y hx hy i j hi hj si sj
          rw [b5.1 _ (fl_lt (by omega) (by omega)), b5.1 _ (fl_lt (by omega) (by omega))]
          exact b5.2 x y hx hy trivial i j hi hj si sj
      · exact ⟨_, rfl, Or.inr ⟨_, rfl, u, a4 (by simpa using e), a2, a1⟩⟩
    · rintro w ⟨ρ, c1', c2', c3'⟩
      generalize hS : slA f W H = S at c1' c2'
      have sA : ∀ k, k < 162 → fX12_isSlippedAt (nI W) (nI H) f (nI k) = some (S k) := fun k hk => by rw [slipAt_eq hW hH hk, hS]
      refine OK.bind (Q := fun z => z.1 = nI (cnt (rtb S ρ) 162) ∧ ∀ l, l < 162 → rtb S ρ l = true → z.2 (cnt (rtb S ρ) l) = nI l) (OK.loop (fun k v => v.1 = nI k ∧ v.2.1 = nI (cnt (rtb S ρ) k) ∧ ∀ l, l < k → rtb S ρ l = true → v.2.2 (cnt (rtb S ρ) l) = nI l) 162 (by omega) ⟨rfl, rfl, fun l hl => by omega⟩ ?_ ?_) (fun z hz => OK.ret ⟨ρ, c1', c2', c3', hz.1, hz.1, hz.2⟩)
      · rintro k ⟨a, b, wk⟩ hk ⟨rfl, rfl, hb⟩
        simp only at hb ⊢
        have ck := cnt_le (rtb S ρ) k
        have wk' := c3' k hk
        have keep : rtb S ρ k = false → OK (some (nI (cnt (rtb S ρ) k), wk)) (fun q : Int32 × (Nat → Int32) => q.1 = nI (cnt (rtb S ρ) (k + 1)) ∧ ∀ l, l < k + 1 → rtb S ρ l = true → q.2 (cnt (rtb S ρ) l) = nI l) := by
          intro hf
          refine OK.ret ⟨by simp only [cnt, hf, Bool.toNat_false, Nat.add_zero], fun l hl rl => ?_⟩
          by_cases e : l = k
          · rw [e, hf] at rl; exact absurd rl (by decide)
          · exact hb l (by omega) rl
        refine OK.f (by rw [show (162 : Int32) = nI 162 from rfl]; exact nle hk (by omega)) (OK.eq (sA k hk) (OK.bind (Q := fun q => q.1 = nI (cnt (rtb S ρ) (k + 1)) ∧ ∀ l, l < k + 1 → rtb S ρ l = true → q.2 (cnt (rtb S ρ) l) = nI l) (OK.ite (fun e => OK.g (ein_nI hk (by omega)) ?_) (fun e => keep ?_)) (fun q hq => OK.inl ⟨nI_s1 k, hq.1, hq.2⟩)))
        · rw [tn_nI (by omega), wk'.1]
          refine OK.ite (fun e2 => ?_) (fun e2 => keep ?_)
          · have e3 : ρ k = k := (nI_inj (by omega) (by omega)).mp e2
            have rt : rtb S ρ k = true := by unfold rtb; rw [e, e3]; simp
            refine OK.g (ein_nI (by omega) (by omega)) (OK.ret ⟨?_, fun l hl rl => ?_⟩)
            · simp only [cnt, rt, Bool.toNat_true]; exact nI_s1 _
            · rw [tn_nI (by omega)]
              simp only [upd]
              by_cases q : l = k
              · rw [if_pos (by rw [q]), q]
              · have h1 : cnt (rtb S ρ) (l + 1) ≤ cnt (rtb S ρ) k := cnt_mono _ (by omega)
                simp only [cnt, rl, Bool.toNat_true] at h1
                rw [if_neg (by omega)]
                exact hb l (by omega) rl
          · unfold rtb
            rw [e]
            simp only [Bool.true_and]
            exact decide_eq_false (fun q => e2 (by rw [q]))
        · unfold rtb
          have : S k = false := by simpa using e
          rw [this]; rfl
      · rintro ⟨a, b, wk⟩ ⟨rfl, rfl, hb⟩
        exact OK.t (by show (162 : Int32) ≤ nI 162; decide) (OK.inr ⟨rfl, hb⟩)
