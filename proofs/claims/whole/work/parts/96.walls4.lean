/-! ===== the class finds its walls ===== -/
set_option maxHeartbeats 1000000 in
theorem find_w {W H : Nat} {g f : Nat → Int32} (h : agr W H g f) (hW : W ≤ 9) (hH : H ≤ 9) (lo0 : Nat → Int32) : OK (fX10_find (nI W) (nI H) g lo0) (fun lo => ∃ p : Nat → Nat, repC (slA f W H) W H lo p ∧ Cst (slA f W H) W H (root p)) := by
  unfold fX10_find
  have c9' : (9 : Int32) = nI 9 := rfl
  refine OK.bind (Q := fun lo => ∀ l, l < 162 → lo l = if slA f W H l = true then nI l else -1) (OK.loop (fun k v => v.1 = nI k ∧ ∀ l, l < 18 * k → v.2 l = if slA f W H l = true then nI l else -1) 9 (by omega) ⟨rfl, fun l hl => by omega⟩ ?_ ?_) ?_
  · rintro k ⟨a, lk⟩ hk ⟨rfl, hv⟩
    simp only at hv ⊢
    refine OK.f (by rw [c9']; exact nle hk (by omega)) (OK.bind (Q := fun lo => ∀ l, l < 18 * (k + 1) → lo l = if slA f W H l = true then nI l else -1) (OK.loop (fun j v => v.1 = nI j ∧ ∀ l, l < 18 * k + 2 * j → v.2 l = if slA f W H l = true then nI l else -1) 9 (by omega) ⟨rfl, hv⟩ ?_ ?_) (fun z hz => OK.inl ⟨nI_s1 k, hz⟩))
    · rintro j ⟨a, lj⟩ hj ⟨rfl, hv⟩
      simp only at hv ⊢
      refine OK.f (by rw [c9']; exact nle hj (by omega)) (OK.bind (Q := fun lo => ∀ l, l < 18 * k + 2 * (j + 1) → lo l = if slA f W H l = true then nI l else -1) (OK.loop (fun r v => v.1 = nI r ∧ ∀ l, l < 18 * k + 2 * j + r → v.2 l = if slA f W H l = true then nI l else -1) 2 (by omega) ⟨rfl, hv⟩ ?_ ?_) (fun z hz => OK.inl ⟨nI_s1 j, hz⟩))
      · rintro r ⟨a, lr⟩ hr ⟨rfl, hv⟩
        simp only at hv ⊢
        obtain ⟨u, hu⟩ : ∃ u : Bool, u.toNat = r := by
          rcases (show r = 0 ∨ r = 1 by omega) with rfl | rfl
          · exact ⟨false, rfl⟩
          · exact ⟨true, rfl⟩
        have sl := cslip_eq h hW hH (x := j) (y := k) (by omega) (by omega) u
        rw [hu, ← slA_at u (by omega), hu] at sl
        refine OK.f (by rw [z2]; exact nle hr (by omega)) (OK.eq (numberOf_l j k r) (OK.eq sl (OK.bind (Q := fun q => q = if slA f W H (2 * (9 * k + j) + r) = true then nI (2 * (9 * k + j) + r) else -1) (OK.ite (fun e => OK.ret (by rw [if_pos e])) (fun e => OK.ret (by rw [if_neg e]))) (fun q hq => OK.g (ein_nI (by omega) (by omega)) (OK.inl ⟨nI_s1 r, fun l hl => ?_⟩)))))
        rw [tn_nI (by omega)]
        simp only [upd]
        by_cases e : l = 2 * (9 * k + j) + r
        · rw [if_pos e, hq, e]
        · rw [if_neg e]; exact hv l (by omega)
      · rintro ⟨a, lr⟩ ⟨rfl, hv⟩
        exact OK.t (by show (2 : Int32) ≤ nI 2; decide) (OK.inr (fun l hl => hv l (by omega)))
    · rintro ⟨a, lj⟩ ⟨rfl, hv⟩
      exact OK.t (by show (9 : Int32) ≤ nI 9; decide) (OK.inr (fun l hl => hv l (by omega)))
  · rintro ⟨a, lk⟩ ⟨rfl, hv⟩
    exact OK.t (by show (9 : Int32) ≤ nI 9; decide) (OK.inr (fun l hl => hv l (by omega)))
  · intro lo1 h1
    have r1 : repC (slA f W H) W H lo1 (fun l => l) := by
      refine ⟨fun _ => Nat.le_refl _, fun l hl sl => ⟨by rw [h1 l hl, if_pos sl], sl, Con.refl l⟩, fun l hl sl => by rw [h1 l hl, if_neg (by rw [sl]; decide)]⟩
    generalize slA f W H = S at r1
    refine OK.bind (Q := fun lo => ∃ p : Nat → Nat, repC S W H lo p ∧ ∀ x y, x + 1 < W → y + 1 < H → ∀ i j, i < 4 → j < 4 → S (fl x y i) = true → S (fl x y j) = true → root p (fl x y i) = root p (fl x y j)) (OK.loop (fun k v => v.1 = nI k ∧ ∃ p : Nat → Nat, repC S W H v.2 p ∧ ∀ x y, x + 1 < W → y + 1 < H → y < k → ∀ i j, i < 4 → j < 4 → S (fl x y i) = true → S (fl x y j) = true → root p (fl x y i) = root p (fl x y j)) (H - 1) (by omega) ⟨rfl, _, r1, fun x y _ _ d => by omega⟩ ?_ ?_) (fun z hz => OK.ret hz)
    · rintro k ⟨a, lk⟩ hk ⟨rfl, p, p1, p2⟩
      simp only at p1 ⊢
      refine OK.f (by rw [le_pred hH (by omega)]; omega) (OK.bind (Q := fun lo => ∃ p : Nat → Nat, repC S W H lo p ∧ ∀ x y, x + 1 < W → y + 1 < H → y < k + 1 → ∀ i j, i < 4 → j < 4 → S (fl x y i) = true → S (fl x y j) = true → root p (fl x y i) = root p (fl x y j)) (OK.loop (fun j v => v.1 = nI j ∧ ∃ p : Nat → Nat, repC S W H v.2 p ∧ ∀ x y, x + 1 < W → y + 1 < H → (y < k ∨ (y = k ∧ x < j)) → ∀ i j, i < 4 → j < 4 → S (fl x y i) = true → S (fl x y j) = true → root p (fl x y i) = root p (fl x y j)) (W - 1) (by omega) ⟨rfl, p, p1, fun x y hx hy d => p2 x y hx hy (by omega)⟩ ?_ ?_) (fun z hz => OK.inl ⟨nI_s1 k, hz⟩))
      · rintro j ⟨a, lj⟩ hj ⟨rfl, q, q1, q2⟩
        simp only at q1 ⊢
        refine OK.f (by rw [le_pred hW (by omega)]; omega) (OK.bind (joinRound_ok hW hH q1 (x := j) (y := k) (by omega) (by omega)) ?_)
        rintro lo2 ⟨t, t1, t2, t3⟩
        refine OK.inl ⟨nI_s1 j, t, t1, fun x y hx hy d i i' hi hi' si si' => ?_⟩
        by_cases e : y = k ∧ x = j
        · rw [e.1, e.2] at si si' ⊢
          exact t3 i i' hi hi' si si'
        · exact t2 _ _ (q2 x y hx hy (by omega) i i' hi hi' si si')
      · rintro ⟨a, lj⟩ ⟨rfl, q, q1, q2⟩
        exact OK.t (by show nI W - 1 ≤ nI (W - 1); rw [le_pred hW (by omega)]; omega) (OK.inr ⟨q, q1, fun x y hx hy d => q2 x y hx hy (by omega)⟩)
    · rintro ⟨a, lk⟩ ⟨rfl, p, p1, p2⟩
      exact OK.t (by show nI H - 1 ≤ nI (H - 1); rw [le_pred hH (by omega)]; omega) (OK.inr ⟨p, p1, fun x y hx hy => p2 x y hx hy (by omega)⟩)
/-- what the class's row tells of the walls -/
def clsW (S : Nat → Bool) (ρ : Nat → Nat) (lo : Nat → Int32) : Prop := (∀ l, l < 162 → fX10_firstOf lo (nI l) = some (if S l = true then nI (ρ l) else -1)) ∧ ∀ l, l < 162 → (lo l = nI l ↔ rtb S ρ l = true)
theorem clsW_of {S : Nat → Bool} {W H : Nat} {lo : Nat → Int32} {p ρ : Nat → Nat} (h : repC S W H lo p) (hc : Cst S W H (root p)) (k1 : Cst S W H ρ) (k2 : inW S W H ρ) : clsW S ρ lo := by
  have hin : inW S W H (root p) := fun l hl sl => ⟨root_le h.1 l, (h.root hl sl).1, (h.root hl sl).2⟩
  have e : ∀ l, l < 162 → S l = true → root p l = ρ l := fun l hl sl => wsp_eq hc hin k1 k2 hl sl
  refine ⟨fun l hl => ?_, fun l hl => ?_⟩
  · rw [first_eq h hl]
    by_cases sl : S l = true
    · rw [if_pos sl, if_pos sl, e l hl sl]
    · rw [if_neg sl, if_neg sl]
  · unfold rtb
    by_cases sl : S l = true
    · rw [sl, (h.2.1 l hl sl).1, nI_inj (by have := h.1 l; omega) (by omega), ← root_iff h.1, e l hl sl]
      simp
    · have sl2 : S l = false := by simpa using sl
      rw [sl2, h.2.2 l hl sl2]
      exact ⟨fun q => absurd q.symm (nI_m1 (by omega)), fun q => absurd q (by simp)⟩
/-- both find the same walls -/
theorem walls_sm {W H : Nat} {g f : Nat → Int32} (h : agr W H g f) (hW : W ≤ 9) (hH : H ≤ 9) (lo0 A B : Nat → Int32) (c : Int32) : SM (fX10_find (nI W) (nI H) g lo0) (fX12_laysWalls (nI W) (nI H) c f A B) (fun lo z => ∃ ρ : Nat → Nat, clsW (slA f W H) ρ lo ∧ refW (slA f W H) W H ρ z) := by
  obtain ⟨lo, e1, p, p1, p2⟩ := find_w h hW hH lo0
  obtain ⟨z, e2, ρ, hz⟩ := laysWalls_ok hW hH f A B c
  exact ⟨lo, z, e1, e2, ρ, clsW_of p1 p2 hz.1 hz.2.1, hz⟩
theorem size_w {S : Nat → Bool} {ρ : Nat → Nat} {lo : Nat → Int32} (h : clsW S ρ lo) : fX10_size lo = some (nI (cnt (rtb S ρ) 162)) := by
  apply OK.val
  unfold fX10_size
  refine OK.bind (OK.loop (Q := fun q => q = nI (cnt (rtb S ρ) 162)) (fun k v => v.1 = nI (cnt (rtb S ρ) k) ∧ v.2 = nI k) 162 (by omega) ⟨rfl, rfl⟩ ?_ ?_) (fun q hq => OK.ret hq)
  · rintro k ⟨a, b⟩ hk ⟨rfl, rfl⟩
    simp only
    refine OK.f (by rw [show (162 : Int32) = nI 162 from rfl]; exact nle hk (by omega)) (OK.g (ein_nI hk (by omega)) (OK.bind (Q := fun q => q = nI (cnt (rtb S ρ) (k + 1))) ?_ (fun q hq => OK.inl ⟨hq, nI_s1 k⟩)))
    rw [tn_nI (by omega)]
    refine OK.ite (fun e => OK.ret ?_) (fun e => OK.ret ?_)
    · simp only [cnt, (h.2 k hk).mp e, Bool.toNat_true]; exact nI_s1 _
    · have : rtb S ρ k = false := by
        cases q : rtb S ρ k with
        | false => rfl
        | true => exact absurd ((h.2 k hk).mpr q) e
      simp only [cnt, this, Bool.toNat_false, Nat.add_zero]
  · rintro ⟨a, b⟩ ⟨rfl, rfl⟩
    exact OK.t (by show (162 : Int32) ≤ nI 162; decide) (OK.inr rfl)
def onW (S : Nat → Bool) (ρ : Nat → Nat) (r l : Nat) : Bool := S l && decide (ρ l = r)
theorem clinks_eq {S : Nat → Bool} {ρ : Nat → Nat} {lo : Nat → Int32} (h : clsW S ρ lo) (hρ : ∀ l, l < 162 → S l = true → ρ l < 162) {r : Nat} (hr : r < 162) : fX10_linksOf lo (nI r) = some (nI (cnt (onW S ρ r) 162)) := by
  apply OK.val
  unfold fX10_linksOf
  refine OK.bind (OK.loop (Q := fun q => q = nI (cnt (onW S ρ r) 162)) (fun k v => v.1 = nI (cnt (onW S ρ r) k) ∧ v.2 = nI k) 162 (by omega) ⟨rfl, rfl⟩ ?_ ?_) (fun q hq => OK.ret hq)
  · rintro k ⟨a, b⟩ hk ⟨rfl, rfl⟩
    simp only
    refine OK.f (by rw [show (162 : Int32) = nI 162 from rfl]; exact nle hk (by omega)) (OK.eq (h.1 k hk) (OK.bind (Q := fun q => q = nI (cnt (onW S ρ r) (k + 1))) ?_ (fun q hq => OK.inl ⟨hq, nI_s1 k⟩)))
    have e : ((if S k = true then nI (ρ k) else -1) = nI r) ↔ onW S ρ r k = true := by
      unfold onW
      by_cases sk : S k = true
      · rw [if_pos sk, sk, nI_inj (by have := hρ k hk sk; omega) (by omega)]; simp
      · have sk2 : S k = false := by simpa using sk
        rw [if_neg sk, sk2]
        exact ⟨fun q => absurd q.symm (nI_m1 (by omega)), fun q => absurd q (by simp)⟩
    refine OK.ite (fun e1 => OK.ret ?_) (fun e1 => OK.ret ?_)
    · simp only [cnt, e.mp e1, Bool.toNat_true]; exact nI_s1 _
    · have : onW S ρ r k = false := by
        cases q : onW S ρ r k with
        | false => rfl
        | true => exact absurd (e.mpr q) e1
      simp only [cnt, this, Bool.toNat_false, Nat.add_zero]
  · rintro ⟨a, b⟩ ⟨rfl, rfl⟩
    exact OK.t (by show (162 : Int32) ≤ nI 162; decide) (OK.inr rfl)
theorem rlinks_eq {W H : Nat} (hW : W ≤ 9) (hH : H ≤ 9) {f wo : Nat → Int32} {ρ : Nat → Nat} (h : rep wo ρ) {r : Nat} (hr : r < 162) : fX12_linksOf (nI W) (nI H) f wo (nI r) = some (nI (cnt (onW (slA f W H) ρ r) 162)) := by
  apply OK.val
  unfold fX12_linksOf
  refine OK.bind (OK.loop (Q := fun q => q = nI (cnt (onW (slA f W H) ρ r) 162)) (fun k v => v.1 = nI (cnt (onW (slA f W H) ρ r) k) ∧ v.2 = nI k) 162 (by omega) ⟨rfl, rfl⟩ ?_ ?_) (fun q hq => OK.ret hq)
  · rintro k ⟨a, b⟩ hk ⟨rfl, rfl⟩
    simp only
    have hk2 := h k hk
    refine OK.f (by rw [show (162 : Int32) = nI 162 from rfl]; exact nle hk (by omega)) (OK.eq (slipAt_eq hW hH hk) (OK.bind (Q := fun q => q = onW (slA f W H) ρ r k) (OK.ite (fun e => OK.g (ein_nI hk (by omega)) ?_) (fun e => OK.ret ?_)) (fun q hq => OK.inl ⟨?_, nI_s1 k⟩)))
    · rw [tn_nI (by omega), hk2.1]
      unfold onW
      rw [e]
      simp only [Bool.true_and]
      refine OK.ite (fun e1 => OK.ret ?_) (fun e1 => OK.ret ?_)
      · rw [nI_inj (by omega) (by omega)] at e1; exact (decide_eq_true e1).symm
      · rw [nI_inj (by omega) (by omega)] at e1; exact (decide_eq_false e1).symm
    · unfold onW
      have : slA f W H k = false := by simpa using e
      rw [this]; rfl
    · rw [hq, eb_nat, nI_add]; rfl
  · rintro ⟨a, b⟩ ⟨rfl, rfl⟩
    exact OK.t (by show (162 : Int32) ≤ nI 162; decide) (OK.inr rfl)
