/-! ===== text() ===== -/
/-- the still sheet of the reference -/
def untR (W H : Nat) (f : Nat → Int32) : Prop := (∀ k, 324 ≤ k → k < 486 → f k = 0) ∧ ∀ a b r p, r ≤ 1 → p ≤ 1 → a < W → b < H → st f a b r p = if r = p then 1 else 0
theorem still_ok {W H : Nat} (hW : W ≤ 9) (hH : H ≤ 9) {f : Nat → Int32} (hf : ∀ k, k < 486 → f k = 0) : OK (e_loop (fun (v15 : Int32 × (Nat → Int32)) => (
        if nI H ≤ v15.1 then
          some (.inr v15.2)
        else
          (e_loop (fun (v20 : Int32 × (Nat → Int32)) => (
              if nI W ≤ v20.1 then
                some (.inr v20.2)
              else
                (fX12_linkAt v20.1 v15.1 false 0).bind (fun q23 =>
                e_g (e_in q23 486) (
                (fX12_linkAt v20.1 v15.1 true 1).bind (fun q25 =>
                e_g (e_in q25 486) (
                some (.inl (v20.1 + 1, upd (upd v20.2 (tn q23) 1) (tn q25) 1)))))) : Option ((Int32 × (Nat → Int32)) ⊕ ((Nat → Int32))))) e_fuel (0, v15.2)).bind (fun x21 =>
          some (.inl (v15.1 + 1, x21))) : Option ((Int32 × (Nat → Int32)) ⊕ ((Nat → Int32))))) e_fuel (0, f)) (untR W H) := by
  have base : ∀ a b r p, r ≤ 1 → p ≤ 1 → a < W → b < H → st f a b r p = 0 := fun a b r p hr hp ha hb => hf _ (by omega)
  refine OK.loop (fun y v => v.1 = nI y ∧ (∀ k, 324 ≤ k → k < 486 → v.2 k = 0) ∧ ∀ a b r p, r ≤ 1 → p ≤ 1 → a < W → b < H → st v.2 a b r p = if r = p ∧ b < y then 1 else 0) H (by omega) ⟨rfl, fun k _ hk => hf k hk, fun a b r p hr hp ha hb => by rw [if_neg (by omega)]; exact base a b r p hr hp ha hb⟩ ?_ ?_
  · rintro y ⟨v1, v2⟩ hy ⟨rfl, hi, hv⟩
    simp only at hi hv ⊢
    refine OK.f (nle hy (by omega)) (OK.bind (OK.loop (Q := fun s => (∀ k, 324 ≤ k → k < 486 → s k = 0) ∧ ∀ a b r p, r ≤ 1 → p ≤ 1 → a < W → b < H → st s a b r p = if r = p ∧ b < y + 1 then 1 else 0) (fun x w => w.1 = nI x ∧ (∀ k, 324 ≤ k → k < 486 → w.2 k = 0) ∧ ∀ a b r p, r ≤ 1 → p ≤ 1 → a < W → b < H → st w.2 a b r p = if r = p ∧ (b < y ∨ (b = y ∧ a < x)) then 1 else 0) W (by omega) ⟨rfl, hi, fun a b r p hr hp ha hb => ?_⟩ ?_ ?_) (fun s hs => OK.inl ⟨nI_s1 y, hs⟩))
    · rw [hv a b r p hr hp ha hb]
      by_cases e : r = p ∧ b < y
      · rw [if_pos e, if_pos (by omega)]
      · rw [if_neg e, if_neg (by omega)]
    · rintro x ⟨w1, w2⟩ hx ⟨rfl, hj, hw⟩
      simp only at hj hw ⊢
      have l0 := linkAt_eq x y 0 false
      have l1 := linkAt_eq x y 1 true
      rw [← z0] at l0
      rw [← z1] at l1
      refine OK.f (nle hx (by omega)) (OK.eq l0 (OK.g (ein_nI (by simp only [Bool.toNat_false]; omega) (by omega)) (OK.eq l1 (OK.g (ein_nI (by simp only [Bool.toNat_true]; omega) (by omega)) (OK.inl ⟨nI_s1 x, ?_, ?_⟩)))))
      · intro k hk hk2
        simp only [Bool.toNat_false, Bool.toNat_true]
        rw [tn_nI (by omega), tn_nI (by omega)]
        simp only [upd]
        rw [if_neg (by omega), if_neg (by omega)]
        exact hj k hk hk2
      · intro a b r p hr hp ha hb
        simp only [Bool.toNat_false, Bool.toNat_true]
        rw [tn_nI (by omega), tn_nI (by omega)]
        have hw9 := hw a b r p hr hp ha hb
        simp only [st, upd] at hw9 ⊢
        by_cases e1 : a = x ∧ b = y
        · obtain ⟨rfl, rfl⟩ := e1
          by_cases e2 : r = p
          · subst e2
            rw [if_pos (show r = r ∧ (b < b ∨ b = b ∧ a < a + 1) by omega)]
            rcases (show r = 0 ∨ r = 1 by omega) with rfl | rfl
            · rw [if_neg (by omega), if_pos (by omega)]
            · rw [if_pos (by omega)]
          · rw [if_neg (by omega), if_neg (by omega), hw9, if_neg (by omega), if_neg (by omega)]
        · rw [if_neg (by omega), if_neg (by omega), hw9]
          by_cases e2 : r = p ∧ (b < y ∨ b = y ∧ a < x)
          · rw [if_pos e2, if_pos (by omega)]
          · rw [if_neg e2, if_neg (by omega)]
    · rintro ⟨w1, w2⟩ ⟨rfl, hj, hw⟩
      refine OK.t (yle (by omega)) (OK.inr ⟨hj, fun a b r p hr hp ha hb => ?_⟩)
      rw [hw a b r p hr hp ha hb]
      by_cases e : r = p ∧ b < y + 1
      · rw [if_pos e, if_pos (by omega)]
      · rw [if_neg e, if_neg (by omega)]
  · rintro ⟨v1, v2⟩ ⟨rfl, hi, hv⟩
    refine OK.t (yle (by omega)) (OK.inr ⟨hi, fun a b r p hr hp ha hb => ?_⟩)
    rw [hv a b r p hr hp ha hb]
    by_cases e : r = p
    · rw [if_pos e, if_pos (by omega)]
    · rw [if_neg e, if_neg (by omega)]
theorem agr_unt {W H : Nat} (hW : W ≤ 9) (hH : H ≤ 9) {g f : Nat → Int32} (hg : ∀ k, k < 324 → g k = unt k) (hf : untR W H f) : agr W H g f := by
  intro x y r p hr hp hx hy
  rw [st_unt g (hg _ (by omega)) hr hp, hf.2 x y r p hr hp (by omega) (by omega)]
theorem okY_0 {W H : Nat} (hW : 2 ≤ W ∧ W ≤ 9) (hH : 2 ≤ H ∧ H ≤ 9) {f : Nat → Int32} (hf : untR W H f) : okY f W H 0 := by
  have hv : ∀ a b p, p ≤ 1 → a + 1 < W → b + 1 < H → vec f a b p = 0 := by
    intro a b p hp ha hb
    unfold vec
    rw [hf.2 a b 0 p (by omega) hp (by omega) (by omega), hf.2 (a + 1) b 1 p (by omega) hp (by omega) (by omega), hf.2 a (b + 1) 0 p (by omega) hp (by omega) (by omega), hf.2 a b 1 p (by omega) hp (by omega) (by omega)]
    rcases (show p = 0 ∨ p = 1 by omega) with rfl | rfl <;> decide
  have hz : ∀ F : Nat → Nat → Nat, (∀ a b, a + 1 < W → b + 1 < H → F a b = 0) → gs F W H ≤ 0 := by
    intro F hF
    unfold gs
    rw [rsum_0 (fun b hb => rsum_0 (fun a ha => hF a b (by omega) (by omega)))]
    exact Nat.le_refl _
  refine ⟨?_, hz _ (fun a b ha hb => ?_), hz _ (fun a b ha hb => ?_)⟩
  · rw [coreL_gs]
    refine hz _ (fun a b ha hb => ?_)
    have : isC f a b = false := by
      unfold isC
      rw [hv a b 0 (by omega) ha hb, hv a b 1 (by omega) ha hb]
      rfl
    rw [this]; rfl
  · unfold vA
    rw [hv a b 0 (by omega) ha hb]; rfl
  · unfold vA
    rw [hv a b 1 (by omega) ha hb]; rfl
