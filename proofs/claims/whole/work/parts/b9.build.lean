/-! ===== cores are laid ===== -/
def cutF (f : Nat → Int32) (y : Nat) (dx dy : Int32) : Nat → (Nat → Int32)
  | 0 => f
  | k + 1 => chg (cutF f y dx dy k) k y 1 (0 - dx) (0 - dy)
theorem st_cut (f : Nat → Int32) {y a b r p : Nat} (dx dy : Int32) (ha : a < 9) (hr : r ≤ 1) (hp : p ≤ 1) : ∀ k, k ≤ 9 → st (cutF f y dx dy k) a b r p = if r = 1 ∧ b = y ∧ a < k then st f a b r p + (0 - prt p dx dy) else st f a b r p := by
  intro k
  induction k with
  | zero => intro _; rw [if_neg (by omega)]; rfl
  | succ k ih =>
    intro hk
    show st (chg (cutF f y dx dy k) k y 1 (0 - dx) (0 - dy)) a b r p = _
    rw [st_chg _ _ _ (by omega) ha (by omega) hr hp, ih (by omega), prt_neg]
    by_cases h : a = k ∧ b = y ∧ r = 1
    · rw [if_pos h, if_neg (by omega), if_pos (by omega)]
    · rw [if_neg h]
      by_cases h2 : r = 1 ∧ b = y ∧ a < k
      · rw [if_pos h2, if_pos (by omega)]
      · rw [if_neg h2, if_neg (by omega)]
theorem cut_hi (f : Nat → Int32) {y : Nat} (dx dy : Int32) (hy : y < 9) {j : Nat} (hj : 324 ≤ j) : ∀ k, k ≤ 9 → cutF f y dx dy k j = f j := by
  intro k
  induction k with
  | zero => intro _; rfl
  | succ k ih =>
    intro hk
    show chg (cutF f y dx dy k) k y 1 (0 - dx) (0 - dy) j = _
    rw [chg_hi _ _ _ (by omega) hy (by omega) hj, ih (by omega)]
theorem agr_cut {W H : Nat} {g f : Nat → Int32} (h : agr W H g f) (hW : W ≤ 9) {y : Nat} (dx dy : Int32) : ∀ k, k ≤ 9 → agr W H (cutF g y dx dy k) (cutF f y dx dy k) := by
  intro k
  induction k with
  | zero => intro _; exact h
  | succ k ih => intro hk; exact agr_chg (ih (by omega)) hW (by omega) (by omega) _ _
theorem vec_cut (f : Nat → Int32) {x y a b p : Nat} (dx dy : Int32) (hx : x < 8) (ha : a < 8) (hp : p ≤ 1) : vec (cutF f y dx dy (x + 1)) a b p = vec f a b p + (if a = x ∧ b = y then prt p dx dy else 0) := by
  unfold vec
  rw [st_cut f dx dy (by omega) (by omega) hp (x + 1) (by omega), st_cut f dx dy (by omega) (by omega) hp (x + 1) (by omega), st_cut f dx dy (by omega) (by omega) hp (x + 1) (by omega), st_cut f dx dy (by omega) (by omega) hp (x + 1) (by omega), if_neg (show ¬ (0 = 1 ∧ b = y ∧ a < x + 1) by omega), if_neg (show ¬ (0 = 1 ∧ b + 1 = y ∧ a < x + 1) by omega)]
  by_cases hb : b = y
  · by_cases h1 : a + 1 < x + 1
    · rw [if_pos (by omega), if_pos (by omega), if_neg (by omega)]
      grind
    · by_cases h2 : a = x
      · rw [if_neg (by omega), if_pos (by omega), if_pos (by omega)]
        grind
      · rw [if_neg (by omega), if_neg (by omega), if_neg (by omega)]
        grind
  · rw [if_neg (by omega), if_neg (by omega), if_neg (by omega)]
    grind
/-- k cores have been laid -/
def okY (f : Nat → Int32) (W H k : Nat) : Prop := (coreL f W H).length ≤ k ∧ gs (vA f 0) W H ≤ 2 * k ∧ gs (vA f 1) W H ≤ 2 * k
theorem okY.okC {f : Nat → Int32} {W H k : Nat} (h : okY f W H k) (hk : k ≤ 10) : okC f W H := by
  obtain ⟨h1, h2, h3⟩ := h
  exact ⟨by omega, by omega, by omega⟩
theorem okY_cut {f : Nat → Int32} {W H x y k : Nat} {dx dy : Int32} (hW : W ≤ 9) (h : okY f W H k) (hk : k ≤ 10) (hx : x + 1 < W) (hy : y + 1 < H) (h0 : dx.toInt.natAbs ≤ 2) (h1 : dy.toInt.natAbs ≤ 2) : okY (cutF f y dx dy (x + 1)) W H (k + 1) := by
  have hC := h.okC hk
  have hpr : ∀ p, (prt p dx dy).toInt.natAbs ≤ 2 := fun p => by unfold prt; split; exact h0; exact h1
  have hv : ∀ p, p ≤ 1 → gs (vA (cutF f y dx dy (x + 1)) p) W H ≤ gs (vA f p) W H + 2 := by
    intro p hp
    have k1 : gs (vA (cutF f y dx dy (x + 1)) p) W H ≤ gs (fun a b => vA f p a b + (if a = x ∧ b = y then 2 else 0)) W H := by
      refine gs_le (fun a b ha hb => ?_)
      unfold vA
      rw [vec_cut f dx dy (by omega) (by omega) hp]
      by_cases e : a = x ∧ b = y
      · rw [if_pos e, if_pos e]
        have b1 := hC.v ha hb hp
        have b2 := hpr p
        rw [nat_ti_add b1 (by omega)]
        omega
      · rw [if_neg e, if_neg e, Int32.add_zero]
        omega
    rw [gs_add, gs_one, if_pos ⟨hx, hy⟩] at k1
    exact k1
  obtain ⟨h1, h2, h3⟩ := h
  have v0 := hv 0 (by omega)
  have v1 := hv 1 (by omega)
  refine ⟨?_, by omega, by omega⟩
  rw [coreL_gs] at h1 ⊢
  have k2 : gs (fun a b => (isC (cutF f y dx dy (x + 1)) a b).toNat) W H ≤ gs (fun a b => (isC f a b).toNat) W H + 1 := by
    refine gs_more (x2 := x) (y2 := y) (fun a b ha hb => ?_)
    by_cases e : a = x ∧ b = y
    · rw [if_pos e]
      have := Bool.toNat_le (isC (cutF f y dx dy (x + 1)) a b)
      omega
    · rw [if_neg e]
      have : isC (cutF f y dx dy (x + 1)) a b = isC f a b := by
        unfold isC
        rw [vec_cut f dx dy (by omega) (by omega) (show 0 ≤ 1 by omega), vec_cut f dx dy (by omega) (by omega) (show 1 ≤ 1 by omega), if_neg e, Int32.add_zero, if_neg e, Int32.add_zero]
      rw [this]
      omega
  omega
/-- the still sheet -/
def unt (k : Nat) : Int32 := if k % 4 = 0 ∨ k % 4 = 3 then 1 else 0
theorem st_unt (f : Nat → Int32) {x y r p : Nat} (h : f (4 * (9 * y + x) + 2 * r + p) = unt (4 * (9 * y + x) + 2 * r + p)) (hr : r ≤ 1) (hp : p ≤ 1) : st f x y r p = if r = p then 1 else 0 := by
  unfold st
  rw [h]
  unfold unt
  rcases (show (r = 0 ∧ p = 0) ∨ (r = 0 ∧ p = 1) ∨ (r = 1 ∧ p = 0) ∨ (r = 1 ∧ p = 1) by omega) with ⟨rfl, rfl⟩ | ⟨rfl, rfl⟩ | ⟨rfl, rfl⟩ | ⟨rfl, rfl⟩
  · rw [if_pos rfl, if_pos (by omega)]
  · rw [if_neg (show ¬ 0 = 1 by omega), if_neg (by omega)]
  · rw [if_neg (show ¬ 1 = 0 by omega), if_neg (by omega)]
  · rw [if_pos rfl, if_pos (by omega)]
theorem lay_ok (g : Nat → Int32) (a b w h : Int32) : OK (fX7_lay a b g w h) (fun z => z.1 = w ∧ z.2.1 = h ∧ ∀ k, k < 324 → z.2.2 k = unt k) := by
  unfold fX7_lay
  refine OK.bind (OK.loop (Q := fun s => ∀ k, k < 324 → s k = unt k) (fun i v => v.1 = nI (4 * i) ∧ ∀ k, k < 4 * i → v.2 k = unt k) 81 (by omega) ⟨rfl, fun k hk => by omega⟩ ?_ ?_) (fun s hs => OK.ret ⟨rfl, rfl, hs⟩)
  · rintro i ⟨v1, v2⟩ hi ⟨rfl, hv⟩
    have a3 : nI (4 * i) + 3 = nI (4 * i + 3) := by rw [show (3 : Int32) = nI 3 from rfl, nI_add]
    have a2 : nI (4 * i) + 2 = nI (4 * i + 2) := by rw [z2, nI_add]
    have a4 : nI (4 * i) + 4 = nI (4 * (i + 1)) := by rw [z4, nI_add, show 4 * i + 4 = 4 * (i + 1) by omega]
    simp only at hv ⊢
    rw [a3, a2, a4, nI_s1]
    refine OK.f (by rw [show (324 : Int32) = nI 324 from rfl]; exact nle (by omega) (by omega)) (OK.g (ein_nI (by omega) (by omega)) (OK.g (ein_nI (by omega) (by omega)) (OK.g (ein_nI (by omega) (by omega)) (OK.g (ein_nI (by omega) (by omega)) (OK.inl ⟨rfl, fun k hk => ?_⟩)))))
    rw [tn_nI (by omega), tn_nI (by omega), tn_nI (by omega), tn_nI (by omega)]
    simp only [upd]
    unfold unt
    split
    · rw [if_pos (by omega)]
    · split
      · rw [if_neg (by omega)]
      · split
        · rw [if_neg (by omega)]
        · split
          · rw [if_pos (by omega)]
          · rw [hv k (by omega)]; rfl
  · rintro ⟨v1, v2⟩ ⟨rfl, hv⟩
    exact OK.t (by rw [show (324 : Int32) = nI 324 from rfl, show (3 : Int32) = nI 3 from rfl, nI_add]; exact (nI_le_iff (by omega) (by omega)).mpr (by omega)) (OK.inr hv)
