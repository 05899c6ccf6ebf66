/-! ===== sums over the faces ===== -/
def gs (F : Nat → Nat → Nat) (W H : Nat) : Nat := rsum (fun b => rsum (fun a => F a b) (W - 1)) (H - 1)
theorem rsum_le {P Q : Nat → Nat} : ∀ {k : Nat}, (∀ x, x < k → P x ≤ Q x) → rsum P k ≤ rsum Q k := by
  intro k
  induction k with
  | zero => intro _; exact Nat.le_refl _
  | succ k ih =>
    intro h
    have h1 := ih (fun x hx => h x (by omega))
    have h2 := h k (by omega)
    simp only [rsum]; omega
theorem rsum_add (P Q : Nat → Nat) : ∀ k, rsum (fun x => P x + Q x) k = rsum P k + rsum Q k := by
  intro k
  induction k with
  | zero => rfl
  | succ k ih => simp only [rsum, ih]; omega
theorem rsum_mem (P : Nat → Nat) : ∀ {k x : Nat}, x < k → P x ≤ rsum P k := by
  intro k
  induction k with
  | zero => intro x hx; omega
  | succ k ih =>
    intro x hx
    simp only [rsum]
    by_cases e : x = k
    · subst e; omega
    · have := ih (x := x) (by omega); omega
theorem rsum_0 {P : Nat → Nat} : ∀ {k : Nat}, (∀ x, x < k → P x = 0) → rsum P k = 0 := by
  intro k
  induction k with
  | zero => intro _; rfl
  | succ k ih => intro h; simp only [rsum, ih (fun x hx => h x (by omega)), h k (by omega)]
theorem rsum_one (D x : Nat) : ∀ k, rsum (fun a => if a = x then D else 0) k = if x < k then D else 0 := by
  intro k
  induction k with
  | zero => simp [rsum]
  | succ k ih =>
    simp only [rsum, ih]
    by_cases h1 : x < k
    · rw [if_pos h1, if_neg (by omega), if_pos (by omega)]; rfl
    · rw [if_neg h1]
      by_cases h2 : k = x
      · rw [if_pos h2, if_pos (by omega)]; omega
      · rw [if_neg h2, if_neg (by omega)]
theorem gs_le {F G : Nat → Nat → Nat} {W H : Nat} (h : ∀ a b, a + 1 < W → b + 1 < H → F a b ≤ G a b) : gs F W H ≤ gs G W H := rsum_le (fun b hb => rsum_le (fun a ha => h a b (by omega) (by omega)))
theorem gs_add (F G : Nat → Nat → Nat) (W H : Nat) : gs (fun a b => F a b + G a b) W H = gs F W H + gs G W H := by
  unfold gs
  rw [← rsum_add]
  exact rsum_eq (fun b hb => rsum_add _ _ _)
theorem gs_one (D x y W H : Nat) : gs (fun a b => if a = x ∧ b = y then D else 0) W H = if x + 1 < W ∧ y + 1 < H then D else 0 := by
  unfold gs
  have e : ∀ b, rsum (fun a => if a = x ∧ b = y then D else 0) (W - 1) = if b = y then (if x + 1 < W then D else 0) else 0 := by
    intro b
    by_cases h : b = y
    · rw [if_pos h]
      have : (fun a => if a = x ∧ b = y then D else 0) = fun a => if a = x then D else 0 := by funext a; simp [h]
      rw [this, rsum_one]
      by_cases q : x + 1 < W
      · rw [if_pos q, if_pos (by omega)]
      · rw [if_neg q, if_neg (by omega)]
    · rw [if_neg h]
      exact rsum_0 (fun a _ => if_neg (fun q => h q.2))
  rw [rsum_eq (fun b _ => e b), rsum_one]
  by_cases q : x + 1 < W <;> by_cases r : y + 1 < H
  · rw [if_pos (by omega), if_pos q, if_pos ⟨q, r⟩]
  · rw [if_neg (by omega), if_neg (by omega)]
  · rw [if_pos (by omega), if_neg q, if_neg (by omega)]
  · rw [if_neg (by omega), if_neg (by omega)]
theorem gs_mem (F : Nat → Nat → Nat) {W H a b : Nat} (ha : a + 1 < W) (hb : b + 1 < H) : F a b ≤ gs F W H := by
  have h1 := rsum_mem (fun a => F a b) (k := W - 1) (x := a) (by omega)
  have h2 := rsum_mem (fun b => rsum (fun a => F a b) (W - 1)) (k := H - 1) (x := b) (by omega)
  exact Nat.le_trans h1 h2
/-- what goes from one face to another -/
theorem gs_move {F G : Nat → Nat → Nat} {W H x y x2 y2 D : Nat} (hx : x + 1 < W) (hy : y + 1 < H) (h : ∀ a b, a + 1 < W → b + 1 < H → F a b + (if a = x ∧ b = y then D else 0) ≤ G a b + (if a = x2 ∧ b = y2 then D else 0)) : gs F W H ≤ gs G W H := by
  have h1 := gs_le h
  rw [gs_add, gs_add, gs_one, gs_one, if_pos ⟨hx, hy⟩] at h1
  have : (if x2 + 1 < W ∧ y2 + 1 < H then D else 0) ≤ D := by split <;> omega
  omega
theorem gs_more {F G : Nat → Nat → Nat} {W H x2 y2 : Nat} (h : ∀ a b, a + 1 < W → b + 1 < H → F a b ≤ G a b + (if a = x2 ∧ b = y2 then 1 else 0)) : gs F W H ≤ gs G W H + 1 := by
  have h1 := gs_le h
  rw [gs_add, gs_one] at h1
  have : (if x2 + 1 < W ∧ y2 + 1 < H then 1 else 0) ≤ 1 := by split <;> omega
  omega
theorem cnt_rsum (P : Nat → Bool) : ∀ k, cnt P k = rsum (fun x => (P x).toNat) k := by
  intro k
  induction k with
  | zero => rfl
  | succ k ih => simp only [cnt, rsum, ih]
theorem rowL_len (f : Nat → Int32) (y : Nat) : ∀ k, (rowL f y k).length = cnt (fun x => isC f x y) k := by
  intro k
  induction k with
  | zero => rfl
  | succ k ih =>
    rw [rowL, List.length_append, ih]
    simp only [cnt]
    cases isC f k y <;> rfl
theorem rowsL_len (f : Nat → Int32) (W : Nat) : ∀ j, (rowsL f W j).length = rsum (fun y => cnt (fun x => isC f x y) (W - 1)) j := by
  intro j
  induction j with
  | zero => rfl
  | succ j ih => rw [rowsL, List.length_append, ih, rowL_len]; rfl
theorem coreL_gs (f : Nat → Int32) (W H : Nat) : (coreL f W H).length = gs (fun a b => (isC f a b).toNat) W H := by
  unfold coreL gs
  rw [rowsL_len]
  exact rsum_eq (fun y _ => cnt_rsum _ _)
/-! what a sheet keeps to -/
def vA (f : Nat → Int32) (p a b : Nat) : Nat := (vec f a b p).toInt.natAbs
def okC (f : Nat → Int32) (W H : Nat) : Prop := (coreL f W H).length ≤ 12 ∧ gs (vA f 0) W H ≤ 20 ∧ gs (vA f 1) W H ≤ 20
theorem okC.v {f : Nat → Int32} {W H : Nat} (h : okC f W H) {a b p : Nat} (ha : a + 1 < W) (hb : b + 1 < H) (hp : p ≤ 1) : (vec f a b p).toInt.natAbs ≤ 20 := by
  rcases (show p = 0 ∨ p = 1 by omega) with rfl | rfl
  · exact Nat.le_trans (gs_mem (vA f 0) ha hb) h.2.1
  · exact Nat.le_trans (gs_mem (vA f 1) ha hb) h.2.2
theorem okC.okL {f : Nat → Int32} {W H : Nat} (h : okC f W H) (hW : W ≤ 9) (hH : H ≤ 9) : okL f (coreL f W H) := okL_core hW hH h.1 (fun _ _ _ hx hy hp => h.v hx hy hp)
theorem okC.agr {g f : Nat → Int32} {W H : Nat} (h : okC f W H) (ha : agr W H g f) : okC g W H := by
  refine ⟨by rw [coreL_agr ha]; exact h.1, ?_, ?_⟩
  · exact Nat.le_trans (gs_le (fun a b h1 h2 => by unfold vA; rw [vec_agr ha h1 h2 (by omega)]; exact Nat.le_refl _)) h.2.1
  · exact Nat.le_trans (gs_le (fun a b h1 h2 => by unfold vA; rw [vec_agr ha h1 h2 (by omega)]; exact Nat.le_refl _)) h.2.2
theorem nat_ti_add {a b : Int32} (ha : a.toInt.natAbs ≤ 20) (hb : b.toInt.natAbs ≤ 20) : (a + b).toInt = a.toInt + b.toInt := ti_add (by omega) (by omega)
theorem nat_ti_sub {a b : Int32} (ha : a.toInt.natAbs ≤ 20) (hb : b.toInt.natAbs ≤ 20) : (a - b).toInt = a.toInt - b.toInt := ti_sub (by omega) (by omega)
theorem sub_z (a : Int32) : a + (0 - 0) = a := by rw [Int32.sub_self, Int32.add_zero]
/-- the sums of a part that goes don't grow -/
theorem gs_mv {f : Nat → Int32} {W H x y d p : Nat} {dx dy : Int32} (hW : W ≤ 9) (h : okC f W H) (hx : x + 1 < W) (hy : y + 1 < H) (hd : d < 4) (hp : p ≤ 1) (hv : prt p dx dy = vec f x y p ∨ prt p dx dy = 0) : gs (vA (mvF f x y d dx dy) p) W H ≤ gs (vA f p) W H := by
  have vb : ∀ a b, a + 1 < W → b + 1 < H → (vec f a b p).toInt.natAbs ≤ 20 := fun a b ha hb => h.v ha hb hp
  have db : (prt p dx dy).toInt.natAbs ≤ 20 := by
    rcases hv with e | e
    · rw [e]; exact vb x y hx hy
    · rw [e]; decide
  have key : ∀ (x2 y2 : Nat), (∀ a b, a + 1 < W → b + 1 < H → (at2 a b x y d ↔ a = x2 ∧ b = y2)) → gs (vA (mvF f x y d dx dy) p) W H ≤ gs (vA f p) W H := by
    intro x2 y2 hq
    refine gs_move (x := x) (y := y) (x2 := x2) (y2 := y2) (D := (prt p dx dy).toInt.natAbs) hx hy (fun a b ha hb => ?_)
    unfold vA
    rw [vec_mv f dx dy (by omega) hd (by omega) hp]
    have hq := hq a b ha hb
    have va := vb a b ha hb
    have hne : at2 a b x y d → ¬ at1 a b x y := by
      rintro ⟨q1, q2⟩ ⟨q3, q4⟩
      subst q3; subst q4
      rcases (show d = 0 ∨ d = 1 ∨ d = 2 ∨ d = 3 by omega) with rfl | rfl | rfl | rfl <;> simp [dX, dY] at q1 q2 <;> omega
    by_cases q1 : at1 a b x y
    · have q2 : ¬ at2 a b x y d := fun z => hne z q1
      rw [if_neg q2, if_pos q1, if_pos q1, if_neg (fun z => q2 (hq.mpr z))]
      obtain ⟨rfl, rfl⟩ := q1
      rcases hv with e | e
      · rw [e]
        have : vec f a b p + (0 - vec f a b p) = 0 := by grind
        rw [this]; simp
      · rw [e]; rw [sub_z]; simp
    · rw [if_neg q1, if_neg q1]
      by_cases q2 : at2 a b x y d
      · rw [if_pos q2, if_pos (hq.mp q2)]
        have : vec f a b p + (prt p dx dy - 0) = vec f a b p + prt p dx dy := by grind
        rw [this, nat_ti_add va db]
        omega
      · rw [if_neg q2, if_neg (fun z => q2 (hq.mpr z)), sub_z]; omega
  -- the face that it goes to; (100, 100) where there is none
  by_cases hin : 0 ≤ (x : Int) + dX d ∧ 0 ≤ (y : Int) + dY d
  · exact key ((x : Int) + dX d).toNat ((y : Int) + dY d).toNat (fun a b _ _ => by unfold at2; omega)
  · exact key 100 100 (fun a b ha hb => by unfold at2; omega)
/-- a whole core that goes: no more cores than before -/
theorem len_mv {f : Nat → Int32} {W H x y d : Nat} {dx dy : Int32} (hW : W ≤ 9) (hx : x + 1 < W) (hy : y + 1 < H) (hd : d < 4) (hc : isC f x y = true) (h0 : dx = vec f x y 0) (h1 : dy = vec f x y 1) : (coreL (mvF f x y d dx dy) W H).length ≤ (coreL f W H).length := by
  rw [coreL_gs, coreL_gs]
  have key : ∀ (x2 y2 : Nat), (∀ a b, a + 1 < W → b + 1 < H → (at2 a b x y d ↔ a = x2 ∧ b = y2)) → gs (fun a b => (isC (mvF f x y d dx dy) a b).toNat) W H ≤ gs (fun a b => (isC f a b).toNat) W H := by
    intro x2 y2 hq
    refine gs_move (x := x) (y := y) (x2 := x2) (y2 := y2) (D := 1) hx hy (fun a b ha hb => ?_)
    have hq := hq a b ha hb
    have hne : at2 a b x y d → ¬ at1 a b x y := by
      rintro ⟨q1, q2⟩ ⟨q3, q4⟩
      subst q3; subst q4
      rcases (show d = 0 ∨ d = 1 ∨ d = 2 ∨ d = 3 by omega) with rfl | rfl | rfl | rfl <;> simp [dX, dY] at q1 q2 <;> omega
    have e0 := vec_mv f (y := y) (b := b) dx dy (show x < 8 by omega) hd (show a < 8 by omega) (show 0 ≤ 1 by omega)
    have e1 := vec_mv f (y := y) (b := b) dx dy (show x < 8 by omega) hd (show a < 8 by omega) (show 1 ≤ 1 by omega)
    have tb : ∀ q : Bool, q.toNat ≤ 1 := fun q => by cases q <;> decide
    by_cases q1 : at1 a b x y
    · have q2 : ¬ at2 a b x y d := fun z => hne z q1
      rw [if_pos q1, if_neg (fun z => q2 (hq.mpr z))]
      rw [if_neg q2, if_pos q1] at e0 e1
      obtain ⟨rfl, rfl⟩ := q1
      have f0 : isC (mvF f a b d dx dy) a b = false := by
        unfold isC
        rw [e0, e1]
        show decide (¬ (vec f a b 0 + (0 - dx) = 0 ∧ vec f a b 1 + (0 - dy) = 0)) = false
        rw [h0, h1]
        exact decide_eq_false (fun n => n ⟨by grind, by grind⟩)
      rw [f0, hc]; decide
    · rw [if_neg q1]
      by_cases q2 : at2 a b x y d
      · rw [if_pos (hq.mp q2)]
        have := tb (isC (mvF f x y d dx dy) a b)
        omega
      · rw [if_neg (fun z => q2 (hq.mpr z))]
        rw [if_neg q1, if_neg q2, sub_z] at e0 e1
        have : isC (mvF f x y d dx dy) a b = isC f a b := by unfold isC; rw [e0, e1]
        rw [this]; exact Nat.le_refl _
  by_cases hin : 0 ≤ (x : Int) + dX d ∧ 0 ≤ (y : Int) + dY d
  · exact key ((x : Int) + dX d).toNat ((y : Int) + dY d).toNat (fun a b _ _ => by unfold at2; omega)
  · exact key 100 100 (fun a b ha hb => by unfold at2; omega)
theorem okC_glide {f : Nat → Int32} {W H x y d : Nat} {dx dy : Int32} (hW : W ≤ 9) (h : okC f W H) (hx : x + 1 < W) (hy : y + 1 < H) (hd : d < 4) (hc : isC f x y = true) (h0 : dx = vec f x y 0) (h1 : dy = vec f x y 1) : okC (mvF f x y d dx dy) W H :=
  ⟨Nat.le_trans (len_mv hW hx hy hd hc h0 h1) h.1, Nat.le_trans (gs_mv hW h hx hy hd (by omega) (Or.inl h0)) h.2.1, Nat.le_trans (gs_mv hW h hx hy hd (by omega) (Or.inl h1)) h.2.2⟩
