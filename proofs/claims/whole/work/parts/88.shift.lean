/-! ===== shift ===== -/
def ochg (b : Bool) (f : Nat → Int32) (x y r : Nat) (dx dy : Int32) : Nat → Int32 := if b = true then chg f x y r dx dy else f
theorem st_ochg (b : Bool) (f : Nat → Int32) {x y r x' y' r' p : Nat} (dx dy : Int32) (hx : x < 9) (hx' : x' < 9) (hr : r ≤ 1) (hr' : r' ≤ 1) (hp : p ≤ 1) : st (ochg b f x y r dx dy) x' y' r' p = st f x' y' r' p + (if b = true ∧ x' = x ∧ y' = y ∧ r' = r then prt p dx dy else 0) := by
  unfold ochg
  cases b
  · rw [if_neg (by decide), if_neg (fun q => absurd q.1 (by decide)), Int32.add_zero]
  · rw [if_pos rfl, st_chg f dx dy hx hx' hr hr' hp]
    by_cases e : x' = x ∧ y' = y ∧ r' = r
    · rw [if_pos e, if_pos ⟨rfl, e⟩]
    · rw [if_neg e, if_neg (fun q => e q.2), Int32.add_zero]
theorem ochg_hi (b : Bool) (f : Nat → Int32) {x y r : Nat} (dx dy : Int32) (hx : x < 9) (hy : y < 9) (hr : r ≤ 1) {k : Nat} (hk : 324 ≤ k) : ochg b f x y r dx dy k = f k := by
  unfold ochg
  split
  · exact chg_hi f dx dy hx hy hr hk
  · rfl
def shC (W H : Nat) (g : Nat → Int32) (x y : Nat) (dx dy : Int32) : Nat → Int32 := ochg (decide (y + 1 < H)) (ochg (decide (x + 1 < W)) (ochg (decide (1 ≤ y)) (ochg (decide (1 ≤ x)) g (x - 1) y 0 dx dy) x (y - 1) 1 dx dy) x y 0 (0 - dx) (0 - dy)) x y 1 (0 - dx) (0 - dy)
def shR (W H : Nat) (f : Nat → Int32) (x y : Nat) (dx dy : Int32) : Nat → Int32 := ochg (decide (1 ≤ y)) (ochg (decide (1 ≤ x)) (ochg (decide (y + 1 < H)) (ochg (decide (x + 1 < W)) f x y 0 (0 - dx) (0 - dy)) x y 1 (0 - dx) (0 - dy)) (x - 1) y 0 dx dy) x (y - 1) 1 dx dy
theorem shiftSite_eq {W H : Nat} (hW : W ≤ 9) (hH : H ≤ 9) (g : Nat → Int32) {x y : Nat} (hx : x < W) (hy : y < H) (dx dy : Int32) : fX7_shiftSite (nI W) (nI H) g (nI x) (nI y) dx dy = some (shC W H g x y dx dy) := by
  unfold fX7_shiftSite
  have a1 : ∀ g, fX7_addTo (nI W) (nI H) g (nI x - 1) (nI y) 0 dx dy = some (ochg (decide (1 ≤ x)) g (x - 1) y 0 dx dy) := by
    intro g
    unfold ochg
    by_cases e : 1 ≤ x
    · rw [sub1_nI e (by omega), z0, addTo_eq hW hH g (by omega) (by omega) (by omega), if_pos (decide_eq_true e)]
    · rw [z0, addTo_no hW hH g (by omega) ?_, if_neg (by rw [decide_eq_true_eq]; exact e)]
      rw [show x = 0 by omega, show (nI 0 - 1).toInt = -1 from rfl]; omega
  have a2 : ∀ g, fX7_addTo (nI W) (nI H) g (nI x) (nI y - 1) 1 dx dy = some (ochg (decide (1 ≤ y)) g x (y - 1) 1 dx dy) := by
    intro g
    unfold ochg
    by_cases e : 1 ≤ y
    · rw [sub1_nI e (by omega), z1, addTo_eq hW hH g (by omega) (by omega) (by omega), if_pos (decide_eq_true e)]
    · rw [show fX7_addTo (nI W) (nI H) g (nI x) (nI y - 1) 1 dx dy = fX7_addTo (nI W) (nI H) g (nI x) (nI y - 1) (nI 1) dx dy from rfl, addTo_no hW hH g (by omega) ?_, if_neg (by rw [decide_eq_true_eq]; exact e)]
      rw [show y = 0 by omega, show (nI 0 - 1).toInt = -1 from rfl]; omega
  have a3 : ∀ g (a b : Int32), fX7_addTo (nI W) (nI H) g (nI x) (nI y) 0 a b = some (ochg (decide (x + 1 < W)) g x y 0 a b) := by
    intro g a b
    unfold ochg
    by_cases e : x + 1 < W
    · rw [z0, addTo_eq hW hH g (by omega) (by omega) (by omega), if_pos (decide_eq_true e)]
    · rw [z0, addTo_no hW hH g (by omega) ?_, if_neg (by rw [decide_eq_true_eq]; exact e)]
      rw [nI_ti x (by omega), nI_ti y (by omega)]; omega
  have a4 : ∀ g (a b : Int32), fX7_addTo (nI W) (nI H) g (nI x) (nI y) 1 a b = some (ochg (decide (y + 1 < H)) g x y 1 a b) := by
    intro g a b
    unfold ochg
    by_cases e : y + 1 < H
    · rw [z1, addTo_eq hW hH g (by omega) (by omega) (by omega), if_pos (decide_eq_true e)]
    · rw [z1, addTo_no hW hH g (by omega) ?_, if_neg (by rw [decide_eq_true_eq]; exact e)]
      rw [nI_ti x (by omega), nI_ti y (by omega)]; omega
  rw [a1, Option.bind_some, a2, Option.bind_some, a3, Option.bind_some, a4]
  rfl
theorem st_sh {W H : Nat} (hW : W ≤ 9) {g f : Nat → Int32} (h : agr W H g f) {x y : Nat} (hx : x < W) (dx dy : Int32) : agr W H (shC W H g x y dx dy) (shR W H f x y dx dy) := by
  intro x' y' r' p hr hp hx' hy'
  unfold shC shR
  rw [st_ochg _ _ _ _ (by omega) (by omega) (by omega) hr hp, st_ochg _ _ _ _ (by omega) (by omega) (by omega) hr hp, st_ochg _ _ _ _ (by omega) (by omega) (by omega) hr hp, st_ochg _ _ _ _ (by omega) (by omega) (by omega) hr hp, st_ochg _ _ _ _ (by omega) (by omega) (by omega) hr hp, st_ochg _ _ _ _ (by omega) (by omega) (by omega) hr hp, st_ochg _ _ _ _ (by omega) (by omega) (by omega) hr hp, st_ochg _ _ _ _ (by omega) (by omega) (by omega) hr hp, h x' y' r' p hr hp hx' hy']
  generalize (if decide (1 ≤ x) = true ∧ x' = x - 1 ∧ y' = y ∧ r' = 0 then prt p dx dy else 0) = c1
  generalize (if decide (1 ≤ y) = true ∧ x' = x ∧ y' = y - 1 ∧ r' = 1 then prt p dx dy else 0) = c2
  generalize (if decide (x + 1 < W) = true ∧ x' = x ∧ y' = y ∧ r' = 0 then prt p (0 - dx) (0 - dy) else 0) = c3
  generalize (if decide (y + 1 < H) = true ∧ x' = x ∧ y' = y ∧ r' = 1 then prt p (0 - dx) (0 - dy) else 0) = c4
  grind
/-- what a shifted site adds to a link -/
def cf (x y x' y' r' : Nat) (q : Int32) : Int32 := if (x' + 1 = x ∧ y' = y ∧ r' = 0) ∨ (x' = x ∧ y' + 1 = y ∧ r' = 1) then q else if x' = x ∧ y' = y then 0 - q else 0
theorem st_shR {W H : Nat} (hW : W ≤ 9) (f : Nat → Int32) {x y x' y' r' p : Nat} (hx : x < W) (dx dy : Int32) (hr : r' ≤ 1) (hp : p ≤ 1) (hx' : x' + 1 < W + r') (hy' : y' + r' < H) : st (shR W H f x y dx dy) x' y' r' p = st f x' y' r' p + cf x y x' y' r' (prt p dx dy) := by
  unfold shR cf
  rw [st_ochg _ _ _ _ (by omega) (by omega) (by omega) hr hp, st_ochg _ _ _ _ (by omega) (by omega) (by omega) hr hp, st_ochg _ _ _ _ (by omega) (by omega) (by omega) hr hp, st_ochg _ _ _ _ (by omega) (by omega) (by omega) hr hp, prt_neg]
  simp only [decide_eq_true_eq]
  generalize prt p dx dy = q
  by_cases e1 : x' + 1 = x ∧ y' = y ∧ r' = 0
  · rw [if_neg (show ¬ (x + 1 < W ∧ x' = x ∧ y' = y ∧ r' = 0) by omega), if_neg (show ¬ (y + 1 < H ∧ x' = x ∧ y' = y ∧ r' = 1) by omega), if_pos (show 1 ≤ x ∧ x' = x - 1 ∧ y' = y ∧ r' = 0 by omega), if_neg (show ¬ (1 ≤ y ∧ x' = x ∧ y' = y - 1 ∧ r' = 1) by omega), if_pos (Or.inl e1)]
    grind
  · by_cases e2 : x' = x ∧ y' + 1 = y ∧ r' = 1
    · rw [if_neg (show ¬ (x + 1 < W ∧ x' = x ∧ y' = y ∧ r' = 0) by omega), if_neg (show ¬ (y + 1 < H ∧ x' = x ∧ y' = y ∧ r' = 1) by omega), if_neg (show ¬ (1 ≤ x ∧ x' = x - 1 ∧ y' = y ∧ r' = 0) by omega), if_pos (show 1 ≤ y ∧ x' = x ∧ y' = y - 1 ∧ r' = 1 by omega), if_pos (Or.inr e2)]
      grind
    · rw [if_neg (show ¬ ((x' + 1 = x ∧ y' = y ∧ r' = 0) ∨ (x' = x ∧ y' + 1 = y ∧ r' = 1)) from fun z => z.elim e1 e2), if_neg (show ¬ (1 ≤ x ∧ x' = x - 1 ∧ y' = y ∧ r' = 0) by omega), if_neg (show ¬ (1 ≤ y ∧ x' = x ∧ y' = y - 1 ∧ r' = 1) by omega)]
      by_cases e3 : x' = x ∧ y' = y
      · rw [if_pos e3]
        rcases (show r' = 0 ∨ r' = 1 by omega) with rfl | rfl
        · rw [if_pos (show x + 1 < W ∧ x' = x ∧ y' = y ∧ 0 = 0 by omega), if_neg (show ¬ (y + 1 < H ∧ x' = x ∧ y' = y ∧ 0 = 1) by omega)]
          grind
        · rw [if_neg (show ¬ (x + 1 < W ∧ x' = x ∧ y' = y ∧ 1 = 0) by omega), if_pos (show y + 1 < H ∧ x' = x ∧ y' = y ∧ 1 = 1 by omega)]
          grind
      · rw [if_neg e3, if_neg (show ¬ (x + 1 < W ∧ x' = x ∧ y' = y ∧ r' = 0) from fun z => e3 ⟨z.2.1, z.2.2.1⟩), if_neg (show ¬ (y + 1 < H ∧ x' = x ∧ y' = y ∧ r' = 1) from fun z => e3 ⟨z.2.1, z.2.2.1⟩)]
        grind
theorem vec_sh {W H : Nat} (hW : W ≤ 9) (f : Nat → Int32) {x y a b p : Nat} (hx : x < W) (dx dy : Int32) (hp : p ≤ 1) (ha : a + 1 < W) (hb : b + 1 < H) : vec (shR W H f x y dx dy) a b p = vec f a b p := by
  unfold vec
  rw [st_shR hW f hx dx dy (by omega) hp (by omega) (by omega), st_shR hW f hx dx dy (by omega) hp (by omega) (by omega), st_shR hW f hx dx dy (by omega) hp (by omega) (by omega), st_shR hW f hx dx dy (by omega) hp (by omega) (by omega)]
  generalize prt p dx dy = q
  have k : cf x y a b 0 q + cf x y (a + 1) b 1 q - cf x y a (b + 1) 0 q - cf x y a b 1 q = 0 := by
    unfold cf
    by_cases e1 : a = x ∧ b = y
    · rw [if_neg (by omega), if_pos e1, if_neg (by omega), if_neg (by omega), if_neg (by omega), if_neg (by omega), if_neg (by omega)]; grind
    · by_cases e2 : a + 1 = x ∧ b = y
      · rw [if_pos (by omega), if_neg (by omega), if_pos e2, if_neg (by omega), if_neg (by omega), if_neg (by omega), if_neg (by omega)]; grind
      · by_cases e3 : a = x ∧ b + 1 = y
        · rw [if_neg (by omega), if_neg (by omega), if_neg (by omega), if_neg (by omega), if_neg (by omega), if_pos (by omega), if_pos (by omega)]; grind
        · by_cases e4 : a + 1 = x ∧ b + 1 = y
          · rw [if_neg (by omega), if_neg (by omega), if_pos (by omega), if_pos (by omega), if_neg (by omega)]; grind
          · rw [if_neg (by omega), if_neg (by omega), if_neg (by omega), if_neg (by omega), if_neg (by omega), if_neg (by omega), if_neg (by omega)]; grind
  grind
theorem isC_sh {W H : Nat} (hW : W ≤ 9) (f : Nat → Int32) {x y a b : Nat} (hx : x < W) (dx dy : Int32) (ha : a + 1 < W) (hb : b + 1 < H) : isC (shR W H f x y dx dy) a b = isC f a b := by
  unfold isC
  rw [vec_sh hW f hx dx dy (by omega) ha hb, vec_sh hW f hx dx dy (by omega) ha hb]
theorem rowL_cg {W H : Nat} {g f : Nat → Int32} (h : ∀ a b, a + 1 < W → b + 1 < H → isC g a b = isC f a b) {y : Nat} (hy : y + 1 < H) : ∀ {k : Nat}, k + 1 ≤ W → rowL g y k = rowL f y k := by
  intro k
  induction k with
  | zero => intro _; rfl
  | succ k ih => intro hk; rw [rowL, rowL, ih (by omega), h k y (by omega) hy]
theorem coreL_cg {W H : Nat} {g f : Nat → Int32} (h : ∀ a b, a + 1 < W → b + 1 < H → isC g a b = isC f a b) : coreL g W H = coreL f W H := by
  unfold coreL
  have key : ∀ j, j + 1 ≤ H → rowsL g W j = rowsL f W j := by
    intro j
    induction j with
    | zero => intro _; rfl
    | succ j ih =>
      intro hj
      rw [rowsL, rowsL, ih (by omega)]
      by_cases hW : W = 0
      · subst hW; rfl
      · rw [rowL_cg h (by omega) (by omega)]
  by_cases hH : H = 0
  · subst hH; rfl
  · exact key _ (by omega)
theorem okC_cg {W H : Nat} {g f : Nat → Int32} (h : ∀ a b p, a + 1 < W → b + 1 < H → p ≤ 1 → vec g a b p = vec f a b p) (ho : okC f W H) : okC g W H := by
  have hc : ∀ a b, a + 1 < W → b + 1 < H → isC g a b = isC f a b := fun a b ha hb => by unfold isC; rw [h a b 0 ha hb (by omega), h a b 1 ha hb (by omega)]
  refine ⟨by rw [coreL_cg hc]; exact ho.1, ?_, ?_⟩
  · exact Nat.le_trans (gs_le (fun a b h1 h2 => by unfold vA; rw [h a b 0 h1 h2 (by omega)]; exact Nat.le_refl _)) ho.2.1
  · exact Nat.le_trans (gs_le (fun a b h1 h2 => by unfold vA; rw [h a b 1 h1 h2 (by omega)]; exact Nat.le_refl _)) ho.2.2
theorem celC_cg {W H : Nat} {g f pl ve : Nat → Int32} (h : ∀ a b p, a + 1 < W → b + 1 < H → p ≤ 1 → vec g a b p = vec f a b p) (hc : celC f (coreL f W H) pl ve) : celC g (coreL g W H) pl ve := by
  have hcc : ∀ a b, a + 1 < W → b + 1 < H → isC g a b = isC f a b := fun a b ha hb => by unfold isC; rw [h a b 0 ha hb (by omega), h a b 1 ha hb (by omega)]
  rw [coreL_cg hcc]
  intro i hi
  obtain ⟨h1, h2, _⟩ := coreL_at hi
  have := hc i hi
  rw [h _ _ 0 h1 h2 (by omega), h _ _ 1 h1 h2 (by omega)]
  exact this
