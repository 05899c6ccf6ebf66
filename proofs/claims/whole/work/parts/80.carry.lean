/-! ===== a link changes; a vector is carried ===== -/
def lk (x y r : Nat) : Nat := 4 * (9 * y + x) + 2 * r
def chg (f : Nat → Int32) (x y r : Nat) (dx dy : Int32) : Nat → Int32 := upd (upd f (lk x y r) (f (lk x y r) + dx)) (lk x y r + 1) (f (lk x y r + 1) + dy)
theorem changes_eq (f : Nat → Int32) {x y : Nat} (u : Bool) (hx : x ≤ 9) (hy : y ≤ 9) (dx dy : Int32) : fX12_changes f (nI x) (nI y) u dx dy = some (chg f x y u.toNat dx dy) := by
  unfold fX12_changes
  have hu : u.toNat ≤ 1 := by cases u <;> decide
  have e0 := linkAt_eq x y 0 u
  have e1 := linkAt_eq x y 1 u
  rw [← z0] at e0
  rw [← z1] at e1
  rw [e0, e1]
  simp only [Option.bind_some, Nat.add_zero]
  rw [g_t (ein_nI (by omega) (by omega)), g_t (ein_nI (by omega) (by omega)), g_t (ein_nI (by omega) (by omega)), g_t (ein_nI (by omega) (by omega)), tn_nI (by omega), tn_nI (by omega)]
  unfold chg lk
  simp only [upd]
  rw [if_neg (by omega)]
theorem addTo_eq {W H : Nat} (hW : W ≤ 9) (hH : H ≤ 9) (g : Nat → Int32) {x y r : Nat} (hr : r ≤ 1) (hx : x + 1 < W + r) (hy : y + r < H) (dx dy : Int32) : fX7_addTo (nI W) (nI H) g (nI x) (nI y) (nI r) dx dy = some (chg g x y r dx dy) := by
  unfold fX7_addTo
  rw [hasLink_eq hW hH _ _ hr, Option.bind_some, nI_ti x (by omega), nI_ti y (by omega), if_pos (decide_eq_true (by omega)), placeOf_eq]
  simp only [Option.bind_some, nI_s1]
  rw [g_t (ein_nI (by omega) (by omega)), g_t (ein_nI (by omega) (by omega)), g_t (ein_nI (by omega) (by omega)), g_t (ein_nI (by omega) (by omega)), tn_nI (by omega), tn_nI (by omega)]
  unfold chg lk
  simp only [upd]
  rw [if_neg (by omega)]
theorem addTo_no {W H : Nat} (hW : W ≤ 9) (hH : H ≤ 9) (g : Nat → Int32) {x y : Int32} {r : Nat} (hr : r ≤ 1) (h : ¬ (0 ≤ x.toInt ∧ x.toInt < (W : Int) - 1 + r ∧ 0 ≤ y.toInt ∧ y.toInt < (H : Int) - r)) (dx dy : Int32) : fX7_addTo (nI W) (nI H) g x y (nI r) dx dy = some g := by
  unfold fX7_addTo
  rw [hasLink_eq hW hH _ _ hr, Option.bind_some, if_neg (by rw [decide_eq_true_eq]; exact h)]
def prt (p : Nat) (dx dy : Int32) : Int32 := if p = 0 then dx else dy
theorem st_chg (f : Nat → Int32) {x y r x' y' r' p : Nat} (dx dy : Int32) (hx : x < 9) (hx' : x' < 9) (hr : r ≤ 1) (hr' : r' ≤ 1) (hp : p ≤ 1) : st (chg f x y r dx dy) x' y' r' p = if x' = x ∧ y' = y ∧ r' = r then st f x' y' r' p + prt p dx dy else st f x' y' r' p := by
  unfold st chg lk upd prt
  by_cases h : x' = x ∧ y' = y ∧ r' = r
  · obtain ⟨rfl, rfl, rfl⟩ := h
    rcases (show p = 0 ∨ p = 1 by omega) with rfl | rfl
    · simp
    · simp
  · rw [if_neg h, if_neg (by omega), if_neg (by omega)]
theorem chg_hi (f : Nat → Int32) {x y r : Nat} (dx dy : Int32) (hx : x < 9) (hy : y < 9) (hr : r ≤ 1) {k : Nat} (hk : 324 ≤ k) : chg f x y r dx dy k = f k := by
  unfold chg lk upd
  rw [if_neg (by omega), if_neg (by omega)]
theorem agr_chg {W H : Nat} {g f : Nat → Int32} (h : agr W H g f) (hW : W ≤ 9) {x y r : Nat} (hx : x < 9) (hr : r ≤ 1) (dx dy : Int32) : agr W H (chg g x y r dx dy) (chg f x y r dx dy) := by
  intro x' y' r' p hr' hp hx' hy'
  rw [st_chg g dx dy hx (by omega) hr hr' hp, st_chg f dx dy hx (by omega) hr hr' hp, h x' y' r' p hr' hp hx' hy']
/-- a vector goes from a face in a direction -/
def mvF (f : Nat → Int32) (x y d : Nat) (dx dy : Int32) : Nat → Int32 :=
  if d = 0 then chg f (x + 1) y 1 (0 - dx) (0 - dy) else if d = 1 then chg f x (y + 1) 0 dx dy else if d = 2 then chg f x y 1 dx dy else chg f x y 0 (0 - dx) (0 - dy)
theorem mvF_hi (f : Nat → Int32) {x y d : Nat} (dx dy : Int32) (hx : x < 8) (hy : y < 8) {k : Nat} (hk : 324 ≤ k) : mvF f x y d dx dy k = f k := by
  unfold mvF
  repeat' split
  all_goals exact chg_hi f _ _ (by omega) (by omega) (by omega) hk
theorem agr_mvF {W H : Nat} {g f : Nat → Int32} (h : agr W H g f) (hW : W ≤ 9) {x y d : Nat} (hx : x < 8) (dx dy : Int32) : agr W H (mvF g x y d dx dy) (mvF f x y d dx dy) := by
  unfold mvF
  repeat' split
  all_goals exact agr_chg h hW (by omega) (by omega) _ _
abbrev at1 (a b x y : Nat) : Prop := a = x ∧ b = y
abbrev at2 (a b x y d : Nat) : Prop := (a : Int) = (x : Int) + dX d ∧ (b : Int) = (y : Int) + dY d
theorem prt_neg (p : Nat) (dx dy : Int32) : prt p (0 - dx) (0 - dy) = 0 - prt p dx dy := by unfold prt; split <;> rfl
theorem vec_mv (f : Nat → Int32) {x y d a b p : Nat} (dx dy : Int32) (hx : x < 8) (hd : d < 4) (ha : a < 8) (hp : p ≤ 1) : vec (mvF f x y d dx dy) a b p = vec f a b p + ((if at2 a b x y d then prt p dx dy else 0) - (if at1 a b x y then prt p dx dy else 0)) := by
  unfold vec mvF
  have s : ∀ {x y r : Nat} (dx dy : Int32), x < 9 → r ≤ 1 → ∀ {x' y' r' : Nat}, x' < 9 → r' ≤ 1 → st (chg f x y r dx dy) x' y' r' p = if x' = x ∧ y' = y ∧ r' = r then st f x' y' r' p + prt p dx dy else st f x' y' r' p := by
    intro x y r dx dy h1 h2 x' y' r' h3 h4
    exact st_chg f dx dy h1 h3 h2 h4 hp
  rcases (show d = 0 ∨ d = 1 ∨ d = 2 ∨ d = 3 by omega) with rfl | rfl | rfl | rfl
  · simp only [if_true]
    have c1 : at2 a b x y 0 ↔ a = x + 1 ∧ b = y := by simp [at2, dX, dY]; omega
    rw [s _ _ (by omega) (by omega) (by omega) (by omega), s _ _ (by omega) (by omega) (by omega) (by omega), s _ _ (by omega) (by omega) (by omega) (by omega), s _ _ (by omega) (by omega) (by omega) (by omega)]
    rw [if_neg (show ¬ (a = x + 1 ∧ b = y ∧ 0 = 1) by omega), if_neg (show ¬ (a = x + 1 ∧ b + 1 = y ∧ 0 = 1) by omega)]
    have e2 : (a + 1 = x + 1 ∧ b = y ∧ 1 = 1) ↔ at1 a b x y := by unfold at1; omega
    have e4 : (a = x + 1 ∧ b = y ∧ 1 = 1) ↔ at2 a b x y 0 := by rw [c1]; omega
    simp only [e2, e4, prt_neg]
    by_cases q1 : at1 a b x y <;> by_cases q2 : at2 a b x y 0 <;> simp only [q1, q2, if_true, if_false] <;> grind
  · rw [if_neg (by decide), if_pos rfl]
    have c1 : at2 a b x y 1 ↔ a = x ∧ b = y + 1 := by simp [at2, dX, dY]; omega
    rw [s _ _ (by omega) (by omega) (by omega) (by omega), s _ _ (by omega) (by omega) (by omega) (by omega), s _ _ (by omega) (by omega) (by omega) (by omega), s _ _ (by omega) (by omega) (by omega) (by omega)]
    rw [if_neg (show ¬ (a + 1 = x ∧ b = y + 1 ∧ 1 = 0) by omega), if_neg (show ¬ (a = x ∧ b = y + 1 ∧ 1 = 0) by omega)]
    have e2 : (a = x ∧ b + 1 = y + 1 ∧ 0 = 0) ↔ at1 a b x y := by unfold at1; omega
    have e4 : (a = x ∧ b = y + 1 ∧ 0 = 0) ↔ at2 a b x y 1 := by rw [c1]; omega
    simp only [e2, e4, prt_neg]
    by_cases q1 : at1 a b x y <;> by_cases q2 : at2 a b x y 1 <;> simp only [q1, q2, if_true, if_false] <;> grind
  · rw [if_neg (by decide), if_neg (by decide), if_pos rfl]
    have c1 : at2 a b x y 2 ↔ a + 1 = x ∧ b = y := by simp [at2, dX, dY]; omega
    rw [s _ _ (by omega) (by omega) (by omega) (by omega), s _ _ (by omega) (by omega) (by omega) (by omega), s _ _ (by omega) (by omega) (by omega) (by omega), s _ _ (by omega) (by omega) (by omega) (by omega)]
    rw [if_neg (show ¬ (a = x ∧ b = y ∧ 0 = 1) by omega), if_neg (show ¬ (a = x ∧ b + 1 = y ∧ 0 = 1) by omega)]
    have e2 : (a = x ∧ b = y ∧ 1 = 1) ↔ at1 a b x y := by unfold at1; omega
    have e4 : (a + 1 = x ∧ b = y ∧ 1 = 1) ↔ at2 a b x y 2 := by rw [c1]; omega
    simp only [e2, e4, prt_neg]
    by_cases q1 : at1 a b x y <;> by_cases q2 : at2 a b x y 2 <;> simp only [q1, q2, if_true, if_false] <;> grind
  · rw [if_neg (by decide), if_neg (by decide), if_neg (by decide)]
    have c1 : at2 a b x y 3 ↔ a = x ∧ b + 1 = y := by simp [at2, dX, dY]; omega
    rw [s _ _ (by omega) (by omega) (by omega) (by omega), s _ _ (by omega) (by omega) (by omega) (by omega), s _ _ (by omega) (by omega) (by omega) (by omega), s _ _ (by omega) (by omega) (by omega) (by omega)]
    rw [if_neg (show ¬ (a + 1 = x ∧ b = y ∧ 1 = 0) by omega), if_neg (show ¬ (a = x ∧ b = y ∧ 1 = 0) by omega)]
    have e2 : (a = x ∧ b = y ∧ 0 = 0) ↔ at1 a b x y := by unfold at1; omega
    have e4 : (a = x ∧ b + 1 = y ∧ 0 = 0) ↔ at2 a b x y 3 := by rw [c1]; omega
    simp only [e2, e4, prt_neg]
    by_cases q1 : at1 a b x y <;> by_cases q2 : at2 a b x y 3 <;> simp only [q1, q2, if_true, if_false] <;> grind
set_option maxHeartbeats 1000000 in
theorem carry_sm {W H : Nat} {g f : Nat → Int32} (h : agr W H g f) (hW : W ≤ 9) (hH : H ≤ 9) {x y d : Nat} (hx : x + 1 < W) (hy : y + 1 < H) (hd : d < 4) (dx dy : Int32) : SM (fX7_carry (nI W) (nI H) g (nI x) (nI y) dx dy (nI d)) (fX12_moves (nI W) (nI H) f (nI x) (nI y) (nI d) dx dy) (fun a b => a.1 = b.1 ∧ a.2 = mvF g x y d dx dy ∧ b.2 = mvF f x y d dx dy ∧ (a.1 = 0 ∨ a.1 = 2 ∨ a.1 = 3)) := by
  unfold fX7_carry fX12_moves
  have gd : e_in (nI d) 4 = true := ein_nI hd (by omega)
  have cL : (if nI d = 0 then (fX7_addTo (nI W) (nI H) g (nI x + 1) (nI y) 1 ((0 : Int32) - dx) ((0 : Int32) - dy)).bind (fun q7 => some q7) else if nI d = 1 then (fX7_addTo (nI W) (nI H) g (nI x) (nI y + 1) 0 dx dy).bind (fun q9 => some q9) else if nI d = 2 then (fX7_addTo (nI W) (nI H) g (nI x) (nI y) 1 dx dy).bind (fun q11 => some q11) else (fX7_addTo (nI W) (nI H) g (nI x) (nI y) 0 ((0 : Int32) - dx) ((0 : Int32) - dy)).bind (fun q13 => some q13) : Option (Nat → Int32)) = some (mvF g x y d dx dy) := by
    unfold mvF
    rcases (show d = 0 ∨ d = 1 ∨ d = 2 ∨ d = 3 by omega) with rfl | rfl | rfl | rfl
    · rw [if_pos (by decide), nI_s1, z1, addTo_eq hW hH g (by omega) (by omega) (by omega)]; rfl
    · rw [if_neg (by decide), if_pos (by decide), nI_s1, z0, addTo_eq hW hH g (by omega) (by omega) (by omega)]; rfl
    · rw [if_neg (by decide), if_neg (by decide), if_pos (by decide), z1, addTo_eq hW hH g (by omega) (by omega) (by omega)]; rfl
    · rw [if_neg (by decide), if_neg (by decide), if_neg (by decide), show fX7_addTo (nI W) (nI H) g (nI x) (nI y) 0 ((0 : Int32) - dx) ((0 : Int32) - dy) = fX7_addTo (nI W) (nI H) g (nI x) (nI y) (nI 0) ((0 : Int32) - dx) ((0 : Int32) - dy) from rfl, addTo_eq hW hH g (by omega) (by omega) (by omega)]; rfl
  have cR : (if nI d = 0 then (fX12_changes f (nI x + 1) (nI y) true ((0 : Int32) - dx) ((0 : Int32) - dy)).bind (fun q7 => some q7) else if nI d = 1 then (fX12_changes f (nI x) (nI y + 1) false dx dy).bind (fun q9 => some q9) else if nI d = 2 then (fX12_changes f (nI x) (nI y) true dx dy).bind (fun q11 => some q11) else (fX12_changes f (nI x) (nI y) false ((0 : Int32) - dx) ((0 : Int32) - dy)).bind (fun q13 => some q13) : Option (Nat → Int32)) = some (mvF f x y d dx dy) := by
    unfold mvF
    rcases (show d = 0 ∨ d = 1 ∨ d = 2 ∨ d = 3 by omega) with rfl | rfl | rfl | rfl
    · rw [if_pos (by decide), nI_s1, changes_eq f true (by omega) (by omega)]; rfl
    · rw [if_neg (by decide), if_pos (by decide), nI_s1, changes_eq f false (by omega) (by omega)]; rfl
    · rw [if_neg (by decide), if_neg (by decide), if_pos (by decide), changes_eq f true (by omega) (by omega)]; rfl
    · rw [if_neg (by decide), if_neg (by decide), if_neg (by decide), changes_eq f false (by omega) (by omega)]; rfl
  refine SM.fL (nI_pos (by omega)) (SM.tL (by rw [show (3 : Int32) = nI 3 from rfl, nI_le_iff (by omega) (by omega)]; omega) (SM.eqL cL (SM.eqR cR (SM.gL gd (SM.gL gd ?_)))))
  rw [tn_nI (show d < 2147483648 by omega)]
  refine SM.eqL (hasFace_eq hW hH _ _) (SM.eqR (toX_eq _ hd) (SM.eqR (toY_eq _ hd) (SM.eqR (isFace_eq hW hH _ _) ?_)))
  have ta := sX_ti (a := x) (by omega) hd
  have tb := sY_ti (a := y) (by omega) hd
  refine SM.ite Iff.rfl (fun q => ?_) (fun _ => SM.ret ⟨rfl, rfl, rfl, Or.inr (Or.inr rfl)⟩)
  have q := of_decide_eq_true q
  obtain ⟨a, ha, ea⟩ := of_rng (x := nI x + sA3 d) (n := 10) q.1 (by omega)
  obtain ⟨b, hb, eb⟩ := of_rng (x := nI y + sA4 d) (n := 10) q.2.2.1 (by omega)
  rw [ea, eb] at q ⊢
  rw [nI_ti a (by omega), nI_ti b (by omega)] at q
  refine SM.eqL (isPlain_eq hW hH _ (by omega) (by omega)) (SM.eqR (isCore_eq _ (by omega) (by omega)) ?_)
  have hm := agr_mvF (d := d) h hW (x := x) (y := y) (by omega) dx dy
  rw [vec_agr hm (by omega) (by omega) (by omega), vec_agr hm (by omega) (by omega) (by omega)]
  by_cases z : vec (mvF f x y d dx dy) a b 0 = 0 ∧ vec (mvF f x y d dx dy) a b 1 = 0
  · exact SM.tL (decide_eq_true z) (SM.fR (by rw [decide_eq_true_eq]; exact fun n => n z) (SM.ret ⟨rfl, rfl, rfl, Or.inr (Or.inl rfl)⟩))
  · exact SM.fL (by rw [decide_eq_true_eq]; exact z) (SM.tR (decide_eq_true z) (SM.ret ⟨rfl, rfl, rfl, Or.inl rfl⟩))
