/-! ===== path(x, y) ===== -/
theorem byteAt_eq {n k : Nat} {A : Nat → Int32} (hn : n ≤ 300) (hk : k < n) : fX9_byteAt (nI n) A (nI k) = some (A k) := by
  unfold fX9_byteAt
  have g : e_in (nI k) 300 = true := ein_nI (by omega) (by omega)
  rw [if_neg (nI_pos (by omega)), if_neg (nle hk (by omega)), if_neg (by rw [show (300 : Int32) = nI 300 from rfl]; exact nle (by omega) (by omega)), g_t g, tn_nI (by omega)]
theorem toX_eq (x : Int32) {d : Nat} (hd : d < 4) : fX12_toX x (nI d) = some (x + sA3 d) := by
  unfold fX12_toX
  rcases (show d = 0 ∨ d = 1 ∨ d = 2 ∨ d = 3 by omega) with rfl | rfl | rfl | rfl
  · rw [if_pos (by decide)]; rfl
  · rw [if_neg (by decide), if_neg (by decide)]
    show some x = some (x + 0)
    rw [Int32.add_zero]
  · rw [if_neg (by decide), if_pos (by decide), Int32.sub_eq_add_neg]; rfl
  · rw [if_neg (by decide), if_neg (by decide)]
    show some x = some (x + 0)
    rw [Int32.add_zero]
theorem toY_eq (x : Int32) {d : Nat} (hd : d < 4) : fX12_toY x (nI d) = some (x + sA4 d) := by
  unfold fX12_toY
  rcases (show d = 0 ∨ d = 1 ∨ d = 2 ∨ d = 3 by omega) with rfl | rfl | rfl | rfl
  · rw [if_neg (by decide), if_neg (by decide)]
    show some x = some (x + 0)
    rw [Int32.add_zero]
  · rw [if_pos (by decide)]; rfl
  · rw [if_neg (by decide), if_neg (by decide)]
    show some x = some (x + 0)
    rw [Int32.add_zero]
  · rw [if_neg (by decide), if_pos (by decide), Int32.sub_eq_add_neg]; rfl
def dX (d : Nat) : Int := if d = 0 then 1 else if d = 2 then -1 else 0
def dY (d : Nat) : Int := if d = 1 then 1 else if d = 3 then -1 else 0
theorem sX_ti {a d : Nat} (ha : a ≤ 100) (hd : d < 4) : (nI a + sA3 d).toInt = (a : Int) + dX d := by
  have h1 := nI_ti a (by omega)
  rcases (show d = 0 ∨ d = 1 ∨ d = 2 ∨ d = 3 by omega) with rfl | rfl | rfl | rfl
  all_goals (rw [ti_add] <;> (rw [h1]; show _ ; simp [sA3, dX]; try omega))
theorem sY_ti {a d : Nat} (ha : a ≤ 100) (hd : d < 4) : (nI a + sA4 d).toInt = (a : Int) + dY d := by
  have h1 := nI_ti a (by omega)
  rcases (show d = 0 ∨ d = 1 ∨ d = 2 ∨ d = 3 by omega) with rfl | rfl | rfl | rfl
  all_goals (rw [ti_add] <;> (rw [h1]; show _ ; simp [sA4, dY]; try omega))
def sg (d : Nat) : Int32 := if 2 ≤ d then -1 else 1
theorem neg_one_mul (x : Int32) : (-1 : Int32) * x = 0 - x := by
  rw [Int32.neg_mul, Int32.one_mul, Int32.zero_sub]
theorem stride_eq {W H : Nat} {g f : Nat → Int32} (h : agr W H g f) (hW : W ≤ 9) (hH : H ≤ 9) {a b a' b' d p : Nat} (hd : d < 4) (hp : p ≤ 1) (ha : a < W) (hb : b < H) (ha' : a' < W) (hb' : b' < H) (ex : (a' : Int) = (a : Int) + dX d) (ey : (b' : Int) = (b : Int) + dY d) : fX7_strideFrom (nI W) (nI H) g (nI a) (nI b) (nI d) (nI p) = some (sg d * st f (min a a') (min b b') (decide (d % 2 = 1)).toNat p) := by
  unfold fX7_strideFrom
  rcases (show d = 0 ∨ d = 1 ∨ d = 2 ∨ d = 3 by omega) with rfl | rfl | rfl | rfl
  · simp [dX, dY] at ex ey
    have s := (lnk h hW hH (x := a) (y := b) (p := p) false hp (by simp; omega) (by simp; omega)).1
    rw [if_pos (by decide), show (0 : Int32) = nI false.toNat from rfl, s, Option.bind_some]
    rw [show min a a' = a by omega, show min b b' = b by omega]
    show _ = some ((1 : Int32) * _)
    rw [Int32.one_mul]; rfl
  · simp [dX, dY] at ex ey
    have s := (lnk h hW hH (x := a) (y := b) (p := p) true hp (by simp; omega) (by simp; omega)).1
    rw [if_neg (by decide), if_pos (by decide), show (1 : Int32) = nI true.toNat from rfl, s, Option.bind_some]
    rw [show min a a' = a by omega, show min b b' = b by omega]
    show _ = some ((1 : Int32) * _)
    rw [Int32.one_mul]; rfl
  · simp [dX, dY] at ex ey
    have s := (lnk h hW hH (x := a - 1) (y := b) (p := p) false hp (by simp; omega) (by simp; omega)).1
    rw [if_neg (by decide), if_neg (by decide), if_pos (by decide), sub1_nI (by omega) (by omega), show fX7_stepOf (nI W) (nI H) g (nI (a - 1)) (nI b) 0 (nI p) = fX7_stepOf (nI W) (nI H) g (nI (a - 1)) (nI b) (nI false.toNat) (nI p) from rfl, s, Option.bind_some]
    rw [show min a a' = a - 1 by omega, show min b b' = b by omega]
    show _ = some ((-1 : Int32) * _)
    rw [neg_one_mul]; rfl
  · simp [dX, dY] at ex ey
    have s := (lnk h hW hH (x := a) (y := b - 1) (p := p) true hp (by simp; omega) (by simp; omega)).1
    rw [if_neg (by decide), if_neg (by decide), if_neg (by decide), sub1_nI (by omega) (by omega), show fX7_stepOf (nI W) (nI H) g (nI a) (nI (b - 1)) 1 (nI p) = fX7_stepOf (nI W) (nI H) g (nI a) (nI (b - 1)) (nI true.toNat) (nI p) from rfl, s, Option.bind_some]
    rw [show min a a' = a by omega, show min b b' = b - 1 by omega]
    show _ = some ((-1 : Int32) * _)
    rw [neg_one_mul]; rfl
/-- the letters -/
def dirL (c : Int32) : Option Nat := if c = 114 then some 0 else if c = 117 then some 1 else if c = 108 then some 2 else if c = 100 then some 3 else none
def dirI (c : Int32) : Int32 := match dirL c with | some d => nI d | none => -1
theorem cdir_eq (c : Int32) : fX11_directionOf c = some (dirI c) := by
  unfold fX11_directionOf dirI dirL
  by_cases h1 : c = 100
  · subst h1; rfl
  · by_cases h2 : c = 108
    · subst h2; rfl
    · by_cases h3 : c = 114
      · subst h3; rfl
      · by_cases h4 : c = 117
        · subst h4; rfl
        · simp [h1, h2, h3, h4]
theorem rdir_eq (c : Int32) : (if c = 114 then some 0 else if c = 117 then some 1 else if c = 108 then some 2 else if c = 100 then some 3 else some (-1) : Option Int32) = some (dirI c) := by
  unfold dirI dirL
  by_cases h1 : c = 100
  · subst h1; rfl
  · by_cases h2 : c = 108
    · subst h2; rfl
    · by_cases h3 : c = 114
      · subst h3; rfl
      · by_cases h4 : c = 117
        · subst h4; rfl
        · simp [h1, h2, h3, h4]
theorem dirI_cases (c : Int32) : dirI c = -1 ∨ ∃ d, d < 4 ∧ dirI c = nI d := by
  unfold dirI dirL
  by_cases h1 : c = 114
  · exact Or.inr ⟨0, by omega, by simp [h1]⟩
  · by_cases h2 : c = 117
    · exact Or.inr ⟨1, by omega, by simp [h2]⟩
    · by_cases h3 : c = 108
      · exact Or.inr ⟨2, by omega, by simp [h3]⟩
      · by_cases h4 : c = 100
        · exact Or.inr ⟨3, by omega, by simp [h4]⟩
        · exact Or.inl (by simp [h1, h2, h3, h4])
theorem par_tab : ∀ d : Fin 4, (if nI d.val - nI d.val / 2 * 2 = 1 then some true else some false : Option Bool) = some (decide (d.val % 2 = 1)) ∧ (if (2 : Int32) ≤ nI d.val then some (-1) else some 1 : Option Int32) = some (sg d.val) := by decide
set_option maxHeartbeats 2000000 in
theorem path_sm {W H n : Nat} {g f A B wk wk' : Nat → Int32} {b : Bool} (h : agr W H g f) (hW : W ≤ 9) (hH : H ≤ 9) (hn : n ≤ 300) (hA : ∀ k, k < n → A k = B k) (hk : b = true → ∀ k, k < 5 → wk k = wk' k) (p q t : Int32) :
    SM (fX11_path b (nI n) (nI W) (nI H) A g wk p q) (fX12_path t (nI n) (nI W) (nI H) b B f wk' p q) (fun y z => z.1 = y.1 ∧ z.2.1 = 0 ∧ z.2.2.1 = y.2.2.1 ∧ z.2.2.2.1 = y.2.1 ∧ (y.2.1 = true → ∀ k, k < 5 → y.2.2.2 k = z.2.2.2.2 k) ∧ ∃ m, m ≤ n ∧ y.2.2.1 = nI m) := by
  unfold fX11_path fX12_path
  refine SM.eqL (hasSite_eq hW hH p q) (SM.eqR (crys_eq hW) ?_)
  by_cases s1 : 0 ≤ p.toInt ∧ p.toInt < W ∧ 0 ≤ q.toInt ∧ q.toInt < H
  · refine SM.tL (decide_eq_true s1) (SM.tR (decide_eq_true (by omega)) (SM.eqR (isSite_eq hW hH p q) (SM.tR (decide_eq_true s1) ?_)))
    refine SM.bind (SM.loop (Q := fun y z => (∃ e, y = .inl e ∧ z = .inl e) ∨ ∃ m : Int32, y = .inr (m, b, nI n, wk) ∧ z = .inr (m, 0, nI n, b, wk')) (fun k v w => v = w ∧ k ≤ 120 ∧ (0 ≤ v.1.toInt ∧ v.1.toInt < W ∧ 0 ≤ v.2.1.toInt ∧ v.2.1.toInt < H) ∧ v.2.2.2.2 = nI k) n (by omega) ⟨rfl, by omega, s1, rfl⟩ ?_ ?_) ?_
    · rintro k ⟨x, y, dx, dy, i⟩ _ hkn ⟨rfl, h120, sx, hi⟩
      simp only at sx hi ⊢
      subst hi
      obtain ⟨a, ha, rfl⟩ := of_rng (n := W) sx.1 (by omega)
      obtain ⟨c, hc, rfl⟩ := of_rng (n := H) sx.2.2.1 (by omega)
      have gk : e_in (nI k) 300 = true := ein_nI (by omega) (by omega)
      refine SM.fL (nle hkn (by omega)) (SM.fR (nle hkn (by omega)) (SM.gR gk ?_))
      rw [tn_nI (show k < 2147483648 by omega), ← hA k hkn]
      refine SM.eqR (rdir_eq (A k)) ?_
      have out : SM (some (Sum.inr (Sum.inr ((-2 : Int32) - nI k, b, nI n, wk))) : Option ((Int32 × Int32 × Int32 × Int32 × Int32) ⊕ ((Int32 × Int32 × Int32 × Int32) ⊕ (Int32 × Bool × Int32 × (Nat → Int32))))) (some (Sum.inr (Sum.inr ((-2 : Int32) - nI k, (0 : Int32), nI n, b, wk'))) : Option ((Int32 × Int32 × Int32 × Int32 × Int32) ⊕ ((Int32 × Int32 × Int32 × Int32) ⊕ (Int32 × Int32 × Int32 × Bool × (Nat → Int32))))) (fun p q => (∃ v' w', p = .inl v' ∧ q = .inl w' ∧ (v' = w' ∧ k + 1 ≤ 120 ∧ (0 ≤ v'.1.toInt ∧ v'.1.toInt < W ∧ 0 ≤ v'.2.1.toInt ∧ v'.2.1.toInt < H) ∧ v'.2.2.2.2 = nI (k + 1))) ∨ ∃ y z, p = .inr y ∧ q = .inr z ∧ ((∃ e, y = .inl e ∧ z = .inl e) ∨ ∃ m : Int32, y = .inr (m, b, nI n, wk) ∧ z = .inr (m, 0, nI n, b, wk'))) := SM.inrx (Or.inr ⟨_, rfl, rfl⟩)
      by_cases e120 : k = 120
      · subst e120
        refine SM.eqL (z := -1) (by rw [if_pos (by decide)]) (SM.tL (by decide) ?_)
        by_cases e1 : dirI (A 120) = -1
        · exact SM.tR e1 out
        · exact SM.fR e1 (SM.tR rfl out)
      · have l120 : ¬ (120 : Int32) ≤ nI k := by rw [show (120 : Int32) = nI 120 from rfl]; exact nle (by omega) (by omega)
        refine SM.eqL (z := dirI (A k)) (by rw [if_neg l120, byteAt_eq hn hkn, Option.bind_some, cdir_eq, Option.bind_some]) ?_
        rcases dirI_cases (A k) with e | ⟨d, hd, e⟩
        · rw [e]
          exact SM.tL (by decide) (SM.tR rfl out)
        · rw [e]
          have gd : e_in (nI d) 4 = true := ein_nI hd (by omega)
          refine SM.fL (nI_pos (by omega)) (SM.fL (by rw [lt_i, nI_ti d (by omega)]; show ¬ (3 : Int) < _; omega) (SM.gL gd (SM.gL gd ?_)))
          rw [tn_nI (show d < 2147483648 by omega)]
          refine SM.fR (nI_m1 (by omega)) (SM.fR (by rw [show (120 : Int32) = nI 120 from rfl, nI_inj (by omega) (by omega)]; exact e120) (SM.eqL (hasSite_eq hW hH _ _) (SM.eqR (toX_eq _ hd) (SM.eqR (toY_eq _ hd) (SM.eqR (isSite_eq hW hH _ _) ?_)))))
          rw [sX_ti (by omega) hd, sY_ti (by omega) hd]
          refine SM.ite Iff.rfl (fun s2 => ?_) (fun _ => out)
          have s2 := of_decide_eq_true s2
          obtain ⟨a', ha', ea⟩ := of_rng (x := nI a + sA3 d) (n := W) (by rw [sX_ti (by omega) hd]; omega) (by rw [sX_ti (by omega) hd]; omega)
          obtain ⟨c', hc', ec⟩ := of_rng (x := nI c + sA4 d) (n := H) (by rw [sY_ti (by omega) hd]; omega) (by rw [sY_ti (by omega) hd]; omega)
          have ta := sX_ti (a := a) (by omega) hd
          have tc := sY_ti (a := c) (by omega) hd
          rw [ea, nI_ti a' (by omega)] at ta
          rw [ec, nI_ti c' (by omega)] at tc
          have st0 := stride_eq h hW hH (p := 0) hd (by omega) ha hc ha' hc' ta tc
          have st1 := stride_eq h hW hH (p := 1) hd (by omega) ha hc ha' hc' ta tc
          rw [← z0] at st0
          rw [← z1] at st1
          have r0 := step_eq f (x := min a a') (y := min c c') (p := 0) (decide (d % 2 = 1)) (by omega) (by omega) (by omega)
          have r1 := step_eq f (x := min a a') (y := min c c') (p := 1) (decide (d % 2 = 1)) (by omega) (by omega) (by omega)
          rw [← z0] at r0
          rw [← z1] at r1
          have pt := par_tab ⟨d, hd⟩
          simp only at pt
          refine SM.eqL st0 (SM.eqL st1 (SM.gL gd (SM.gL gd (SM.eqR (toX_eq _ hd) ?_))))
          rw [ea, ec]
          refine SM.eqR (min_nI (by omega) (by omega)) (SM.eqR (toY_eq _ hd) ?_)
          rw [ec]
          refine SM.eqR (min_nI (by omega) (by omega)) (SM.eqR pt.2 (SM.eqR pt.1 (SM.eqR r0 (SM.eqR pt.1 (SM.eqR r1 (SM.eqR (toX_eq _ hd) (SM.eqR (toY_eq _ hd) ?_)))))))
          rw [ea, ec]
          refine SM.inl ⟨rfl, by omega, ?_, nI_s1 k⟩
          simp only
          rw [nI_ti a' (by omega), nI_ti c' (by omega)]
          omega
    · rintro ⟨x, y, dx, dy, i⟩ _ ⟨rfl, _, sx, hi⟩
      simp only at sx hi ⊢
      subst hi
      exact SM.tL (yle (by omega)) (SM.tR (yle (by omega)) (SM.inr (Or.inl ⟨_, rfl, rfl⟩)))
    · rintro y z (⟨e, rfl, rfl⟩ | ⟨m, rfl, rfl⟩)
      · simp only [Sum.elim_inl]
        have fin : ∀ v : Int32, SM (some (v, true, (0 : Int32), upd (upd (upd (upd (upd wk (tn 0) e.2.2.1) (tn 1) e.2.2.2) (tn 2) (nI n)) (tn 3) e.1) (tn 4) e.2.1)) (some (v, (0 : Int32), (0 : Int32), true, upd (upd (upd (upd (upd wk' (tn 0) e.2.2.1) (tn 1) e.2.2.2) (tn 2) (nI n)) (tn 3) e.1) (tn 4) e.2.1)) (fun y z => z.1 = y.1 ∧ z.2.1 = 0 ∧ z.2.2.1 = y.2.2.1 ∧ z.2.2.2.1 = y.2.1 ∧ (y.2.1 = true → ∀ k, k < 5 → y.2.2.2 k = z.2.2.2.2 k) ∧ ∃ m, m ≤ n ∧ y.2.2.1 = nI m) := by
          intro v
          refine SM.ret ⟨rfl, rfl, rfl, rfl, fun _ k hk => ?_, 0, by omega, rfl⟩
          have t0 : tn 0 = 0 := rfl
          have t1 : tn 1 = 1 := rfl
          have t2 : tn 2 = 2 := rfl
          have t3 : tn 3 = 3 := rfl
          have t4 : tn 4 = 4 := rfl
          simp only [t0, t1, t2, t3, t4, upd]
          rcases (show k = 0 ∨ k = 1 ∨ k = 2 ∨ k = 3 ∨ k = 4 by omega) with rfl | rfl | rfl | rfl | rfl <;> rfl
        exact SM.ite Iff.rfl (fun _ => SM.ite Iff.rfl (fun _ => fin 1) (fun _ => fin 0)) (fun _ => fin 0)
      · simp only [Sum.elim_inr]
        exact SM.ret ⟨rfl, rfl, rfl, rfl, hk, n, Nat.le_refl _, rfl⟩
  · have out : SM (some ((-1 : Int32), b, nI n, wk)) (some ((-1 : Int32), (0 : Int32), nI n, b, wk')) (fun y z => z.1 = y.1 ∧ z.2.1 = 0 ∧ z.2.2.1 = y.2.2.1 ∧ z.2.2.2.1 = y.2.1 ∧ (y.2.1 = true → ∀ k, k < 5 → y.2.2.2 k = z.2.2.2.2 k) ∧ ∃ m, m ≤ n ∧ y.2.2.1 = nI m) := SM.ret ⟨rfl, rfl, rfl, rfl, hk, n, Nat.le_refl _, rfl⟩
    refine SM.fL (by rw [decide_eq_true_eq]; exact s1) ?_
    by_cases w0 : 0 < W
    · exact SM.tR (decide_eq_true w0) (SM.eqR (isSite_eq hW hH p q) (SM.fR (by rw [decide_eq_true_eq]; exact s1) out))
    · exact SM.fR (by rw [decide_eq_true_eq]; exact w0) out
