/-! ===== halved(k, what) ===== -/
abbrev eB : Type := Nat × Nat × Nat × Nat
def hs (f : Nat → Int32) (x0 y0 x1 y1 : Nat) : Bool := (fX12_hasSum f (nI x0) (nI y0) (nI x1) (nI y1)).getD false
theorem hs_eq {W H : Nat} {g f : Nat → Int32} (h : agr W H g f) (hW : W ≤ 9) (hH : H ≤ 9) {x0 y0 x1 y1 : Nat} (hx : x0 ≤ x1) (hx1 : x1 < W) (hy : y0 ≤ y1) (hy1 : y1 < H) : fX12_hasSum f (nI x0) (nI y0) (nI x1) (nI y1) = some (hs f x0 y0 x1 y1) ∧ fX2_isPlain (nI W) (nI H) (nI x0) (nI y0) g (nI x1) (nI y1) = some (!hs f x0 y0 x1 y1) := by
  obtain ⟨a, _, a1, a2, rfl⟩ := sumRound_sm h hW hH hx hx1 hy hy1 (p := 0) (by omega)
  obtain ⟨b, _, b1, b2, rfl⟩ := sumRound_sm h hW hH hx hx1 hy hy1 (p := 1) (by omega)
  rw [← z0] at a1 a2
  rw [← z1] at b1 b2
  have e : fX12_hasSum f (nI x0) (nI y0) (nI x1) (nI y1) = some (if a = 0 then (if b = 0 then false else true) else true) := by
    unfold fX12_hasSum
    rw [a2, b2]
    simp only [Option.bind_some]
    by_cases q : a = 0 <;> by_cases r : b = 0 <;> simp [q, r]
  have e2 : hs f x0 y0 x1 y1 = (if a = 0 then (if b = 0 then false else true) else true) := by
    unfold hs; rw [e]; rfl
  refine ⟨by rw [e, e2], ?_⟩
  unfold fX2_isPlain
  rw [a1, b1, e2]
  simp only [Option.bind_some]
  by_cases q : a = 0 <;> by_cases r : b = 0 <;> simp [q, r]
def nrw (f : Nat → Int32) (b : eB) : eB :=
  if b.2.2.1 - b.1 < b.2.2.2 - b.2.1 then
    (if hs f b.1 b.2.1 b.2.2.1 (b.2.1 + (b.2.2.2 - b.2.1) / 2) = true then (b.1, b.2.1, b.2.2.1, b.2.1 + (b.2.2.2 - b.2.1) / 2) else (b.1, b.2.1 + (b.2.2.2 - b.2.1) / 2, b.2.2.1, b.2.2.2))
  else
    (if hs f b.1 b.2.1 (b.1 + (b.2.2.1 - b.1) / 2) b.2.2.2 = true then (b.1, b.2.1, b.1 + (b.2.2.1 - b.1) / 2, b.2.2.2) else (b.1 + (b.2.2.1 - b.1) / 2, b.2.1, b.2.2.1, b.2.2.2))
def one (b : eB) : Bool := decide (b.2.2.1 - b.1 ≤ 1 ∧ b.2.2.2 - b.2.1 ≤ 1)
def okB (W H : Nat) (b : eB) : Prop := b.1 < b.2.2.1 ∧ b.2.2.1 < W ∧ b.2.1 < b.2.2.2 ∧ b.2.2.2 < H
theorem nrw_ok {W H : Nat} {f : Nat → Int32} {b : eB} (h : okB W H b) (h1 : one b = false) : okB W H (nrw f b) := by
  obtain ⟨x0, y0, x1, y1⟩ := b
  have h1 := of_decide_eq_false h1
  unfold okB at h ⊢
  unfold nrw
  simp only at h h1 ⊢
  repeat' split
  all_goals (simp only; omega)
def lg8 (w : Nat) : Nat := [0, 0, 1, 2, 2, 3, 3, 3, 3].getD w 0
theorem lg8_tab : ∀ w : Fin 9, 2 ≤ w.val → lg8 (w.val / 2) + 1 ≤ lg8 w.val ∧ lg8 (w.val - w.val / 2) + 1 ≤ lg8 w.val := by decide
theorem lg8_le : ∀ w : Fin 9, lg8 w.val ≤ 3 := by decide
def mu (b : eB) : Nat := lg8 (b.2.2.1 - b.1) + lg8 (b.2.2.2 - b.2.1)
theorem mu_dec {W H : Nat} (hW : W ≤ 9) (hH : H ≤ 9) {f : Nat → Int32} {b : eB} (h : okB W H b) (h1 : one b = false) : mu (nrw f b) + 1 ≤ mu b := by
  obtain ⟨x0, y0, x1, y1⟩ := b
  have h1 := of_decide_eq_false h1
  unfold okB at h
  simp only at h h1
  have tx := lg8_tab ⟨x1 - x0, by omega⟩
  have ty := lg8_tab ⟨y1 - y0, by omega⟩
  simp only at tx ty
  unfold nrw mu
  simp only
  by_cases c : x1 - x0 < y1 - y0
  · rw [if_pos c]
    have ty := ty (by omega)
    split
    · simp only
      rw [show y0 + (y1 - y0) / 2 - y0 = (y1 - y0) / 2 by omega]; omega
    · simp only
      rw [show y1 - (y0 + (y1 - y0) / 2) = (y1 - y0) - (y1 - y0) / 2 by omega]; omega
  · rw [if_neg c]
    have tx := tx (by omega)
    split
    · simp only
      rw [show x0 + (x1 - x0) / 2 - x0 = (x1 - x0) / 2 by omega]; omega
    · simp only
      rw [show x1 - (x0 + (x1 - x0) / 2) = (x1 - x0) - (x1 - x0) / 2 by omega]; omega
def itB (f : Nat → Int32) (b : eB) : Nat → eB
  | 0 => b
  | k + 1 => nrw f (itB f b k)
theorem itB_s (f : Nat → Int32) (b : eB) : ∀ k, itB f b (k + 1) = itB f (nrw f b) k := by
  intro k
  induction k with
  | zero => rfl
  | succ k ih =>
    show nrw f (itB f b (k + 1)) = nrw f (itB f (nrw f b) k)
    rw [ih]
theorem itB_end {W H : Nat} (hW : W ≤ 9) (hH : H ≤ 9) {f : Nat → Int32} : ∀ (m : Nat) (b : eB), okB W H b → mu b ≤ m → ∃ N, N ≤ m ∧ one (itB f b N) = true ∧ ∀ k, k < N → one (itB f b k) = false := by
  intro m
  induction m with
  | zero =>
    intro b hb hm
    cases h : one b with
    | true => exact ⟨0, Nat.le_refl _, h, fun k hk => by omega⟩
    | false => have := mu_dec hW hH (f := f) hb h; omega
  | succ m ih =>
    intro b hb hm
    cases h : one b with
    | true => exact ⟨0, by omega, h, fun k hk => by omega⟩
    | false =>
      have h2 := mu_dec hW hH (f := f) hb h
      obtain ⟨N, n1, n2, n3⟩ := ih (nrw f b) (nrw_ok hb h) (by omega)
      refine ⟨N + 1, by omega, by rw [itB_s]; exact n2, fun k hk => ?_⟩
      cases k with
      | zero => exact h
      | succ k => rw [itB_s]; exact n3 k (by omega)
theorem itB_ok {W H : Nat} {f : Nat → Int32} {b : eB} (h : okB W H b) {N : Nat} (hN : ∀ k, k < N → one (itB f b k) = false) : ∀ k, k ≤ N → okB W H (itB f b k) := by
  intro k
  induction k with
  | zero => intro _; exact h
  | succ k ih => intro hk; exact nrw_ok (ih (by omega)) (hN k (by omega))
abbrev nB (b : eB) : Int32 × Int32 × Int32 × Int32 := (nI b.1, nI b.2.1, nI b.2.2.1, nI b.2.2.2)
theorem half_nI {d : Nat} (h : d ≤ 9) : nI d / 2 = nI (d / 2) := (div2_tab ⟨d, by omega⟩).1
set_option maxHeartbeats 1000000 in
theorem narrow_eq {W H : Nat} {g f : Nat → Int32} (h : agr W H g f) (hW : W ≤ 9) (hH : H ≤ 9) {b : eB} (hb : okB W H b) : fX2_narrow (nI W) (nI H) (nI b.1) (nI b.2.1) (nI b.2.2.1) (nI b.2.2.2) g = some (!one b, nB (if one b = true then b else nrw f b)) := by
  obtain ⟨x0, y0, x1, y1⟩ := b
  unfold okB at hb
  simp only at hb
  unfold fX2_narrow
  have d1 : nI x1 - nI x0 = nI (x1 - x0) := sub_nI (by omega) (by omega)
  have d2 : nI y1 - nI y0 = nI (y1 - y0) := sub_nI (by omega) (by omega)
  have l1 : ∀ {a b : Nat}, a < 2147483648 → b < 2147483648 → (nI a < nI b ↔ a < b) := fun {a b} ha hb => by rw [lt_i, nI_ti a ha, nI_ti b hb]; omega
  have s1 : ((1 : Int32) < nI (x1 - x0)) ↔ 1 < x1 - x0 := l1 (a := 1) (by omega) (by omega)
  have s2 : ((1 : Int32) < nI (y1 - y0)) ↔ 1 < y1 - y0 := l1 (a := 1) (by omega) (by omega)
  have s3 : (nI (x1 - x0) < nI (y1 - y0)) ↔ x1 - x0 < y1 - y0 := l1 (by omega) (by omega)
  simp only [d1, d2, half_nI (show x1 - x0 ≤ 9 by omega), half_nI (show y1 - y0 ≤ 9 by omega), nI_add, s1, s2, s3]
  have px : 1 < x1 - x0 ∨ True → fX2_isPlain (nI W) (nI H) (nI x0) (nI y0) g (nI (x0 + (x1 - x0) / 2)) (nI y1) = some (!hs f x0 y0 (x0 + (x1 - x0) / 2) y1) := fun _ => (hs_eq h hW hH (by omega) (by omega) (by omega) (by omega)).2
  have py : fX2_isPlain (nI W) (nI H) (nI x0) (nI y0) g (nI x1) (nI (y0 + (y1 - y0) / 2)) = some (!hs f x0 y0 x1 (y0 + (y1 - y0) / 2)) := (hs_eq h hW hH (by omega) (by omega) (by omega) (by omega)).2
  have px := px (Or.inr trivial)
  rw [px, py]
  simp only [Option.bind_some]
  by_cases o : one (x0, y0, x1, y1) = true
  · have o' := of_decide_eq_true o
    simp only at o'
    rw [if_neg (by omega), if_neg (by omega), o]
    rfl
  · have o2 : one (x0, y0, x1, y1) = false := by simpa using o
    have o' := of_decide_eq_false o2
    simp only at o'
    rw [o2]
    simp only [Bool.false_eq_true, if_false, Bool.not_false, nrw]
    by_cases c : x1 - x0 < y1 - y0
    · simp only [if_pos c, if_pos (show 1 < y1 - y0 by omega)]
      cases hs f x0 y0 x1 (y0 + (y1 - y0) / 2) <;> simp
    · simp only [if_neg c]
      cases hs f x0 y0 (x0 + (x1 - x0) / 2) y1
      · simp; omega
      · simp; omega
def rB (A : Nat → Int32) (j : Nat) (b : eB) : Prop := A (4 * j) = nI b.1 ∧ A (4 * j + 1) = nI b.2.1 ∧ A (4 * j + 2) = nI b.2.2.1 ∧ A (4 * j + 3) = nI b.2.2.2
theorem boxed_ok {A : Nat → Int32} {n : Nat} {F : Nat → eB} (hn : n < 18) (hA : ∀ j, j < n → rB A j (F j)) : OK (fX12_boxed (nI n) A (nI (F n).1) (nI (F n).2.1) (nI (F n).2.2.1) (nI (F n).2.2.2)) (fun q => q.1 = nI (n + 1) ∧ ∀ j, j < n + 1 → rB q.2 j (F j)) := by
  unfold fX12_boxed
  have e0 : (4 : Int32) * nI n = nI (4 * n) := by rw [z4, pk_mul]
  have e1 : (4 : Int32) * nI n + 1 = nI (4 * n + 1) := by rw [z4, pk_mul, nI_s1]
  have e2 : (4 : Int32) * nI n + 2 = nI (4 * n + 2) := by rw [z4, pk_mul, z2, nI_add]
  have e3 : (4 : Int32) * nI n + 3 = nI (4 * n + 3) := by rw [z4, pk_mul, show (3 : Int32) = nI 3 from rfl, nI_add]
  rw [e3, e2, e1, e0]
  refine OK.g (ein_nI (by omega) (by omega)) (OK.g (ein_nI (by omega) (by omega)) (OK.g (ein_nI (by omega) (by omega)) (OK.g (ein_nI (by omega) (by omega)) (OK.ret ⟨nI_s1 n, fun j hj => ?_⟩))))
  rw [tn_nI (by omega), tn_nI (by omega), tn_nI (by omega), tn_nI (by omega)]
  by_cases e : j = n
  · subst e
    refine ⟨?_, ?_, ?_, ?_⟩ <;> simp [upd]
  · have := hA j (by omega)
    refine ⟨?_, ?_, ?_, ?_⟩
    · simp only [upd]; rw [if_neg (by omega), if_neg (by omega), if_neg (by omega), if_neg (by omega)]; exact this.1
    · simp only [upd]; rw [if_neg (by omega), if_neg (by omega), if_neg (by omega), if_neg (by omega)]; exact this.2.1
    · simp only [upd]; rw [if_neg (by omega), if_neg (by omega), if_neg (by omega), if_neg (by omega)]; exact this.2.2.1
    · simp only [upd]; rw [if_neg (by omega), if_neg (by omega), if_neg (by omega), if_neg (by omega)]; exact this.2.2.2
set_option maxHeartbeats 2000000 in
theorem boxes_ok {W H : Nat} {g f : Nat → Int32} (h : agr W H g f) (hW : W ≤ 9) (hH : H ≤ 9) (hW2 : 2 ≤ W) (hH2 : 2 ≤ H) {N : Nat} (hN : N ≤ 6) (h1 : one (itB f (0, 0, W - 1, H - 1) N) = true) (h2 : ∀ k, k < N → one (itB f (0, 0, W - 1, H - 1) k) = false) (A : Nat → Int32) (c0' : Int32) :
    OK (fX12_laysBoxes (nI W) (nI H) c0' f A) (fun q => if hs f 0 0 (W - 1) (H - 1) = true then q.1 = nI (N + 1) ∧ ∀ j, j < N + 1 → rB q.2 j (itB f (0, 0, W - 1, H - 1) j) else q.1 = 0) := by
  unfold fX12_laysBoxes
  rw [sub1_nI (show 1 ≤ W by omega) (by omega), sub1_nI (show 1 ≤ H by omega) (by omega)]
  have hs0 := (hs_eq h hW hH (x0 := 0) (y0 := 0) (x1 := W - 1) (y1 := H - 1) (by omega) (by omega) (by omega) (by omega)).1
  have b0 : okB W H (0, 0, W - 1, H - 1) := ⟨by show 0 < W - 1; omega, by show W - 1 < W; omega, by show 0 < H - 1; omega, by show H - 1 < H; omega⟩
  have okk := itB_ok b0 h2
  refine OK.eq hs0 ?_
  refine OK.ite (fun e => ?_) (fun e => OK.ret (by rw [if_neg e]))
  refine OK.mono (P := fun q => q.1 = nI (N + 1) ∧ ∀ j, j < N + 1 → rB q.2 j (itB f (0, 0, W - 1, H - 1) j)) ?_ (fun q hq => by rw [if_pos e]; exact hq)
  refine OK.bind (boxed_ok (n := 0) (F := itB f (0, 0, W - 1, H - 1)) (by omega) (fun j hj => by omega)) ?_
  rintro ⟨q1, q2⟩ ⟨e1, hA⟩
  simp only at e1 hA
  subst e1
  simp only
  generalize hF : itB f (0, 0, W - 1, H - 1) = F at h1 h2 okk hA
  have hFs : ∀ k, F (k + 1) = nrw f (F k) := fun k => by rw [← hF]; rfl
  have hF0 : F 0 = (0, 0, W - 1, H - 1) := by rw [← hF]; rfl
  refine OK.bind (OK.loop (Q := fun q => q.1 = nI (N + 1) ∧ ∀ j, j < N + 1 → rB q.2 j (F j)) (fun k v => v.1 = nI (F k).1 ∧ v.2.1 = nI (F k).2.1 ∧ v.2.2.1 = nI (F k).2.2.1 ∧ v.2.2.2.1 = nI (F k).2.2.2 ∧ v.2.2.2.2.1 = nI (k + 1) ∧ ∀ j, j < k + 1 → rB v.2.2.2.2.2 j (F j)) N (by omega) ⟨by rw [hF0]; rfl, by rw [hF0]; rfl, by rw [hF0], by rw [hF0], rfl, hA⟩ ?_ ?_) (fun q hq => OK.ret hq)
  · rintro k ⟨v1, v2, v3, v4, v5, v6⟩ hk ⟨rfl, rfl, rfl, rfl, rfl, hv⟩
    simp only at hv ⊢
    have ob := okk k (by omega)
    have o2 := h2 k hk
    have fs := hFs k
    have bx := boxed_ok (n := k + 1) (F := F) (A := v6) (by omega) hv
    rw [fs] at bx
    generalize F k = b at ob o2 fs bx
    obtain ⟨x0, y0, x1, y1⟩ := b
    unfold okB at ob
    simp only at ob ⊢
    have o' := of_decide_eq_false o2
    simp only at o'
    have d1 : nI x1 - nI x0 = nI (x1 - x0) := sub_nI (by omega) (by omega)
    have d2 : nI y1 - nI y0 = nI (y1 - y0) := sub_nI (by omega) (by omega)
    have l1 : ∀ {a b : Nat}, a < 2147483648 → b < 2147483648 → (nI a < nI b ↔ a < b) := fun {a b} ha hb => by rw [lt_i, nI_ti a ha, nI_ti b hb]; omega
    have s1 : ((1 : Int32) < nI (x1 - x0)) ↔ 1 < x1 - x0 := l1 (a := 1) (by omega) (by omega)
    have s2 : (nI (y1 - y0) ≤ (1 : Int32)) ↔ y1 - y0 ≤ 1 := nI_le_iff (b := 1) (by omega) (by omega)
    have s3 : (nI (x1 - x0) < nI (y1 - y0)) ↔ x1 - x0 < y1 - y0 := l1 (by omega) (by omega)
    have px := (hs_eq h hW hH (x0 := x0) (y0 := y0) (x1 := x0 + (x1 - x0) / 2) (y1 := y1) (by omega) (by omega) (by omega) (by omega)).1
    have py := (hs_eq h hW hH (x0 := x0) (y0 := y0) (x1 := x1) (y1 := y0 + (y1 - y0) / 2) (by omega) (by omega) (by omega) (by omega)).1
    simp only [d1, d2, half_nI (show x1 - x0 ≤ 9 by omega), half_nI (show y1 - y0 ≤ 9 by omega), nI_add, s1, s2, s3, px, py, Option.bind_some]
    have fin : OK ((fX12_boxed (nI (k + 1)) v6 (nB (nrw f (x0, y0, x1, y1))).1 (nB (nrw f (x0, y0, x1, y1))).2.1 (nB (nrw f (x0, y0, x1, y1))).2.2.1 (nB (nrw f (x0, y0, x1, y1))).2.2.2).bind (fun q12 => some (Sum.inl ((nB (nrw f (x0, y0, x1, y1))).1, (nB (nrw f (x0, y0, x1, y1))).2.1, (nB (nrw f (x0, y0, x1, y1))).2.2.1, (nB (nrw f (x0, y0, x1, y1))).2.2.2, q12.1, q12.2)) : _ → Option ((Int32 × Int32 × Int32 × Int32 × Int32 × (Nat → Int32)) ⊕ (Int32 × (Nat → Int32))))) (fun z => ∃ v', z = .inl v' ∧ v'.1 = nI (F (k + 1)).1 ∧ v'.2.1 = nI (F (k + 1)).2.1 ∧ v'.2.2.1 = nI (F (k + 1)).2.2.1 ∧ v'.2.2.2.1 = nI (F (k + 1)).2.2.2 ∧ v'.2.2.2.2.1 = nI (k + 1 + 1) ∧ ∀ j, j < k + 1 + 1 → rB v'.2.2.2.2.2 j (F j)) := by
      refine OK.bind bx (fun q hq => OK.inl ⟨?_, ?_, ?_, ?_, hq.1, hq.2⟩) <;> rw [fs]
    have inner : (if x1 - x0 < y1 - y0 then
        Option.bind (α := Int32) (if hs f x0 y0 x1 (y0 + (y1 - y0) / 2) = true then some (nI (y0 + (y1 - y0) / 2)) else some (nI y1)) (fun q16 =>
        Option.bind (α := Int32) (if hs f x0 y0 x1 (y0 + (y1 - y0) / 2) = true then some (nI y0) else some (nI (y0 + (y1 - y0) / 2))) (fun q18 => some (nI x0, q18, nI x1, q16)))
      else
        Option.bind (α := Int32) (if hs f x0 y0 (x0 + (x1 - x0) / 2) y1 = true then some (nI (x0 + (x1 - x0) / 2)) else some (nI x1)) (fun q22 =>
        Option.bind (α := Int32) (if hs f x0 y0 (x0 + (x1 - x0) / 2) y1 = true then some (nI x0) else some (nI (x0 + (x1 - x0) / 2))) (fun q24 => some (q24, nI y0, q22, nI y1))) : Option (Int32 × Int32 × Int32 × Int32)) = some (nB (nrw f (x0, y0, x1, y1))) := by
      unfold nrw
      simp only
      by_cases c : x1 - x0 < y1 - y0
      · simp only [if_pos c]
        cases hs f x0 y0 x1 (y0 + (y1 - y0) / 2) <;> rfl
      · simp only [if_neg c]
        cases hs f x0 y0 (x0 + (x1 - x0) / 2) y1 <;> rfl
    by_cases c1 : 1 < x1 - x0
    · rw [if_pos c1]
      exact OK.eq inner fin
    · rw [if_neg c1, if_neg (by omega)]
      exact OK.eq inner fin
  · rintro ⟨v1, v2, v3, v4, v5, v6⟩ ⟨rfl, rfl, rfl, rfl, rfl, hv⟩
    simp only at hv ⊢
    have ob := okk N (Nat.le_refl _)
    have o' := of_decide_eq_true h1
    unfold okB at ob
    rw [sub_nI (by omega) (by omega), sub_nI (by omega) (by omega)]
    refine OK.f ?_ (OK.t ?_ (OK.inr ⟨rfl, hv⟩))
    · rw [lt_i, nI_ti _ (by omega), c1]; omega
    · rw [le_i, nI_ti _ (by omega), c1]; omega
