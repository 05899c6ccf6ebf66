/-! ===== box(x0, y0, x1, y1, what) ===== -/
theorem cnt_eq {P Q : Nat → Bool} : ∀ {k : Nat}, (∀ x, x < k → P x = Q x) → cnt P k = cnt Q k := by
  intro k
  induction k with
  | zero => intro _; rfl
  | succ k ih => intro h; simp only [cnt, ih (fun x hx => h x (by omega)), h k (by omega)]
def rsum (R : Nat → Nat) : Nat → Nat
  | 0 => 0
  | k + 1 => rsum R k + R k
theorem rsum_eq {P Q : Nat → Nat} : ∀ {k : Nat}, (∀ x, x < k → P x = Q x) → rsum P k = rsum Q k := by
  intro k
  induction k with
  | zero => intro _; rfl
  | succ k ih => intro h; simp only [rsum, ih (fun x hx => h x (by omega)), h k (by omega)]
theorem rsum_stop {P : Nat → Nat} {W : Nat} (h : ∀ x, W ≤ x → P x = 0) : ∀ k, W ≤ k → rsum P k = rsum P W := by
  intro k
  induction k with
  | zero => intro hk; rw [show W = 0 by omega]
  | succ k ih =>
    intro hk
    by_cases e : W = k + 1
    · rw [e]
    · simp only [rsum, h k (by omega), ih (by omega), Nat.add_zero]
/-- cores within the columns from x0 on, rows from y0 on -/
def bxR (f : Nat → Int32) (x0 x1 y0 y : Nat) : Nat := if y0 ≤ y then cnt (fun x => decide (x0 ≤ x) && isC f x y) x1 else 0
theorem cnt_low {P : Nat → Bool} {a : Nat} : ∀ {k : Nat}, k ≤ a → cnt (fun x => decide (a ≤ x) && P x) k = 0 := by
  intro k
  induction k with
  | zero => intro _; rfl
  | succ k ih =>
    intro h
    simp only [cnt, ih (by omega), decide_eq_false (show ¬ a ≤ k by omega), Bool.false_and, Bool.toNat_false]
theorem rsum_low {R : Nat → Nat} {a : Nat} : ∀ {k : Nat}, k ≤ a → rsum (fun y => if a ≤ y then R y else 0) k = 0 := by
  intro k
  induction k with
  | zero => intro _; rfl
  | succ k ih =>
    intro h
    simp only [rsum, ih (by omega), if_neg (show ¬ a ≤ k by omega)]
theorem coresIn_eq {f : Nat → Int32} {x0 y0 x1 y1 : Nat} (hx : x0 ≤ x1) (hx1 : x1 ≤ 8) (hy : y0 ≤ y1) (hy1 : y1 ≤ 8) : fX12_coresIn f (nI x0) (nI y0) (nI x1) (nI y1) = some (nI (rsum (bxR f x0 x1 y0) y1)) := by
  apply OK.val
  unfold fX12_coresIn
  refine OK.bind (OK.loop (Q := fun q => q = nI (rsum (bxR f x0 x1 y0) y1)) (fun k v => v.1 = nI (rsum (bxR f x0 x1 y0) (y0 + k)) ∧ v.2 = nI (y0 + k)) (y1 - y0) (by omega) ⟨?_, rfl⟩ ?_ ?_) (fun q hq => OK.ret hq)
  · have : rsum (bxR f x0 x1 y0) y0 = 0 := rsum_low (Nat.le_refl _)
    rw [Nat.add_zero, this]; rfl
  · rintro k ⟨a, b⟩ hk ⟨rfl, rfl⟩
    simp only
    refine OK.f (nle (by omega) (by omega)) (OK.bind (OK.loop (Q := fun q => q = nI (rsum (bxR f x0 x1 y0) (y0 + (k + 1)))) (fun j v => v.1 = nI (rsum (bxR f x0 x1 y0) (y0 + k) + cnt (fun x => decide (x0 ≤ x) && isC f x (y0 + k)) (x0 + j)) ∧ v.2 = nI (x0 + j)) (x1 - x0) (by omega) ⟨?_, rfl⟩ ?_ ?_) (fun q hq => OK.inl ⟨hq, by rw [nI_s1]; rfl⟩))
    · rw [Nat.add_zero, cnt_low (Nat.le_refl _), Nat.add_zero]
    · rintro j ⟨a, b⟩ hj ⟨rfl, rfl⟩
      simp only
      refine OK.f (nle (by omega) (by omega)) (OK.eq (isCore_eq f (by omega) (by omega)) ?_)
      have e : ∀ b : Bool, (if b = true then some true else some false : Option Bool) = some b := fun b => by cases b <;> rfl
      refine OK.eq (e _) (OK.inl ⟨?_, by rw [nI_s1]; rfl⟩)
      rw [eb_nat, nI_add, show x0 + (j + 1) = (x0 + j) + 1 from rfl]
      simp only [cnt, decide_eq_true (show x0 ≤ x0 + j by omega), Bool.true_and]
      rw [Nat.add_assoc]
      rfl
    · rintro ⟨a, b⟩ ⟨rfl, rfl⟩
      simp only
      rw [show x0 + (x1 - x0) = x1 by omega]
      refine OK.t (yle (by omega)) (OK.inr ?_)
      rw [show y0 + (k + 1) = (y0 + k) + 1 from rfl]
      simp only [rsum, bxR, if_pos (show y0 ≤ y0 + k by omega)]
  · rintro ⟨a, b⟩ ⟨rfl, rfl⟩
    simp only
    rw [show y0 + (y1 - y0) = y1 by omega]
    exact OK.t (yle (by omega)) (OK.inr rfl)
/-- a count over the list of cores -/
def lcnt (P : Nat × Nat → Bool) (L : List (Nat × Nat)) : Nat → Nat
  | 0 => 0
  | k + 1 => lcnt P L k + (P (L.getD k (0, 0))).toNat
theorem lcnt_app (P : Nat × Nat → Bool) (L M : List (Nat × Nat)) : ∀ k, k ≤ L.length → lcnt P (L ++ M) k = lcnt P L k := by
  intro k
  induction k with
  | zero => intro _; rfl
  | succ k ih =>
    intro h
    simp only [lcnt, ih (by omega)]
    congr 3
    simp [List.getD_eq_getElem?_getD, List.getElem?_append_left (show k < L.length by omega)]
theorem lcnt_snoc (P : Nat × Nat → Bool) (L : List (Nat × Nat)) (q : Nat × Nat) : lcnt P (L ++ [q]) (L ++ [q]).length = lcnt P L L.length + (P q).toNat := by
  rw [List.length_append, List.length_singleton]
  simp only [lcnt, lcnt_app P L [q] L.length (Nat.le_refl _)]
  rw [show (L ++ [q]).getD L.length (0, 0) = q from getD_s]
theorem lcnt_add (P : Nat × Nat → Bool) (L : List (Nat × Nat)) : ∀ M : List (Nat × Nat), lcnt P (L ++ M) (L ++ M).length = lcnt P L L.length + lcnt P M M.length := by
  intro M
  have key : ∀ n, ∀ M : List (Nat × Nat), M.length = n → lcnt P (L ++ M) (L ++ M).length = lcnt P L L.length + lcnt P M M.length := by
    intro n
    induction n with
    | zero =>
      intro M hM
      have : M = [] := List.length_eq_zero_iff.mp hM
      subst this
      simp [lcnt]
    | succ n ih =>
      intro M hM
      have hne : M ≠ [] := by intro e; rw [e] at hM; simp at hM
      obtain ⟨N, q, rfl⟩ : ∃ N q, M = N ++ [q] := ⟨M.dropLast, M.getLast hne, (List.dropLast_concat_getLast hne).symm⟩
      rw [List.length_append, List.length_singleton] at hM
      rw [← List.append_assoc, lcnt_snoc, lcnt_snoc, ih N (by omega)]
      omega
  exact key M.length M rfl
theorem lcnt_row (f : Nat → Int32) (P : Nat × Nat → Bool) (y : Nat) : ∀ k, lcnt P (rowL f y k) (rowL f y k).length = cnt (fun x => isC f x y && P (x, y)) k := by
  intro k
  induction k with
  | zero => rfl
  | succ k ih =>
    rw [rowL, lcnt_add, ih]
    simp only [cnt]
    cases isC f k y <;> simp [lcnt]
theorem lcnt_rows (f : Nat → Int32) (P : Nat × Nat → Bool) (W : Nat) : ∀ j, lcnt P (rowsL f W j) (rowsL f W j).length = rsum (fun y => cnt (fun x => isC f x y && P (x, y)) (W - 1)) j := by
  intro j
  induction j with
  | zero => rfl
  | succ j ih =>
    rw [rowsL, lcnt_add, ih, lcnt_row]
    rfl
def inB (x0 y0 x1 y1 : Nat) (q : Nat × Nat) : Bool := decide (x0 ≤ q.1 ∧ q.1 < x1 ∧ y0 ≤ q.2 ∧ q.2 < y1)
theorem inB_cnt {f : Nat → Int32} {W H x0 y0 x1 y1 : Nat} (hx1 : x1 ≤ W - 1) (hy1 : y1 ≤ H - 1) : lcnt (inB x0 y0 x1 y1) (coreL f W H) (coreL f W H).length = rsum (bxR f x0 x1 y0) y1 := by
  unfold coreL
  rw [lcnt_rows]
  have e : ∀ y, y < y1 → cnt (fun x => isC f x y && inB x0 y0 x1 y1 (x, y)) (W - 1) = bxR f x0 x1 y0 y := by
    intro y hy
    unfold bxR
    by_cases h0 : y0 ≤ y
    · rw [if_pos h0, cnt_stop (W := x1) (fun x hx => by simp [inB]; omega) (W - 1) hx1]
      refine cnt_eq (fun x hx => ?_)
      by_cases h1 : x0 ≤ x
      · simp [inB, h0, h1, hx, hy]
      · simp [inB, h1]
    · rw [if_neg h0]
      refine cnt_0 (fun x => ?_) _
      simp [inB, h0]
  rw [rsum_stop (W := y1) (fun y hy => cnt_0 (fun x => by simp [inB]; omega) _) (H - 1) hy1]
  exact rsum_eq e
theorem inBox_eq {f pl ve : Nat → Int32} {L : List (Nat × Nat)} (h : okL f L) (hc : celC f L pl ve) {x0 y0 x1 y1 : Nat} (h0 : x0 ≤ 9) (h1 : y0 ≤ 9) (h2 : x1 ≤ 9) (h3 : y1 ≤ 9) : fX0_inBox (nI L.length) pl (nI x0) (nI y0) (nI x1) (nI y1) = some (nI (lcnt (inB x0 y0 x1 y1) L L.length)) := by
  apply OK.val
  unfold fX0_inBox
  have hn := h.1
  refine OK.bind (OK.loop (Q := fun q => q = nI (lcnt (inB x0 y0 x1 y1) L L.length)) (fun k v => v.1 = nI (lcnt (inB x0 y0 x1 y1) L k) ∧ v.2 = nI k) L.length (by omega) ⟨rfl, rfl⟩ ?_ ?_) (fun q hq => OK.ret hq)
  · rintro k ⟨a, b⟩ hk ⟨rfl, rfl⟩
    simp only
    have q1 := cplace_eq hc (w := 0) hn hk (by omega)
    have q2 := cplace_eq hc (w := 1) hn hk (by omega)
    have b1 := okL_kp h hk 0
    have b2 := okL_kp h hk 1
    rw [← z0] at q1
    rw [← z1] at q2
    refine OK.f (nle hk (by omega)) (OK.eq q1 (OK.eq q2 (OK.bind (Q := fun q => q = nI (lcnt (inB x0 y0 x1 y1) L (k + 1))) ?_ (fun q hq => OK.inl ⟨hq, nI_s1 k⟩))))
    have e : ∀ b : Bool, inB x0 y0 x1 y1 (L.getD k (0, 0)) = b → lcnt (inB x0 y0 x1 y1) L (k + 1) = lcnt (inB x0 y0 x1 y1) L k + b.toNat := fun b hb => by simp only [lcnt, hb]
    have hkx : kp L k 0 = (L.getD k (0, 0)).1 := rfl
    have hky : kp L k 1 = (L.getD k (0, 0)).2 := rfl
    have t1 := nI_ti (kp L k 0) (by omega)
    have t2 := nI_ti (kp L k 1) (by omega)
    have t3 := nI_ti x0 (by omega)
    have t4 := nI_ti x1 (by omega)
    have t5 := nI_ti y0 (by omega)
    have t6 := nI_ti y1 (by omega)
    simp only [lt_i, le_i, t1, t2, t3, t4, t5, t6]
    by_cases hb : inB x0 y0 x1 y1 (L.getD k (0, 0)) = true
    · have hb' := of_decide_eq_true hb
      rw [e true hb]
      refine OK.f (by omega) (OK.f (by omega) (OK.f (by omega) (OK.f (by omega) (OK.ret ?_))))
      exact nI_s1 _
    · have hb2 : inB x0 y0 x1 y1 (L.getD k (0, 0)) = false := by simpa using hb
      have hb' := of_decide_eq_false hb2
      rw [e false hb2]
      refine OK.ite (fun _ => OK.ret rfl) (fun a1 => OK.ite (fun _ => OK.ret rfl) (fun a2 => OK.ite (fun _ => OK.ret rfl) (fun a3 => OK.ite (fun _ => OK.ret rfl) (fun a4 => ?_))))
      exact absurd ⟨by omega, by omega, by omega, by omega⟩ hb'
  · rintro ⟨a, b⟩ ⟨rfl, rfl⟩
    exact OK.t (yle (by omega)) (OK.inr rfl)
set_option maxHeartbeats 1000000 in
theorem box_sm {W H : Nat} {g f pl ve : Nat → Int32} (h : agr W H g f) (hW : W ≤ 9) (hH : H ≤ 9) (ho : okL f (coreL f W H)) (hc : celC f (coreL f W H) pl ve) (p0 p1 p2 p3 p4 t : Int32) : SM (fX11_box (nI W) (nI H) (nI (coreL f W H).length) g pl p0 p1 p2 p3 p4) (fX12_box t (nI W) (nI H) f p0 p1 p2 p3 p4) (fun y z => z.1 = y ∧ z.2 = 0) := by
  unfold fX11_box fX12_box
  refine SM.eqL (hasSite_eq hW hH p0 p1) (SM.eqR (crys_eq hW) ?_)
  by_cases s1 : 0 ≤ p0.toInt ∧ p0.toInt < W ∧ 0 ≤ p1.toInt ∧ p1.toInt < H
  · refine SM.tL (decide_eq_true s1) (SM.tR (decide_eq_true (by omega)) (SM.eqR (isSite_eq hW hH p0 p1) (SM.tR (decide_eq_true s1) (SM.eqL (hasSite_eq hW hH p2 p3) (SM.eqR (isSite_eq hW hH p2 p3) ?_)))))
    refine SM.ite Iff.rfl (fun s2 => ?_) (fun _ => SM.ret ⟨rfl, rfl⟩)
    have s2 := of_decide_eq_true s2
    refine SM.ite Iff.rfl (fun _ => SM.ret ⟨rfl, rfl⟩) (fun l1 => SM.ite Iff.rfl (fun _ => SM.ret ⟨rfl, rfl⟩) (fun l2 => ?_))
    refine SM.eqR (in_c p4 (n := ((3 : Nat) : Int)) rfl) (SM.rng1 rfl ?_ (SM.ret ⟨rfl, rfl⟩))
    rintro w hw rfl
    rw [le_i] at l1 l2
    obtain ⟨x0, hx0, rfl⟩ := of_rng (n := W) s1.1 (by omega)
    obtain ⟨y0, hy0, rfl⟩ := of_rng (n := H) s1.2.2.1 (by omega)
    obtain ⟨x1, hx1, rfl⟩ := of_rng (n := W) s2.1 (by omega)
    obtain ⟨y1, hy1, rfl⟩ := of_rng (n := H) s2.2.2.1 (by omega)
    rw [nI_ti x1 (by omega), nI_ti x0 (by omega)] at l1
    rw [nI_ti y1 (by omega), nI_ti y0 (by omega)] at l2
    rcases (show w ≤ 1 ∨ w = 2 ∨ w = 3 by omega) with hw1 | rfl | rfl
    · have e2 : nI w ≠ 2 := by rw [z2, Ne, nI_inj (by omega) (by omega)]; omega
      have e3 : nI w ≠ 3 := by rw [show (3 : Int32) = nI 3 from rfl, Ne, nI_inj (by omega) (by omega)]; omega
      have l2' : ¬ (2 : Int32) ≤ nI w := by rw [z2, nI_le_iff (by omega) (by omega)]; omega
      exact SM.fL e2 (SM.fL e3 (SM.fR l2' (SM.bind (sumRound_sm h hW hH (by omega) hx1 (by omega) hy1 hw1) (fun y z e => SM.ret ⟨e.symm, rfl⟩))))
    · refine SM.tL rfl (SM.tR (by decide) (SM.tR rfl (SM.eqL (inBox_eq ho hc (by omega) (by omega) (by omega) (by omega)) (SM.eqR (coresIn_eq (by omega) (by omega) (by omega) (by omega)) (SM.ret ⟨?_, rfl⟩)))))
      simp only
      rw [inB_cnt (by omega) (by omega)]
    · exact SM.fL (by decide) (SM.tL rfl (SM.tR (by decide) (SM.fR (by decide) (SM.ret ⟨rfl, rfl⟩))))
  · refine SM.fL (by rw [decide_eq_true_eq]; exact s1) ?_
    by_cases w0 : 0 < W
    · exact SM.tR (decide_eq_true w0) (SM.eqR (isSite_eq hW hH p0 p1) (SM.fR (by rw [decide_eq_true_eq]; exact s1) (SM.ret ⟨rfl, rfl⟩)))
    · exact SM.fR (by rw [decide_eq_true_eq]; exact w0) (SM.ret ⟨rfl, rfl⟩)
/-- the cores of the whole sheet -/
theorem lcnt_all {P : Nat × Nat → Bool} {L : List (Nat × Nat)} : ∀ {k : Nat}, k ≤ L.length → (∀ i, i < k → P (L.getD i (0, 0)) = true) → lcnt P L k = k := by
  intro k
  induction k with
  | zero => intro _ _; rfl
  | succ k ih =>
    intro hk h
    simp only [lcnt, ih (by omega) (fun i hi => h i (by omega)), h k (by omega), Bool.toNat_true]
theorem coresAll_eq {f : Nat → Int32} {W H : Nat} (hW : W ≤ 9) (hH : H ≤ 9) (hW1 : 1 ≤ W) (hH1 : 1 ≤ H) : fX12_coresIn f 0 0 (nI W - 1) (nI H - 1) = some (nI (coreL f W H).length) := by
  rw [sub1_nI hW1 (by omega), sub1_nI hH1 (by omega), z0, coresIn_eq (by omega) (by omega) (by omega) (by omega), ← inB_cnt (f := f) (W := W) (H := H) (Nat.le_refl _) (Nat.le_refl _)]
  rw [lcnt_all (Nat.le_refl _) (fun i hi => ?_)]
  have := coreL_at hi
  unfold inB
  exact decide_eq_true ⟨by omega, by have := this.1; show kx (coreL f W H) i < W - 1; omega, by omega, by show ky (coreL f W H) i < H - 1; omega⟩
