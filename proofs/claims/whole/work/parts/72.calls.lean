/-! ===== count, gone, end, set, log ===== -/
theorem in_c (p : Int32) {c : Int64} {n : Int} (hc : c.toInt = n) : fX12_in (Int32.toInt64 p) 0 c = some (decide (0 ≤ p.toInt ∧ p.toInt ≤ n)) := by
  rw [in_eq, i_l, l0, hc]
theorem SM.rng1 {α β : Type} {p m : Int32} {n : Nat} {A C : Option α} {A' C' : Option β} {R : α → β → Prop} (hm : m.toInt = n) (hin : ∀ k, k ≤ n → p = nI k → SM C C' R) (hout : SM A A' R) : SM (if p < 0 then A else if p ≤ m then C else A) (if decide (0 ≤ p.toInt ∧ p.toInt ≤ (n : Int)) = true then C' else A') R := by
  by_cases hp : 0 ≤ p.toInt ∧ p.toInt ≤ (n : Int)
  · refine SM.fL (by rw [lt_i, c0]; omega) (SM.tL (by rw [le_i, hm]; omega) (SM.tR (decide_eq_true hp) (hin p.toInt.toNat (by omega) (of_nn hp.1))))
  · refine SM.fR (by rw [decide_eq_true_eq]; exact hp) ?_
    by_cases q : p < 0
    · exact SM.tL q hout
    · refine SM.fL q (SM.fL (fun z => ?_) hout)
      rw [lt_i, c0] at q
      rw [le_i, hm] at z
      omega
theorem SM.rng2 {α β : Type} {p m : Int32} {n : Nat} {A C : Option α} {A' C' : Option β} {R : α → β → Prop} (hm : m.toInt = (n : Int) + 1) (hin : ∀ k, k ≤ n → p = nI k → SM C C' R) (hout : SM A A' R) : SM (if p < 0 then A else if m ≤ p then A else C) (if decide (0 ≤ p.toInt ∧ p.toInt ≤ (n : Int)) = true then C' else A') R := by
  by_cases hp : 0 ≤ p.toInt ∧ p.toInt ≤ (n : Int)
  · refine SM.fL (by rw [lt_i, c0]; omega) (SM.fL (by rw [le_i, hm]; omega) (SM.tR (decide_eq_true hp) (hin p.toInt.toNat (by omega) (of_nn hp.1))))
  · refine SM.fR (by rw [decide_eq_true_eq]; exact hp) ?_
    by_cases q : p < 0
    · exact SM.tL q hout
    · refine SM.fL q (SM.tL ?_ hout)
      rw [lt_i, c0] at q
      rw [le_i, hm]
      omega
theorem min_nI {a b : Nat} (ha : a < 2147483648) (hb : b < 2147483648) : fJ9_min_7cf53 (nI a) (nI b) = some (nI (min a b)) := by
  unfold fJ9_min_7cf53
  by_cases q : b < a
  · rw [if_pos (by rw [lt_i, nI_ti a ha, nI_ti b hb]; omega), Nat.min_eq_right (by omega)]
  · rw [if_neg (by rw [lt_i, nI_ti a ha, nI_ti b hb]; omega), Nat.min_eq_left (by omega)]
theorem size_eq {n : Nat} (h : n < 2147483648) : fX3_size (nI n) = some (nI (min n 40)) := by
  unfold fX3_size
  rw [show (40 : Int32) = nI 40 from rfl, min_nI h (by omega)]
  rfl
/-- the class's log and the reference's -/
def logR (T : Int32) (rows now : Nat → Int32) (n : Nat) : Prop := T = nI n ∧ now 325 = nI n ∧ now 324 = nI (min n 40) ∧ ∀ i w, i < min n 40 → w < 4 → rows (4 * ((n - 1 - i) % 40) + w) = now (326 + 4 * (min n 40 - 1 - i) + w)
theorem count_sm {a b c t p : Int32} {f : Nat → Int32} {n : Nat} (hn : n < 2147483648) (hb : b = nI n) (hf : f 324 = nI (min n 40)) : SM (fX11_count a b c p) (fX12_count t a c f p) (fun y z => z.1 = y ∧ z.2 = 0) := by
  unfold fX11_count fX12_count
  subst hb
  refine SM.ite Iff.rfl (fun _ => SM.ret ⟨rfl, rfl⟩) (fun _ => SM.ite Iff.rfl (fun _ => SM.ret ⟨rfl, rfl⟩) (fun _ => SM.ite Iff.rfl (fun _ => SM.eqL (size_eq hn) (SM.ret ⟨?_, rfl⟩)) (fun _ => SM.ret ⟨rfl, rfl⟩)))
  rw [show tn 324 = 324 from tn_nI (k := 324) (by omega)]
  exact hf
theorem gone_sm {A B : Nat → Int32} {b : Bool} (h : b = true → ∀ k, k < 5 → A k = B k) (p t : Int32) : SM (fX11_gone b A p) (fX12_gone t b B p) (fun y z => z.1 = y ∧ z.2 = 0) := by
  unfold fX11_gone fX12_gone
  refine SM.ite Iff.rfl (fun hb => SM.eqR (in_c p (n := ((4 : Nat) : Int)) rfl) (SM.rng2 rfl ?_ (SM.ret ⟨rfl, rfl⟩))) (fun _ => SM.ret ⟨rfl, rfl⟩)
  rintro k hk rfl
  have g : e_in (nI k) 5 = true := ein_nI (by omega) (by omega)
  refine SM.gL g (SM.gR g (SM.ret ⟨?_, rfl⟩))
  rw [tn_nI (by omega)]
  exact (h hb k (by omega)).symm
theorem end_sm {n : Nat} (hn : n ≤ 300) (p t : Int32) : SM (fX11_end (nI n) p) (fX12_end t (nI n) p) (fun y z => z.1 = y.1 ∧ z.2.1 = 0 ∧ z.2.2 = y.2 ∧ ∃ k, k ≤ n ∧ y.2 = nI k) := by
  unfold fX11_end fX12_end
  refine SM.eqR (in_c p (n := (n : Int)) (by rw [i_l, nI_ti n (by omega)])) (SM.rng1 (nI_ti n (by omega)) ?_ (SM.ret ⟨rfl, rfl, rfl, n, Nat.le_refl _, rfl⟩))
  rintro k hk rfl
  exact SM.ret ⟨rfl, rfl, rfl, k, hk, rfl⟩
theorem refuse_sm {A B : Nat → Int32} (h : ∀ k, k < 4 → A k = B k) {w : Nat} (hw : w < 4) : SM (fX11_refuse A (nI w)) (fX12_refuses B (nI w)) (fun y z => y.1 = -1 ∧ z.1 = -1 ∧ ∀ k, k < 4 → y.2 k = z.2 k) := by
  unfold fX11_refuse fX12_refuses
  have g : e_in (nI w) 4 = true := ein_nI (by omega) (by omega)
  refine SM.fL (nI_pos (by omega)) (SM.fL (by rw [show (4 : Int32) = nI 4 from rfl]; exact nle hw (by omega)) (SM.gL g (SM.gL g (SM.gR g (SM.gR g (SM.ret ⟨rfl, rfl, fun k hk => ?_⟩))))))
  rw [tn_nI (by omega)]
  simp only [upd]
  split
  · rename_i e; rw [h w hw]
  · exact h k hk
theorem xor_nn {a b : Int32} (ha : 0 ≤ a.toInt) (hb : 0 ≤ b.toInt) : (0 : Int32) ≤ a ^^^ b := by
  rw [le_i, c0]
  have h1 : a.toBitVec.msb = false := by rw [BitVec.msb_eq_toInt]; exact decide_eq_false (by show ¬ a.toInt < 0; omega)
  have h2 : b.toBitVec.msb = false := by rw [BitVec.msb_eq_toInt]; exact decide_eq_false (by show ¬ b.toInt < 0; omega)
  have h3 : (a.toBitVec ^^^ b.toBitVec).msb = false := by rw [BitVec.msb_xor, h1, h2]; rfl
  rw [BitVec.msb_eq_toInt] at h3
  have h4 : ¬ (a ^^^ b).toInt < 0 := of_decide_eq_false h3
  omega
theorem mod_nI {a m : Nat} (ha : a ≤ 50000000) (hm : 0 < m) (hm2 : m ≤ 40) : nI a - nI a / nI m * nI m = nI (a % m) := by
  have b1 : Bn (nI a) (a : Int) 50000000 := ⟨nI_ti a (by omega), by omega⟩
  have b2 : Bn (nI m) (m : Int) 40 := ⟨nI_ti m (by omega), by omega⟩
  have b3 := b1.div b2 (by omega)
  have b4 := b1.sub (b3.mul b2 (by omega)) (by omega)
  rw [eq_i, b4.e, nI_ti _ (by have := Nat.mod_lt a hm; omega)]
  have e : (a : Int).tdiv (m : Int) = ((a / m : Nat) : Int) := rfl
  rw [e]
  have := Nat.div_add_mod a m
  have h5 : ((a / m : Nat) : Int) * (m : Int) = ((m * (a / m) : Nat) : Int) := by rw [Nat.mul_comm]; rfl
  rw [h5]
  omega
theorem fm_eq {a m : Nat} (ha : a ≤ 50000000) (hm : 0 < m) (hm2 : m ≤ 40) : fJ9_floorMod_7cf53 (nI a) (nI m) = some (nI (a % m)) := by
  unfold fJ9_floorMod_7cf53
  have nz : e_nz (nI m) = true := Bn.nz (z := (m : Int)) (n := 40) ⟨nI_ti m (by omega), by omega⟩ (by omega)
  rw [g_t nz, mod_nI ha hm hm2, if_pos (xor_nn (by rw [nI_ti a (by omega)]; omega) (by rw [nI_ti m (by omega)]; omega))]
theorem sub1_nI {n : Nat} (h : 1 ≤ n) (hn : n < 2147483648) : nI n - 1 = nI (n - 1) := by
  rw [eq_i, ti_sub] <;> (try rw [nI_ti n (by omega)]) <;> (try rw [c1]) <;> (try rw [nI_ti (n - 1) (by omega)]) <;> omega
theorem sub_nI {a b : Nat} (h : b ≤ a) (ha : a < 2147483648) : nI a - nI b = nI (a - b) := by
  have h1 := nI_ti a ha
  have h2 := nI_ti b (by omega)
  rw [eq_i, ti_sub (by omega) (by omega), nI_ti (a - b) (by omega)]
  omega
theorem log_sm {T : Int32} {rows now : Nat → Int32} {n : Nat} (h : logR T rows now n) (hn : n ≤ 50000000) (p q t : Int32) : SM (fX11_log T rows p q) (fX12_log t now p q) (fun y z => z.1 = y ∧ z.2 = 0) := by
  obtain ⟨rfl, h2, h3, h4⟩ := h
  unfold fX11_log fX12_log
  have t324 : tn 324 = 324 := tn_nI (k := 324) (by omega)
  have s1 : (nI (min n 40) - 1).toInt = ((min n 40 : Nat) : Int) - 1 := by
    have h1 := nI_ti (min n 40) (by omega)
    rw [ti_sub] <;> (rw [h1, c1]; try omega)
  rw [t324, h3]
  refine SM.eqR (in_c p (n := ((min n 40 : Nat) : Int) - 1) (by rw [i_l, s1])) ?_
  by_cases hp : 0 ≤ p.toInt ∧ p.toInt ≤ ((min n 40 : Nat) : Int) - 1
  · obtain ⟨k, hk, rfl⟩ := of_rng (n := min n 40) hp.1 (by omega)
    refine SM.fL (nI_pos (by omega)) (SM.eqL (size_eq (by omega)) (SM.fL (nle hk (by omega)) (SM.tR (decide_eq_true hp) (SM.eqR (in_c q (n := ((3 : Nat) : Int)) rfl) (SM.rng1 rfl ?_ (SM.ret ⟨rfl, rfl⟩))))))
    rintro w hw rfl
    unfold fX3_entry
    have hw4 : w < 4 := by omega
    have e1 : nI n - 1 - nI k = nI (n - 1 - k) := by rw [sub1_nI (by omega) (by omega), sub_nI (by omega) (by omega)]
    have e2 : nI (min n 40) - 1 - nI k = nI (min n 40 - 1 - k) := by rw [sub1_nI (by omega) (by omega), sub_nI (by omega) (by omega)]
    have e3 : (4 : Int32) * nI ((n - 1 - k) % 40) + nI w = nI (4 * ((n - 1 - k) % 40) + w) := by rw [z4, pk_mul, nI_add]
    have e4 : (326 : Int32) + (4 : Int32) * nI (min n 40 - 1 - k) + nI w = nI (326 + 4 * (min n 40 - 1 - k) + w) := by rw [z4, pk_mul, show (326 : Int32) = nI 326 from rfl, nI_add, nI_add]
    have m40 : (n - 1 - k) % 40 < 40 := Nat.mod_lt _ (by omega)
    rw [e1, e2, e4]
    have f40 := fm_eq (a := n - 1 - k) (m := 40) (by omega) (by omega) (by omega)
    refine SM.bind (Q := fun y z => y = now (326 + 4 * (min n 40 - 1 - k) + w) ∧ z = y) (u := some (now (326 + 4 * (min n 40 - 1 - k) + w))) (m := fun z => e_g (e_in (nI (326 + 4 * (min n 40 - 1 - k) + w)) 486) (some (now (tn (nI (326 + 4 * (min n 40 - 1 - k) + w))), 0))) ?_ ?_
    · refine SM.fL (nI_pos (by omega)) (SM.fL (by rw [z4]; exact nle hw4 (by omega)) (SM.eqL f40 ?_))
      rw [e3]
      refine SM.gL (ein_nI (by omega) (by omega)) (SM.ret ⟨?_, ?_⟩)
      · rw [tn_nI (by omega)]; exact h4 k w hk hw4
      · rw [tn_nI (by omega)]; exact (h4 k w hk hw4).symm
    · rintro y z ⟨rfl, rfl⟩
      refine SM.gR (ein_nI (by omega) (by omega)) (SM.ret ⟨?_, rfl⟩)
      rw [tn_nI (by omega)]
  · refine SM.fR (by rw [decide_eq_true_eq]; exact hp) ?_
    by_cases q0 : p < 0
    · exact SM.tL q0 (SM.ret ⟨rfl, rfl⟩)
    · refine SM.fL q0 (SM.eqL (size_eq (by omega)) (SM.tL ?_ (SM.ret ⟨rfl, rfl⟩)))
      rw [lt_i, c0] at q0
      rw [le_i, nI_ti _ (by omega)]
      omega
/-- what a setting can be -/
def okSet (told : Nat → Int32) : Prop := ∀ k, k < 4 → (sA0 k).toInt ≤ (told k).toInt ∧ (told k).toInt ≤ (sA1 k).toInt
theorem canBe_eq {k : Nat} (hk : k < 4) (v : Int32) : fX12_canBe (nI k) v = some (decide ((sA0 k).toInt ≤ v.toInt ∧ v.toInt ≤ (sA1 k).toInt)) := by
  unfold fX12_canBe
  rcases (show k = 0 ∨ k = 1 ∨ k = 2 ∨ k = 3 by omega) with rfl | rfl | rfl | rfl
  · rw [if_neg (by decide), if_neg (by decide), in_eq, i_l]; rfl
  · rw [if_neg (by decide), if_neg (by decide), in_eq, i_l]; rfl
  · rw [if_pos (by decide), in_eq, i_l]; rfl
  · rw [if_neg (by decide), if_pos (by decide), in_eq, i_l]; rfl
theorem set_sm {W : Nat} (hW : W ≤ 9) {A B told : Nat → Int32} (h : ∀ k, k < 4 → A k = B k) (ho : okSet told) (p v t : Int32) : SM (fX11_set (nI W) told A p v) (fX12_set t (nI W) told B p v) (fun y z => z.1 = y.1 ∧ z.2.1 = 0 ∧ y.2.1 = z.2.2.1 ∧ okSet z.2.2.1 ∧ ∀ k, k < 4 → y.2.2 k = z.2.2.2 k) := by
  unfold fX11_set fX12_set
  refine SM.eqL (empty_eq hW) (SM.eqR (crys_eq hW) ?_)
  have bad : ∀ {w : Nat}, w < 4 → SM ((fX11_refuse A (nI w)).bind (fun q => some ((-1000000 : Int32), told, q.2))) ((fX12_refuses B (nI w)).bind (fun q => some ((-1000000 : Int32), (0 : Int32), told, q.2))) (fun y z => z.1 = y.1 ∧ z.2.1 = 0 ∧ y.2.1 = z.2.2.1 ∧ okSet z.2.2.1 ∧ ∀ k, k < 4 → y.2.2 k = z.2.2.2 k) := by
    intro w hw
    exact SM.bind (refuse_sm h hw) (fun y z e => SM.ret ⟨rfl, rfl, rfl, ho, e.2.2⟩)
  by_cases w0 : W = 0
  · exact SM.tL (decide_eq_true w0) (SM.fR (by rw [decide_eq_true_eq]; omega) (bad (w := 0) (by omega)))
  · refine SM.fL (by rw [decide_eq_true_eq]; exact w0) (SM.tR (decide_eq_true (by omega)) (SM.eqR (in_c p (n := ((3 : Nat) : Int)) rfl) (SM.rng2 rfl ?_ (bad (w := 2) (by omega)))))
    rintro k hk rfl
    have hk4 : k < 4 := by omega
    have g : e_in (nI k) 4 = true := ein_nI (by omega) (by omega)
    refine SM.eqR (canBe_eq hk4 v) (SM.gL g ?_)
    rw [tn_nI (by omega)]
    by_cases hv : (sA0 k).toInt ≤ v.toInt ∧ v.toInt ≤ (sA1 k).toInt
    · refine SM.tR (decide_eq_true hv) (SM.fL (by rw [lt_i]; omega) (SM.gL g (SM.tL (by rw [le_i]; omega) (SM.gL g (SM.gL g (SM.gR g (SM.gR g (SM.ret ⟨rfl, rfl, rfl, ?_, h⟩))))))))
      intro j hj
      simp only [upd]
      split
      · rename_i e; subst e; exact hv
      · exact ho j hj
    · refine SM.fR (by rw [decide_eq_true_eq]; exact hv) ?_
      by_cases q0 : v < sA0 k
      · exact SM.tL q0 (bad (w := 2) (by omega))
      · refine SM.fL q0 (SM.gL g (SM.fL (fun q1 => hv ?_) (bad (w := 2) (by omega))))
        rw [lt_i] at q0
        rw [le_i] at q1
        omega
