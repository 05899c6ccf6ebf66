/-! ===== layer, line, box ===== -/
def sumF (s : Nat → Int32) : Nat → Int32
  | 0 => 0
  | k + 1 => sumF s k + s k
theorem linkOf_eq (x y : Nat) (u : Bool) : fX12_linkOf (nI x) (nI y) u = some (nI (2 * (9 * y + x) + u.toNat)) := by
  unfold fX12_linkOf
  cases u <;> simp [z2, z9, z0, z1, pk_mul, nI_add, e_b]
theorem slA_at {f : Nat → Int32} {W H x y : Nat} (u : Bool) (hx : x < 9) : slA f W H (2 * (9 * y + x) + u.toNat) = slp f W H x y u := by
  have hu : u.toNat ≤ 1 := by cases u <;> decide
  have e1 : (2 * (9 * y + x) + u.toNat) / 2 % 9 = x := by omega
  have e2 : (2 * (9 * y + x) + u.toNat) / 2 / 9 = y := by omega
  have e3 : decide ((2 * (9 * y + x) + u.toNat) % 2 = 1) = u := by
    cases u
    · exact decide_eq_false (by simp)
    · exact decide_eq_true (by simp)
  unfold slA
  rw [e1, e2, e3]
theorem along_sum {W H : Nat} {g f : Nat → Int32} (h : agr W H g f) (hW : W ≤ 9) (hH : H ≤ 9) {y p : Nat} (hy : y < H) (hp : p ≤ 1) : fX7_sumAlong (nI W) (nI H) g (nI y) (nI p) = some (sumF (fun x => st f x y 0 p) (W - 1)) := by
  apply OK.val
  unfold fX7_sumAlong
  refine OK.bind (OK.loop (Q := fun q => q = sumF (fun x => st f x y 0 p) (W - 1)) (fun k v => v.1 = sumF (fun x => st f x y 0 p) k ∧ v.2 = nI k) (W - 1) (by omega) ⟨rfl, rfl⟩ ?_ ?_) (fun q hq => OK.ret hq)
  · rintro k ⟨a, b⟩ hk ⟨rfl, rfl⟩
    simp only
    have s := (lnk h hW hH (x := k) (y := y) (p := p) false hp (by simp; omega) (by simp; omega)).1
    exact OK.f (by rw [le_pred hW (by omega)]; omega) (OK.eq s (OK.inl ⟨rfl, nI_s1 k⟩))
  · rintro ⟨a, b⟩ ⟨rfl, rfl⟩
    exact OK.t (by rw [le_pred hW (by omega)]; omega) (OK.inr rfl)
set_option maxHeartbeats 1000000 in
theorem layer_sm {W H : Nat} {g f : Nat → Int32} (h : agr W H g f) (hW : W ≤ 9) (hH : H ≤ 9) (y p t : Int32) : SM (fX11_layer (nI W) (nI H) g y p) (fX12_layer t (nI W) (nI H) f y p) (fun y z => z.1 = y ∧ z.2 = 0) := by
  unfold fX11_layer fX12_layer
  refine SM.eqL (hasSite_eq hW hH 0 y) (SM.eqR (crys_eq hW) ?_)
  rw [c0]
  by_cases w0 : 0 < W
  · refine SM.tR (decide_eq_true w0) (SM.eqR (in_c y (n := (H : Int) - 1) (by rw [i_l, nIs1 hH])) ?_)
    by_cases hl : 0 ≤ y.toInt ∧ y.toInt ≤ (H : Int) - 1
    · refine SM.tL (decide_eq_true (by omega)) (SM.tR (decide_eq_true hl) (SM.eqR (in_c p (n := ((3 : Nat) : Int)) rfl) (SM.rng1 rfl ?_ (SM.ret ⟨rfl, rfl⟩))))
      rintro w hw rfl
      obtain ⟨b, hb, rfl⟩ := of_rng (n := H) hl.1 (by omega)
      by_cases w2 : 2 ≤ w
      · have l2 : (2 : Int32) ≤ nI w := by rw [z2, nI_le_iff (by omega) (by omega)]; exact w2
        have eu : ∃ u : Bool, nI w - 2 = nI u.toNat ∧ (if nI w = 3 then some true else some false : Option Bool) = some u := by
          rcases (show w = 2 ∨ w = 3 by omega) with rfl | rfl
          · exact ⟨false, by decide, by decide⟩
          · exact ⟨true, by decide, by decide⟩
        obtain ⟨u, e1, e2⟩ := eu
        refine SM.tL l2 (SM.eqL (by rw [e1]; exact slFrom_eq h hW hH (by omega) u) ?_)
        refine SM.okR (OK.loop (Q := fun q => q = nI (cnt (fun x => slp f W H x b u) W)) (fun k v => v.1 = nI (cnt (fun x => slp f W H x b u) k) ∧ v.2 = nI k) W (by omega) ⟨rfl, rfl⟩ ?_ ?_) (fun z hz => SM.ret ⟨hz, rfl⟩)
        · rintro k ⟨a, c⟩ hk ⟨rfl, rfl⟩
          simp only
          refine OK.f (nle hk (by omega)) (OK.bind (Q := fun q => q = nI (cnt (fun x => slp f W H x b u) (k + 1))) (OK.t l2 (OK.eq e2 (OK.eq (linkOf_eq k b u) (OK.eq (slipAt_eq hW hH (by cases u <;> simp <;> omega)) ?_)))) (fun q hq => OK.inl ⟨hq, nI_s1 k⟩))
          rw [slA_at u (by omega)]
          have e3 : (if slp f W H k b u = true then some true else some false : Option Bool) = some (slp f W H k b u) := by cases slp f W H k b u <;> rfl
          refine OK.eq e3 (OK.ret ?_)
          rw [eb_nat, nI_add]
          rfl
        · rintro ⟨a, c⟩ ⟨rfl, rfl⟩
          exact OK.t (yle (by omega)) (OK.inr rfl)
      · have l2 : ¬ (2 : Int32) ≤ nI w := by rw [z2, nI_le_iff (by omega) (by omega)]; exact w2
        refine SM.fL l2 (SM.eqL (along_sum h hW hH hb (by omega)) ?_)
        refine SM.okR (OK.loop (Q := fun q => q = sumF (fun x => st f x b 0 w) (W - 1)) (fun k v => v.1 = sumF (fun x => st f x b 0 w) (min k (W - 1)) ∧ v.2 = nI k) W (by omega) ⟨by rw [Nat.zero_min]; rfl, rfl⟩ ?_ ?_) (fun z hz => SM.ret ⟨hz, rfl⟩)
        · rintro k ⟨a, c⟩ hk ⟨rfl, rfl⟩
          simp only
          refine OK.f (nle hk (by omega)) (OK.bind (Q := fun q => q = sumF (fun x => st f x b 0 w) (min (k + 1) (W - 1))) (OK.f l2 ?_) (fun q hq => OK.inl ⟨hq, nI_s1 k⟩))
          by_cases kl : k < W - 1
          · refine OK.bind (Q := fun q => q = st f k b 0 w) (OK.f (by rw [le_pred hW (by omega)]; omega) (OK.eq (lnk h hW hH (x := k) (y := b) (p := w) false (by omega) (by simp; omega) (by simp; omega)).2 (OK.ret rfl))) (fun q hq => OK.ret ?_)
            rw [hq, Nat.min_eq_left (by omega), Nat.min_eq_left (by omega)]
            rfl
          · refine OK.bind (Q := fun q => q = 0) (OK.t (by rw [le_pred hW (by omega)]; omega) (OK.ret rfl)) (fun q hq => OK.ret ?_)
            rw [hq, Nat.min_eq_right (by omega), Nat.min_eq_right (by omega), Int32.add_zero]
        · rintro ⟨a, c⟩ ⟨rfl, rfl⟩
          exact OK.t (yle (by omega)) (OK.inr (by rw [Nat.min_eq_right (by omega)]))
    · exact SM.fL (by rw [decide_eq_true_eq]; omega) (SM.fR (by rw [decide_eq_true_eq]; exact hl) (SM.ret ⟨rfl, rfl⟩))
  · exact SM.fL (by rw [decide_eq_true_eq]; omega) (SM.fR (by rw [decide_eq_true_eq]; exact w0) (SM.ret ⟨rfl, rfl⟩))
/-! a core's way when there is no such core -/
theorem has_out {n : Nat} {i : Int32} (w : Int32) (hn : n ≤ 12) (hi : ¬ (0 ≤ i.toInt ∧ i.toInt < n)) : fX0_has (nI n) i w = some false := by
  unfold fX0_has
  by_cases q : i < 0
  · rw [if_pos q]
  · rw [if_neg q]
    rw [lt_i, c0] at q
    rw [if_pos (by rw [le_i, nI_ti n (by omega)]; omega)]
theorem way_out {n : Nat} {ve : Nat → Int32} {i : Int32} (hn : n ≤ 12) (hi : ¬ (0 ≤ i.toInt ∧ i.toInt < n)) : fX0_wayOf (nI n) ve i = some (-1) := by
  unfold fX0_wayOf fX0_numberOf
  rw [has_out 0 hn hi, has_out 1 hn hi]
  rfl
theorem far_ti {a b : Nat} (ha : a ≤ 9) (hb : b ≤ 9) (up : Bool) : ((if up = true then (1 : Int32) else -1) * (nI a - nI b)).toInt = if up = true then (a : Int) - b else (b : Int) - a := by
  have b1 : Bn (nI a) (a : Int) 9 := ⟨nI_ti a (by omega), by omega⟩
  have b2 : Bn (nI b) (b : Int) 9 := ⟨nI_ti b (by omega), by omega⟩
  have b3 := b1.sub b2 (by omega)
  cases up
  · have b4 : Bn (-1 : Int32) (-1) 1 := ⟨rfl, by omega⟩
    have := (b4.mul b3 (by omega)).e
    simp only [Bool.false_eq_true, if_false]
    rw [this]; omega
  · have b4 : Bn (1 : Int32) 1 1 := ⟨rfl, by omega⟩
    have := (b4.mul b3 (by omega)).e
    simp only [if_true]
    rw [this]; omega
