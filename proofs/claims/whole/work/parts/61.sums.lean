/-! ===== two sheets that agree on their links ===== -/
def agr (W H : Nat) (g f : Nat → Int32) : Prop := ∀ x y r p, r ≤ 1 → p ≤ 1 → x + 1 < W + r → y + r < H → st g x y r p = st f x y r p
theorem vec_agr {W H : Nat} {g f : Nat → Int32} (h : agr W H g f) {x y p : Nat} (hx : x + 1 < W) (hy : y + 1 < H) (hp : p ≤ 1) : vec g x y p = vec f x y p := by
  unfold vec
  rw [h x y 0 p (by omega) hp (by omega) (by omega), h (x + 1) y 1 p (by omega) hp (by omega) (by omega), h x (y + 1) 0 p (by omega) hp (by omega) (by omega), h x y 1 p (by omega) hp (by omega) (by omega)]
theorem isC_agr {W H : Nat} {g f : Nat → Int32} (h : agr W H g f) {x y : Nat} (hx : x + 1 < W) (hy : y + 1 < H) : isC g x y = isC f x y := by
  unfold isC
  rw [vec_agr h hx hy (by omega), vec_agr h hx hy (by omega)]
theorem rowL_agr {W H : Nat} {g f : Nat → Int32} (h : agr W H g f) {y : Nat} (hy : y + 1 < H) : ∀ {k : Nat}, k + 1 ≤ W → rowL g y k = rowL f y k := by
  intro k
  induction k with
  | zero => intro _; rfl
  | succ k ih =>
    intro hk
    rw [rowL, rowL, ih (by omega), isC_agr h (by omega) hy]
theorem rowsL_agr {W H : Nat} {g f : Nat → Int32} (h : agr W H g f) : ∀ {j : Nat}, j + 1 ≤ H → rowsL g W j = rowsL f W j := by
  intro j
  induction j with
  | zero => intro _; rfl
  | succ j ih =>
    intro hj
    rw [rowsL, rowsL, ih (by omega)]
    by_cases hW : W = 0
    · subst hW; rfl
    · rw [rowL_agr h (by omega) (by omega)]
theorem coreL_agr {W H : Nat} {g f : Nat → Int32} (h : agr W H g f) : coreL g W H = coreL f W H := by
  unfold coreL
  by_cases hH : H = 0
  · subst hH; rfl
  · exact rowsL_agr h (by omega)
theorem celC_agr {W H : Nat} {g f pl ve : Nat → Int32} (h : agr W H g f) (hc : celC g (coreL g W H) pl ve) : celC f (coreL f W H) pl ve := by
  rw [coreL_agr h] at hc
  intro i hi
  obtain ⟨h1, h2, _⟩ := coreL_at hi
  have := hc i hi
  rw [vec_agr h h1 h2 (by omega), vec_agr h h1 h2 (by omega)] at this
  exact this
theorem agr.refl (W H : Nat) (f : Nat → Int32) : agr W H f f := fun _ _ _ _ _ _ _ _ => rfl
theorem lnk {W H : Nat} {g f : Nat → Int32} (h : agr W H g f) (hW : W ≤ 9) (hH : H ≤ 9) {x y p : Nat} (u : Bool) (hp : p ≤ 1) (hx : x + 1 < W + u.toNat) (hy : y + u.toNat < H) : fX7_stepOf (nI W) (nI H) g (nI x) (nI y) (nI u.toNat) (nI p) = some (st f x y u.toNat p) ∧ fX12_step f (nI x) (nI y) u (nI p) = some (st f x y u.toNat p) := by
  have hu : u.toNat ≤ 1 := by cases u <;> decide
  refine ⟨?_, step_eq f u (by omega) (by omega) hp⟩
  rw [stepOf_eq hW hH g (by omega) (by omega) hu hp, if_pos ⟨hx, hy⟩, h x y _ p hu hp hx hy]
set_option maxHeartbeats 1000000 in
theorem sumRound_sm {W H : Nat} {g f : Nat → Int32} (h : agr W H g f) (hW : W ≤ 9) (hH : H ≤ 9) {x0 y0 x1 y1 p : Nat} (hx : x0 ≤ x1) (hx1 : x1 < W) (hy : y0 ≤ y1) (hy1 : y1 < H) (hp : p ≤ 1) : SM (fX7_sumRound (nI W) (nI H) g (nI x0) (nI y0) (nI x1) (nI y1) (nI p)) (fX12_sumRound f (nI x0) (nI y0) (nI x1) (nI y1) (nI p)) (fun y z => y = z) := by
  unfold fX7_sumRound fX12_sumRound
  refine SM.bind (SM.loop (Q := fun y z => y = z) (fun k v w => v = w ∧ v.2 = nI (x0 + k)) (x1 - x0) (by omega) ⟨rfl, rfl⟩ ?_ ?_) ?_
  · rintro k ⟨a, b⟩ ⟨c, d⟩ hk ⟨e, rfl⟩
    cases e
    have s1 := lnk h hW hH (x := x0 + k) (y := y0) (p := p) false hp (by simp; omega) (by simp; omega)
    have s2 := lnk h hW hH (x := x0 + k) (y := y1) (p := p) false hp (by simp; omega) (by simp; omega)
    refine SM.fL (nle (by omega) (by omega)) (SM.fR (nle (by omega) (by omega)) (SM.eqL s1.1 (SM.eqR s1.2 (SM.eqL s2.1 (SM.eqR s2.2 (SM.inl ⟨rfl, nI_s1 _⟩))))))
  · rintro ⟨a, b⟩ ⟨c, d⟩ ⟨e, rfl⟩
    cases e
    rw [show x0 + (x1 - x0) = x1 by omega]
    exact SM.tL (yle (by omega)) (SM.tR (yle (by omega)) (SM.inr rfl))
  · rintro y _ rfl
    refine SM.bind (SM.loop (Q := fun y z => y = z) (fun k v w => v = w ∧ v.2 = nI (y0 + k)) (y1 - y0) (by omega) ⟨rfl, rfl⟩ ?_ ?_) (fun y z e => SM.ret e)
    · rintro k ⟨a, b⟩ ⟨c, d⟩ hk ⟨e, rfl⟩
      cases e
      have s1 := lnk h hW hH (x := x1) (y := y0 + k) (p := p) true hp (by simp; omega) (by simp; omega)
      have s2 := lnk h hW hH (x := x0) (y := y0 + k) (p := p) true hp (by simp; omega) (by simp; omega)
      refine SM.fL (nle (by omega) (by omega)) (SM.fR (nle (by omega) (by omega)) (SM.eqL s1.1 (SM.eqR s1.2 (SM.eqL s2.1 (SM.eqR s2.2 (SM.inl ⟨rfl, nI_s1 _⟩))))))
    · rintro ⟨a, b⟩ ⟨c, d⟩ ⟨e, rfl⟩
      cases e
      rw [show y0 + (y1 - y0) = y1 by omega]
      exact SM.tL (yle (by omega)) (SM.tR (yle (by omega)) (SM.inr rfl))
/-! ===== cores alike in a column ===== -/
theorem alike_sm {f pl ve X Y Dx Dy : Nat → Int32} {L : List (Nat × Nat)} (hn : L.length ≤ 12) (hc : celC f L pl ve) (hr : celR f L X Y Dx Dy) {i : Nat} (hi : i < L.length) : SM (fX0_alikeInColumn (nI L.length) pl ve (nI i)) (fX12_alikeWith (nI L.length) X Dx Dy (nI i)) (fun y z => y = z) := by
  unfold fX0_alikeInColumn fX12_alikeWith
  have gi : e_in (nI i) 64 = true := ein_nI (by omega) (by omega)
  have i0 := numberOf_eq hc (w := 0) hn hi (by omega)
  have i1 := numberOf_eq hc (w := 1) hn hi (by omega)
  have ip := cplace_eq hc (w := 0) hn hi (by omega)
  rw [← z0] at i0 ip
  rw [← z1] at i1
  simp only [tn_nI (show i < 2147483648 by omega), (hr i hi).1, (hr i hi).2.2.1, (hr i hi).2.2.2]
  refine SM.bind (SM.loop (Q := fun y z => y = z) (fun k v w => v = w ∧ v.2 = nI k) L.length (by omega) ⟨rfl, rfl⟩ ?_ ?_) (fun y z e => SM.ret e)
  · rintro k ⟨a, b⟩ ⟨c, d⟩ hk ⟨e, rfl⟩
    cases e
    have g : e_in (nI k) 64 = true := ein_nI (by omega) (by omega)
    have n0 := numberOf_eq hc (w := 0) hn hk (by omega)
    have n1 := numberOf_eq hc (w := 1) hn hk (by omega)
    have np := cplace_eq hc (w := 0) hn hk (by omega)
    rw [← z0] at n0 np
    rw [← z1] at n1
    simp only [tn_nI (show k < 2147483648 by omega), (hr k hk).1, (hr k hk).2.2.1, (hr k hk).2.2.2]
    have no : ∀ q : Int32, q = q + e_b false := fun q => by simp [e_b]
    refine SM.fL (nle hk (by omega)) (SM.fR (nle hk (by omega)) (SM.eqL np (SM.eqL ip (SM.gR g (SM.gR gi ?_)))))
    refine SM.bind (Q := fun y z => y = a + e_b z) (SM.ite Iff.rfl (fun _ => SM.eqL n0 (SM.eqL i0 (SM.gR g (SM.gR gi (SM.ite Iff.rfl (fun _ => SM.eqL n1 (SM.eqL i1 (SM.gR g (SM.gR gi (SM.ite Iff.rfl (fun _ => SM.ret rfl) (fun _ => SM.ret (no _))))))) (fun _ => SM.ret (no _))))))) (fun _ => SM.ret (no _))) (fun y z e => SM.inl ⟨by rw [e], nI_s1 k⟩)
  · rintro ⟨a, b⟩ ⟨c, d⟩ ⟨e, rfl⟩
    cases e
    exact SM.tL (yle (by omega)) (SM.tR (yle (by omega)) (SM.inr rfl))
