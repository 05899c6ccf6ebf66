/-! ===== slipped links, counted by the reference ===== -/
set_option maxRecDepth 20000 in
theorem div2_tab : ∀ q : Fin 162, nI q.val / 2 = nI (q.val / 2) ∧ nI q.val - nI q.val / 2 * 2 = nI (q.val % 2) := by decide
set_option maxRecDepth 20000 in
theorem div9_tab : ∀ q : Fin 81, nI q.val / 9 = nI (q.val / 9) ∧ nI q.val - nI q.val / 9 * 9 = nI (q.val % 9) := by decide
def slA (f : Nat → Int32) (W H q : Nat) : Bool := slp f W H (q / 2 % 9) (q / 2 / 9) (decide (q % 2 = 1))
theorem slipAt_eq {W H : Nat} {f : Nat → Int32} (hW : W ≤ 9) (hH : H ≤ 9) {q : Nat} (hq : q < 162) : fX12_isSlippedAt (nI W) (nI H) f (nI q) = some (slA f W H q) := by
  have d2 := div2_tab ⟨q, hq⟩
  have d9 := div9_tab ⟨q / 2, by omega⟩
  simp only at d2 d9
  unfold fX12_isSlippedAt slA
  rw [d2.2, d2.1, d9.2, d9.1]
  have e : (if nI (q % 2) = 1 then some true else some false : Option Bool) = some (decide (q % 2 = 1)) := by
    rcases (show q % 2 = 0 ∨ q % 2 = 1 by omega) with e | e <;> rw [e] <;> rfl
  rw [e, Option.bind_some]
  exact rslip_eq hW hH (by omega) (by omega) _
theorem rslipped_eq {W H : Nat} {f : Nat → Int32} (hW : W ≤ 9) (hH : H ≤ 9) : fX12_slipped (nI W) (nI H) f = some (nI (cnt (slA f W H) 162)) := by
  apply OK.val
  unfold fX12_slipped
  refine OK.bind (OK.loop (Q := fun q => q = nI (cnt (slA f W H) 162)) (fun k v => v.1 = nI (cnt (slA f W H) k) ∧ v.2 = nI k) 162 (by omega) ⟨rfl, rfl⟩ ?_ ?_) (fun q hq => OK.ret hq)
  · rintro k ⟨a, b⟩ hk ⟨rfl, rfl⟩
    simp only
    refine OK.f (nle (n := 162) hk (by omega)) (OK.eq (slipAt_eq hW hH hk) (OK.bind (Q := fun q => q = slA f W H k) (OK.ite (fun e => OK.ret e.symm) (fun e => OK.ret (by simpa using Eq.symm (Bool.eq_false_iff.mpr e)))) (fun q hq => OK.inl ⟨?_, nI_s1 k⟩)))
    subst hq
    simp only [cnt]
    cases slA f W H k
    · simp [e_b]
    · exact nI_s1 _
  · rintro ⟨a, b⟩ ⟨rfl, rfl⟩
    exact OK.t (yle (n := 162) (by omega)) (OK.inr rfl)
def rw9 (f : Nat → Int32) (W H : Nat) : Nat → Nat
  | 0 => 0
  | y + 1 => rw9 f W H y + (cnt (fun x => slp f W H x y false) 9 + cnt (fun x => slp f W H x y true) 9)
theorem cnt_row (f : Nat → Int32) (W H y : Nat) (h : cnt (slA f W H) (2 * (9 * y)) = rw9 f W H y) : ∀ x, x ≤ 9 → cnt (slA f W H) (2 * (9 * y + x)) = rw9 f W H y + (cnt (fun x => slp f W H x y false) x + cnt (fun x => slp f W H x y true) x) := by
  intro x
  induction x with
  | zero => intro _; simpa [cnt] using h
  | succ x ih =>
    intro hx
    have e1 : slA f W H (2 * (9 * y + x)) = slp f W H x y false := by
      unfold slA
      rw [show 2 * (9 * y + x) / 2 % 9 = x by omega, show 2 * (9 * y + x) / 2 / 9 = y by omega, show 2 * (9 * y + x) % 2 = 0 by omega]; rfl
    have e2 : slA f W H (2 * (9 * y + x) + 1) = slp f W H x y true := by
      unfold slA
      rw [show (2 * (9 * y + x) + 1) / 2 % 9 = x by omega, show (2 * (9 * y + x) + 1) / 2 / 9 = y by omega, show (2 * (9 * y + x) + 1) % 2 = 1 by omega]; rfl
    rw [show 2 * (9 * y + (x + 1)) = 2 * (9 * y + x) + 1 + 1 by omega]
    simp only [cnt, e1, e2, ih (by omega)]
    omega
theorem cnt_rows (f : Nat → Int32) (W H : Nat) : ∀ y, cnt (slA f W H) (2 * (9 * y)) = rw9 f W H y := by
  intro y
  induction y with
  | zero => rfl
  | succ y ih =>
    have := cnt_row f W H y ih 9 (by omega)
    rw [show 2 * (9 * (y + 1)) = 2 * (9 * y + 9) by omega, this]
    rfl
theorem cnt_stop {P : Nat → Bool} {W : Nat} (h : ∀ x, W ≤ x → P x = false) : ∀ k, W ≤ k → cnt P k = cnt P W := by
  intro k
  induction k with
  | zero => intro hk; rw [show W = 0 by omega]
  | succ k ih =>
    intro hk
    by_cases e : W = k + 1
    · rw [e]
    · simp only [cnt, h k (by omega), ih (by omega)]; rfl
theorem slp_out {f : Nat → Int32} {W H x y : Nat} {u : Bool} (h : W ≤ x ∨ H ≤ y) : slp f W H x y u = false := by
  unfold slp
  rw [decide_eq_false_iff_not]
  intro q
  have hu : u.toNat ≤ 1 := by cases u <;> decide
  omega
theorem rw9_eq {f : Nat → Int32} {W H : Nat} (hW : W ≤ 9) : ∀ y, rw9 f W H y = rws f W H y := by
  intro y
  induction y with
  | zero => rfl
  | succ y ih =>
    simp only [rw9, rws, ih]
    rw [cnt_stop (W := W) (fun x hx => slp_out (Or.inl hx)) 9 hW, cnt_stop (W := W) (fun x hx => slp_out (Or.inl hx)) 9 hW]
theorem cnt_0 {P : Nat → Bool} (h : ∀ x, P x = false) : ∀ k, cnt P k = 0 := by
  intro k
  rw [cnt_stop (W := 0) (fun x _ => h x) k (by omega)]
  rfl
theorem rws_stop {f : Nat → Int32} {W H : Nat} : ∀ y, H ≤ y → rws f W H y = rws f W H H := by
  intro y
  induction y with
  | zero => intro hy; rw [show H = 0 by omega]
  | succ y ih =>
    intro hy
    by_cases e : H = y + 1
    · rw [← e]
    · simp only [rws, ih (by omega)]
      rw [cnt_0 (fun x => slp_out (Or.inr (by omega))), cnt_0 (fun x => slp_out (Or.inr (by omega)))]
      rfl
theorem slipped_sm {W H : Nat} {g f : Nat → Int32} (h : agr W H g f) (hW : W ≤ 9) (hH : H ≤ 9) : SM (fX7_slippedLinks (nI W) (nI H) g) (fX12_slipped (nI W) (nI H) f) (fun y z => y = z) := by
  refine ⟨_, _, slLinks_eq h hW hH, rslipped_eq hW hH, ?_⟩
  rw [show (162 : Nat) = 2 * (9 * 9) from rfl, cnt_rows, rw9_eq hW, rws_stop 9 hH]
