/-! ===== slipped links ===== -/
def slp (f : Nat → Int32) (W H x y : Nat) (u : Bool) : Bool := decide ((x + 1 < W + u.toNat ∧ y + u.toNat < H) ∧ ¬ (st f x y u.toNat 0 = nI (1 - u.toNat) ∧ st f x y u.toNat 1 = nI u.toNat))
theorem cslip_eq {W H : Nat} {g f : Nat → Int32} (h : agr W H g f) (hW : W ≤ 9) (hH : H ≤ 9) {x y : Nat} (hx : x ≤ 9) (hy : y ≤ 9) (u : Bool) : fX7_isSlipped (nI W) (nI H) g (nI x) (nI y) (nI u.toNat) = some (slp f W H x y u) := by
  have hu : u.toNat ≤ 1 := by cases u <;> decide
  unfold fX7_isSlipped slp
  rw [hasLink_eq hW hH _ _ hu, Option.bind_some, nI_ti x (by omega), nI_ti y (by omega)]
  simp only [decide_eq_true_eq]
  by_cases hl : x + 1 < W + u.toNat ∧ y + u.toNat < H
  · have s0 := (lnk h hW hH u (p := 0) (by omega) hl.1 hl.2).1
    have s1 := (lnk h hW hH u (p := 1) (by omega) hl.1 hl.2).1
    rw [← z0] at s0
    rw [← z1] at s1
    rw [if_pos (by omega)]
    simp only [s0, s1, Option.bind_some, one_sub hu]
    repeat' split
    all_goals (apply some_d; simp_all)
  · rw [if_neg (by omega)]
    apply some_d
    exact ⟨fun q => absurd q (by decide), fun q => absurd q.1 hl⟩
theorem rslip_eq {W H : Nat} {f : Nat → Int32} (hW : W ≤ 9) (hH : H ≤ 9) {x y : Nat} (hx : x ≤ 9) (hy : y ≤ 9) (u : Bool) : (fX12_isLink (nI W) (nI H) (nI x) (nI y) u).bind (fun q3 => if q3 = true then (fX12_isSlipped f (nI x) (nI y) u).bind (fun q5 => if q5 = true then some true else some false) else some false) = some (slp f W H x y u) := by
  have hu : u.toNat ≤ 1 := by cases u <;> decide
  unfold slp
  rw [isLink_eq hW hH, Option.bind_some, nI_ti x (by omega), nI_ti y (by omega)]
  simp only [decide_eq_true_eq]
  by_cases hl : x + 1 < W + u.toNat ∧ y + u.toNat < H
  · have s0 := step_eq f u (x := x) (y := y) (p := 0) (by omega) (by omega) (by omega)
    have s1 := step_eq f u (x := x) (y := y) (p := 1) (by omega) (by omega) (by omega)
    rw [← z0] at s0
    rw [← z1] at s1
    rw [if_pos (by omega)]
    unfold fX12_isSlipped
    cases u
    · simp only [s0, s1, Option.bind_some, Bool.false_eq_true, if_false, show e_b true = nI (1 - false.toNat) from rfl, show e_b false = nI false.toNat from rfl]
      by_cases a0 : st f x y false.toNat 0 = nI (1 - false.toNat) <;> by_cases a1 : st f x y false.toNat 1 = nI false.toNat <;> simp_all
    · simp only [s0, s1, Option.bind_some, if_true, show e_b false = nI (1 - true.toNat) from rfl, show e_b true = nI true.toNat from rfl]
      by_cases a0 : st f x y true.toNat 0 = nI (1 - true.toNat) <;> by_cases a1 : st f x y true.toNat 1 = nI true.toNat <;> simp_all
  · rw [if_neg (by omega)]
    apply some_d
    exact ⟨fun q => absurd q (by decide), fun q => absurd q.1 hl⟩
def cnt (P : Nat → Bool) : Nat → Nat
  | 0 => 0
  | k + 1 => cnt P k + (P k).toNat
def rws (f : Nat → Int32) (W H : Nat) : Nat → Nat
  | 0 => 0
  | y + 1 => rws f W H y + (cnt (fun x => slp f W H x y false) W + cnt (fun x => slp f W H x y true) W)
theorem cnt_le (P : Nat → Bool) : ∀ k, cnt P k ≤ k := by
  intro k
  induction k with
  | zero => exact Nat.le_refl _
  | succ k ih =>
    simp only [cnt]
    have : (P k).toNat ≤ 1 := by cases P k <;> decide
    omega
theorem slFrom_eq {W H : Nat} {g f : Nat → Int32} (h : agr W H g f) (hW : W ≤ 9) (hH : H ≤ 9) {y : Nat} (hy : y ≤ 9) (u : Bool) : fX7_slippedFrom (nI W) (nI H) g (nI y) (nI u.toNat) = some (nI (cnt (fun x => slp f W H x y u) W)) := by
  apply OK.val
  unfold fX7_slippedFrom
  refine OK.bind (OK.loop (Q := fun q => q = nI (cnt (fun x => slp f W H x y u) W)) (fun k v => v.1 = nI (cnt (fun x => slp f W H x y u) k) ∧ v.2 = nI k) W (by omega) ⟨rfl, rfl⟩ ?_ ?_) (fun q hq => OK.ret hq)
  · rintro k ⟨a, b⟩ hk ⟨rfl, rfl⟩
    simp only
    refine OK.f (nle hk (by omega)) (OK.eq (cslip_eq h hW hH (by omega) hy u) (OK.bind (Q := fun q => q = nI (cnt (fun x => slp f W H x y u) (k + 1))) ?_ (fun q hq => OK.inl ⟨hq, nI_s1 k⟩)))
    refine OK.ite (fun e => OK.ret ?_) (fun e => OK.ret ?_)
    · simp only [cnt, e, Bool.toNat_true]; exact nI_s1 _
    · have e' : slp f W H k y u = false := by simpa using e
      simp only [cnt, e', Bool.toNat_false, Nat.add_zero]
  · rintro ⟨a, b⟩ ⟨rfl, rfl⟩
    exact OK.t (yle (by omega)) (OK.inr rfl)
theorem slLinks_eq {W H : Nat} {g f : Nat → Int32} (h : agr W H g f) (hW : W ≤ 9) (hH : H ≤ 9) : fX7_slippedLinks (nI W) (nI H) g = some (nI (rws f W H H)) := by
  apply OK.val
  unfold fX7_slippedLinks
  refine OK.bind (OK.loop (Q := fun q => q = nI (rws f W H H)) (fun k v => v.1 = nI (rws f W H k) ∧ v.2 = nI k) H (by omega) ⟨rfl, rfl⟩ ?_ ?_) (fun q hq => OK.ret hq)
  · rintro k ⟨a, b⟩ hk ⟨rfl, rfl⟩
    simp only
    exact OK.f (nle hk (by omega)) (OK.eq (slFrom_eq h hW hH (by omega) false) (OK.eq (slFrom_eq h hW hH (by omega) true) (OK.inl ⟨by simp only [rws, nI_add], nI_s1 k⟩)))
  · rintro ⟨a, b⟩ ⟨rfl, rfl⟩
    exact OK.t (yle (by omega)) (OK.inr rfl)
