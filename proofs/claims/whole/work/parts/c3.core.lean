/-! ===== core(i, what) ===== -/
def cCore (sz : Int32) (pl ve told : Nat → Int32) (i w : Int32) : Option Int32 :=
  if w = 0 then fX0_placeOf sz pl i w else if w = 1 then fX0_placeOf sz pl i w else if w = 2 then fX0_numberOf sz ve i (w - 2) else if w = 3 then fX0_numberOf sz ve i (w - 2) else if w = 4 then fX0_wayOf sz ve i else fX0_forceOn sz pl ve told i
theorem coreL_0 {f : Nat → Int32} {W H : Nat} (h : W = 0) : (coreL f W H).length = 0 := by
  rw [coreL_gs]
  unfold gs
  subst h
  exact rsum_0 (fun b hb => rfl)
set_option maxHeartbeats 1000000 in
theorem core_sm {W H : Nat} {f pl ve told X Y Dx Dy Fo : Nat → Int32} (hW : W ≤ 9) (hH : H ≤ 9) (ho : okL f (coreL f W H)) (hc : celC f (coreL f W H) pl ve) (x p t k0 : Int32) :
    OK (fX12_core t (nI W) (nI H) k0 f told X Y Dx Dy Fo x p) (fun z => (∃ i w, i < (coreL f W H).length ∧ w ≤ 5 ∧ x = nI i ∧ p = nI w ∧ z.2.1 = 0 ∧ cCore (nI (coreL f W H).length) pl ve told x p = some z.1) ∨ ((x < 0 ∨ nI (coreL f W H).length ≤ x ∨ p < 0 ∨ 5 < p) ∧ z.2.1 = 1)) := by
  unfold fX12_core
  refine OK.bind (lays_eq hW hH f told X Y Dx Dy Fo k0 ho) ?_
  rintro ⟨R1, R2, X', Y', Dx', Dy', Fo'⟩ ⟨_, hR2, hcel, hF⟩
  simp only at hR2 hcel hF ⊢
  subst hR2
  generalize hL : coreL f W H = L at *
  have hn := ho.1
  refine OK.eq (crys_eq hW) ?_
  have hsub : (nI L.length - 1).toInt = (L.length : Int) - 1 := by
    have : (nI L.length - 1).toInt = (nI L.length).toInt - (1 : Int32).toInt := ti_sub (by rw [nI_ti _ (by omega), c1]; omega) (by rw [nI_ti _ (by omega), c1]; omega)
    rw [this, nI_ti _ (by omega), c1]
  have hin : OK ((
    if decide (0 < W) = true then
      (fX12_in (Int32.toInt64 x) 0 (Int32.toInt64 (nI L.length - 1))).bind (fun q9 =>
      if q9 = true then
        (fX12_in (Int32.toInt64 p) 0 5).bind (fun q11 =>
        if q11 = true then
          some false
        else
          some true)
      else
        some true)
    else
      some true : Option Bool)) (fun b => (b = false ∧ ∃ i w, i < L.length ∧ w ≤ 5 ∧ x = nI i ∧ p = nI w) ∨ (b = true ∧ (x < 0 ∨ nI L.length ≤ x ∨ p < 0 ∨ 5 < p))) := by
    have out : ∀ {o : Option Bool}, (¬ (0 ≤ x.toInt ∧ x.toInt ≤ (L.length : Int) - 1) ∨ ¬ (0 ≤ p.toInt ∧ p.toInt ≤ 5)) → o = some true → OK o (fun b => (b = false ∧ ∃ i w, i < L.length ∧ w ≤ 5 ∧ x = nI i ∧ p = nI w) ∨ (b = true ∧ (x < 0 ∨ nI L.length ≤ x ∨ p < 0 ∨ 5 < p))) := by
      intro o h e
      subst e
      refine ⟨true, rfl, Or.inr ⟨rfl, ?_⟩⟩
      rw [lt_i, le_i, lt_i, lt_i, c0, nI_ti _ (by omega), show (5 : Int32).toInt = 5 from rfl]
      omega
    by_cases w0 : 0 < W
    · rw [if_pos (decide_eq_true w0), in_c x (c := Int32.toInt64 (nI L.length - 1)) (n := (L.length : Int) - 1) (by rw [i_l]; exact hsub), Option.bind_some]
      by_cases h1 : 0 ≤ x.toInt ∧ x.toInt ≤ (L.length : Int) - 1
      · rw [if_pos (decide_eq_true h1), in_c p (c := 5) (n := 5) rfl, Option.bind_some]
        by_cases h2 : 0 ≤ p.toInt ∧ p.toInt ≤ 5
        · rw [if_pos (decide_eq_true h2)]
          obtain ⟨i, hi, rfl⟩ := of_rng (n := L.length) h1.1 (by omega)
          obtain ⟨w, hw, rfl⟩ := of_rng (n := 6) h2.1 (by omega)
          exact ⟨false, rfl, Or.inl ⟨rfl, i, w, hi, by omega, rfl, rfl⟩⟩
        · exact out (Or.inr h2) (by rw [if_neg (by rw [decide_eq_true_eq]; exact h2)])
      · exact out (Or.inl h1) (by rw [if_neg (by rw [decide_eq_true_eq]; exact h1)])
    · have l0 : L.length = 0 := by rw [← hL]; exact coreL_0 (by omega)
      exact out (Or.inl (by omega)) (by rw [if_neg (by rw [decide_eq_true_eq]; exact w0)])
  refine OK.bind hin ?_
  intro b hb
  rcases hb with ⟨rfl, i, w, hi, hw, rfl, rfl⟩ | ⟨rfl, hout⟩
  · have g : e_in (nI i) 64 = true := ein_nI (by omega) (by omega)
    have tw := tn_nI (show i < 2147483648 by omega)
    obtain ⟨x1, x2, x3, x4⟩ := hcel i hi
    have nq : ∀ {a b : Nat}, a ≠ b → a < 100 → b < 100 → ¬ nI a = nI b := fun h1 h2 h3 e => h1 ((nI_inj (by omega) (by omega)).mp e)
    have pl0 := cplace_eq hc (i := i) (w := 0) hn hi (by omega)
    have pl1 := cplace_eq hc (i := i) (w := 1) hn hi (by omega)
    have ve0 := numberOf_eq hc (i := i) (w := 0) hn hi (by omega)
    have ve1 := numberOf_eq hc (i := i) (w := 1) hn hi (by omega)
    refine OK.f (by decide) ?_
    unfold cCore
    rw [show (0 : Int32) = nI 0 from rfl, show (1 : Int32) = nI 1 from rfl, show (2 : Int32) = nI 2 from rfl, show (3 : Int32) = nI 3 from rfl, show (4 : Int32) = nI 4 from rfl]
    rcases (show w = 0 ∨ w = 1 ∨ w = 2 ∨ w = 3 ∨ w = 4 ∨ w = 5 by omega) with rfl | rfl | rfl | rfl | rfl | rfl
    · refine OK.t rfl (OK.g g (OK.ret (Or.inl ⟨i, 0, hi, by omega, rfl, rfl, rfl, ?_⟩)))
      rw [if_pos rfl, pl0, tw, x1]; rfl
    · refine OK.f (nq (by omega) (by omega) (by omega)) (OK.t rfl (OK.g g (OK.ret (Or.inl ⟨i, 1, hi, by omega, rfl, rfl, rfl, ?_⟩))))
      rw [if_neg (nq (by omega) (by omega) (by omega)), if_pos rfl, pl1, tw, x2]; rfl
    · refine OK.f (nq (by omega) (by omega) (by omega)) (OK.f (nq (by omega) (by omega) (by omega)) (OK.t rfl (OK.g g (OK.ret (Or.inl ⟨i, 2, hi, by omega, rfl, rfl, rfl, ?_⟩)))))
      rw [if_neg (nq (by omega) (by omega) (by omega)), if_neg (nq (by omega) (by omega) (by omega)), if_pos rfl, show nI 2 - nI 2 = nI 0 from rfl, ve0, tw, x3]
    · refine OK.f (nq (by omega) (by omega) (by omega)) (OK.f (nq (by omega) (by omega) (by omega)) (OK.f (nq (by omega) (by omega) (by omega)) (OK.t rfl (OK.g g (OK.ret (Or.inl ⟨i, 3, hi, by omega, rfl, rfl, rfl, ?_⟩))))))
      rw [if_neg (nq (by omega) (by omega) (by omega)), if_neg (nq (by omega) (by omega) (by omega)), if_neg (nq (by omega) (by omega) (by omega)), if_pos rfl, show nI 3 - nI 2 = nI 1 from rfl, ve1, tw, x4]
    · refine OK.f (nq (by omega) (by omega) (by omega)) (OK.f (nq (by omega) (by omega) (by omega)) (OK.f (nq (by omega) (by omega) (by omega)) (OK.f (nq (by omega) (by omega) (by omega)) (OK.t rfl (OK.eq (rway_eq hcel hn hi) (OK.ret (Or.inl ⟨i, 4, hi, by omega, rfl, rfl, rfl, ?_⟩)))))))
      rw [if_neg (nq (by omega) (by omega) (by omega)), if_neg (nq (by omega) (by omega) (by omega)), if_neg (nq (by omega) (by omega) (by omega)), if_neg (nq (by omega) (by omega) (by omega)), if_pos rfl, cway_eq ho hc hi]
    · refine OK.f (nq (by omega) (by omega) (by omega)) (OK.f (nq (by omega) (by omega) (by omega)) (OK.f (nq (by omega) (by omega) (by omega)) (OK.f (nq (by omega) (by omega) (by omega)) (OK.f (nq (by omega) (by omega) (by omega)) (OK.g g (OK.ret (Or.inl ⟨i, 5, hi, by omega, rfl, rfl, rfl, ?_⟩)))))))
      rw [if_neg (nq (by omega) (by omega) (by omega)), if_neg (nq (by omega) (by omega) (by omega)), if_neg (nq (by omega) (by omega) (by omega)), if_neg (nq (by omega) (by omega) (by omega)), if_neg (nq (by omega) (by omega) (by omega)), cforce_eq ho hc hi, tw, hF i hi]
  · exact OK.t (by decide) (OK.ret (Or.inr ⟨hout, rfl⟩))
