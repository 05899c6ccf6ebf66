/-! ===== opposite cores, nearest pairs ===== -/
abbrev opp (f : Nat → Int32) (L : List (Nat × Nat)) (i j : Nat) : Prop := kv f L i 0 + kv f L j 0 = 0 ∧ kv f L i 1 + kv f L j 1 = 0
theorem neg_iff (a b : Int32) : a = (0 : Int32) - b ↔ a + b = 0 := by
  constructor
  · intro h; rw [h, Int32.sub_add_cancel]
  · intro h; rw [← h, Int32.add_sub_cancel]
theorem dbl0 {a : Int32} (h : a.toInt.natAbs ≤ 20) (e : a + a = 0) : a = 0 := by
  have h1 : (a + a).toInt = a.toInt + a.toInt := ti_add (by omega) (by omega)
  rw [e, c0] at h1
  rw [eq_i, c0]
  omega
theorem opp_irr {f : Nat → Int32} {L : List (Nat × Nat)} (h : okL f L) {i : Nat} (hi : i < L.length) : ¬ opp f L i i := by
  intro q
  have hk := h.2.1 i hi
  exact hk.2.2.2 ⟨dbl0 hk.2.2.1.1 q.1, dbl0 hk.2.2.1.2 q.2⟩
theorem copp_eq {f pl ve : Nat → Int32} {L : List (Nat × Nat)} (hn : L.length ≤ 12) (hc : celC f L pl ve) {i j : Nat} (hi : i < L.length) (hj : j < L.length) : fX0_areOpposite (nI L.length) ve (nI i) (nI j) = some (decide (opp f L i j)) := by
  have i0 := numberOf_eq hc (w := 0) hn hi (by omega)
  have i1 := numberOf_eq hc (w := 1) hn hi (by omega)
  have j0 := numberOf_eq hc (w := 0) hn hj (by omega)
  have j1 := numberOf_eq hc (w := 1) hn hj (by omega)
  rw [← z0] at i0 j0
  rw [← z1] at i1 j1
  unfold fX0_areOpposite
  rw [i0, j0, i1, j1]
  simp only [Option.bind_some, neg_iff]
  repeat' split
  all_goals (apply some_d; simp only [opp, kv] at *; simp_all)
theorem ropp_eq {f X Y Dx Dy : Nat → Int32} {L : List (Nat × Nat)} (hn : L.length ≤ 12) (hr : celR f L X Y Dx Dy) {i j : Nat} (hi : i < L.length) (hj : j < L.length) : fX12_areOpposite Dx Dy (nI i) (nI j) = some (decide (opp f L i j)) := by
  have g1 : e_in (nI i) 64 = true := ein_nI (by omega) (by omega)
  have g2 : e_in (nI j) 64 = true := ein_nI (by omega) (by omega)
  unfold fX12_areOpposite
  rw [g_t g1, g_t g2, g_t g1, g_t g2, tn_nI (by omega), tn_nI (by omega), (hr i hi).2.2.1, (hr i hi).2.2.2, (hr j hj).2.2.1, (hr j hj).2.2.2]
  repeat' split
  all_goals (apply some_d; simp only [opp, kv] at *; simp_all)
theorem hasOpp_ok {f pl ve : Nat → Int32} {L : List (Nat × Nat)} (h : okL f L) (hc : celC f L pl ve) {i : Nat} (hi : i < L.length) : OK (fX0_hasOpposite (nI L.length) ve (nI i)) (fun b => b = true ↔ ∃ j, j < L.length ∧ opp f L i j) := by
  have hn := h.1
  unfold fX0_hasOpposite
  refine OK.bind (OK.loopx (Q := fun y : Unit ⊕ Bool => OK (Sum.elim (fun _ => some false) (fun r => some r) y) (fun b => b = true ↔ ∃ j, j < L.length ∧ opp f L i j)) (fun k v => v = nI k ∧ ∀ j, j < k → ¬ opp f L i j) L.length (by omega) ⟨rfl, fun j hj => by omega⟩ ?_ ?_) (fun y hy => hy)
  · rintro k v hk ⟨rfl, hno⟩
    refine OK.f (nle hk (by omega)) ?_
    have go : ¬ opp f L i k → ∀ j, j < k + 1 → ¬ opp f L i j := fun q j hj => by
      by_cases e : j = k
      · rw [e]; exact q
      · exact hno j (by omega)
    by_cases e : k = i
    · exact OK.t (by rw [e]) ⟨_, rfl, Or.inl ⟨_, rfl, nI_s1 k, go (by rw [e]; exact opp_irr h hi)⟩⟩
    · refine OK.f (by rw [nI_inj (by omega) (by omega)]; exact e) (OK.eq (copp_eq hn hc hi hk) ?_)
      by_cases q : opp f L i k
      · exact OK.t (by rw [decide_eq_true_eq]; exact q) ⟨_, rfl, Or.inr ⟨_, rfl, OK.ret ⟨fun _ => ⟨k, hk, q⟩, fun _ => rfl⟩⟩⟩
      · exact OK.f (by rw [decide_eq_true_eq]; exact q) ⟨_, rfl, Or.inl ⟨_, rfl, nI_s1 k, go q⟩⟩
  · rintro v ⟨rfl, hno⟩
    exact OK.t (yle (by omega)) ⟨_, rfl, _, rfl, OK.ret ⟨fun q => absurd q (by decide), fun ⟨j, hj, q⟩ => absurd q (hno j hj)⟩⟩
theorem opposed_sm {f pl ve X Y Dx Dy : Nat → Int32} {L : List (Nat × Nat)} (h : okL f L) (hc : celC f L pl ve) (hr : celR f L X Y Dx Dy) : SM (fX0_withOpposite (nI L.length) ve) (fX12_opposed (nI L.length) Dx Dy) (fun y z => y = z) := by
  have hn := h.1
  unfold fX0_withOpposite fX12_opposed
  refine SM.bind (SM.loop (Q := fun y z => y = z) (fun k v w => v = w ∧ v.2 = nI k) L.length (by omega) ⟨rfl, rfl⟩ ?_ ?_) (fun y z e => SM.ret e)
  · rintro k ⟨a, b⟩ ⟨c, d⟩ hk ⟨e, rfl⟩
    cases e
    refine SM.fL (nle hk (by omega)) (SM.fR (nle hk (by omega)) (SM.okL (hasOpp_ok h hc hk) (fun p hp => SM.okR (Q := fun b => b = true ↔ ∃ j, j < L.length ∧ opp f L k j) ?_ (fun q hq => ?_))))
    · refine OK.loop (fun j v => (v.1 = true ↔ ∃ m, m < j ∧ opp f L k m) ∧ v.2 = nI j) L.length (by omega) ⟨⟨fun q => absurd q (by decide), fun ⟨m, hm, _⟩ => absurd hm (Nat.not_lt_zero m)⟩, rfl⟩ ?_ ?_
      · rintro j ⟨u, t⟩ hj ⟨hu, rfl⟩
        simp only at hu ⊢
        refine OK.f (nle hj (by omega)) (OK.bind (Q := fun b => b = true ↔ ∃ m, m < j + 1 ∧ opp f L k m) ?_ (fun y hy => OK.inl ⟨hy, nI_s1 j⟩))
        by_cases eu : u = true
        · obtain ⟨m, hm, ho⟩ := hu.mp eu
          exact OK.t eu (OK.ret ⟨fun _ => ⟨m, by omega, ho⟩, fun _ => rfl⟩)
        · refine OK.f eu (OK.eq (ropp_eq hn hr hk hj) ?_)
          by_cases q : opp f L k j
          · exact OK.t (by rw [decide_eq_true_eq]; exact q) (OK.ret ⟨fun _ => ⟨j, by omega, q⟩, fun _ => rfl⟩)
          · refine OK.f (by rw [decide_eq_true_eq]; exact q) (OK.ret ⟨fun z => absurd z (by decide), fun ⟨m, hm, ho⟩ => ?_⟩)
            by_cases e : m = j
            · rw [e] at ho; exact absurd ho q
            · exact absurd (hu.mpr ⟨m, by omega, ho⟩) eu
      · rintro ⟨u, t⟩ ⟨hu, rfl⟩
        exact OK.t (yle (by omega)) (OK.inr hu)
    · have e : p = q := by rw [Bool.eq_iff_iff, hp, hq]
      subst e
      refine SM.bind (Q := fun y z => y = a + e_b z) (SM.ite Iff.rfl (fun _ => SM.ret rfl) (fun _ => SM.ret (by simp [e_b]))) (fun y z e => SM.inl ⟨by rw [e], nI_s1 k⟩)
  · rintro ⟨a, b⟩ ⟨c, d⟩ ⟨e, rfl⟩
    cases e
    exact SM.tL (yle (by omega)) (SM.tR (yle (by omega)) (SM.inr rfl))
theorem pair_tab : ∀ i j : Fin 12, nI (16 * i.val + j.val) / 16 = nI i.val ∧ nI (16 * i.val + j.val) - nI (16 * i.val + j.val) / 16 * 16 = nI j.val ∧ nI (16 * i.val + j.val) ≠ -1 := by decide
theorem sqPair_eq {f pl ve : Nat → Int32} {L : List (Nat × Nat)} (hn : L.length ≤ 12) (hc : celC f L pl ve) {i j : Nat} (hi : i < L.length) (hj : j < L.length) : fX0_squareOfPair (nI L.length) pl (nI (16 * i + j)) = some (sqA L i j) := by
  obtain ⟨h1, h2, h3⟩ := pair_tab ⟨i, by omega⟩ ⟨j, by omega⟩
  simp only at h1 h2 h3
  unfold fX0_squareOfPair
  rw [if_neg h3, h2, h1, square_eq hn hc hi hj]
  rfl
