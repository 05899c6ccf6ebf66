/-! ===== wall, rule, most: the calls ===== -/
theorem inW.lt {S : Nat → Bool} {W H : Nat} {ρ : Nat → Nat} (h : inW S W H ρ) : ∀ l, l < 162 → S l = true → ρ l < 162 := fun l hl sl => by have := (h l hl sl).1; omega
set_option maxHeartbeats 1000000 in
theorem wall_sm {W H : Nat} {g f pl ve lo0 A B : Nat → Int32} (h : agr W H g f) (hW : W ≤ 9) (hH : H ≤ 9) (ho : okL f (coreL f W H)) (hc : celC f (coreL f W H) pl ve) (p q t c : Int32) : SM (fX11_wall (nI W) (nI H) (nI (coreL f W H).length) g pl lo0 p q) (fX12_wall t (nI W) (nI H) c f A B p q) (fun y z => z.1 = y.1 ∧ z.2.1 = 0) := by
  unfold fX11_wall fX12_wall
  refine SM.eqL (empty_eq hW) (SM.eqR (crys_eq hW) ?_)
  by_cases w0 : W = 0
  · exact SM.tL (decide_eq_true w0) (SM.fR (by rw [decide_eq_true_eq]; omega) (SM.ret ⟨rfl, rfl⟩))
  · refine SM.fL (by rw [decide_eq_true_eq]; exact w0) (SM.tR (decide_eq_true (by omega)) ?_)
    obtain ⟨lo, ⟨z1, z2, wo, fo⟩, e1, e2, ρ, hcl, k1, k2, k3, k4, k5, k6⟩ := walls_sm h hW hH lo0 A B c
    simp only at k3 k4 k5 k6
    subst k4
    refine SM.eqR e2 (SM.eqR (in_c p (n := (cnt (rtb (slA f W H) ρ) 162 : Int) - 1) (by
      have := cnt_le (rtb (slA f W H) ρ) 162
      have h1 := nI_ti (cnt (rtb (slA f W H) ρ) 162) (by omega)
      rw [i_l]
      rw [ti_sub] <;> (rw [h1, c1]; try omega))) ?_)
    have hρ := k2.lt
    have cl := cnt_le (rtb (slA f W H) ρ) 162
    generalize hS : slA f W H = S at hcl k1 k2 k6 hρ cl
    by_cases hq : 0 ≤ q.toInt ∧ q.toInt ≤ ((4 : Nat) : Int)
    · obtain ⟨w, hw, rfl⟩ := of_rng (x := q) (n := 5) hq.1 (by omega)
      refine SM.fL (nI_pos (by omega)) (SM.tL (by rw [z4, nI_le_iff (by omega) (by omega)]; omega) (SM.eqL e1 (SM.okL (firstLink_ok hcl p) ?_)))
      rintro v (⟨l, l1, l2, rfl, rfl⟩ | ⟨rfl, hno⟩)
      · have lt := cnt_lt l1 l2
        have cp := nI_ti (cnt (rtb S ρ) l) (by omega)
        have fl9 := k6 l l1 l2
        refine SM.fL (nI_m1 (by omega)) (SM.tR (decide_eq_true (by rw [cp]; omega)) (SM.eqR (in_c (nI w) (n := ((4 : Nat) : Int)) rfl) (SM.tR (decide_eq_true hq) (SM.gR (ein_nI (by omega) (by omega)) ?_))))
        simp only
        rw [tn_nI (by omega), fl9]
        rcases (show w = 0 ∨ w = 1 ∨ w = 2 ∨ w = 3 ∨ w = 4 by omega) with rfl | rfl | rfl | rfl | rfl
        · have r1 := rlinks_eq hW hH (f := f) k3 l1
          rw [hS] at r1
          exact SM.tL rfl (SM.tR rfl (SM.eqL (clinks_eq hcl hρ l1) (SM.eqR r1 (SM.ret ⟨rfl, rfl⟩))))
        · exact SM.fL (by decide) (SM.tL rfl (SM.fR (by decide) (SM.tR rfl (SM.ret ⟨rfl, rfl⟩))))
        · exact SM.fL (by decide) (SM.fL (by decide) (SM.tL rfl (SM.fR (by decide) (SM.fR (by decide) (SM.tR rfl (SM.ret ⟨rfl, rfl⟩))))))
        · exact SM.fL (by decide) (SM.fL (by decide) (SM.fL (by decide) (SM.tL rfl (SM.fR (by decide) (SM.fR (by decide) (SM.fR (by decide) (SM.tR rfl (SM.ret ⟨rfl, rfl⟩))))))))
        · have r1 := rbeside_eq hW hH (f := f) k3 l1
          rw [hS] at r1
          refine SM.fL (by decide) (SM.fL (by decide) (SM.fL (by decide) (SM.fL (by decide) (SM.fR (by decide) (SM.fR (by decide) (SM.fR (by decide) (SM.fR (by decide) (SM.eqL (cbeside_eq ho hc hcl hρ l1) (SM.eqR r1 (SM.ret ⟨?_, rfl⟩))))))))))
          simp only
          unfold coreL
          rw [lcnt_rows]
      · refine SM.tL rfl (SM.fR ?_ (SM.ret ⟨rfl, rfl⟩))
        rw [decide_eq_true_eq]
        intro hp
        obtain ⟨l, l1, l2, l3⟩ := cnt_at (rtb S ρ) (n := 162) (k := p.toInt.toNat) (by omega)
        apply hno l l1 l2
        rw [l3]
        exact of_nn hp.1
    · have outL : SM (if q < 0 then some ((-1 : Int32), lo0) else if q ≤ 4 then (fX10_find (nI W) (nI H) g lo0).bind (fun q3 => (fX10_firstLinkOf q3 p).bind (fun q5 => if q5 = (-1) then some ((-1), q3) else if q = 0 then (fX10_linksOf q3 q5).bind (fun q7 => some (q7, q3)) else if q = 1 then some ((q5 / 2) - (q5 / 2) / 9 * 9, q3) else if q = 2 then some ((q5 / 2) / 9, q3) else if q = 3 then some (q5 - q5 / 2 * 2, q3) else (fX10_coresBeside (nI (coreL f W H).length) pl q3 q5).bind (fun q9 => some (q9, q3)))) else some ((-1), lo0)) (some ((-1 : Int32), (0 : Int32), z2, wo, fo)) (fun y z => z.1 = y.1 ∧ z.2.1 = 0) := by
        by_cases q0 : q < 0
        · exact SM.tL q0 (SM.ret ⟨rfl, rfl⟩)
        · refine SM.fL q0 (SM.fL (fun z => hq ?_) (SM.ret ⟨rfl, rfl⟩))
          rw [lt_i, c0] at q0
          rw [le_i, show (4 : Int32).toInt = 4 from rfl] at z
          omega
      by_cases hp : 0 ≤ p.toInt ∧ p.toInt ≤ (cnt (rtb S ρ) 162 : Int) - 1
      · exact SM.tR (decide_eq_true hp) (SM.eqR (in_c q (n := ((4 : Nat) : Int)) rfl) (SM.fR (by rw [decide_eq_true_eq]; exact hq) outL))
      · exact SM.fR (by rw [decide_eq_true_eq]; exact hp) outL
/-- the greatest number of links of a wall -/
def mxW (S : Nat → Bool) (ρ : Nat → Nat) (m : Nat) : Prop := (∀ l, l < 162 → rtb S ρ l = true → cnt (onW S ρ l) 162 ≤ m) ∧ (m = 0 ∨ ∃ l, l < 162 ∧ rtb S ρ l = true ∧ m = cnt (onW S ρ l) 162)
theorem mxW_eq {S : Nat → Bool} {ρ : Nat → Nat} {a b : Nat} (h : mxW S ρ a) (k : mxW S ρ b) : a = b := by
  rcases h with ⟨h1, h2⟩
  rcases k with ⟨k1, k2⟩
  rcases h2 with h2 | ⟨l, l1, l2, l3⟩ <;> rcases k2 with k2 | ⟨m, m1, m2, m3⟩
  · omega
  · have := h1 m m1 m2; omega
  · have := k1 l l1 l2; omega
  · have := h1 m m1 m2
    have := k1 l l1 l2
    omega
theorem cmostL_ok {S : Nat → Bool} {ρ : Nat → Nat} {lo : Nat → Int32} (h : clsW S ρ lo) (hρ : ∀ l, l < 162 → S l = true → ρ l < 162) : OK (fX10_mostLinks lo) (fun q => ∃ m, q = nI m ∧ mxW S ρ m) := by
  unfold fX10_mostLinks
  refine OK.bind (Q := fun q => ∃ m, q = nI m ∧ mxW S ρ m) (OK.loop (fun k v => v.2 = nI k ∧ ∃ m, v.1 = nI m ∧ m ≤ 162 ∧ (∀ l, l < k → rtb S ρ l = true → cnt (onW S ρ l) 162 ≤ m) ∧ (m = 0 ∨ ∃ l, l < k ∧ rtb S ρ l = true ∧ m = cnt (onW S ρ l) 162)) 162 (by omega) ⟨rfl, 0, rfl, by omega, fun l hl => by omega, Or.inl rfl⟩ ?_ ?_) (fun q hq => OK.ret hq)
  · rintro k ⟨a, b⟩ hk ⟨rfl, m, rfl, m0, m1, m2⟩
    simp only
    have ck := cnt_le (onW S ρ k) 162
    refine OK.f (by rw [show (162 : Int32) = nI 162 from rfl]; exact nle hk (by omega)) (OK.g (ein_nI hk (by omega)) (OK.bind (Q := fun q => ∃ m, q = nI m ∧ m ≤ 162 ∧ (∀ l, l < k + 1 → rtb S ρ l = true → cnt (onW S ρ l) 162 ≤ m) ∧ (m = 0 ∨ ∃ l, l < k + 1 ∧ rtb S ρ l = true ∧ m = cnt (onW S ρ l) 162)) ?_ (fun q hq => OK.inl ⟨nI_s1 k, hq⟩)))
    rw [tn_nI (by omega)]
    refine OK.ite (fun e => OK.eq (clinks_eq h hρ hk) (OK.eq (max_nI (by omega) (by omega)) (OK.ret ⟨max m (cnt (onW S ρ k) 162), rfl, by omega, fun l hl rl => ?_, ?_⟩))) (fun e => OK.ret ⟨m, rfl, m0, fun l hl rl => ?_, ?_⟩)
    · by_cases q : l = k
      · subst q; omega
      · have := m1 l (by omega) rl; omega
    · have rt := (h.2 k hk).mp e
      by_cases q : m ≤ cnt (onW S ρ k) 162
      · exact Or.inr ⟨k, by omega, rt, by omega⟩
      · rcases m2 with m2 | ⟨l, l1, l2, l3⟩
        · omega
        · exact Or.inr ⟨l, by omega, l2, by omega⟩
    · by_cases q : l = k
      · subst q; exact absurd ((h.2 l hk).mpr rl) e
      · exact m1 l (by omega) rl
    · rcases m2 with m2 | ⟨l, l1, l2, l3⟩
      · exact Or.inl m2
      · exact Or.inr ⟨l, by omega, l2, l3⟩
  · rintro ⟨a, b⟩ ⟨rfl, m, rfl, m0, m1, m2⟩
    exact OK.t (by show (162 : Int32) ≤ nI 162; decide) (OK.inr ⟨m, rfl, m1, m2⟩)
theorem rmostL_ok {W H : Nat} (hW : W ≤ 9) (hH : H ≤ 9) {f A B : Nat → Int32} {c : Int32} {z : Int32 × Int32 × (Nat → Int32) × (Nat → Int32)} {ρ : Nat → Nat} (hz : fX12_laysWalls (nI W) (nI H) c f A B = some z) (h : refW (slA f W H) W H ρ z) : OK (fX12_longestWall (nI W) (nI H) c f A B) (fun q => ∃ m, q.1 = nI m ∧ mxW (slA f W H) ρ m) := by
  unfold fX12_longestWall
  obtain ⟨z1, z2, wo, fo⟩ := z
  obtain ⟨k1, k2, k3, k4, k5, k6⟩ := h
  simp only at k3 k4 k5 k6
  subst k4
  refine OK.eq hz ?_
  have rl := fun {r : Nat} (hr : r < 162) => rlinks_eq hW hH (f := f) k3 hr
  generalize slA f W H = S at k1 k2 k5 k6 rl
  have cl := cnt_le (rtb S ρ) 162
  refine OK.bind (Q := fun q => ∃ m, q = nI m ∧ mxW S ρ m) (OK.loop (fun k v => v.2 = nI k ∧ ∃ m, v.1 = nI m ∧ m ≤ 162 ∧ (∀ l, l < 162 → rtb S ρ l = true → cnt (rtb S ρ) l < k → cnt (onW S ρ l) 162 ≤ m) ∧ (m = 0 ∨ ∃ l, l < 162 ∧ rtb S ρ l = true ∧ m = cnt (onW S ρ l) 162)) (cnt (rtb S ρ) 162) (by omega) ⟨rfl, 0, rfl, by omega, fun l hl _ hk => by omega, Or.inl rfl⟩ ?_ ?_) (fun q hq => OK.ret hq)
  · rintro k ⟨a, b⟩ hk ⟨rfl, m, rfl, m0, m1, m2⟩
    simp only
    obtain ⟨l, l1, l2, l3⟩ := cnt_at (rtb S ρ) hk
    have f9 := k6 l l1 l2
    rw [l3] at f9
    have ck := cnt_le (onW S ρ l) 162
    refine OK.f (nle hk (by omega)) (OK.g (ein_nI (by omega) (by omega)) ?_)
    rw [tn_nI (by omega), f9]
    refine OK.eq (rl l1) (OK.eq (max_nI (by omega) (by omega)) (OK.inl ⟨nI_s1 k, max m (cnt (onW S ρ l) 162), rfl, by omega, fun l' hl' rl' hk' => ?_, ?_⟩))
    · by_cases q : cnt (rtb S ρ) l' = k
      · have : l' = l := cnt_inj rl' l2 (by omega)
        subst this; omega
      · have := m1 l' hl' rl' (by omega); omega
    · by_cases q : m ≤ cnt (onW S ρ l) 162
      · exact Or.inr ⟨l, l1, l2, by omega⟩
      · rcases m2 with m2 | ⟨l', l1', l2', l3'⟩
        · omega
        · exact Or.inr ⟨l', l1', l2', by omega⟩
  · rintro ⟨a, b⟩ ⟨rfl, m, rfl, m0, m1, m2⟩
    exact OK.t (yle (by omega)) (OK.inr ⟨m, rfl, fun l hl rl => m1 l hl rl (cnt_lt hl rl), m2⟩)
set_option maxHeartbeats 2000000 in
theorem rule_sm {B W H : Nat} {g f rows pl ve told lo0 X Y Dx Dy Fo A9 B9 : Nat → Int32} {tot sz : Int32} (hn : nowR B W H g rows pl ve tot sz f) (hW : W ≤ 9) (hH : H ≤ 9) (hWH : W = 0 ∨ (2 ≤ W ∧ 2 ≤ H)) (p t k0 c : Int32) : SM (fX11_rule (nI W) (nI H) sz tot g pl ve told lo0 p) (fX12_rule t (nI W) (nI H) k0 c f told X Y Dx Dy Fo A9 B9 p) (fun y z => z.1 = y.1 ∧ z.2.1 = 0) := by
  unfold fX11_rule fX12_rule
  have ho := hn.ok hW hH
  obtain ⟨⟨h, so, n, sn, l1, l2, l3⟩, nsz, hc⟩ := hn
  subst nsz
  refine SM.eqL (empty_eq hW) (SM.eqR (crys_eq hW) ?_)
  rcases hWH with w0 | ⟨hW2, hH2⟩
  · exact SM.tL (decide_eq_true w0) (SM.fR (by rw [decide_eq_true_eq]; omega) (SM.ret ⟨rfl, rfl⟩))
  · refine SM.fL (by rw [decide_eq_true_eq]; omega) (SM.tR (decide_eq_true (by omega)) (SM.okR (lays_eq hW hH f told X Y Dx Dy Fo k0 ho) ?_))
    rintro ⟨R1, R2, X', Y', Dx', Dy', Fo'⟩ ⟨_, hR2, hr, hF⟩
    simp only at hR2 hr hF ⊢
    subst hR2
    have t325 : tn 325 = 325 := tn_nI (k := 325) (by omega)
    refine SM.ite Iff.rfl (fun _ => SM.ret ⟨rfl, rfl⟩) (fun _ => SM.ite Iff.rfl (fun _ => SM.ret ⟨rfl, rfl⟩) (fun _ => ?_))
    refine SM.ite Iff.rfl (fun e => ?_) (fun _ => SM.ite Iff.rfl (fun e => ?_) (fun _ => SM.ite Iff.rfl (fun e => ?_) (fun _ => SM.ite Iff.rfl (fun e => ?_) (fun _ => ?_))))
    · subst e; exact SM.gL (by decide) (SM.ret ⟨rfl, rfl⟩)
    · subst e; exact SM.gL (by decide) (SM.ret ⟨rfl, rfl⟩)
    · subst e; exact SM.gL (by decide) (SM.ret ⟨rfl, rfl⟩)
    · subst e; exact SM.gL (by decide) (SM.ret ⟨rfl, rfl⟩)
    refine SM.ite Iff.rfl (fun _ => SM.ret ⟨rfl, rfl⟩) (fun _ => SM.ite Iff.rfl (fun _ => SM.bind (slipped_sm h hW hH) (fun y z e => SM.ret ⟨e.symm, rfl⟩)) (fun _ => SM.ite Iff.rfl (fun _ => SM.ret ⟨?_, rfl⟩) (fun _ => ?_)))
    · simp only; rw [t325, l1, l2]
    have s0 := sumRound_sm h hW hH (x0 := 0) (y0 := 0) (x1 := W - 1) (y1 := H - 1) (p := 0) (by omega) (by omega) (by omega) (by omega) (by omega)
    have s1 := sumRound_sm h hW hH (x0 := 0) (y0 := 0) (x1 := W - 1) (y1 := H - 1) (p := 1) (by omega) (by omega) (by omega) (by omega) (by omega)
    rw [← sub1_nI (show 1 ≤ W by omega) (by omega), ← sub1_nI (show 1 ≤ H by omega) (by omega)] at s0 s1
    refine SM.ite Iff.rfl (fun e => ?_) (fun _ => SM.ite Iff.rfl (fun e => ?_) (fun _ => ?_))
    · subst e
      unfold fX7_sumRoundAll
      obtain ⟨a, _, a1, a2, rfl⟩ := s0
      exact SM.eqL (z := a) (by rw [show (9 : Int32) - 9 = nI 0 from rfl, z0, a1]; rfl) (SM.eqR a2 (SM.ret ⟨rfl, rfl⟩))
    · subst e
      unfold fX7_sumRoundAll
      obtain ⟨a, _, a1, a2, rfl⟩ := s1
      exact SM.eqL (z := a) (by rw [show (10 : Int32) - 9 = nI 1 from rfl, z0, a1]; rfl) (SM.eqR a2 (SM.ret ⟨rfl, rfl⟩))
    refine SM.ite Iff.rfl (fun _ => SM.bind (energy_sm ho hc hr) (fun y z e => SM.ret ⟨e.symm, rfl⟩)) (fun _ => SM.ite Iff.rfl (fun _ => ?_) (fun _ => SM.ite Iff.rfl (fun _ => SM.bind (wayless_sm ho hc hr) (fun y z e => SM.ret ⟨e.symm, rfl⟩)) (fun _ => SM.ret ⟨rfl, rfl⟩)))
    obtain ⟨lo, ⟨y1, y2, wo, fo⟩, e1, e2, ρ, hcl, k1, k2, k3, k4, k5, k6⟩ := walls_sm h hW hH lo0 A9 B9 c
    exact SM.eqL e1 (SM.eqL (size_w hcl) (SM.eqR e2 (SM.ret ⟨k4, rfl⟩)))
set_option maxHeartbeats 2000000 in
theorem most_sm {W H : Nat} {g f pl ve told lo0 X Y Dx Dy Fo A9 B9 : Nat → Int32} (h : agr W H g f) (hW : W ≤ 9) (hH : H ≤ 9) (ho : okL f (coreL f W H)) (hc : celC f (coreL f W H) pl ve) (hs : okSet told) (p t k0 c : Int32) : SM (fX11_most (nI W) (nI H) (nI (coreL f W H).length) g pl ve told lo0 p) (fX12_most t (nI W) (nI H) k0 c f told X Y Dx Dy Fo A9 B9 p) (fun y z => z.1 = y.1 ∧ z.2.1 = 0) := by
  unfold fX11_most fX12_most
  refine SM.eqL (empty_eq hW) (SM.eqR (crys_eq hW) ?_)
  by_cases w0 : W = 0
  · exact SM.tL (decide_eq_true w0) (SM.fR (by rw [decide_eq_true_eq]; omega) (SM.ret ⟨rfl, rfl⟩))
  · refine SM.fL (by rw [decide_eq_true_eq]; exact w0) (SM.tR (decide_eq_true (by omega)) (SM.okR (lays_eq hW hH f told X Y Dx Dy Fo k0 ho) ?_))
    rintro ⟨R1, R2, X', Y', Dx', Dy', Fo'⟩ ⟨_, hR2, hr, hF⟩
    simp only at hR2 hr hF ⊢
    subst hR2
    have n3 := nearest_sm ho hc hr false
    have n4 := nearest_sm ho hc hr true
    refine SM.ite Iff.rfl (fun _ => SM.eqL (cmost_eq ho hc) (SM.okR (rmost_ok ho hc hr false) (fun z hz => SM.ret ⟨?_, rfl⟩))) (fun _ => SM.ite Iff.rfl (fun _ => SM.okL (ccol_ok ho hc) (fun y hy => SM.okR (rmost_ok ho hc hr true) (fun z hz => SM.ret ⟨?_, rfl⟩))) (fun _ => SM.ite Iff.rfl (fun _ => SM.bind (strong_sm ho hs.T hc hF) (fun y z e => SM.ret ⟨e.symm, rfl⟩)) (fun _ => SM.ite Iff.rfl (fun _ => SM.bind n3 (fun y z e => SM.ret ⟨?_, rfl⟩)) (fun _ => SM.ite Iff.rfl (fun _ => SM.bind n4 (fun y z e => ?_)) (fun _ => SM.ite Iff.rfl (fun _ => ?_) (fun _ => SM.ite Iff.rfl (fun _ => SM.bind (gNumber_sm ho.1 hc hr) (fun y z e => SM.ret ⟨e.symm, rfl⟩)) (fun _ => SM.ite Iff.rfl (fun _ => SM.bind (opposed_sm ho hc hr) (fun y z e => SM.ret ⟨e.symm, rfl⟩)) (fun _ => SM.ret ⟨rfl, rfl⟩))))))))
    · rw [if_neg (by decide)] at hz; exact hz
    · rw [if_pos rfl] at hz; exact minC_eq hz hy
    · rw [if_neg (by decide)] at e; exact e.symm
    · rw [if_pos rfl] at e
      exact SM.eqL e (SM.ret ⟨rfl, rfl⟩)
    · obtain ⟨lo, z, e1, e2, ρ, hcl, hz⟩ := walls_sm h hW hH lo0 A9 B9 c
      obtain ⟨a, a1, m, rfl, a3⟩ := cmostL_ok hcl hz.2.1.lt
      obtain ⟨b, b1, m', b2, b3⟩ := rmostL_ok hW hH e2 hz
      refine SM.eqL e1 (SM.eqL a1 (SM.eqR b1 (SM.ret ⟨?_, rfl⟩)))
      simp only
      rw [b2, mxW_eq a3 b3]
