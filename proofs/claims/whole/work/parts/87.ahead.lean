/-! ===== ahead, rests ===== -/
def rnd (W H : Nat) (g pl ve : Nat → Int32) (sz : Int32) (f : Nat → Int32) : Prop := agr W H g f ∧ okC f W H ∧ sz = nI (coreL f W H).length ∧ celC f (coreL f W H) pl ve
theorem copy_ok {W H : Nat} (hW : W ≤ 9) (hH : H ≤ 9) {g g' pl ve f : Nat → Int32} {a b c : Int32} (h : agr W H g f) (ho : okC f W H) : OK (fX1_copy (nI W) (nI H) a b c g g' pl ve) (fun q => q.1 = nI W ∧ q.2.1 = nI H ∧ rnd W H q.2.2.2.1 q.2.2.2.2.1 q.2.2.2.2.2 q.2.2.1 f) := by
  unfold fX1_copy fX7_copy
  have t0 : tn 0 = 0 := rfl
  have t324 : tn 324 = 324 := tn_nI (k := 324) (by omega)
  have a1 : agr W H (va_cpy g g' (tn 0) (tn 0) (tn 324)) f := by
    refine agr.trans (agr_lo hW hH (fun k hk => ?_)) h
    rw [t0, t324]; unfold va_cpy; rw [if_pos (by omega)]; simp only [Nat.zero_add, Nat.sub_zero]
  refine OK.eq rfl (OK.bind (find_ok hW hH _ pl ve c (ho.agr a1).1) (fun q hq => OK.ret ⟨rfl, rfl, a1, ho, ?_, ?_⟩))
  · rw [← coreL_agr a1]; exact hq.1
  · exact celC_agr a1 hq.2
theorem put_ok (src dst : Nat → Int32) : OK (fX12_putAside src dst) (fun q => ∀ k, k < 486 → q k = src k) := by
  unfold fX12_putAside
  exact OK.bind cpy_ok (fun q hq => OK.ret hq)
theorem take_ok (src dst : Nat → Int32) : OK (fX12_takeBack dst src) (fun q => ∀ k, k < 486 → q k = src k) := by
  unfold fX12_takeBack
  exact OK.bind cpy_ok (fun q hq => OK.ret hq)
set_option maxHeartbeats 2000000 in
theorem ahead_sm {W H : Nat} (hW : W ≤ 9) (hH : H ≤ 9) {told X Y Dx Dy Fo f g g' pl ve ta as : Nat → Int32} (h : agr W H g f) (ho : okC f W H) (hs : okSet told) (a b c p q t k0 gl ca ou : Int32) :
    SM (fX11_ahead (nI W) (nI H) a b c g g' pl ve ta told p q) (fX12_ahead t (nI W) (nI H) k0 gl ca ou f told X Y Dx Dy Fo as p q) (fun y z => z.1 = y.1 ∧ z.2.1 = 0 ∧ ∀ k, k < 486 → z.2.2.2.2.2.2.1 k = f k) := by
  unfold fX11_ahead fX12_ahead
  refine SM.eqL (empty_eq hW) (SM.eqR (crys_eq hW) ?_)
  by_cases w0 : W = 0
  · exact SM.tL (decide_eq_true w0) (SM.fR (by rw [decide_eq_true_eq]; omega) (SM.ret ⟨rfl, rfl, fun _ _ => rfl⟩))
  · refine SM.fL (by rw [decide_eq_true_eq]; exact w0) (SM.tR (decide_eq_true (by omega)) (SM.eqR (in_c p (n := 40) rfl) ?_))
    by_cases hp : 0 ≤ p.toInt ∧ p.toInt ≤ 40
    · obtain ⟨m, hm, rfl⟩ := of_rng (x := p) (n := 41) (by omega) (by omega)
      refine SM.tR (decide_eq_true hp) (SM.fL (nI_pos (by omega)) (SM.fL (by rw [lt_i, nI_ti m (by omega), show (40 : Int32).toInt = 40 from rfl]; omega) (SM.eqR (in_c q (n := ((5 : Nat) : Int)) rfl) (SM.rng1 rfl ?_ (SM.ret ⟨rfl, rfl, fun _ _ => rfl⟩)))))
      rintro w hw rfl
      obtain ⟨⟨y1, y2, y3, y4, y5, y6⟩, ey, j1, j2, j3⟩ := copy_ok (g' := g') (pl := pl) (ve := ve) (a := a) (b := b) (c := c) hW hH h ho
      simp only at j1 j2 j3
      subst j1; subst j2
      obtain ⟨ct, ect, hct⟩ := clear_ok ta
      obtain ⟨as', eas, has⟩ := put_ok f as
      refine SM.eqL ey (SM.eqL ect (SM.eqR eas (SM.eqR rfl ?_)))
      refine SM.bind (Q := fun y z => rnd W H y.2.1 y.2.2.1 y.2.2.2.1 y.1 z.2.2.2.2.1 ∧ y.2.2.2.2 0 = z.2.1 ∧ y.2.2.2.2 1 = z.2.2.1 ∧ y.2.2.2.2 2 = z.2.2.2.1) (SM.loop (fun k v u => v.1 = nI k ∧ u.1 = nI k ∧ rnd W H v.2.2.1 v.2.2.2.1 v.2.2.2.2.1 v.2.1 u.2.2.2.2.2.1 ∧ v.2.2.2.2.2 0 = u.2.2.1 ∧ v.2.2.2.2.2 1 = u.2.2.2.1 ∧ v.2.2.2.2.2 2 = u.2.2.2.2.1) m (by omega) ⟨rfl, rfl, j3, hct 0 (by omega), hct 1 (by omega), hct 2 (by omega)⟩ ?_ ?_) ?_
      · rintro k ⟨v1, v2, v3, v4, v5, v6⟩ ⟨u1, u2, u3, u4, u5, u6, u7⟩ hk ⟨e1, e2, ⟨r1, r2, r3, r4⟩, e4, e5, e6⟩
        simp only at e1 e2 r1 r2 r3 r4 e4 e5 e6 ⊢
        subst e1; subst e2; subst r3
        refine SM.fL (nle hk (by omega)) (SM.fR (nle hk (by omega)) (SM.bind (round_sm r1 hW hH r2 r4 hs _ _ _ _ e4 e5 e6) ?_))
        rintro y z ⟨q1, q2, q3, q4, q5, q6, q7, q8, q9⟩
        exact SM.inl ⟨nI_s1 k, nI_s1 k, ⟨q1, q2, q3, q4⟩, q5, q6, q7⟩
      · rintro ⟨v1, v2, v3, v4, v5, v6⟩ ⟨u1, u2, u3, u4, u5, u6, u7⟩ ⟨e1, e2, e3, e4⟩
        simp only at e1 e2 e3 e4 ⊢
        subst e1; subst e2
        exact SM.tL (yle (by omega)) (SM.tR (yle (by omega)) (SM.inr ⟨e3, e4⟩))
      · rintro ⟨v2, v3, v4, v5, v6⟩ ⟨u2, u3, u4, u5, u6, u7⟩ ⟨⟨r1, r2, r3, r4⟩, e4, e5, e6⟩
        simp only at r1 r2 r3 r4 e4 e5 e6 ⊢
        subst r3
        have hok := r2.okL hW hH
        unfold fX12_aheadBy
        obtain ⟨⟨R1, R2, X', Y', Dx', Dy', Fo'⟩, eR, _, hR2, hr, hF⟩ := lays_eq hW hH u6 told u7.1 u7.2.1 u7.2.2.1 u7.2.2.2.1 u7.2.2.2.2 u2 hok
        simp only at hR2 hr
        subst hR2
        rw [eR]
        simp only [Option.bind_some]
        obtain ⟨tb, etb, htb⟩ := take_ok as' u6
        have fin : ∀ k, k < 486 → tb k = f k := fun k hk => (htb k hk).trans (has k hk)
        rcases (show w = 0 ∨ w = 1 ∨ w = 2 ∨ w = 3 ∨ w = 4 ∨ w = 5 by omega) with rfl | rfl | rfl | rfl | rfl | rfl
        · exact SM.tL rfl (SM.eqR (by rw [if_pos (by decide)]) (SM.eqR etb (SM.ret ⟨rfl, rfl, fin⟩)))
        · refine SM.fL (by decide) (SM.fL (by decide) (SM.fL (by decide) (SM.gL (by decide) (SM.eqR (by rw [if_neg (by decide), if_pos (by decide)]) (SM.eqR etb (SM.ret ⟨?_, rfl, fin⟩))))))
          exact e4.symm
        · refine SM.fL (by decide) (SM.fL (by decide) (SM.fL (by decide) (SM.gL (by decide) (SM.eqR (by rw [if_neg (by decide), if_neg (by decide), if_pos (by decide)]) (SM.eqR etb (SM.ret ⟨?_, rfl, fin⟩))))))
          exact e5.symm
        · refine SM.fL (by decide) (SM.fL (by decide) (SM.fL (by decide) (SM.gL (by decide) (SM.eqR (by rw [if_neg (by decide), if_neg (by decide), if_neg (by decide), if_pos (by decide)]) (SM.eqR etb (SM.ret ⟨?_, rfl, fin⟩))))))
          exact e6.symm
        · obtain ⟨en, _, ee1, ee2, rfl⟩ := energy_sm hok r4 hr
          refine SM.fL (by decide) (SM.tL (by decide) (SM.eqL ee1 (SM.eqR (by rw [if_neg (by decide), if_neg (by decide), if_neg (by decide), if_neg (by decide), if_pos (by decide), ee2]; rfl) (SM.eqR etb (SM.ret ⟨rfl, rfl, fin⟩)))))
        · obtain ⟨en, _, ee1, ee2, rfl⟩ := slipped_sm r1 hW hH
          refine SM.fL (by decide) (SM.fL (by decide) (SM.tL (by decide) (SM.eqL ee1 (SM.eqR (by rw [if_neg (by decide), if_neg (by decide), if_neg (by decide), if_neg (by decide), if_neg (by decide), ee2]; rfl) (SM.eqR etb (SM.ret ⟨rfl, rfl, fin⟩))))))
    · refine SM.fR (by rw [decide_eq_true_eq]; exact hp) ?_
      by_cases q0 : p < 0
      · exact SM.tL q0 (SM.ret ⟨rfl, rfl, fun _ _ => rfl⟩)
      · refine SM.fL q0 (SM.tL ?_ (SM.ret ⟨rfl, rfl, fun _ _ => rfl⟩))
        rw [lt_i, c0] at q0
        rw [lt_i, show (40 : Int32).toInt = 40 from rfl]
        omega
set_option maxHeartbeats 2000000 in
theorem rests_sm {W H : Nat} (hW : W ≤ 9) (hH : H ≤ 9) {told X Y Dx Dy Fo f g g' pl ve ta as : Nat → Int32} (h : agr W H g f) (ho : okC f W H) (hs : okSet told) (a b c t k0 gl ca ou : Int32) :
    SM (fX11_rests (nI W) (nI H) a b c g g' pl ve ta told) (fX12_rests t (nI W) (nI H) k0 gl ca ou f told X Y Dx Dy Fo as) (fun y z => z.1 = y.1 ∧ z.2.1 = 0 ∧ ∀ k, k < 486 → z.2.2.2.2.2.2.1 k = f k) := by
  unfold fX11_rests fX12_rests
  refine SM.eqL (empty_eq hW) (SM.eqR (crys_eq hW) ?_)
  by_cases w0 : W = 0
  · exact SM.tL (decide_eq_true w0) (SM.fR (by rw [decide_eq_true_eq]; omega) (SM.ret ⟨rfl, rfl, fun _ _ => rfl⟩))
  · refine SM.fL (by rw [decide_eq_true_eq]; exact w0) (SM.tR (decide_eq_true (by omega)) ?_)
    obtain ⟨⟨y1, y2, y3, y4, y5, y6⟩, ey, j1, j2, j3⟩ := copy_ok (g' := g') (pl := pl) (ve := ve) (a := a) (b := b) (c := c) hW hH h ho
    simp only at j1 j2 j3
    subst j1; subst j2
    obtain ⟨as', eas, has⟩ := put_ok f as
    refine SM.eqL ey (SM.eqR eas ?_)
    simp only
    have t2 : tn 2 = 2 := rfl
    rw [t2]
    refine SM.bind (Q := fun y z => ((∃ e, y = .inl e) ∧ z.1 = 41) ∨ ∃ i, i ≤ 40 ∧ (∃ r, y = .inr (nI i, r)) ∧ z.1 = nI i) (SM.loop (fun k v u => v.1 = nI k ∧ u.1 = nI k ∧ rnd W H v.2.2.1 v.2.2.2.1 v.2.2.2.2.1 v.2.1 u.2.2.2.2.2.1) 41 (by omega) ⟨rfl, rfl, j3⟩ ?_ ?_) ?_
    · rintro k ⟨v1, v2, v3, v4, v5, v6⟩ ⟨u1, u2, u3, u4, u5, u6, u7⟩ hk ⟨e1, e2, ⟨r1, r2, r3, r4⟩⟩
      simp only at e1 e2 r1 r2 r3 r4 ⊢
      subst e1; subst e2; subst r3
      have l40 : ¬ (40 : Int32) < nI k := by rw [lt_i, nI_ti k (by omega), show (40 : Int32).toInt = 40 from rfl]; omega
      refine SM.fL l40 (SM.fR l40 (SM.bind (gForce_sm hW hH (r2.okL hW hH) r4) ?_))
      rintro y ⟨z1, z2, z3⟩ ⟨rfl, _⟩
      simp only
      by_cases hf : z1 ≤ told 2
      · exact SM.tR hf (SM.fL (by rw [lt_i]; rw [le_i] at hf; omega) (SM.inrx (Or.inr ⟨k, by omega, ⟨_, rfl⟩, rfl⟩)))
      · refine SM.fR hf (SM.tL (by rw [lt_i]; rw [le_i] at hf; omega) (SM.bind (round_gen r1 hW hH r2 r4 hs _ u3 u4 u5 (v6 0 - u3) (v6 1 - u4) (v6 2 - u5) (by grind) (by grind) (by grind)) ?_))
        rintro y z ⟨q1, q2, q3, q4, q5⟩
        exact SM.inl ⟨nI_s1 k, nI_s1 k, q1, q2, q3, q4⟩
    · rintro ⟨v1, v2, v3, v4, v5, v6⟩ ⟨u1, u2, u3, u4, u5, u6, u7⟩ ⟨e1, e2, e3⟩
      simp only at e1 e2 ⊢
      subst e1; subst e2
      exact SM.tL (by decide) (SM.tR (by decide) (SM.inr (Or.inl ⟨⟨_, rfl⟩, rfl⟩)))
    · rintro y ⟨z1, z2, z3, z4, z5, z6, z7⟩ hy
      simp only at hy ⊢
      obtain ⟨tb, etb, htb⟩ := take_ok as' z6
      have fin : ∀ k, k < 486 → tb k = f k := fun k hk => (htb k hk).trans (has k hk)
      rcases hy with ⟨⟨e, rfl⟩, rfl⟩ | ⟨i, hi, ⟨r, rfl⟩, rfl⟩
      · exact SM.eqR etb (SM.fR (by decide) (SM.ret ⟨rfl, rfl, fin⟩))
      · exact SM.eqR etb (SM.tR (by rw [show (40 : Int32) = nI 40 from rfl, nI_le_iff (by omega) (by omega)]; exact hi) (SM.ret ⟨rfl, rfl, fin⟩))
