/-! ===== go, undo, image, back ===== -/
theorem clear_ok (ta : Nat → Int32) : OK (fX1_clearTally ta) (fun y => ∀ k, k < 3 → y k = 0) := by
  unfold fX1_clearTally
  refine OK.bind (OK.loop (Q := fun y => ∀ k, k < 3 → y k = 0) (fun k v => v.1 = nI k ∧ ∀ j, j < k → v.2 j = 0) 3 (by omega) ⟨rfl, fun j hj => by omega⟩ ?_ ?_) (fun y hy => OK.ret hy)
  · rintro k ⟨a, b⟩ hk ⟨rfl, h⟩
    simp only at h ⊢
    refine OK.f (by rw [show (3 : Int32) = nI 3 from rfl]; exact nle hk (by omega)) (OK.g (ein_nI hk (by omega)) (OK.inl ⟨nI_s1 k, fun j hj => ?_⟩))
    rw [tn_nI (by omega)]
    simp only [upd]
    by_cases e : j = k
    · rw [if_pos e]
    · rw [if_neg e]; exact h j (by omega)
  · rintro ⟨a, b⟩ ⟨rfl, h⟩
    exact OK.t (by show (3 : Int32) ≤ nI 3; decide) (OK.inr h)
/-- the sheet, its cores, its log -/
def nowR (B W H : Nat) (g rows pl ve : Nat → Int32) (T sz : Int32) (f : Nat → Int32) : Prop := sv B W H g rows T f ∧ sz = nI (coreL f W H).length ∧ celC f (coreL f W H) pl ve
theorem in_c2 (p : Int32) {b c : Int64} {m n : Int} (hb : b.toInt = m) (hc : c.toInt = n) : fX12_in (Int32.toInt64 p) b c = some (decide (m ≤ p.toInt ∧ p.toInt ≤ n)) := by
  rw [in_eq, i_l, hb, hc]
set_option maxHeartbeats 2000000 in
theorem go_sm {B W H : Nat} (hW : W ≤ 9) (hH : H ≤ 9) (hWH : W = 0 ∨ (2 ≤ W ∧ 2 ≤ H)) (hB : B ≤ 30000000) {told rf rf' X Y Dx Dy Fo f were : Nat → Int32} {s0 : goS} {acts : Int32} (h : nowR B W H (gA41 s0) (gA55 s0) (gA43 s0) (gA44 s0) (gtot s0) (gc0 s0) f) (hp : pastR B W H (grng s0) (gSS s0) (gnxt s0) (gsiz s0) acts were) (hK : gK s0 = 0) (hs : okSet told) (hr : ∀ k, k < 4 → rf k = rf' k) (p t k0 gl ca ou : Int32) (nx : Nat) :
    SM (fX11_go (nI W) (nI H) told rf s0 p nx) (fX12_go t (nI W) (nI H) k0 acts gl ca ou f told X Y Dx Dy Fo were rf' p) (fun y z => z.1 = y.1 ∧ z.2.1 = 0 ∧ gK y.2.2 ≤ 20 ∧ (∀ k, k < 4 → y.2.1 k = z.2.2.2.2.2.2.2.2.2.2.2.2.2.2 k) ∧ nowR (B + 40) W H (gA41 y.2.2) (gA55 y.2.2) (gA43 y.2.2) (gA44 y.2.2) (gtot y.2.2) (gc0 y.2.2) z.2.2.2.2.2.2.2.1 ∧ pastR (B + 40) W H (grng y.2.2) (gSS y.2.2) (gnxt y.2.2) (gsiz y.2.2) z.2.2.2.1 z.2.2.2.2.2.2.2.2.2.2.2.2.2.1) := by
  unfold fX11_go fX12_go
  refine SM.eqL (empty_eq hW) (SM.eqR (crys_eq hW) ?_)
  have hn40 : nowR (B + 40) W H (gA41 s0) (gA55 s0) (gA43 s0) (gA44 s0) (gtot s0) (gc0 s0) f := ⟨h.1.mono (by omega), h.2⟩
  have hp40 := hp.mono (show B ≤ B + 40 by omega)
  rcases hWH with w0 | ⟨hW2, hH2⟩
  · exact SM.tL (decide_eq_true w0) (SM.fR (by rw [decide_eq_true_eq]; omega) (SM.bind (refuse_sm hr (w := 0) (by omega)) (fun y z e => SM.ret ⟨e.2.1.trans e.1.symm, rfl, by show gK s0 ≤ 20; omega, e.2.2, hn40, hp40⟩)))
  · refine SM.fL (by rw [decide_eq_true_eq]; omega) (SM.tR (decide_eq_true (by omega)) (SM.eqR (in_c2 p (m := 1) (n := 40) rfl rfl) ?_))
    by_cases hq : 1 ≤ p.toInt ∧ p.toInt ≤ 40
    · obtain ⟨m, hm, rfl⟩ := of_rng (x := p) (n := 41) (by omega) (by omega)
      refine SM.tR (decide_eq_true hq) (SM.fL (by rw [lt_i, c1]; omega) (SM.tL (by rw [show (40 : Int32) = nI 40 from rfl, nI_le_iff (by omega) (by omega)]; omega) ?_))
      refine SM.bind (Q := fun y z => y.1 = z.1 ∧ gK y.2 ≤ 20 ∧ nowR (B + 40) W H (gA41 y.2) (gA55 y.2) (gA43 y.2) (gA44 y.2) (gtot y.2) (gc0 y.2) z.2.2.2.2.2.2.1 ∧ pastR (B + 40) W H (grng y.2) (gSS y.2) (gnxt y.2) (gsiz y.2) z.2.2.1 z.2.2.2.2.2.2.2.2.2.2.2.2) (SM.loop (fun k v w => v.2.1 = nI k ∧ w.2.1 = nI k ∧ v.1 = w.1 ∧ gK v.2.2 + nn (grng v.2.2) = nn (grng s0) ∧ nowR (B + k) W H (gA41 v.2.2) (gA55 v.2.2) (gA43 v.2.2) (gA44 v.2.2) (gtot v.2.2) (gc0 v.2.2) w.2.2.2.2.2.2.2.1 ∧ pastR (B + k) W H (grng v.2.2) (gSS v.2.2) (gnxt v.2.2) (gsiz v.2.2) w.2.2.2.1 w.2.2.2.2.2.2.2.2.2.2.2.2.2) m (by omega) ⟨rfl, rfl, rfl, by show gK s0 + nn (grng s0) = nn (grng s0); omega, h, hp⟩ ?_ ?_) ?_
      · rintro k ⟨v1, v2, s⟩ ⟨w1, w2, c9, acts', gl', ca', ou', f', X', Y', Dx', Dy', Fo', were'⟩ hk ⟨e1, e2, e3, e4, e5, e6⟩
        simp only at e1 e2 e3 e4 e5 e6 ⊢
        subst e1; subst e2; subst e3
        obtain ⟨⟨sa, so, n, sn, sl⟩, nsz, ncl⟩ := e5
        refine SM.fL (nle hk (by omega)) (SM.fR (nle hk (by omega)) ?_)
        obtain ⟨⟨r1, r2, r3, r4, r5⟩, ⟨k1, k2⟩, er, ek, hpast, hnn⟩ := rem_sm hW hH e6 ⟨sa, so, n, sn, sl⟩ (nx + 3 * gK s)
        simp only at hpast hnn
        have nn20 : nn (grng s0) ≤ 20 := cnt_le _ _
        obtain ⟨ct, ect, hct⟩ := clear_ok (gA45 s)
        obtain ⟨⟨b1, b2, b3, b4, b5⟩, ⟨d1, d2, d3, d4, d5, d6⟩, eb, ed, q1, q2, q3, q4, q5, q6, q7, q8, q9⟩ := round_sm (ta := ct) (told := told) (X := X') (Y := Y') (Dx := Dx') (Dy := Dy') (Fo := Fo') sa hW hH so ncl hs c9 0 0 0 (hct 0 (by omega)) (hct 1 (by omega)) (hct 2 (by omega))
        simp only at q1 q2 q3 q4 q5 q6 q7 q8 q9
        subst q3
        obtain ⟨⟨l1, l2⟩, f9, el, ef, x1, x2⟩ := logged_sm (T := gtot s) (rows := gA55 s) (f' := d5) (ta := b5) (a := d2) (b := d3) (c := d4) hW hH (by omega) (by omega) (by omega) sl q8 q9 q5 q6 q7
        simp only at x1
        rw [← nsz] at eb
        have ag : agr W H f9 d5 := agr_lo hW hH x2
        have hst : fgo_step (nI W) (nI H) told nx s = some (b5 (tn 0), (b2, nI (coreL d5 W H).length, b3, b4, b5, l1, l2, r1, r2, r3, r4, gK s + r5)) := by
          unfold fgo_step
          rw [er, Option.bind_some]
          simp only
          rw [g_t (decide_eq_true (by omega)), ect, Option.bind_some, eb, Option.bind_some]
          simp only
          rw [el, Option.bind_some]
        refine SM.eqL hst (SM.eqR ek (SM.eqR rfl (SM.eqR ed (SM.eqR ef ?_))))
        refine SM.inl ⟨nI_s1 k, nI_s1 k, ?_, ?_, ⟨⟨?_, q2.agr ag, n + 1, by omega, x1⟩, ?_, ?_⟩, hpast.mono (by omega)⟩
        · show v1 + b5 0 = v1 + d2
          rw [q5]
        · show gK s + r5 + nn r3 = _
          omega
        · exact q1.trans ag.symm
        · show nI (coreL d5 W H).length = _
          rw [coreL_agr ag]
        · exact celC_agr ag.symm q4
      · rintro ⟨v1, v2, s⟩ ⟨w1, w2, c9, acts', gl', ca', ou', f', X', Y', Dx', Dy', Fo', were'⟩ ⟨e1, e2, e3, e4, e5, e6⟩
        simp only at e1 e2 e3 e4 e5 e6 ⊢
        subst e1; subst e2; subst e3
        have nn20 : nn (grng s0) ≤ 20 := cnt_le _ _
        exact SM.tL (yle (by omega)) (SM.tR (yle (by omega)) (SM.inr ⟨rfl, by show gK s ≤ 20; omega, ⟨e5.1.mono (by omega), e5.2⟩, e6.mono (by omega)⟩))
      · rintro ⟨y1, s⟩ ⟨z1, z2, z3, z4, z5, z6, z7, z8⟩ ⟨e1, e2, e3, e4⟩
        simp only at e1 e2 e3 e4 ⊢
        subst e1
        exact SM.ret ⟨rfl, rfl, e2, hr, e3, e4⟩
    · refine SM.fR (by rw [decide_eq_true_eq]; exact hq) ?_
      have bad : SM ((fX11_refuse rf 2).bind (fun r => some (r.1, r.2, s0))) ((fX12_refuses rf' 2).bind (fun q18 => some (q18.1, (0 : Int32), k0, acts, gl, ca, ou, f, X, Y, Dx, Dy, Fo, were, q18.2))) (fun y z => z.1 = y.1 ∧ z.2.1 = 0 ∧ gK y.2.2 ≤ 20 ∧ (∀ k, k < 4 → y.2.1 k = z.2.2.2.2.2.2.2.2.2.2.2.2.2.2 k) ∧ nowR (B + 40) W H (gA41 y.2.2) (gA55 y.2.2) (gA43 y.2.2) (gA44 y.2.2) (gtot y.2.2) (gc0 y.2.2) z.2.2.2.2.2.2.2.1 ∧ pastR (B + 40) W H (grng y.2.2) (gSS y.2.2) (gnxt y.2.2) (gsiz y.2.2) z.2.2.2.1 z.2.2.2.2.2.2.2.2.2.2.2.2.2.1) := SM.bind (refuse_sm hr (w := 2) (by omega)) (fun y z e => SM.ret ⟨e.2.1.trans e.1.symm, rfl, by show gK s0 ≤ 20; omega, e.2.2, hn40, hp40⟩)
      by_cases q0 : p < 1
      · exact SM.tL q0 bad
      · refine SM.fL q0 (SM.fL (fun z => hq ?_) bad)
        rw [lt_i, c1] at q0
        rw [le_i, show (40 : Int32).toInt = 40 from rfl] at z
        omega
