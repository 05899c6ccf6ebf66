/-! ===== shake, the call ===== -/
set_option maxHeartbeats 4000000 in
theorem shake_sm {B W H : Nat} (hW : W ≤ 9) (hH : H ≤ 9) {ring : Nat → Option Nat} {SS : eSS} {next size acts tot sz : Int32} {were g rows pl ve ta f rf rf' told X Y Dx Dy Fo : Nat → Int32} (hn : nowR B W H g rows pl ve tot sz f) (h : pastR B W H ring SS next size acts were) (hr : ∀ k, k < 4 → rf k = rf' k) (p k0 t : Int32) (seed dr : Int64) (nx : Nat) :
    SM (fX11_shake (nI W) (nI H) sz tot next size g pl ve ta rows ring rf SS p seed nx) (fX12_shake t (nI W) (nI H) k0 acts dr f told X Y Dx Dy Fo were rf' p seed) (fun y z => z.1 = y.1 ∧ z.2.1 = 0 ∧ nowR B W H y.2.2.2.2.1 rows y.2.2.2.2.2.1 y.2.2.2.2.2.2.1 tot y.2.1 z.2.2.2.2.2.1 ∧ pastR B W H y.2.2.2.2.2.2.2.2.1 y.2.2.2.2.2.2.2.2.2.2.1 y.2.2.1 y.2.2.2.1 z.2.2.2.1 z.2.2.2.2.2.2.2.2.2.2.2.1 ∧ (∀ k, k < 4 → y.2.2.2.2.2.2.2.2.2.1 k = z.2.2.2.2.2.2.2.2.2.2.2.2 k)) := by
  unfold fX11_shake fX12_shake
  refine SM.eqL (empty_eq hW) (SM.eqR (crys_eq hW) ?_)
  have bad : ∀ {w : Nat}, w < 4 → SM ((fX11_refuse rf (nI w)).bind (fun q3 => some (q3.1, sz, next, size, g, pl, ve, ta, ring, q3.2, SS, 0))) ((fX12_refuses rf' (nI w)).bind (fun q => some (q.1, (0 : Int32), k0, acts, dr, f, X, Y, Dx, Dy, Fo, were, q.2))) (fun y z => z.1 = y.1 ∧ z.2.1 = 0 ∧ nowR B W H y.2.2.2.2.1 rows y.2.2.2.2.2.1 y.2.2.2.2.2.2.1 tot y.2.1 z.2.2.2.2.2.1 ∧ pastR B W H y.2.2.2.2.2.2.2.2.1 y.2.2.2.2.2.2.2.2.2.2.1 y.2.2.1 y.2.2.2.1 z.2.2.2.1 z.2.2.2.2.2.2.2.2.2.2.2.1 ∧ (∀ k, k < 4 → y.2.2.2.2.2.2.2.2.2.1 k = z.2.2.2.2.2.2.2.2.2.2.2.2 k)) := by
    intro w hw
    exact SM.bind (refuse_sm hr hw) (fun y z e => SM.ret ⟨e.2.1.trans e.1.symm, rfl, hn, h, e.2.2⟩)
  by_cases w0 : W = 0
  · exact SM.tL (decide_eq_true w0) (SM.fR (by rw [decide_eq_true_eq]; omega) (bad (w := 0) (by omega)))
  · refine SM.fL (by rw [decide_eq_true_eq]; exact w0) (SM.tR (decide_eq_true (by omega)) (SM.eqR (in_c2 p (m := 1) (n := 60) rfl rfl) ?_))
    by_cases hq : 1 ≤ p.toInt ∧ p.toInt ≤ 60
    · obtain ⟨m, hm, rfl⟩ := of_rng (x := p) (n := 61) (by omega) (by omega)
      refine SM.tR (decide_eq_true hq) (SM.fL (by rw [lt_i, c1]; omega) (SM.tL (by rw [show (60 : Int32) = nI 60 from rfl, nI_le_iff (by omega) (by omega)]; omega) ?_))
      obtain ⟨⟨r1, r2, r3, r4, r5⟩, ⟨k1, k2⟩, er, ek, hpast, hnn⟩ := rem_sm hW hH h hn.1 nx
      simp only at hpast hnn
      refine SM.eqL er (SM.eqR ek ?_)
      have hn0 := hn
      obtain ⟨⟨sa, so, n, sn, sl⟩, nsz, ncl⟩ := hn0
      refine SM.bind (Q := fun y z => y.1 = z.1 ∧ rnd W H y.2.2.1 y.2.2.2.1 y.2.2.2.2.1 y.2.1 z.2.2.2.1 ∧ ∀ k, 324 ≤ k → z.2.2.2.1 k = f k) (SM.loopE (fun k v w => v.2.2.1 = nI k ∧ w.2.1 = nI k ∧ v.1 = w.1 ∧ v.2.1 = w.2.2.2.1 ∧ rnd W H v.2.2.2.2.1 v.2.2.2.2.2.1 v.2.2.2.2.2.2.1 v.2.2.2.1 w.2.2.2.2.1 ∧ ∀ k, 324 ≤ k → w.2.2.2.2.1 k = f k) (fun k y w => w.2.1 = nI k ∧ y.1 = w.1 ∧ rnd W H y.2.2.1 y.2.2.2.1 y.2.2.2.2.1 y.2.1 w.2.2.2.2.1 ∧ (coreL w.2.2.2.2.1 W H).length = 0 ∧ ∀ k, 324 ≤ k → w.2.2.2.2.1 k = f k) m (by omega) ⟨rfl, rfl, rfl, rfl, ⟨sa, so, nsz, ncl⟩, fun _ _ => rfl⟩ ?_ ?_ ?_ ?_) ?_
      · rintro k ⟨v1, v2, v3, v4, v5, v6, v7, v8⟩ ⟨u1, u2, u3, u4, u5, X', Y', Dx', Dy', Fo'⟩ hk ⟨e1, e2, e3, e4, ⟨c1, c2, c3, c4⟩, hhi⟩
        simp only at e1 e2 e3 e4 c1 c2 c3 c4 hhi ⊢
        subst e1; subst e2; subst e3; subst e4; subst c3
        by_cases l0 : (coreL u5 W H).length = 0
        · right
          refine ⟨(v1, nI (coreL u5 W H).length, v5, v6, v7, v8), ?_, rfl, rfl, ⟨c1, c2, rfl, c4⟩, l0, hhi⟩
          rw [if_neg (nle hk (by omega)), if_pos (by rw [l0]; decide)]
        · left
          have hok := c2.okL hW hH
          have hl12 := hok.1
          refine SM.fL (nle hk (by omega)) (SM.fR (nle hk (by omega)) (SM.fL (by rw [z0, nI_le_iff (by omega) (by omega)]; omega) (SM.okR (lays_eq hW hH u5 told X' Y' Dx' Dy' Fo' u3 hok) ?_)))
          rintro ⟨R1, R2, X2, Y2, Dx2, Dy2, Fo2⟩ ⟨_, hR2, hcel, hF⟩
          simp only at hR2 hcel hF ⊢
          subst hR2
          obtain ⟨i, hi, ei⟩ := drw_b (nst v2) (n := (coreL u5 W H).length) (by omega) (by omega)
          have d1 := cdraw_eq (nst v2) (n := (coreL u5 W H).length) (by omega) (by omega)
          have d2 := rdraw_eq v2 (n := (coreL u5 W H).length) (by omega) (by omega)
          have d3 := cdraw_eq (nst (nst v2)) (n := 2) (by omega) (by omega)
          have d4 := rdraw_eq (nst v2) (n := 2) (by omega) (by omega)
          rw [ei] at d1 d2
          rw [← z2] at d3 d4
          have gi : e_in (nI i) 64 = true := ein_nI (by omega) (by omega)
          have ci := coreL_at hi
          have cw := cway_eq hok c4 hi
          have rw' := rway_eq hcel hl12 hi
          generalize hway : (if kv u5 (coreL u5 W H) i 1 = 0 then nI 0 else if kv u5 (coreL u5 W H) i 0 = 0 then nI 1 else -1 : Int32) = way at cw rw'
          have b1 : (if drw (nst (nst v2)) 2 = 1 then some true else some false : Option Bool) = some (decide (drw (nst (nst v2)) 2 = 1)) := by
            by_cases e : drw (nst (nst v2)) 2 = 1
            · rw [if_pos e, decide_eq_true e]
            · rw [if_neg e, decide_eq_false e]
          generalize hup : decide (drw (nst (nst v2)) 2 = 1) = up at b1
          refine SM.eqL (z := nst v2) rfl (SM.eqL d1 (SM.eqL (z := nst (nst v2)) rfl (SM.eqL d3 (SM.eqL b1 (SM.eqL cw ?_)))))
          by_cases hw1 : way = -1
          · refine SM.eqL (z := (v1, v5, nI (coreL u5 W H).length, v6, v7, v8)) (by rw [if_pos hw1]) (SM.eqR (z := (v1, nst (nst v2), u5)) ?_ ⟨_, _, rfl, rfl, _, _, rfl, rfl, nI_s1 k, nI_s1 k, rfl, rfl, ⟨c1, c2, rfl, c4⟩, hhi⟩)
            rw [if_neg (by rw [z0, nI_le_iff (by omega) (by omega)]; omega), d2, Option.bind_some]
            simp only
            rw [d4, Option.bind_some]
            simp only
            rw [b1, Option.bind_some, rw', Option.bind_some, if_pos hw1]
          · obtain ⟨w, hw, rfl⟩ : ∃ w, w ≤ 1 ∧ way = nI w := by
              rw [← hway]
              split
              · exact ⟨0, by omega, rfl⟩
              · split
                · exact ⟨1, by omega, rfl⟩
                · rename_i a b; rw [if_neg a, if_neg b] at hway; exact absurd hway.symm hw1
            have dl := dirN_lt hw up
            obtain ⟨⟨c, g'⟩, ⟨c', f'⟩, j1, j2, j3, j4, j5, j6⟩ := carry_sm c1 hW hH ci.1 ci.2.1 dl (kv u5 (coreL u5 W H) i 0) (kv u5 (coreL u5 W H) i 1)
            simp only at j3 j4 j5 j6
            subst j3
            obtain ⟨⟨yg, yt⟩, ey, y1, y2⟩ := glide_ok (ta := v8) hl12 c4 hi hw up cw j1
            simp only at y1
            subst y1
            have ag : agr W H yg f' := by rw [j4, j5]; exact agr_mvF c1 hW (by omega) _ _
            have ok' : okC f' W H := by
              rw [j5]
              exact okC_glide hW c2 ci.1 ci.2.1 dl ci.2.2 rfl rfl
            obtain ⟨⟨s9, pl9, ve9⟩, ef9, q1, q2⟩ := find_ok hW hH yg v6 v7 (nI (coreL u5 W H).length) (ok'.agr ag).1
            simp only at q1 q2
            refine SM.eqL (z := (v1 + 1, yg, s9, pl9, ve9, yt)) ?_ (SM.eqR (z := (v1 + 1, nst (nst v2), f')) ?_ ⟨_, _, rfl, rfl, _, _, rfl, rfl, nI_s1 k, nI_s1 k, rfl, rfl, ⟨ag, ok', ?_, celC_agr ag q2⟩, ?_⟩)
            · rw [if_neg hw1, ey, Option.bind_some]
              simp only
              rw [ef9, Option.bind_some]
            · rw [if_neg (by rw [z0, nI_le_iff (by omega) (by omega)]; omega), d2, Option.bind_some]
              simp only
              rw [d4, Option.bind_some]
              simp only
              rw [b1, Option.bind_some, rw', Option.bind_some, if_neg hw1, g_t gi, g_t gi, Option.bind_some, rdirOf_eq hw up, Option.bind_some, g_t gi, g_t gi, tn_nI (by omega), (hcel i hi).1, (hcel i hi).2.1, (hcel i hi).2.2.1, (hcel i hi).2.2.2, j2, Option.bind_some]
            · rw [← coreL_agr ag]; exact q1
            · intro k hk
              simp only
              rw [j5, mvF_hi _ _ _ (by omega) (by omega) hk]
              exact hhi k hk
      · rintro k ⟨y1, y2, y3, y4, y5, y6⟩ ⟨u1, u2, u3, u4, u5, X', Y', Dx', Dy', Fo'⟩ hk ⟨e1, e2, ⟨c1, c2, c3, c4⟩, l0, hhi⟩
        simp only at e1 e2 c1 c2 c3 c4 l0 hhi ⊢
        subst e1; subst e2
        refine OK.f (nle hk (by omega)) (OK.bind (lays_eq hW hH u5 told X' Y' Dx' Dy' Fo' u3 (c2.okL hW hH)) ?_)
        rintro ⟨R1, R2, X2, Y2, Dx2, Dy2, Fo2⟩ ⟨_, hR2, hcel, hF⟩
        simp only at hR2 ⊢
        subst hR2
        exact OK.eq (z := (y1, u4, u5)) (by rw [if_pos (by rw [l0]; decide)]) (OK.inl ⟨nI_s1 k, rfl, ⟨c1, c2, c3, c4⟩, l0, hhi⟩)
      · rintro ⟨y1, y2, y3, y4, y5, y6⟩ ⟨u1, u2, u3, u4, u5, X', Y', Dx', Dy', Fo'⟩ ⟨e1, e2, e3, l0, hhi⟩
        simp only at e1 e2 e3 hhi ⊢
        subst e1; subst e2
        exact OK.t (yle (by omega)) (OK.inr ⟨rfl, e3, hhi⟩)
      · rintro ⟨v1, v2, v3, v4, v5, v6, v7, v8⟩ ⟨u1, u2, u3, u4, u5, X', Y', Dx', Dy', Fo'⟩ ⟨e1, e2, e3, e4, e5, hhi⟩
        simp only at e1 e2 e3 e4 e5 hhi ⊢
        subst e1; subst e2; subst e3
        exact SM.tL (yle (by omega)) (SM.tR (yle (by omega)) (SM.inr ⟨rfl, e5, hhi⟩))
      · rintro ⟨y1, y2, y3, y4, y5, y6⟩ ⟨z1, z2, z3, z4, z5⟩ ⟨e1, ⟨c1, c2, c3, c4⟩, hhi⟩
        simp only at e1 c1 c2 c3 c4 hhi ⊢
        subst e1
        exact SM.ret ⟨rfl, rfl, ⟨⟨c1, c2, n, sn, sl.congr (fun _ _ => rfl) (fun k hk _ => hhi k hk)⟩, c3, c4⟩, hpast, hr⟩
    · refine SM.fR (by rw [decide_eq_true_eq]; exact hq) ?_
      by_cases q0 : p < 1
      · exact SM.tL q0 (bad (w := 2) (by omega))
      · refine SM.fL q0 (SM.fL (fun z => hq ?_) (bad (w := 2) (by omega)))
        rw [lt_i, c1] at q0
        rw [le_i, show (60 : Int32).toInt = 60 from rfl] at z
        omega
