/-! ===== move, the call ===== -/
theorem wayv_eq {dx dy : Int32} (h : ¬ (dx = 0 ∧ dy = 0)) : ∃ w, fX11_wayOfVector dx dy = some w ∧ fX12_wayOf dx dy = some w := by
  unfold fX11_wayOfVector fX12_wayOf
  by_cases e1 : dy = 0
  · have e0 : dx ≠ 0 := fun e => h ⟨e, e1⟩
    exact ⟨0, by rw [if_pos e1, if_neg e0], by rw [if_pos e1]⟩
  · by_cases e0 : dx = 0
    · exact ⟨1, by rw [if_neg e1, if_pos e0], by rw [if_neg e1, if_pos e0]⟩
    · exact ⟨-1, by rw [if_neg e1, if_neg e0], by rw [if_neg e1, if_neg e0]⟩
set_option maxHeartbeats 4000000 in
theorem move_sm {B W H : Nat} (hW : W ≤ 9) (hH : H ≤ 9) {ring : Nat → Option Nat} {SS : eSS} {next size acts tot sz : Int32} {were g rows pl ve f rf rf' told X Y Dx Dy Fo : Nat → Int32} (hn : nowR B W H g rows pl ve tot sz f) (h : pastR B W H ring SS next size acts were) (hr : ∀ k, k < 4 → rf k = rf' k) (p0 p1 p2 p3 k0 t : Int32) (nx : Nat) :
    SM (fX11_move (nI W) (nI H) sz tot next size g pl ve rows ring rf SS p0 p1 p2 p3 nx) (fX12_move t (nI W) (nI H) k0 acts f told X Y Dx Dy Fo were rf' p0 p1 p2 p3) (fun y z => z.1 = y.1 ∧ z.2.1 = 0 ∧ nowR B W H y.2.2.2.2.1 rows y.2.2.2.2.2.1 y.2.2.2.2.2.2.1 tot y.2.1 z.2.2.2.2.1 ∧ pastR B W H y.2.2.2.2.2.2.2.1 y.2.2.2.2.2.2.2.2.2.1 y.2.2.1 y.2.2.2.1 z.2.2.2.1 z.2.2.2.2.2.2.2.2.2.2.1 ∧ (∀ k, k < 4 → y.2.2.2.2.2.2.2.2.1 k = z.2.2.2.2.2.2.2.2.2.2.2 k)) := by
  unfold fX11_move fX12_move
  refine SM.eqL (empty_eq hW) (SM.eqR (crys_eq hW) ?_)
  have bad : ∀ {w : Nat} (c : Int32) (a1 a2 a3 a4 a5 : Nat → Int32), w < 4 → SM ((fX11_refuse rf (nI w)).bind (fun q3 => some (q3.1, sz, next, size, g, pl, ve, ring, q3.2, SS, 0))) ((fX12_refuses rf' (nI w)).bind (fun q => some (q.1, (0 : Int32), c, acts, f, a1, a2, a3, a4, a5, were, q.2))) (fun y z => z.1 = y.1 ∧ z.2.1 = 0 ∧ nowR B W H y.2.2.2.2.1 rows y.2.2.2.2.2.1 y.2.2.2.2.2.2.1 tot y.2.1 z.2.2.2.2.1 ∧ pastR B W H y.2.2.2.2.2.2.2.1 y.2.2.2.2.2.2.2.2.2.1 y.2.2.1 y.2.2.2.1 z.2.2.2.1 z.2.2.2.2.2.2.2.2.2.2.1 ∧ (∀ k, k < 4 → y.2.2.2.2.2.2.2.2.1 k = z.2.2.2.2.2.2.2.2.2.2.2 k)) := by
    intro w c a1 a2 a3 a4 a5 hw
    exact SM.bind (refuse_sm hr hw) (fun y z e => SM.ret ⟨e.2.1.trans e.1.symm, rfl, hn, h, e.2.2⟩)
  by_cases w0 : W = 0
  · exact SM.tL (decide_eq_true w0) (SM.fR (by rw [decide_eq_true_eq]; omega) (bad (w := 0) _ _ _ _ _ _ (by omega)))
  · obtain ⟨⟨sa, so, n, sn, sl⟩, nsz, ncl⟩ := hn
    have hn : nowR B W H g rows pl ve tot sz f := ⟨⟨sa, so, n, sn, sl⟩, nsz, ncl⟩
    have hok := so.okL hW hH
    have hl12 := hok.1
    obtain ⟨ix, eix, hix⟩ := indexAt_ok hl12 ncl p0 p1
    rw [← nsz] at eix
    refine SM.fL (by rw [decide_eq_true_eq]; exact w0) (SM.tR (decide_eq_true (by omega)) (SM.eqL eix (SM.eqR (isFace_eq hW hH p0 p1) ?_)))
    rcases hix with ⟨rfl, hno⟩ | ⟨i, hi, rfl, ex, ey⟩
    · refine SM.tL rfl ?_
      by_cases hf : 0 ≤ p0.toInt ∧ p0.toInt < (W : Int) - 1 ∧ 0 ≤ p1.toInt ∧ p1.toInt < (H : Int) - 1
      · obtain ⟨x, hx, rfl⟩ := of_rng (x := p0) (n := 10) hf.1 (by omega)
        obtain ⟨y, hy, rfl⟩ := of_rng (x := p1) (n := 10) hf.2.2.1 (by omega)
        have hf' := hf
        rw [nI_ti x (by omega), nI_ti y (by omega)] at hf'
        refine SM.tR (decide_eq_true hf) (SM.eqR (isCore_eq f (by omega) (by omega)) (SM.fR ?_ (bad (w := 1) _ _ _ _ _ _ (by omega))))
        intro hcc
        obtain ⟨j, hj, e1, e2⟩ := coreL_of (f := f) (W := W) (H := H) (x := x) (y := y) hcc (by omega) (by omega)
        exact hno j hj ⟨by rw [e1], by rw [e2]⟩
      · exact SM.fR (by rw [decide_eq_true_eq]; exact hf) (bad (w := 1) _ _ _ _ _ _ (by omega))
    · have ci := coreL_at hi
      generalize kx (coreL f W H) i = x at ex ci
      generalize ky (coreL f W H) i = y at ey ci
      subst ex; subst ey
      obtain ⟨hx, hy, hc⟩ := ci
      have hcv := isC_true.mp hc
      refine SM.fL (nI_m1 (by omega)) (SM.tR (decide_eq_true (by rw [nI_ti x (by omega), nI_ti y (by omega)]; omega)) (SM.eqR (isCore_eq f (by omega) (by omega)) (SM.tR (decide_eq_true hcv) (SM.eqR (in_c p2 (n := ((2 : Nat) : Int)) rfl) ?_))))
      by_cases hp2 : 0 ≤ p2.toInt ∧ p2.toInt ≤ ((2 : Nat) : Int)
      · obtain ⟨q, hq, rfl⟩ := of_rng (x := p2) (n := 3) hp2.1 (by omega)
        refine SM.tR (decide_eq_true hp2) (SM.fL (nI_pos (by omega)) (SM.fL (by rw [lt_i, nI_ti q (by omega), c2]; omega) (SM.eqR (in_c p3 (n := ((3 : Nat) : Int)) rfl) (SM.rng1 rfl ?_ (bad (w := 2) _ _ _ _ _ _ (by omega))))))
        rintro d hd3 rfl
        have hd : d < 4 := by omega
        have v0 := vector_eq f (x := x) (y := y) (p := 0) (by omega) (by omega) (by omega)
        have v1 := vector_eq f (x := x) (y := y) (p := 1) (by omega) (by omega) (by omega)
        have u0 := vectorOf_eq hW hH g (x := x) (y := y) (p := 0) (by omega) (by omega) (by omega)
        have u1 := vectorOf_eq hW hH g (x := x) (y := y) (p := 1) (by omega) (by omega) (by omega)
        rw [if_pos ⟨hx, hy⟩, vec_agr sa hx hy (by omega)] at u0 u1
        rw [← z0] at v0 u0
        rw [← z1] at v1 u1
        -- the part that goes
        have part : ∃ dx dy : Int32, (if nI q = 2 then some 0 else (fX7_vectorOf (nI W) (nI H) g (nI x) (nI y) 0).bind (fun q61 => some q61) : Option Int32) = some dx ∧ (if nI q = 1 then some 0 else (fX7_vectorOf (nI W) (nI H) g (nI x) (nI y) 1).bind (fun q59 => some q59) : Option Int32) = some dy ∧ (if nI q = 2 then some 0 else (fX12_vector f (nI x) (nI y) 0).bind (fun q31 => some q31) : Option Int32) = some dx ∧ (if nI q = 1 then some 0 else (fX12_vector f (nI x) (nI y) 1).bind (fun q29 => some q29) : Option Int32) = some dy ∧ (dx = vec f x y 0 ∨ dx = 0) ∧ (dy = vec f x y 1 ∨ dy = 0) ∧ fX12_isPart f (nI x) (nI y) (nI q) = some (decide (¬ (dx = 0 ∧ dy = 0))) := by
          unfold fX12_isPart
          rw [u0, u1, v0, v1]
          rcases (show q = 0 ∨ q = 1 ∨ q = 2 by omega) with rfl | rfl | rfl
          · refine ⟨vec f x y 0, vec f x y 1, by rw [if_neg (by decide)]; rfl, by rw [if_neg (by decide)]; rfl, by rw [if_neg (by decide)]; rfl, by rw [if_neg (by decide)]; rfl, Or.inl rfl, Or.inl rfl, ?_⟩
            rw [if_pos (by decide), decide_eq_true hcv]
          · refine ⟨vec f x y 0, 0, by rw [if_neg (by decide)]; rfl, by rw [if_pos (by decide)], by rw [if_neg (by decide)]; rfl, by rw [if_pos (by decide)], Or.inl rfl, Or.inr rfl, ?_⟩
            rw [if_neg (by decide), if_pos (by decide), Option.bind_some]
            by_cases e : vec f x y 0 = 0
            · rw [if_pos e, if_neg (by decide), decide_eq_false (fun n => n ⟨e, rfl⟩)]
            · have ne : ¬ (vec f x y 0 = 0 ∧ (0 : Int32) = 0) := fun n => e n.1
              rw [if_neg e, decide_eq_true ne]
          · refine ⟨0, vec f x y 1, by rw [if_pos (by decide)], by rw [if_neg (by decide)]; rfl, by rw [if_pos (by decide)], by rw [if_neg (by decide)]; rfl, Or.inr rfl, Or.inl rfl, ?_⟩
            rw [if_neg (by decide), if_neg (by decide), if_pos (by decide), Option.bind_some]
            by_cases e : vec f x y 1 = 0
            · rw [if_pos e, decide_eq_false (fun n => n ⟨rfl, e⟩)]
            · have ne : ¬ ((0 : Int32) = 0 ∧ vec f x y 1 = 0) := fun n => e n.2
              rw [if_neg e, decide_eq_true ne]
        obtain ⟨dx, dy, a1, a2, a3, a4, a5, a6, a7⟩ := part
        refine SM.eqL a1 (SM.eqL a2 (SM.eqR a7 ?_))
        by_cases hz : dx = 0 ∧ dy = 0
        · exact SM.tL hz.1 (SM.tL hz.2 (SM.fR (by rw [decide_eq_true_eq]; exact fun n => n hz) (bad (w := 2) _ _ _ _ _ _ (by omega))))
        · refine SM.tR (decide_eq_true hz) (SM.okR (lays_eq hW hH f told X Y Dx Dy Fo k0 hok) ?_)
          rintro ⟨R1, R2, X2, Y2, Dx2, Dy2, Fo2⟩ ⟨_, hR2, hcel, hF⟩
          simp only at hR2 hcel hF ⊢
          subst hR2
          obtain ⟨cb, ecb, hcb⟩ := behind_ok (f := f) (K := (coreL f W H).length) (dx := dx) (dy := dy) hW hH hx hy hd hl12 (by omega) hz
          obtain ⟨sp, esp, hsp⟩ := split_eq sa hW hH hx hy hd dx dy
          refine SM.eqR a3 (SM.eqR a4 (SM.eqR ecb ?_))
          obtain ⟨⟨r1, r2, r3, r4, r5⟩, ⟨k1, k2⟩, er, ek, hpast, hnn⟩ := rem_sm hW hH h hn.1 nx
          simp only at hpast hnn
          obtain ⟨way, wa1, wa2⟩ := wayv_eq hz
          obtain ⟨⟨c, gg⟩, ⟨c', ff⟩, j1, j2, j3, j4, j5, j6⟩ := carry_sm sa hW hH hx hy hd dx dy
          simp only at j3 j4 j5 j6
          subst j3
          have good : ¬ (12 ≤ (coreL f W H).length ∧ spl f W H x y d dx dy) → SM ((f_rem ring SS next size g rows tot nx).bind (fun q37 => (fX7_carry (nI W) (nI H) g (nI x) (nI y) dx dy (nI d)).bind (fun q39 => (fX0_find (nI W) (nI H) sz q39.2 pl ve).bind (fun q41 => if q39.1 = 0 then (fX11_wayOfVector dx dy).bind (fun q43 => if q43 = (nI d - nI d / 2 * 2) then some (0, q41.1, q37.1, q37.2.1, q39.2, q41.2.1, q41.2.2, q37.2.2.1, rf, q37.2.2.2.1, q37.2.2.2.2) else some (1, q41.1, q37.1, q37.2.1, q39.2, q41.2.1, q41.2.2, q37.2.2.1, rf, q37.2.2.2.1, q37.2.2.2.2)) else some (q39.1, q41.1, q37.1, q37.2.1, q39.2, q41.2.1, q41.2.2, q37.2.2.1, rf, q37.2.2.2.1, q37.2.2.2.2))))) ((fX12_keeps acts f were).bind (fun q21 => (fX12_wayOf dx dy).bind (fun q23 => (fX12_moves (nI W) (nI H) f (nI x) (nI y) (nI d) dx dy).bind (fun q25 => if q25.1 = 0 then if q23 = (nI d - nI d / 2 * 2) then some (0, (0 : Int32), nI (coreL f W H).length, q21.1, q25.2, X2, Y2, Dx2, Dy2, Fo2, q21.2, rf') else some (1, (0 : Int32), nI (coreL f W H).length, q21.1, q25.2, X2, Y2, Dx2, Dy2, Fo2, q21.2, rf') else some (q25.1, (0 : Int32), nI (coreL f W H).length, q21.1, q25.2, X2, Y2, Dx2, Dy2, Fo2, q21.2, rf'))))) (fun y z => z.1 = y.1 ∧ z.2.1 = 0 ∧ nowR B W H y.2.2.2.2.1 rows y.2.2.2.2.2.1 y.2.2.2.2.2.2.1 tot y.2.1 z.2.2.2.2.1 ∧ pastR B W H y.2.2.2.2.2.2.2.1 y.2.2.2.2.2.2.2.2.2.1 y.2.2.1 y.2.2.2.1 z.2.2.2.1 z.2.2.2.2.2.2.2.2.2.2.1 ∧ (∀ k, k < 4 → y.2.2.2.2.2.2.2.2.1 k = z.2.2.2.2.2.2.2.2.2.2.2 k)) := by
            intro hns
            have ag : agr W H gg ff := by rw [j4, j5]; exact agr_mvF sa hW (by omega) _ _
            have ok2 : okC ff W H := by
              rw [j5]
              refine ⟨len_part hW hx hy hd hc hl12 hns, Nat.le_trans (gs_mv hW so hx hy hd (by omega) ?_) so.2.1, Nat.le_trans (gs_mv hW so hx hy hd (by omega) ?_) so.2.2⟩
              · exact a5
              · exact a6
            have sv2 : sv B W H gg rows tot ff := ⟨ag, ok2, n, sn, sl.congr (fun _ _ => rfl) (fun k hk _ => by rw [j5, mvF_hi _ _ _ (by omega) (by omega) hk])⟩
            obtain ⟨⟨s9, pl9, ve9⟩, ef9, q1⟩ := found (pl := pl) (ve := ve) (sz := sz) hW hH sv2
            simp only at q1
            refine SM.eqL er (SM.eqR ek (SM.eqR wa2 (SM.eqL j1 (SM.eqR j2 (SM.eqL ef9 (SM.ite Iff.rfl (fun _ => SM.eqL wa1 (SM.ite Iff.rfl (fun _ => SM.ret ⟨rfl, rfl, q1, hpast, hr⟩) (fun _ => SM.ret ⟨rfl, rfl, q1, hpast, hr⟩))) (fun _ => SM.ret ⟨rfl, rfl, q1, hpast, hr⟩)))))))
          have both : SM (if sz < 12 then (f_rem ring SS next size g rows tot nx).bind (fun q37 => (fX7_carry (nI W) (nI H) g (nI x) (nI y) dx dy (nI d)).bind (fun q39 => (fX0_find (nI W) (nI H) sz q39.2 pl ve).bind (fun q41 => if q39.1 = 0 then (fX11_wayOfVector dx dy).bind (fun q43 => if q43 = (nI d - nI d / 2 * 2) then some (0, q41.1, q37.1, q37.2.1, q39.2, q41.2.1, q41.2.2, q37.2.2.1, rf, q37.2.2.2.1, q37.2.2.2.2) else some (1, q41.1, q37.1, q37.2.1, q39.2, q41.2.1, q41.2.2, q37.2.2.1, rf, q37.2.2.2.1, q37.2.2.2.2)) else some (q39.1, q41.1, q37.1, q37.2.1, q39.2, q41.2.1, q41.2.2, q37.2.2.1, rf, q37.2.2.2.1, q37.2.2.2.2)))) else (fX11_wouldSplit (nI W) (nI H) g (nI x) (nI y) dx dy (nI d)).bind (fun q45 => if q45 = true then (fX11_refuse rf 3).bind (fun q47 => some (q47.1, sz, next, size, g, pl, ve, ring, q47.2, SS, 0)) else (f_rem ring SS next size g rows tot nx).bind (fun q37 => (fX7_carry (nI W) (nI H) g (nI x) (nI y) dx dy (nI d)).bind (fun q39 => (fX0_find (nI W) (nI H) sz q39.2 pl ve).bind (fun q41 => if q39.1 = 0 then (fX11_wayOfVector dx dy).bind (fun q43 => if q43 = (nI d - nI d / 2 * 2) then some (0, q41.1, q37.1, q37.2.1, q39.2, q41.2.1, q41.2.2, q37.2.2.1, rf, q37.2.2.2.1, q37.2.2.2.2) else some (1, q41.1, q37.1, q37.2.1, q39.2, q41.2.1, q41.2.2, q37.2.2.1, rf, q37.2.2.2.1, q37.2.2.2.2)) else some (q39.1, q41.1, q37.1, q37.2.1, q39.2, q41.2.1, q41.2.2, q37.2.2.1, rf, q37.2.2.2.1, q37.2.2.2.2)))))) (if cb ≤ 12 then (fX12_keeps acts f were).bind (fun q21 => (fX12_wayOf dx dy).bind (fun q23 => (fX12_moves (nI W) (nI H) f (nI x) (nI y) (nI d) dx dy).bind (fun q25 => if q25.1 = 0 then if q23 = (nI d - nI d / 2 * 2) then some (0, (0 : Int32), nI (coreL f W H).length, q21.1, q25.2, X2, Y2, Dx2, Dy2, Fo2, q21.2, rf') else some (1, (0 : Int32), nI (coreL f W H).length, q21.1, q25.2, X2, Y2, Dx2, Dy2, Fo2, q21.2, rf') else some (q25.1, (0 : Int32), nI (coreL f W H).length, q21.1, q25.2, X2, Y2, Dx2, Dy2, Fo2, q21.2, rf')))) else (fX12_refuses rf' 3).bind (fun q27 => some (q27.1, (0 : Int32), nI (coreL f W H).length, acts, f, X2, Y2, Dx2, Dy2, Fo2, were, q27.2))) (fun y z => z.1 = y.1 ∧ z.2.1 = 0 ∧ nowR B W H y.2.2.2.2.1 rows y.2.2.2.2.2.1 y.2.2.2.2.2.2.1 tot y.2.1 z.2.2.2.2.1 ∧ pastR B W H y.2.2.2.2.2.2.2.1 y.2.2.2.2.2.2.2.2.2.1 y.2.2.1 y.2.2.2.1 z.2.2.2.1 z.2.2.2.2.2.2.2.2.2.2.1 ∧ (∀ k, k < 4 → y.2.2.2.2.2.2.2.2.1 k = z.2.2.2.2.2.2.2.2.2.2.2 k)) := by
            have l12 : sz < 12 ↔ (coreL f W H).length < 12 := by rw [nsz, lt_i, nI_ti _ (by omega), show (12 : Int32).toInt = 12 from rfl]; omega
            by_cases hlt : (coreL f W H).length < 12
            · have hns : ¬ (12 ≤ (coreL f W H).length ∧ spl f W H x y d dx dy) := fun z => by omega
              exact SM.tL (l12.mpr hlt) (SM.tR (hcb.mpr hns) (good hns))
            · refine SM.fL (fun z => hlt (l12.mp z)) (SM.eqL esp ?_)
              by_cases hss : sp = true
              · exact SM.tL hss (SM.fR (fun z => hcb.mp z ⟨by omega, hsp.mp hss⟩) (bad (w := 3) _ _ _ _ _ _ (by omega)))
              · have hns : ¬ (12 ≤ (coreL f W H).length ∧ spl f W H x y d dx dy) := fun z => hss (hsp.mpr z.2)
                exact SM.fL hss (SM.tR (hcb.mpr hns) (good hns))
          by_cases e0 : dx = 0
          · refine SM.tL e0 (SM.fL (fun e1 => hz ⟨e0, e1⟩) both)
          · exact SM.fL e0 both
      · refine SM.fR (by rw [decide_eq_true_eq]; exact hp2) ?_
        by_cases q0 : p2 < 0
        · exact SM.tL q0 (bad (w := 2) _ _ _ _ _ _ (by omega))
        · refine SM.fL q0 (SM.tL ?_ (bad (w := 2) _ _ _ _ _ _ (by omega)))
          rw [lt_i, c0] at q0
          rw [lt_i, c2]; omega
