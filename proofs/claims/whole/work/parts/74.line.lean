/-! ===== line(core, what) ===== -/
def nxR (L : List (Nat × Nat)) (i w : Nat) (up : Bool) (n : Nat) (v : Int32 × Int32) (b : Int32) : Prop :=
  v.1 = b ∧ ((b = -1 ∧ v.2 = 9) ∨ ∃ j, j < n ∧ j ≠ i ∧ b = nI j ∧ v.2.toInt = (if up = true then (kp L j w : Int) - kp L i w else (kp L i w : Int) - kp L j w) ∧ 0 < v.2.toInt ∧ kp L j (1 - w) = kp L i (1 - w))
set_option maxHeartbeats 1000000 in
theorem next_sm {f pl ve X Y Dx Dy : Nat → Int32} {L : List (Nat × Nat)} (h : okL f L) (hc : celC f L pl ve) (hr : celR f L X Y Dx Dy) {i w : Nat} (hi : i < L.length) (hw : w ≤ 1) (up : Bool) : SM (fX0_nextAlong (nI L.length) pl (nI i) (nI w) (if up = true then 1 else -1)) (fX12_nextOn (nI L.length) X Y (nI i) (nI w) up) (fun y z => y = z ∧ (y = -1 ∨ ∃ j, j < L.length ∧ y = nI j)) := by
  unfold fX0_nextAlong fX12_nextOn
  have hn := h.1
  have ci := cplace_eq hc hn hi hw
  have ci' := cplace_eq hc hn hi (show 1 - w ≤ 1 by omega)
  have ri := palong_eq hr hn hi hw
  have ri' := palong_eq hr hn hi (show 1 - w ≤ 1 by omega)
  rw [← one_sub hw] at ci' ri'
  refine SM.bind (SM.loop (Q := fun y z => y = z ∧ (y = -1 ∨ ∃ j, j < L.length ∧ y = nI j)) (fun k v u => v.2.2 = nI k ∧ u.2 = nI k ∧ nxR L i w up k (v.1, v.2.1) u.1) L.length (by omega) ⟨rfl, rfl, rfl, Or.inl ⟨rfl, rfl⟩⟩ ?_ ?_) (fun y z e => SM.ret e)
  · rintro k ⟨a, b, c⟩ ⟨a', c'⟩ hk ⟨h1, h2, h3⟩
    simp only at h1 h2 h3 ⊢
    subst h1; subst h2
    have hab : a = a' := h3.1
    subst hab
    have ck := cplace_eq hc hn hk hw
    have ck' := cplace_eq hc hn hk (show 1 - w ≤ 1 by omega)
    have rk := palong_eq hr hn hk hw
    have rk' := palong_eq hr hn hk (show 1 - w ≤ 1 by omega)
    rw [← one_sub hw] at ck' rk'
    have b1 := okL_kp h hi w
    have b2 := okL_kp h hk w
    have b3 := okL_kp h hi (1 - w)
    have b4 := okL_kp h hk (1 - w)
    have ft := far_ti (a := kp L k w) (b := kp L i w) (by omega) (by omega) up
    generalize hfar : (if up = true then (1 : Int32) else -1) * (nI (kp L k w) - nI (kp L i w)) = far at ft ⊢
    refine SM.fL (nle hk (by omega)) (SM.fR (nle hk (by omega)) (SM.eqL ck (SM.eqL ci (SM.eqL ck' (SM.eqL ci' ?_)))))
    rw [hfar]
    refine SM.bind (Q := fun y z => nxR L i w up (k + 1) y z) ?_ (fun y z e => SM.inl ⟨nI_s1 k, nI_s1 k, e⟩)
    have keep : nxR L i w up (k + 1) (a, b) a := by
      refine ⟨rfl, ?_⟩
      rcases h3.2 with q | ⟨j, q1, q2⟩
      · exact Or.inl q
      · exact Or.inr ⟨j, by omega, q2⟩
    by_cases eki : k = i
    · subst eki
      refine SM.tR rfl (SM.tL rfl (SM.tL ?_ (SM.ret keep)))
      rw [le_i, ft, c0]
      split <;> omega
    · refine SM.fR (by rw [nI_inj (by omega) (by omega)]; exact eki) (SM.eqR rk' (SM.eqR ri' ?_))
      refine SM.ite Iff.rfl (fun ec => ?_) (fun _ => SM.ret keep)
      have ec' : kp L k (1 - w) = kp L i (1 - w) := (nI_inj (by omega) (by omega)).mp ec
      have hne : kp L k w ≠ kp L i w := by
        intro e
        have := okL_ne h hk hi hw eki
        apply this
        rw [e, ec']
        omega
      refine SM.eqR rk (SM.eqR ri ?_)
      have q16 : (if nI (kp L k w) ≤ nI (kp L i w) then some false else some true : Option Bool) = some (decide (kp L i w < kp L k w)) := by
        by_cases e : kp L k w ≤ kp L i w
        · rw [if_pos ((nI_le_iff (by omega) (by omega)).mpr e), decide_eq_false (by omega)]
        · rw [if_neg (fun q => e ((nI_le_iff (by omega) (by omega)).mp q)), decide_eq_true (by omega)]
      refine SM.eqR q16 ?_
      by_cases side : decide (kp L i w < kp L k w) = up
      · have fpos : ¬ far ≤ 0 := by
          rw [le_i, ft, c0]
          cases up
          · have := of_decide_eq_false side
            simp; omega
          · have := of_decide_eq_true side
            simp; omega
        refine SM.tR (by rw [side]) (SM.fL fpos ?_)
        have newR : nxR L i w up (k + 1) (nI k, far) (nI k) := by
          refine ⟨rfl, Or.inr ⟨k, by omega, eki, rfl, ?_, ?_, ec'⟩⟩
          · show far.toInt = _
            rw [ft]
          · show 0 < far.toInt
            rw [le_i, c0] at fpos; omega
        rcases h3.2 with ⟨e1, e2⟩ | ⟨j, j1, j2, j3, j4, j5, j6⟩
        · subst e1
          simp only at e2
          subst e2
          refine SM.fL ?_ (SM.eqR (z := true) (by rw [if_pos rfl]) (SM.eqR (z := nI k) (by rw [if_pos rfl]) (SM.ret newR)))
          rw [le_i, ft, c9]
          split <;> omega
        · simp only at j3 j4 j5
          subst j3
          have jl : j < L.length := by omega
          have rj := palong_eq hr hn jl hw
          have bj := okL_kp h jl w
          have q26 : (if nI (kp L j w) ≤ nI (kp L k w) then some false else some true : Option Bool) = some (decide (kp L k w < kp L j w)) := by
            by_cases e : kp L j w ≤ kp L k w
            · rw [if_pos ((nI_le_iff (by omega) (by omega)).mpr e), decide_eq_false (by omega)]
            · rw [if_neg (fun q => e ((nI_le_iff (by omega) (by omega)).mp q)), decide_eq_true (by omega)]
          have hjk : kp L j w ≠ kp L k w := by
            intro e
            have := okL_ne h jl hk hw (by omega)
            apply this
            rw [e, j6, ec']
            omega
          have full : (if nI j = -1 then some true else (fX12_placeAlong X Y (nI k) (nI w)).bind (fun q22 => (fX12_placeAlong X Y (nI j) (nI w)).bind (fun q24 => Option.bind (α := Bool) (if q24 ≤ q22 then some false else some true) (fun q26 => if e_b q26 = e_b up then some true else some false))) : Option Bool) = some (decide (decide (kp L k w < kp L j w) = up)) := by
            rw [if_neg (nI_m1 (by omega)), rk, Option.bind_some, rj, Option.bind_some, q26, Option.bind_some]
            cases up <;> cases decide (kp L k w < kp L j w) <;> rfl
          refine SM.eqR full ?_
          by_cases nearer : decide (kp L k w < kp L j w) = up
          · refine SM.fL ?_ (SM.eqR (z := nI k) (by rw [if_pos (decide_eq_true nearer)]) (SM.ret newR))
            rw [le_i, ft, j4]
            cases up
            · have := of_decide_eq_false nearer
              simp; omega
            · have := of_decide_eq_true nearer
              simp; omega
          · refine SM.tL ?_ (SM.eqR (z := nI j) (by rw [if_neg (by rw [decide_eq_true_eq]; exact nearer)]) (SM.ret keep))
            rw [le_i, ft, j4]
            cases up
            · have : ¬ decide (kp L k w < kp L j w) = false := nearer
              have := of_decide_eq_true (by simpa using this)
              simp; omega
            · have : ¬ kp L k w < kp L j w := fun q => nearer (decide_eq_true q)
              simp; omega
      · refine SM.fR (fun e => side (by cases up <;> cases hd : decide (kp L i w < kp L k w) <;> simp_all [e_b])) (SM.tL ?_ (SM.ret keep))
        rw [le_i, ft, c0]
        cases up
        · have : ¬ decide (kp L i w < kp L k w) = false := side
          have := of_decide_eq_true (by simpa using this)
          simp; omega
        · have : ¬ kp L i w < kp L k w := fun q => side (decide_eq_true q)
          simp; omega
  · rintro ⟨a, b, c⟩ ⟨a', c'⟩ ⟨h1, h2, h3⟩
    simp only at h1 h2 h3 ⊢
    subst h1; subst h2
    refine SM.tL (yle (by omega)) (SM.tR (yle (by omega)) (SM.inr ⟨h3.1, ?_⟩))
    have : a = a' := h3.1
    rw [this]
    rcases h3.2 with ⟨e1, _⟩ | ⟨j, j1, _, j3, _⟩
    · exact Or.inl e1
    · exact Or.inr ⟨j, j1, j3⟩
theorem line_sm {W H : Nat} {f pl ve told X Y Dx Dy Fo : Nat → Int32} (hW : W ≤ 9) (hH : H ≤ 9) (ho : okL f (coreL f W H)) (hc : celC f (coreL f W H) pl ve) (p q t k0 : Int32) : SM (fX11_line (nI (coreL f W H).length) pl ve p q) (fX12_line t (nI W) (nI H) k0 f told X Y Dx Dy Fo p q) (fun y z => z.1 = y ∧ z.2.1 = 0) := by
  unfold fX11_line fX12_line
  have hn := ho.1
  by_cases hi : 0 ≤ p.toInt ∧ p.toInt < (coreL f W H).length
  · obtain ⟨i, hil, rfl⟩ := of_rng hi.1 hi.2
    have cw := cway_eq ho hc hil
    have w0 : 0 < W := by have := coreL_at hil; omega
    refine SM.eqL cw (SM.eqR (crys_eq hW) (SM.tR (decide_eq_true w0) (SM.eqR (in_c q (n := ((3 : Nat) : Int)) rfl) ?_)))
    have lays := lays_eq hW hH f told X Y Dx Dy Fo k0 ho
    by_cases hq : 0 ≤ q.toInt ∧ q.toInt ≤ ((3 : Nat) : Int)
    · obtain ⟨m, hm, rfl⟩ := of_rng (n := 4) hq.1 (by omega)
      refine SM.tR (decide_eq_true hq) (SM.okR lays ?_)
      rintro ⟨R1, R2, X', Y', Dx', Dy', Fo'⟩ ⟨_, hR2, hcel, hF⟩
      simp only at hR2 hcel hF ⊢
      subst hR2
      have rw' := rway_eq hcel hn hil
      refine SM.eqR (in_c (nI i) (n := ((coreL f W H).length : Int) - 1) (by rw [i_l]; have h1 := nI_ti (coreL f W H).length (by omega); rw [ti_sub] <;> (rw [h1, c1]; try omega))) (SM.tR (decide_eq_true (by omega)) (SM.eqR rw' ?_))
      generalize hway : (if kv f (coreL f W H) i 1 = 0 then nI 0 else if kv f (coreL f W H) i 0 = 0 then nI 1 else -1 : Int32) = way at rw' cw ⊢
      refine SM.ite Iff.rfl (fun _ => SM.ret ⟨rfl, rfl⟩) (fun hway1 => SM.fL (nI_pos (by omega)) (SM.tL (by rw [show (3 : Int32) = nI 3 from rfl, nI_le_iff (by omega) (by omega)]; omega) (SM.eqR rw' ?_)))
      obtain ⟨w, hw, rfl⟩ : ∃ w, w ≤ 1 ∧ way = nI w := by
        rw [← hway]
        split
        · exact ⟨0, by omega, rfl⟩
        · split
          · exact ⟨1, by omega, rfl⟩
          · rename_i a b; rw [if_neg a, if_neg b] at hway; exact absurd hway.symm hway1
      have eup : ∃ up : Bool, (if (2 : Int32) ≤ nI m then some (-1) else some 1 : Option Int32) = some (if up = true then 1 else -1) ∧ (if (2 : Int32) ≤ nI m then some false else some true : Option Bool) = some up := by
        by_cases e : (2 : Int32) ≤ nI m
        · exact ⟨false, by rw [if_pos e]; rfl, by rw [if_pos e]⟩
        · exact ⟨true, by rw [if_neg e]; rfl, by rw [if_neg e]⟩
      obtain ⟨up, e1, e2⟩ := eup
      refine SM.eqL e1 (SM.eqR e2 (SM.bind (next_sm ho hc hcel hil hw up) ?_))
      rintro y z ⟨rfl, hy⟩
      refine SM.ite Iff.rfl (fun _ => SM.ret ⟨rfl, rfl⟩) (fun y1 => SM.ite Iff.rfl (fun _ => SM.ret ⟨rfl, rfl⟩) (fun _ => ?_))
      rcases hy with e | ⟨j, hj, rfl⟩
      · exact absurd e y1
      · exact SM.eqL (cplace_eq hc hn hj hw) (SM.eqR (palong_eq hcel hn hj hw) (SM.eqL (cplace_eq hc hn hil hw) (SM.eqR (palong_eq hcel hn hil hw) (SM.same (abs_tot _) (fun y => SM.ret ⟨rfl, rfl⟩)))))
    · refine SM.fR (by rw [decide_eq_true_eq]; exact hq) ?_
      by_cases c1' : (if kv f (coreL f W H) i 1 = 0 then nI 0 else if kv f (coreL f W H) i 0 = 0 then nI 1 else -1 : Int32) = -1
      · exact SM.tL c1' (SM.ret ⟨rfl, rfl⟩)
      · refine SM.fL c1' ?_
        by_cases q0 : q < 0
        · exact SM.tL q0 (SM.ret ⟨rfl, rfl⟩)
        · refine SM.fL q0 (SM.fL (fun z => ?_) (SM.ret ⟨rfl, rfl⟩))
          rw [lt_i, c0] at q0
          rw [le_i, show (3 : Int32).toInt = 3 from rfl] at z
          omega
  · refine SM.eqL (way_out hn hi) (SM.tL rfl (SM.eqR (crys_eq hW) ?_))
    by_cases w0 : 0 < W
    · refine SM.tR (decide_eq_true w0) (SM.eqR (in_c q (n := ((3 : Nat) : Int)) rfl) ?_)
      by_cases hq : 0 ≤ q.toInt ∧ q.toInt ≤ ((3 : Nat) : Int)
      · refine SM.tR (decide_eq_true hq) (SM.okR (lays_eq hW hH f told X Y Dx Dy Fo k0 ho) ?_)
        rintro ⟨R1, R2, X', Y', Dx', Dy', Fo'⟩ ⟨_, hR2, hcel, hF⟩
        simp only at hR2 hcel hF ⊢
        subst hR2
        refine SM.eqR (in_c p (n := ((coreL f W H).length : Int) - 1) (by rw [i_l]; have h1 := nI_ti (coreL f W H).length (by omega); rw [ti_sub] <;> (rw [h1, c1]; try omega))) (SM.fR (by rw [decide_eq_true_eq]; omega) (SM.ret ⟨rfl, rfl⟩))
      · exact SM.fR (by rw [decide_eq_true_eq]; exact hq) (SM.ret ⟨rfl, rfl⟩)
    · exact SM.fR (by rw [decide_eq_true_eq]; exact w0) (SM.ret ⟨rfl, rfl⟩)
