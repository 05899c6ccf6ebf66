/-! ===== a round ===== -/
def dirN (w : Nat) (up : Bool) : Nat := w + (if up = true then 0 else 2)
theorem dirN_lt {w : Nat} (hw : w ≤ 1) (up : Bool) : dirN w up < 4 := by unfold dirN; split <;> omega
theorem rdirOf_eq {w : Nat} (hw : w ≤ 1) (up : Bool) : fX12_directionOf (nI w) up = some (nI (dirN w up)) := by
  rcases (show w = 0 ∨ w = 1 by omega) with rfl | rfl <;> cases up <;> rfl
theorem glide_ok {f0 g g' pl ve ta : Nat → Int32} {L : List (Nat × Nat)} {W H i w : Nat} {c : Int32} (hn : L.length ≤ 12) (hc : celC f0 L pl ve) (hi : i < L.length) (hw : w ≤ 1) (up : Bool) (hway : fX0_wayOf (nI L.length) ve (nI i) = some (nI w)) (hcar : fX7_carry (nI W) (nI H) g (nI (kx L i)) (nI (ky L i)) (kv f0 L i 0) (kv f0 L i 1) (nI (dirN w up)) = some (c, g')) :
    OK (fX1_glide (nI W) (nI H) (nI L.length) g pl ve ta (nI i) up) (fun y => y.1 = g' ∧ y.2 0 = ta 0 + 1 ∧ y.2 1 = ta 1 + e_b (decide (c = 2)) ∧ y.2 2 = ta 2 + e_b (decide (c = 3))) := by
  unfold fX1_glide
  have p0 := cplace_eq hc (w := 0) hn hi (by omega)
  have p1 := cplace_eq hc (w := 1) hn hi (by omega)
  have n0 := numberOf_eq hc (w := 0) hn hi (by omega)
  have n1 := numberOf_eq hc (w := 1) hn hi (by omega)
  rw [← z0] at p0 n0
  rw [← z1] at p1 n1
  have e3 : (if up = true then some 0 else some 2 : Option Int32) = some (nI (if up = true then 0 else 2)) := by cases up <;> rfl
  refine OK.eq hway (OK.eq e3 (OK.eq p0 (OK.eq p1 (OK.eq n0 (OK.eq n1 ?_)))))
  rw [nI_add]
  refine OK.eq hcar ?_
  have t0 : tn 0 = 0 := rfl
  have t1 : tn 1 = 1 := rfl
  have t2 : tn 2 = 2 := rfl
  simp only [t0, t1, t2, upd]
  by_cases c2 : c = 2
  · refine OK.t c2 (OK.ret ⟨rfl, ?_⟩)
    simp [c2, e_b]
    exact ⟨rfl, rfl, rfl⟩
  · by_cases c3 : c = 3
    · refine OK.f c2 (OK.t c3 (OK.ret ⟨rfl, ?_⟩))
      simp [c3, e_b]
      exact ⟨rfl, rfl, rfl⟩
    · refine OK.f c2 (OK.f c3 (OK.ret ⟨rfl, ?_⟩))
      simp [c2, c3, e_b]
      exact ⟨rfl, rfl, rfl⟩
theorem frcA_way {f told : Nat → Int32} {L : List (Nat × Nat)} {i : Nat} (h : frcA f L told i ≠ 0) : ∃ w, w ≤ 1 ∧ (if kv f L i 1 = 0 then nI 0 else if kv f L i 0 = 0 then nI 1 else -1 : Int32) = nI w := by
  unfold frcA at h
  by_cases h1 : kv f L i 1 = 0
  · exact ⟨0, by omega, by rw [if_pos h1]⟩
  · by_cases h0 : kv f L i 0 = 0
    · exact ⟨1, by omega, by rw [if_neg h1, if_pos h0]⟩
    · rw [if_neg h1, if_neg h0] at h
      exact absurd rfl h
/-- a bigger okT -/
theorem okSet.T {told : Nat → Int32} (h : okSet told) : okT told := by
  intro w hw
  have := h w (by omega)
  rcases (show w = 0 ∨ w = 1 by omega) with rfl | rfl
  · have a : (sA0 0).toInt = -20 := rfl
    have b : (sA1 0).toInt = 20 := rfl
    omega
  · have a : (sA0 1).toInt = -20 := rfl
    have b : (sA1 1).toInt = 20 := rfl
    omega
theorem okSet.hold {told : Nat → Int32} (h : okSet told) : 0 ≤ (told 2).toInt ∧ (told 2).toInt ≤ 99 := h 2 (by omega)
theorem isUn_eq {W H : Nat} (hW : W ≤ 9) (hH : H ≤ 9) {f0 g f pl ve : Nat → Int32} {L : List (Nat × Nat)} {i : Nat} (h : agr W H g f) (hn : L.length ≤ 12) (hc : celC f0 L pl ve) (hi : i < L.length) (hx : kx L i + 1 < W) (hy : ky L i + 1 < H) : fX1_isUnchanged (nI W) (nI H) (nI L.length) g pl ve (nI i) = some (decide (vec f (kx L i) (ky L i) 0 = kv f0 L i 0 ∧ vec f (kx L i) (ky L i) 1 = kv f0 L i 1)) := by
  unfold fX1_isUnchanged
  have p0 := cplace_eq hc (w := 0) hn hi (by omega)
  have p1 := cplace_eq hc (w := 1) hn hi (by omega)
  have n0 := numberOf_eq hc (w := 0) hn hi (by omega)
  have n1 := numberOf_eq hc (w := 1) hn hi (by omega)
  have v0 := vectorOf_eq hW hH g (x := kx L i) (y := ky L i) (p := 0) (by omega) (by omega) (by omega)
  have v1 := vectorOf_eq hW hH g (x := kx L i) (y := ky L i) (p := 1) (by omega) (by omega) (by omega)
  rw [if_pos ⟨hx, hy⟩, vec_agr h hx hy (by omega)] at v0 v1
  rw [← z0] at p0 n0 v0
  rw [← z1] at p1 n1 v1
  rw [p0, Option.bind_some, p1, Option.bind_some, show nI (kp L i 0) = nI (kx L i) from rfl, show nI (kp L i 1) = nI (ky L i) from rfl, v0, Option.bind_some, n0, Option.bind_some, v1, n1]
  simp only [Option.bind_some]
  repeat' split
  all_goals (apply some_d; simp_all)
set_option maxHeartbeats 4000000 in
theorem round_gen {W H : Nat} {g f pl ve ta told X Y Dx Dy Fo : Nat → Int32} (h : agr W H g f) (hW : W ≤ 9) (hH : H ≤ 9) (ho : okC f W H) (hc : celC f (coreL f W H) pl ve) (hs : okSet told) (k0 gl ca ou d0 d1 d2 : Int32) (h0 : ta 0 = gl + d0) (h1 : ta 1 = ca + d1) (h2 : ta 2 = ou + d2) :
    SM (fX1_playRound (nI W) (nI H) (nI (coreL f W H).length) g pl ve ta told) (fX12_round (nI W) (nI H) k0 gl ca ou f told X Y Dx Dy Fo) (fun y z => agr W H y.2.1 z.2.2.2.2.1 ∧ okC z.2.2.2.2.1 W H ∧ y.1 = nI (coreL z.2.2.2.2.1 W H).length ∧ celC z.2.2.2.2.1 (coreL z.2.2.2.2.1 W H) y.2.2.1 y.2.2.2.1 ∧ y.2.2.2.2 0 = z.2.1 + d0 ∧ y.2.2.2.2 1 = z.2.2.1 + d1 ∧ y.2.2.2.2 2 = z.2.2.2.1 + d2 ∧ z.2.2.2.2.1 325 = f 325 + 1 ∧ ∀ k, 324 ≤ k → k ≠ 325 → z.2.2.2.2.1 k = f k) := by
  unfold fX1_playRound fX12_round
  have hok := ho.okL hW hH
  have hn := hok.1
  refine SM.okR (lays_eq hW hH f told X Y Dx Dy Fo k0 hok) ?_
  rintro ⟨R1, R2, X', Y', Dx', Dy', Fo'⟩ ⟨_, hR2, hr, hF⟩
  simp only at hR2 hr hF ⊢
  subst hR2
  refine SM.bind (Q := fun y z => agr W H y.1 z.2.2.2 ∧ okC z.2.2.2 W H ∧ y.2 0 = z.1 + d0 ∧ y.2 1 = z.2.1 + d1 ∧ y.2 2 = z.2.2.1 + d2 ∧ ∀ k, 324 ≤ k → z.2.2.2 k = f k) (SM.loop (fun k v w => v.1 = nI k ∧ w.1 = nI k ∧ agr W H v.2.1 w.2.2.2.2 ∧ okC w.2.2.2.2 W H ∧ v.2.2 0 = w.2.1 + d0 ∧ v.2.2 1 = w.2.2.1 + d1 ∧ v.2.2 2 = w.2.2.2.1 + d2 ∧ ∀ k, 324 ≤ k → w.2.2.2.2 k = f k) (coreL f W H).length (by omega) ⟨rfl, rfl, h, ho, h0, h1, h2, fun _ _ => rfl⟩ ?_ ?_) ?_
  · rintro i ⟨v1, gi, ti⟩ ⟨w1, gli, cai, oui, fi⟩ hi ⟨e1, e2, ha, hoi, q0, q1, q2, hhi⟩
    simp only at e1 e2 ha hoi q0 q1 q2 hhi ⊢
    subst e1; subst e2
    have gk : e_in (nI i) 64 = true := ein_nI (by omega) (by omega)
    have ci := coreL_at hi
    have cw := cway_eq hok hc hi
    have rw' := rway_eq hr hn hi
    have tni : tn (nI i) = i := tn_nI (by omega)
    have t2 : tn 2 = 2 := rfl
    simp only [tni, t2, hF i hi, (hr i hi).1, (hr i hi).2.1, (hr i hi).2.2.1, (hr i hi).2.2.2]
    have fab := fabs_eq hok hs.T hi
    refine SM.fL (nle hi (by omega)) (SM.fR (nle hi (by omega)) (SM.gR gk (SM.gR gk (SM.gR gk (SM.eqL (cforce_eq hok hc hi) (SM.eqL fab (SM.eqR fab ?_)))))))
    have keep : ∀ {k : Nat}, k = i + 1 → (nI i + 1 = nI k) ∧ (nI i + 1 = nI k) ∧ agr W H gi fi ∧ okC fi W H ∧ ti 0 = gli + d0 ∧ ti 1 = cai + d1 ∧ ti 2 = oui + d2 ∧ ∀ k, 324 ≤ k → fi k = f k := fun {k} hk => ⟨by rw [nI_s1, hk], by rw [nI_s1, hk], ha, hoi, q0, q1, q2, hhi⟩
    by_cases hq : nI (fA f (coreL f W H) told i) ≤ told 2
    · exact SM.eqL (z := (gi, ti)) (by rw [if_pos hq]) (SM.eqR (z := false) (by rw [if_pos hq]) (SM.eqR (z := (gli, cai, oui, fi)) (by rw [if_neg (by decide)]) (SM.inl (keep rfl))))
    · have unch := isUn_eq hW hH (f0 := f) (g := gi) (f := fi) ha hn hc hi ci.1 ci.2.1
      have v0 := vector_eq fi (x := kx (coreL f W H) i) (y := ky (coreL f W H) i) (p := 0) (by omega) (by omega) (by omega)
      have v1 := vector_eq fi (x := kx (coreL f W H) i) (y := ky (coreL f W H) i) (p := 1) (by omega) (by omega) (by omega)
      rw [← z0] at v0
      rw [← z1] at v1
      by_cases hv : vec fi (kx (coreL f W H) i) (ky (coreL f W H) i) 0 = kv f (coreL f W H) i 0 ∧ vec fi (kx (coreL f W H) i) (ky (coreL f W H) i) 1 = kv f (coreL f W H) i 1
      · refine SM.eqR (z := true) (by rw [if_neg hq, v0, Option.bind_some, g_t gk, if_pos hv.1, v1, Option.bind_some, g_t gk, if_pos hv.2]) ?_
        have fne : frcA f (coreL f W H) told i ≠ 0 := by
          intro e
          apply hq
          have : fA f (coreL f W H) told i = 0 := by unfold fA; rw [e]; rfl
          rw [this, le_i]
          have := hs.hold.1
          rw [show (nI 0).toInt = 0 from rfl]
          exact this
        obtain ⟨w, hw, ew⟩ := frcA_way fne
        rw [ew] at cw rw'
        have eup : (if frcA f (coreL f W H) told i ≤ 0 then some false else some true : Option Bool) = some (decide (¬ frcA f (coreL f W H) told i ≤ 0)) := by
          by_cases e : frcA f (coreL f W H) told i ≤ 0
          · rw [if_pos e, decide_eq_false (fun n => n e)]
          · rw [if_neg e, decide_eq_true e]
        generalize decide (¬ frcA f (coreL f W H) told i ≤ 0) = up at eup
        have dl := dirN_lt hw up
        obtain ⟨⟨c, g'⟩, ⟨c', f'⟩, k1, k2, k3, k4, k5, k6⟩ := carry_sm ha hW hH ci.1 ci.2.1 dl (kv f (coreL f W H) i 0) (kv f (coreL f W H) i 1)
        simp only at k3 k4 k5 k6
        subst k3
        refine SM.bind (Q := fun y z => agr W H y.1 z.2.2.2 ∧ okC z.2.2.2 W H ∧ y.2 0 = z.1 + d0 ∧ y.2 1 = z.2.1 + d1 ∧ y.2 2 = z.2.2.1 + d2 ∧ ∀ k, 324 ≤ k → z.2.2.2 k = f k) ?_ (fun y z e => SM.inl ⟨nI_s1 i, nI_s1 i, e⟩)
        refine SM.fL hq (SM.eqL unch (SM.tL (decide_eq_true hv) (SM.eqL eup (SM.tR rfl (SM.eqR rw' (SM.gR gk (SM.eqR eup (SM.eqR (rdirOf_eq hw up) (SM.gR gk (SM.gR gk (SM.okL (glide_ok (ta := ti) hn hc hi hw up cw k1) ?_)))))))))))
        rintro ⟨yg, yt⟩ ⟨y1, y2, y3, y4⟩
        simp only at y1 y2 y3 y4
        subst y1
        have b2 : (if c = 2 then some true else some false : Option Bool) = some (decide (c = 2)) := by by_cases e : c = 2 <;> simp [e]
        have b3 : (if c = 3 then some true else some false : Option Bool) = some (decide (c = 3)) := by by_cases e : c = 3 <;> simp [e]
        refine SM.eqR k2 (SM.eqR b2 (SM.eqR b3 (SM.ret ⟨?_, ?_, ?_, ?_, ?_, ?_⟩)))
        · simp only; rw [k4, k5]; exact agr_mvF ha hW (by omega) _ _
        · simp only; rw [k5]
          refine okC_glide hW hoi ci.1 ci.2.1 dl ?_ hv.1.symm hv.2.symm
          rw [isC_true, hv.1, hv.2]
          exact isC_true.mp ci.2.2
        · simp only; rw [y2, q0]; grind
        · simp only; rw [y3, q1]; grind
        · simp only; rw [y4, q2]; grind
        · intro k hk
          simp only; rw [k5, mvF_hi _ _ _ (by omega) (by omega) hk]
          exact hhi k hk
      · refine SM.eqL (z := (gi, ti)) (by rw [if_neg hq, unch, Option.bind_some, if_neg (by rw [decide_eq_true_eq]; exact hv)]) (SM.eqR (z := false) ?_ (SM.eqR (z := (gli, cai, oui, fi)) (by rw [if_neg (by decide)]) (SM.inl (keep rfl))))
        rw [if_neg hq, v0, Option.bind_some, g_t gk]
        by_cases hv0 : vec fi (kx (coreL f W H) i) (ky (coreL f W H) i) 0 = kv f (coreL f W H) i 0
        · rw [if_pos hv0, v1, Option.bind_some, g_t gk, if_neg (fun q => hv ⟨hv0, q⟩)]
        · rw [if_neg hv0]
  · rintro ⟨v1, gi, ti⟩ ⟨w1, gli, cai, oui, fi⟩ ⟨e1, e2, ha, hoi, q0, q1, q2, hhi⟩
    simp only at e1 e2 ha hoi q0 q1 q2 hhi ⊢
    subst e1; subst e2
    exact SM.tL (yle (by omega)) (SM.tR (yle (by omega)) (SM.inr ⟨ha, hoi, q0, q1, q2, hhi⟩))
  · rintro ⟨g', t'⟩ ⟨gl', ca', ou', f'⟩ ⟨ha, hoi, q0, q1, q2, hhi⟩
    simp only at ha hoi q0 q1 q2 hhi ⊢
    have t325 : tn 325 = 325 := tn_nI (k := 325) (by omega)
    rw [t325]
    have ho' := hoi.agr ha
    refine SM.okL (find_ok hW hH g' pl ve _ ho'.1) ?_
    rintro ⟨s', pl', ve'⟩ ⟨e3, e4⟩
    simp only at e3 e4 ⊢
    have e5 := celC_agr ha e4
    rw [coreL_agr ha] at e3
    have hu : ∀ k, k < 324 → upd f' 325 (f' 325 + 1) k = f' k := fun k hk => by simp only [upd]; rw [if_neg (by omega)]
    have au : agr W H f' (upd f' 325 (f' 325 + 1)) := by
      intro x y r p hr hp hx hy
      unfold st
      rw [hu _ (by omega)]
    have au' : agr W H (upd f' 325 (f' 325 + 1)) f' := fun x y r p hr hp hx hy => (au x y r p hr hp hx hy).symm
    refine SM.ret ⟨?_, hoi.agr au', ?_, ?_, q0, q1, q2, ?_, ?_⟩
    · intro x y r p hr hp hx hy
      rw [ha x y r p hr hp hx hy, au x y r p hr hp hx hy]
    · rw [coreL_agr au']; exact e3
    · exact celC_agr au e5
    · show upd f' 325 (f' 325 + 1) 325 = f 325 + 1
      simp only [upd, if_true]
      rw [hhi 325 (by omega)]
    · intro k hk hk2
      show upd f' 325 (f' 325 + 1) k = f k
      simp only [upd, if_neg hk2]
      exact hhi k hk
theorem round_sm {W H : Nat} {g f pl ve ta told X Y Dx Dy Fo : Nat → Int32} (h : agr W H g f) (hW : W ≤ 9) (hH : H ≤ 9) (ho : okC f W H) (hc : celC f (coreL f W H) pl ve) (hs : okSet told) (k0 gl ca ou : Int32) (h0 : ta 0 = gl) (h1 : ta 1 = ca) (h2 : ta 2 = ou) :
    SM (fX1_playRound (nI W) (nI H) (nI (coreL f W H).length) g pl ve ta told) (fX12_round (nI W) (nI H) k0 gl ca ou f told X Y Dx Dy Fo) (fun y z => agr W H y.2.1 z.2.2.2.2.1 ∧ okC z.2.2.2.2.1 W H ∧ y.1 = nI (coreL z.2.2.2.2.1 W H).length ∧ celC z.2.2.2.2.1 (coreL z.2.2.2.2.1 W H) y.2.2.1 y.2.2.2.1 ∧ y.2.2.2.2 0 = z.2.1 ∧ y.2.2.2.2 1 = z.2.2.1 ∧ y.2.2.2.2 2 = z.2.2.2.1 ∧ z.2.2.2.2.1 325 = f 325 + 1 ∧ ∀ k, 324 ≤ k → k ≠ 325 → z.2.2.2.2.1 k = f k) := by
  have := round_gen (ta := ta) (X := X) (Y := Y) (Dx := Dx) (Dy := Dy) (Fo := Fo) h hW hH ho hc hs k0 gl ca ou 0 0 0 (by rw [h0, Int32.add_zero]) (by rw [h1, Int32.add_zero]) (by rw [h2, Int32.add_zero])
  simp only [Int32.add_zero] at this
  exact this
