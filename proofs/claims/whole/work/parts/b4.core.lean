/-! ===== a core's piece ===== -/
def dat (W H K : Nat) (a36 a37 a38 X Y Dx Dy Se : Nat → Int32) : Prop := K ≤ 10 ∧ (∀ i, i < K → a37 (2 * i) = X i ∧ a37 (2 * i + 1) = Y i ∧ a38 (2 * i) = Dx i ∧ a38 (2 * i + 1) = Dy i ∧ (∃ x y, X i = nI x ∧ Y i = nI y ∧ x + 1 < W ∧ y + 1 < H) ∧ (Dx i).toInt.natAbs ≤ 2 ∧ (Dy i).toInt.natAbs ≤ 2) ∧ (∀ k, k < 4 → a36 k = Se k) ∧ okSet Se
theorem told_sm {K : Nat} {a37 X Y : Nat → Int32} (hK : K ≤ 10) (h : ∀ i, i < K → a37 (2 * i) = X i ∧ a37 (2 * i + 1) = Y i) (x y : Int32) : ∃ b, fX5_isTold (nI K) a37 x y = some b ∧ fX12_isFaceRead (nI K) X Y x y = some b := by
  have k1 : OK (fX5_isTold (nI K) a37 x y) (fun b => b = true ↔ ∃ i, i < K ∧ X i = x ∧ Y i = y) := by
    unfold fX5_isTold
    refine OK.bind (Q := fun z => (z = .inl () ∧ ¬ ∃ i, i < K ∧ X i = x ∧ Y i = y) ∨ (z = .inr true ∧ ∃ i, i < K ∧ X i = x ∧ Y i = y)) (OK.loopx (fun k v => v = nI k ∧ ∀ i, i < k → ¬ (X i = x ∧ Y i = y)) K (by omega) ⟨rfl, fun i hi => by omega⟩ ?_ ?_) ?_
    · rintro k v hk ⟨rfl, hv⟩
      have hk9 := h k hk
      refine OK.f (nle hk (by omega)) (OK.f (by rw [show (10 : Int32) = nI 10 from rfl]; exact nle (by omega) (by omega)) ?_)
      rw [z2, pk_mul, nI_s1]
      refine OK.g (ein_nI (by omega) (by omega)) ?_
      rw [tn_nI (by omega), tn_nI (by omega), hk9.1, hk9.2]
      refine OK.ite (fun c => OK.g (ein_nI (by omega) (by omega)) (OK.ite (fun d => ⟨_, rfl, Or.inr ⟨_, rfl, Or.inr ⟨rfl, k, hk, c, d⟩⟩⟩) (fun d => ⟨_, rfl, Or.inl ⟨_, rfl, nI_s1 k, allm hv (fun z => d z.2)⟩⟩))) (fun c => ⟨_, rfl, Or.inl ⟨_, rfl, nI_s1 k, allm hv (fun z => c z.1)⟩⟩)
    · rintro v ⟨rfl, hv⟩
      exact OK.t (yle (by omega)) (OK.inr (Or.inl ⟨rfl, fun ⟨i, i1, i2⟩ => hv i i1 i2⟩))
    · rintro z (⟨rfl, hz⟩ | ⟨rfl, hz⟩)
      · exact OK.ret ⟨fun c => absurd c (by decide), fun c => absurd c hz⟩
      · exact OK.ret ⟨fun _ => hz, fun _ => rfl⟩
  have k2 : OK (fX12_isFaceRead (nI K) X Y x y) (fun b => b = true ↔ ∃ i, i < K ∧ X i = x ∧ Y i = y) := by
    unfold fX12_isFaceRead
    refine OK.bind (Q := fun b => b = true ↔ ∃ i, i < K ∧ X i = x ∧ Y i = y) (OK.loop (fun k v => v.2 = nI k ∧ (v.1 = true ↔ ∃ i, i < k ∧ X i = x ∧ Y i = y)) K (by omega) ⟨rfl, fun c => absurd c (by simp), fun ⟨i, i1, _⟩ => by omega⟩ ?_ ?_) (fun b hb => OK.ret hb)
    · rintro k ⟨v1, v2⟩ hk ⟨rfl, hv⟩
      simp only at hv ⊢
      have gk : e_in (nI k) 10 = true := ein_nI (by omega) (by omega)
      refine OK.f (nle hk (by omega)) (OK.bind (Q := fun b => b = true ↔ ∃ i, i < k + 1 ∧ X i = x ∧ Y i = y) ?_ (fun b hb => OK.inl ⟨nI_s1 k, hb⟩))
      have up : (∃ i, i < k ∧ X i = x ∧ Y i = y) → ∃ i, i < k + 1 ∧ X i = x ∧ Y i = y := fun ⟨i, i1, i2⟩ => ⟨i, by omega, i2⟩
      have dn : ¬ v1 = true → ¬ (X k = x ∧ Y k = y) → ¬ ∃ i, i < k + 1 ∧ X i = x ∧ Y i = y := fun a b ⟨i, i1, i2⟩ => by
        by_cases e : i = k
        · rw [e] at i2; exact b i2
        · exact a (hv.mpr ⟨i, by omega, i2⟩)
      refine OK.ite (fun c => OK.ret ⟨fun _ => up (hv.mp c), fun _ => rfl⟩) (fun c => OK.g gk ?_)
      rw [tn_nI (by omega)]
      refine OK.ite (fun d => OK.g gk (OK.ite (fun e => OK.ret ⟨fun _ => ⟨k, by omega, d, e⟩, fun _ => rfl⟩) (fun e => OK.ret ⟨fun z => absurd z (by decide), fun z => absurd z (dn c (fun w => e w.2))⟩))) (fun d => OK.ret ⟨fun z => absurd z (by decide), fun z => absurd z (dn c (fun w => d w.1))⟩)
    · rintro ⟨v1, v2⟩ ⟨rfl, hv⟩
      exact OK.t (yle (by omega)) (OK.inr hv)
  obtain ⟨b, e1, h1⟩ := k1
  obtain ⟨b', e2, h2⟩ := k2
  have eb : b = b' := by rw [Bool.eq_iff_iff, h1, h2]
  subst eb
  exact ⟨b, e1, e2⟩
theorem rb {n q : Nat} {A : Nat → Int32} (hq : q ≤ 300) (a bg lo hi : Int32) : fX5_readNumber (nI n) a bg (nI q) A lo hi = some (0, a, bg, nI q) := by
  unfold fX5_readNumber
  rw [if_neg (nI_m1 (by omega))]
theorem tb' {n q : Nat} {B : Nat → Int32} (hq : q ≤ 300) (a fr pt nb lo hi : Int32) : fX12_takesNumber (nI n) a fr (nI q) pt nb B lo hi = some (lo, a, fr, nI q, pt, nb) := by
  unfold fX12_takesNumber fX12_bad
  rw [if_neg (nI_m1 (by omega)), if_neg (nI_m1 (by omega))]
  rfl
theorem m2_of {W : Nat} (hW : 2 ≤ W) (hW9 : W ≤ 9) {v : Int32} (h0 : (0 : Int32).toInt ≤ v.toInt) (h1 : v.toInt ≤ (nI W - 2).toInt) : ∃ x, v = nI x ∧ x + 1 < W := by
  rw [c0] at h0
  rw [nIs2 hW9] at h1
  exact ⟨v.toInt.toNat, of_nn h0, by omega⟩
set_option maxHeartbeats 4000000 in
theorem core_sm' {n p W H K : Nat} {A B a36 a37 a38 X Y Dx Dy Se : Nat → Int32} (ht : tpe n A B) (hW : 2 ≤ W ∧ W ≤ 9) (hH : 2 ≤ H ∧ H ≤ 9) (hK : K < 10) (hd : dat W H K a36 a37 a38 X Y Dx Dy Se) (hp : p ≤ n) (bg fr pt nb : Int32) :
    SM (fX5_readCore (nI n) (nI p) bg (-1) (nI W) (nI H) (nI K) A a37 a38) (fX12_readsCore (nI n) (nI p) fr (-1) pt nb (nI W) (nI H) (nI K) B X Y Dx Dy) (fun y z => (∃ e, p ≤ e ∧ good A n e (y.1, y.2.1, y.2.2.1) (z.1, z.2.1, z.2.2.1, z.2.2.2.1, z.2.2.2.2.1) ∧ y.2.2.2.1 = nI (K + 1) ∧ z.2.2.2.2.2.1 = nI (K + 1) ∧ dat W H (K + 1) a36 y.2.2.2.2.1 y.2.2.2.2.2 z.2.2.2.2.2.2.1 z.2.2.2.2.2.2.2.1 z.2.2.2.2.2.2.2.2.1 z.2.2.2.2.2.2.2.2.2 Se) ∨ (∃ q, q ≤ n ∧ y.2.2.1 = nI q ∧ z.2.2.1 = nI q)) := by
  unfold fX5_readCore fX12_readsCore
  have hn := ht.1
  refine SM.okR (next_ok hn ht.2.2 hp fr pt nb) ?_
  intro t0 hk0
  have hk0 := tokR_cg ht.2.1 hk0
  have hw9 := nIs2 hW.2
  have hh9 := nIs2 hH.2
  have g0 : good A n p (nI p, bg, -1) (t0.1, t0.2.1, -1, t0.2.2.1, t0.2.2.2) := ⟨hp, rfl, rfl, rfl, hk0⟩
  refine SM.bind (num_sm ht g0 0 (nI W - 2) (by rw [hw9]; omega)) ?_
  rintro ⟨x1, x2, x3, x4⟩ ⟨u1, u2, u3, u4, u5, u6⟩ (⟨e1, pe1, g1, v1, l1, m1, b1, _, _⟩ | ⟨q, hq, f1, f2, _⟩)
  · simp only at g1 v1 l1 m1 b1 ⊢
    have g1' := g1
    obtain ⟨ge1, ga1, gb1, gc1, gt1⟩ := g1'
    simp only at ga1 gb1 gc1 gt1
    subst ga1; subst gb1; subst gc1; subst v1
    obtain ⟨q1, hq1, fq1, htk1⟩ := id gt1
    have hq1n := hq1.2.1
    have mq1 : nI q1 ≠ -1 := nI_m1 (by omega)
    obtain ⟨⟨y1, y2, y3, y4⟩, ⟨w1, w2, w3, w4, w5, w6⟩, ey, ew, hy⟩ := num_sm ht g1 0 (nI H - 2) (by rw [hh9]; omega)
    simp only at ey ew hy
    refine SM.eqL ey ?_
    simp only
    -- a fault at the second number
    have tailBad : ∀ (z9 : Int32 × Int32 × Int32 × Int32 × Int32 × Int32) (q : Nat) (a9 b9 : Int32), q ≤ n → z9.2.2.2.1 = nI q → SM ((fX5_readNumber (nI n) a9 b9 (nI q) A (-2) 2).bind (fun q7 => (fX5_readNumber (nI n) q7.2.1 q7.2.2.1 q7.2.2.2 A (-2) 2).bind (fun q9 => Option.bind (α := Int32) (if q9.2.2.2 = (-1) then if q7.1 = 0 then if q9.1 = 0 then some q9.2.2.1 else some q9.2.2.2 else some q9.2.2.2 else some q9.2.2.2) (fun q11 => if q11 = (-1) then if nI K < 0 then some (q9.2.1, q9.2.2.1, q11, nI K, a37, a38) else if 10 ≤ nI K then some (q9.2.1, q9.2.2.1, q11, nI K, a37, a38) else e_g (e_in ((2 : Int32) * nI K) 20) (e_g (e_in (((2 : Int32) * nI K) + 1) 20) (e_g (e_in ((2 : Int32) * nI K) 20) (e_g (e_in (((2 : Int32) * nI K) + 1) 20) (some (q9.2.1, q9.2.2.1, q11, nI K + 1, upd (upd a37 (tn ((2 : Int32) * nI K)) x1) (tn (((2 : Int32) * nI K) + 1)) y1, upd (upd a38 (tn ((2 : Int32) * nI K)) q7.1) (tn (((2 : Int32) * nI K) + 1)) q9.1))))) else some (q9.2.1, q9.2.2.1, q11, nI K, a37, a38))))) ((fX12_takesNumber (nI n) z9.2.1 z9.2.2.1 z9.2.2.2.1 z9.2.2.2.2.1 z9.2.2.2.2.2 B (-2) 2).bind (fun q9 => Option.bind (α := Int32) (if q9.2.2.2.1 = (-1) then if q9.2.2.2.2.1 = 2 then if q9.1 = 0 then if q9.2.2.2.2.2 = 0 then (fX12_bad q9.2.2.1 q9.2.2.2.1).bind (fun q15 => some q15) else some q9.2.2.2.1 else some q9.2.2.2.1 else some q9.2.2.2.1 else some q9.2.2.2.1) (fun q11 => (fX12_takesNumber (nI n) q9.2.1 q9.2.2.1 q11 q9.2.2.2.2.1 q9.2.2.2.2.2 B (-2) 2).bind (fun q13 => if q13.2.2.2.1 = (-1) then e_g (e_in (nI K) 10) (e_g (e_in (nI K) 10) (e_g (e_in (nI K) 10) (e_g (e_in (nI K) 10) (some (q13.2.1, q13.2.2.1, q13.2.2.2.1, q13.2.2.2.2.1, q13.2.2.2.2.2, nI K + 1, upd X (tn (nI K)) x1, upd Y (tn (nI K)) z9.1, upd Dx (tn (nI K)) q9.1, upd Dy (tn (nI K)) q13.1))))) else some (q13.2.1, q13.2.2.1, q13.2.2.2.1, q13.2.2.2.2.1, q13.2.2.2.2.2, nI K, X, Y, Dx, Dy))))) (fun y z => (∃ e, p ≤ e ∧ good A n e (y.1, y.2.1, y.2.2.1) (z.1, z.2.1, z.2.2.1, z.2.2.2.1, z.2.2.2.2.1) ∧ y.2.2.2.1 = nI (K + 1) ∧ z.2.2.2.2.2.1 = nI (K + 1) ∧ dat W H (K + 1) a36 y.2.2.2.2.1 y.2.2.2.2.2 z.2.2.2.2.2.2.1 z.2.2.2.2.2.2.2.1 z.2.2.2.2.2.2.2.2.1 z.2.2.2.2.2.2.2.2.2 Se) ∨ (∃ q, q ≤ n ∧ y.2.2.1 = nI q ∧ z.2.2.1 = nI q)) := by
      intro z9 q a9 b9 hq hz
      have mq : nI q ≠ -1 := nI_m1 (by omega)
      rw [hz]
      simp only [rb (show q ≤ 300 by omega), tb' (show q ≤ 300 by omega), Option.bind_some, if_neg mq]
      exact SM.ret (Or.inr ⟨q, hq, rfl, rfl⟩)
    rcases hy with ⟨e2, pe2, g2, v2, l2, m2, b2, t2, n2⟩ | ⟨q, hq, f1, f2, f3⟩
    · obtain ⟨ge2, ga2, gb2, gc2, gt2⟩ := id g2
      simp only at ga2 gb2 gc2 gt2
      subst ga2; subst gb2; subst gc2; subst v2
      obtain ⟨bt, bt1, bt2⟩ := told_sm (K := K) (a37 := a37) (X := X) (Y := Y) (by omega) (fun i hi => ⟨(hd.2.1 i hi).1, (hd.2.1 i hi).2.1⟩) x1 y1
      cases bt with
      | true =>
        refine SM.eqL (z := nI q1) (by rw [if_pos rfl, bt1, Option.bind_some, if_pos rfl, b2, fq1]) (SM.eqR (z := nI q1) ?_ ?_)
        · rw [if_pos trivial, if_pos t2, n2, bt2, Option.bind_some, if_pos rfl]
          unfold fX12_bad
          rw [if_pos rfl, fq1]
          rfl
        · rw [tb' (show q1 ≤ 300 by omega), Option.bind_some]
          exact tailBad (0, u2, u3, nI q1, u5, u6) q1 _ _ hq1n rfl
      | false =>
        refine SM.eqL (z := -1) (by rw [if_pos rfl, bt1, Option.bind_some, if_neg (by decide)]) (SM.eqR (z := -1) (by rw [if_pos trivial, if_pos t2, n2, bt2, Option.bind_some, if_neg (by decide)]) (SM.eqR ew ?_))
        simp only
        -- dx
        refine SM.bind (num_sm ht g2 (-2) 2 (by decide)) ?_
        rintro ⟨d1, d2, d3, d4⟩ ⟨r1, r2, r3, r4, r5, r6⟩ (⟨e3, pe3, g3, v3, l3, m3, b3, _, _⟩ | ⟨q, hq, f1, f2, _⟩)
        · simp only at g3 v3 l3 m3 b3 ⊢
          obtain ⟨ge3, ga3, gb3, gc3, gt3⟩ := id g3
          simp only at ga3 gb3 gc3 gt3
          subst ga3; subst gb3; subst gc3; subst v3
          obtain ⟨q3, hq3, fq3, htk3⟩ := id gt3
          have hq3n := hq3.2.1
          have mq3 : nI q3 ≠ -1 := nI_m1 (by omega)
          obtain ⟨⟨h1, h2, h3, h4⟩, ⟨s1, s2, s3, s4, s5, s6⟩, eh, es, hy4⟩ := num_sm ht g3 (-2) 2 (by decide)
          simp only at eh es hy4
          refine SM.eqL eh ?_
          simp only
          rcases hy4 with ⟨e4, pe4, g4, v4, l4, m4, b4, t4, n4⟩ | ⟨q, hq, f1, f2, f3⟩
          · obtain ⟨ge4, ga4, gb4, gc4, gt4⟩ := id g4
            simp only at ga4 gb4 gc4 gt4
            subst ga4; subst gb4; subst gc4; subst v4
            by_cases hz : d1 = 0 ∧ h1 = 0
            · refine SM.eqL (z := nI q3) (by rw [if_pos rfl, if_pos hz.1, if_pos hz.2, b4, fq3]) (SM.eqR (z := nI q3) ?_ ?_)
              · rw [if_pos trivial, if_pos t4, if_pos hz.1, n4, if_pos hz.2]
                unfold fX12_bad
                rw [if_pos rfl, fq3]
                rfl
              · rw [tb' (show q3 ≤ 300 by omega), Option.bind_some]
                exact SM.fL mq3 (SM.fR mq3 (SM.ret (Or.inr ⟨q3, hq3n, rfl, rfl⟩)))
            · refine SM.eqL (z := -1) ?_ (SM.eqR (z := -1) ?_ (SM.eqR es ?_))
              · rw [if_pos rfl]
                by_cases z0' : d1 = 0
                · rw [if_pos z0', if_neg (fun w => hz ⟨z0', w⟩)]
                · rw [if_neg z0']
              · rw [if_pos trivial, if_pos t4]
                by_cases z0' : d1 = 0
                · rw [if_pos z0', n4, if_neg (fun w => hz ⟨z0', w⟩)]
                · rw [if_neg z0']
              · have gK : e_in (nI K) 10 = true := ein_nI hK (by omega)
                refine SM.tL rfl (SM.fL (nI_pos (by omega)) (SM.fL (by rw [show (10 : Int32) = nI 10 from rfl]; exact nle hK (by omega)) ?_))
                rw [z2, pk_mul, nI_s1]
                have k1' : e_in (nI (2 * K)) 20 = true := ein_nI (by omega) (by omega)
                have k2' : e_in (nI (2 * K + 1)) 20 = true := ein_nI (by omega) (by omega)
                refine SM.gL k1' (SM.gL k2' (SM.gL k1' (SM.gL k2' (SM.tR rfl (SM.gR gK (SM.gR gK (SM.gR gK (SM.gR gK (SM.ret (Or.inl ⟨e4, by omega, ⟨ge4, rfl, rfl, rfl, gt4⟩, nI_s1 K, nI_s1 K, ?_⟩))))))))))
                simp only
                rw [tn_nI (by omega), tn_nI (by omega), tn_nI (by omega)]
                obtain ⟨hd1, hd2, hd3, hd4⟩ := hd
                refine ⟨by omega, fun i hi => ?_, hd3, hd4⟩
                simp only [upd]
                by_cases e : i = K
                · subst e
                  rw [if_neg (by omega), if_pos rfl, if_pos rfl, if_pos rfl, if_pos rfl, if_neg (by omega), if_pos rfl, if_pos rfl, if_pos rfl, if_pos rfl]
                  obtain ⟨xx, ex1, ex2⟩ := m2_of hW.1 hW.2 l1 m1
                  obtain ⟨yy, ey1, ey2⟩ := m2_of hH.1 hH.2 l2 m2
                  have l3' : (-2 : Int) ≤ d1.toInt := l3
                  have m3' : d1.toInt ≤ (2 : Int) := m3
                  have l4' : (-2 : Int) ≤ h1.toInt := l4
                  have m4' : h1.toInt ≤ (2 : Int) := m4
                  exact ⟨rfl, rfl, rfl, rfl, ⟨xx, yy, ex1, ey1, ex2, ey2⟩, by omega, by omega⟩
                · rw [if_neg (by omega), if_neg (by omega), if_neg e, if_neg (by omega), if_neg (by omega), if_neg e, if_neg (by omega), if_neg (by omega), if_neg e, if_neg (by omega), if_neg (by omega), if_neg e]
                  exact hd2 i (by omega)
          · subst f1; subst f2
            have mq : nI q ≠ -1 := nI_m1 (by omega)
            refine SM.eqL (z := nI q) (by rw [if_neg mq]) ?_
            have hr9 : ∃ w9, (if (-1 : Int32) = -1 then if r5 = 2 then if d1 = 0 then if r6 = 0 then (fX12_bad r3 (-1)).bind (fun q15 => some q15) else some (-1) else some (-1) else some (-1) else some (-1) : Option Int32) = some w9 ∧ (w9 = -1 ∨ w9 = nI q) := by
              rw [if_pos rfl]
              unfold fX12_bad
              rw [if_pos rfl, f3]
              by_cases a9 : r5 = 2
              · rw [if_pos a9]
                by_cases b9 : d1 = 0
                · rw [if_pos b9]
                  by_cases c9' : r6 = 0
                  · rw [if_pos c9']; exact ⟨_, rfl, Or.inr rfl⟩
                  · rw [if_neg c9']; exact ⟨_, rfl, Or.inl rfl⟩
                · rw [if_neg b9]; exact ⟨_, rfl, Or.inl rfl⟩
              · rw [if_neg a9]; exact ⟨_, rfl, Or.inl rfl⟩
            obtain ⟨w9, ew9, hw9'⟩ := hr9
            refine SM.eqR ew9 ?_
            rcases hw9' with rfl | rfl
            · refine SM.eqR es ?_
              exact SM.fL mq (SM.fR mq (SM.ret (Or.inr ⟨q, hq, rfl, rfl⟩)))
            · rw [tb' (show q ≤ 300 by omega), Option.bind_some]
              exact SM.fL mq (SM.fR mq (SM.ret (Or.inr ⟨q, hq, rfl, rfl⟩)))
        · simp only at f1 f2 ⊢
          subst f1; subst f2
          have mq : nI q ≠ -1 := nI_m1 (by omega)
          simp only [rb (show q ≤ 300 by omega), tb' (show q ≤ 300 by omega), Option.bind_some, if_neg mq]
          exact SM.ret (Or.inr ⟨q, hq, rfl, rfl⟩)
    · subst f1; subst f2
      have mq : nI q ≠ -1 := nI_m1 (by omega)
      refine SM.eqL (z := nI q) (by rw [if_neg mq]) ?_
      have hr9 : ∃ w9, (if (-1 : Int32) = -1 then if u5 = 2 then (fX12_isFaceRead (nI K) X Y x1 u6).bind (fun q17 => if q17 = true then (fX12_bad u3 (-1)).bind (fun q19 => some q19) else some (-1)) else some (-1) else some (-1) : Option Int32) = some w9 ∧ (w9 = -1 ∨ w9 = nI q) := by
        rw [if_pos rfl]
        unfold fX12_bad
        rw [if_pos rfl, f3]
        by_cases a9 : u5 = 2
        · rw [if_pos a9]
          obtain ⟨bt, bt1, bt2⟩ := told_sm (K := K) (a37 := a37) (X := X) (Y := Y) (by omega) (fun i hi => ⟨(hd.2.1 i hi).1, (hd.2.1 i hi).2.1⟩) x1 u6
          rw [bt2, Option.bind_some]
          cases bt with
          | true => exact ⟨_, rfl, Or.inr rfl⟩
          | false => exact ⟨_, rfl, Or.inl rfl⟩
        · rw [if_neg a9]; exact ⟨_, rfl, Or.inl rfl⟩
      obtain ⟨w9, ew9, hw9'⟩ := hr9
      refine SM.eqR ew9 ?_
      rcases hw9' with rfl | rfl
      · refine SM.eqR ew ?_
        exact tailBad (w1, w2, w3, nI q, w5, w6) q _ _ hq rfl
      · rw [tb' (show q ≤ 300 by omega), Option.bind_some]
        exact tailBad (0, u2, u3, nI q, u5, u6) q _ _ hq rfl
  · simp only at f1 f2 ⊢
    subst f1; subst f2
    have mq : nI q ≠ -1 := nI_m1 (by omega)
    simp only [rb (show q ≤ 300 by omega), tb' (show q ≤ 300 by omega), Option.bind_some, if_neg mq]
    exact SM.ret (Or.inr ⟨q, hq, rfl, rfl⟩)
