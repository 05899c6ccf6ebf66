/-! ===== a piece ===== -/
theorem dat_set {W H K : Nat} {a36 a37 a38 X Y Dx Dy Se : Nat → Int32} (hd : dat W H K a36 a37 a38 X Y Dx Dy Se) {k : Nat} (hk : k < 4) {v : Int32} (h0 : (sA0 k).toInt ≤ v.toInt) (h1 : v.toInt ≤ (sA1 k).toInt) : dat W H K (upd a36 k v) a37 a38 X Y Dx Dy (upd Se k v) := by
  obtain ⟨d1, d2, d3, d4⟩ := hd
  refine ⟨d1, d2, fun j hj => ?_, fun j hj => ?_⟩
  · simp only [upd]
    split
    · rfl
    · exact d3 j hj
  · simp only [upd]
    split
    · rename_i e; subst e; exact ⟨h0, h1⟩
    · exact d4 j hj
theorem setting_eq {n k : Nat} {A a36 : Nat → Int32} (hk : k < 4) (a b f : Int32) : fX5_readSetting (nI n) a b f A a36 (nI k) = (fX5_readNumber (nI n) a b f A (sA0 k) (sA1 k)).bind (fun q1 => some (q1.2.1, q1.2.2.1, q1.2.2.2, upd a36 k q1.1)) := by
  unfold fX5_readSetting
  have g : e_in (nI k) 4 = true := ein_nI hk (by omega)
  rw [if_neg (nI_pos (by omega)), if_neg (by rw [z4]; exact nle hk (by omega)), g_t g, g_t g, tn_nI (by omega)]
  congr 1
  funext q1
  rw [g_t g]
theorem set_hi {k : Nat} (hk : k < 4) : (sA1 k).toInt < 10000 := by
  rcases (show k = 0 ∨ k = 1 ∨ k = 2 ∨ k = 3 by omega) with rfl | rfl | rfl | rfl <;> decide
set_option maxHeartbeats 4000000 in
theorem piece_sm {n p W H K : Nat} {A B a36 a37 a38 X Y Dx Dy Se : Nat → Int32} (ht : tpe n A B) (hW : 2 ≤ W ∧ W ≤ 9) (hH : 2 ≤ H ∧ H ≤ 9) (hd : dat W H K a36 a37 a38 X Y Dx Dy Se) (hp : p ≤ n) (bg : Int32) (sT hT lT : Bool) {at' fr pt nb : Int32} (htk : tokR A n p at' fr pt nb) :
    SM (fX5_readPiece (nI n) (nI p) bg (-1) (nI W) (nI H) sT hT lT (nI K) A a36 a37 a38) (fX12_readsPiece (nI n) at' fr (-1) pt nb (nI W) (nI H) (nI K) sT hT lT B X Y Dx Dy Se) (fun y z => (∃ e K', p ≤ e ∧ good A n e (y.1, y.2.1, y.2.2.1) (z.1, z.2.1, z.2.2.1, z.2.2.2.1, z.2.2.2.2.1) ∧ y.2.2.2.1 = z.2.2.2.2.2.2.1 ∧ y.2.2.2.2.1 = z.2.2.2.2.2.2.2.1 ∧ y.2.2.2.2.2.1 = z.2.2.2.2.2.2.2.2.1 ∧ y.2.2.2.2.2.2.1 = nI K' ∧ z.2.2.2.2.2.1 = nI K' ∧ dat W H K' y.2.2.2.2.2.2.2.1 y.2.2.2.2.2.2.2.2.1 y.2.2.2.2.2.2.2.2.2 z.2.2.2.2.2.2.2.2.2.1 z.2.2.2.2.2.2.2.2.2.2.1 z.2.2.2.2.2.2.2.2.2.2.2.1 z.2.2.2.2.2.2.2.2.2.2.2.2.1 z.2.2.2.2.2.2.2.2.2.2.2.2.2) ∨ (∃ q, q ≤ n ∧ y.2.2.1 = nI q ∧ z.2.2.1 = nI q)) := by
  unfold fX5_readPiece fX12_readsPiece
  have hn := ht.1
  refine SM.tL rfl (SM.okL (readWord_ok hn hp bg) ?_)
  rintro _ ⟨q, e, hq, he, rfl⟩
  simp only
  have hqp := hq.1
  have hqe := he.1
  have hen := he.2.1
  obtain ⟨q2, hq2, hfr, _⟩ := id htk
  have e2 := isE_eq hq hq2
  subst e2
  obtain ⟨b9, sp9, iw9, w9⟩ := word_s9 ht hq he htk
  obtain ⟨b10, sp10, iw10, w10⟩ := word_s10 ht hq he htk
  obtain ⟨b11, sp11, iw11, w11⟩ := word_s11 ht hq he htk
  obtain ⟨b12, sp12, iw12, w12⟩ := word_s12 ht hq he htk
  have hK := hd.1
  have nx : ∀ fr' pt' nb', OK (fX12_next (nI n) (nI e) fr' pt' nb' B) (fun z => tokR A n e z.1 z.2.1 z.2.2.1 z.2.2.2) := fun fr' pt' nb' => OK.mono (next_ok hn ht.2.2 hen fr' pt' nb') (fun z hz => tokR_cg ht.2.1 hz)
  have lBad : SM (some (nI e, nI q, nI q, sT, hT, lT, nI K, a36, a37, a38)) ((fX12_bad fr (-1)).bind (fun q9 => some (at', fr, q9, pt, nb, nI K, sT, hT, lT, X, Y, Dx, Dy, Se))) (fun y z => (∃ e K', p ≤ e ∧ good A n e (y.1, y.2.1, y.2.2.1) (z.1, z.2.1, z.2.2.1, z.2.2.2.1, z.2.2.2.2.1) ∧ y.2.2.2.1 = z.2.2.2.2.2.2.1 ∧ y.2.2.2.2.1 = z.2.2.2.2.2.2.2.1 ∧ y.2.2.2.2.2.1 = z.2.2.2.2.2.2.2.2.1 ∧ y.2.2.2.2.2.2.1 = nI K' ∧ z.2.2.2.2.2.1 = nI K' ∧ dat W H K' y.2.2.2.2.2.2.2.1 y.2.2.2.2.2.2.2.2.1 y.2.2.2.2.2.2.2.2.2 z.2.2.2.2.2.2.2.2.2.1 z.2.2.2.2.2.2.2.2.2.2.1 z.2.2.2.2.2.2.2.2.2.2.2.1 z.2.2.2.2.2.2.2.2.2.2.2.2.1 z.2.2.2.2.2.2.2.2.2.2.2.2.2) ∨ (∃ q, q ≤ n ∧ y.2.2.1 = nI q ∧ z.2.2.1 = nI q)) := by
    unfold fX12_bad
    rw [if_pos rfl]
    exact SM.ret (Or.inr ⟨q, by omega, rfl, hfr⟩)
  have lCore : b9 = true → ¬ (10 : Int32) ≤ nI K → SM ((fX5_readCore (nI n) (nI e) (nI q) (-1) (nI W) (nI H) (nI K) A a37 a38).bind (fun q35 => some (q35.1, q35.2.1, q35.2.2.1, sT, hT, lT, q35.2.2.2.1, a36, q35.2.2.2.2.1, q35.2.2.2.2.2))) ((fX12_readsCore (nI n) at' fr (-1) pt nb (nI W) (nI H) (nI K) B X Y Dx Dy).bind (fun q => some (q.1, q.2.1, q.2.2.1, q.2.2.2.1, q.2.2.2.2.1, q.2.2.2.2.2.1, sT, hT, lT, q.2.2.2.2.2.2.1, q.2.2.2.2.2.2.2.1, q.2.2.2.2.2.2.2.2.1, q.2.2.2.2.2.2.2.2.2, Se))) (fun y z => (∃ e K', p ≤ e ∧ good A n e (y.1, y.2.1, y.2.2.1) (z.1, z.2.1, z.2.2.1, z.2.2.2.1, z.2.2.2.2.1) ∧ y.2.2.2.1 = z.2.2.2.2.2.2.1 ∧ y.2.2.2.2.1 = z.2.2.2.2.2.2.2.1 ∧ y.2.2.2.2.2.1 = z.2.2.2.2.2.2.2.2.1 ∧ y.2.2.2.2.2.2.1 = nI K' ∧ z.2.2.2.2.2.1 = nI K' ∧ dat W H K' y.2.2.2.2.2.2.2.1 y.2.2.2.2.2.2.2.2.1 y.2.2.2.2.2.2.2.2.2 z.2.2.2.2.2.2.2.2.2.1 z.2.2.2.2.2.2.2.2.2.2.1 z.2.2.2.2.2.2.2.2.2.2.2.1 z.2.2.2.2.2.2.2.2.2.2.2.2.1 z.2.2.2.2.2.2.2.2.2.2.2.2.2) ∨ (∃ q, q ≤ n ∧ y.2.2.1 = nI q ∧ z.2.2.1 = nI q)) := by
    intro hb hk
    rw [show (10 : Int32) = nI 10 from rfl, nI_le_iff (by omega) (by omega)] at hk
    rw [(w9 hb).1]
    refine SM.bind (core_sm' ht hW hH (by omega) hd hen (nI q) fr pt nb) ?_
    rintro y z (⟨e4, p4, g4, k1, k2, d4⟩ | ⟨q4, q5, q6, q7⟩)
    · exact SM.ret (Or.inl ⟨e4, K + 1, by omega, g4, rfl, rfl, rfl, k1, k2, d4⟩)
    · exact SM.ret (Or.inr ⟨q4, q5, q6, q7⟩)
  have one : ∀ (k : Nat) (hk : k < 4), at' = nI e → ∀ (lo hi : Int32), lo = sA0 k → hi = sA1 k → ∀ (s h l : Bool), SM ((fX5_readSetting (nI n) (nI e) (nI q) (-1) A a36 (nI k)).bind (fun q => some (q.1, q.2.1, q.2.2.1, s, h, l, nI K, q.2.2.2, a37, a38))) ((fX12_next (nI n) at' fr pt nb B).bind (fun q => (fX12_takesNumber (nI n) q.1 q.2.1 (-1) q.2.2.1 q.2.2.2 B lo hi).bind (fun r => some (r.2.1, r.2.2.1, r.2.2.2.1, r.2.2.2.2.1, r.2.2.2.2.2, nI K, s, h, l, X, Y, Dx, Dy, upd Se (tn (nI k)) r.1)))) (fun y z => (∃ e K', p ≤ e ∧ good A n e (y.1, y.2.1, y.2.2.1) (z.1, z.2.1, z.2.2.1, z.2.2.2.1, z.2.2.2.2.1) ∧ y.2.2.2.1 = z.2.2.2.2.2.2.1 ∧ y.2.2.2.2.1 = z.2.2.2.2.2.2.2.1 ∧ y.2.2.2.2.2.1 = z.2.2.2.2.2.2.2.2.1 ∧ y.2.2.2.2.2.2.1 = nI K' ∧ z.2.2.2.2.2.1 = nI K' ∧ dat W H K' y.2.2.2.2.2.2.2.1 y.2.2.2.2.2.2.2.2.1 y.2.2.2.2.2.2.2.2.2 z.2.2.2.2.2.2.2.2.2.1 z.2.2.2.2.2.2.2.2.2.2.1 z.2.2.2.2.2.2.2.2.2.2.2.1 z.2.2.2.2.2.2.2.2.2.2.2.2.1 z.2.2.2.2.2.2.2.2.2.2.2.2.2) ∨ (∃ q, q ≤ n ∧ y.2.2.1 = nI q ∧ z.2.2.1 = nI q)) := by
    intro k hk ha lo hi hlo hhi s h l
    rw [ha, setting_eq hk, hlo, hhi]
    refine SM.okR (nx fr pt nb) ?_
    intro t ht9
    have g9 : good A n e (nI e, nI q, -1) (t.1, t.2.1, -1, t.2.2.1, t.2.2.2) := ⟨hen, rfl, rfl, rfl, ht9⟩
    obtain ⟨y, z, ey, ez, hyz⟩ := num_sm ht g9 (sA0 k) (sA1 k) (set_hi hk)
    refine SM.eqL (z := (y.2.1, y.2.2.1, y.2.2.2, upd a36 k y.1)) (by rw [ey]; rfl) (SM.eqR ez ?_)
    rw [tn_nI (by omega)]
    rcases hyz with ⟨e4, p4, g4, v4, l4, m4, _⟩ | ⟨q4, q5, q6, q7, _⟩
    · refine SM.ret (Or.inl ⟨e4, K, by omega, g4, rfl, rfl, rfl, rfl, rfl, ?_⟩)
      simp only
      rw [← v4]
      exact dat_set hd hk l4 m4
    · exact SM.ret (Or.inr ⟨q4, q5, q6, q7⟩)
  have lRule : b12 = true → SM ((fX5_readSetting (nI n) (nI e) (nI q) (-1) A a36 3).bind (fun q => some (q.1, q.2.1, q.2.2.1, sT, hT, true, nI K, q.2.2.2, a37, a38))) ((fX12_next (nI n) at' fr pt nb B).bind (fun q => (fX12_takesNumber (nI n) q.1 q.2.1 (-1) q.2.2.1 q.2.2.2 B 0 2).bind (fun r => some (r.2.1, r.2.2.1, r.2.2.2.1, r.2.2.2.2.1, r.2.2.2.2.2, nI K, sT, hT, true, X, Y, Dx, Dy, upd Se (tn 3) r.1)))) (fun y z => (∃ e K', p ≤ e ∧ good A n e (y.1, y.2.1, y.2.2.1) (z.1, z.2.1, z.2.2.1, z.2.2.2.1, z.2.2.2.2.1) ∧ y.2.2.2.1 = z.2.2.2.2.2.2.1 ∧ y.2.2.2.2.1 = z.2.2.2.2.2.2.2.1 ∧ y.2.2.2.2.2.1 = z.2.2.2.2.2.2.2.2.1 ∧ y.2.2.2.2.2.2.1 = nI K' ∧ z.2.2.2.2.2.1 = nI K' ∧ dat W H K' y.2.2.2.2.2.2.2.1 y.2.2.2.2.2.2.2.2.1 y.2.2.2.2.2.2.2.2.2 z.2.2.2.2.2.2.2.2.2.1 z.2.2.2.2.2.2.2.2.2.2.1 z.2.2.2.2.2.2.2.2.2.2.2.1 z.2.2.2.2.2.2.2.2.2.2.2.2.1 z.2.2.2.2.2.2.2.2.2.2.2.2.2) ∨ (∃ q, q ≤ n ∧ y.2.2.1 = nI q ∧ z.2.2.1 = nI q)) := fun hb => one 3 (by omega) (w12 hb).1 0 2 rfl rfl sT hT true
  have lHold : b11 = true → SM ((fX5_readSetting (nI n) (nI e) (nI q) (-1) A a36 2).bind (fun q => some (q.1, q.2.1, q.2.2.1, sT, true, lT, nI K, q.2.2.2, a37, a38))) ((fX12_next (nI n) at' fr pt nb B).bind (fun q => (fX12_takesNumber (nI n) q.1 q.2.1 (-1) q.2.2.1 q.2.2.2 B 0 99).bind (fun r => some (r.2.1, r.2.2.1, r.2.2.2.1, r.2.2.2.2.1, r.2.2.2.2.2, nI K, sT, true, lT, X, Y, Dx, Dy, upd Se (tn 2) r.1)))) (fun y z => (∃ e K', p ≤ e ∧ good A n e (y.1, y.2.1, y.2.2.1) (z.1, z.2.1, z.2.2.1, z.2.2.2.1, z.2.2.2.2.1) ∧ y.2.2.2.1 = z.2.2.2.2.2.2.1 ∧ y.2.2.2.2.1 = z.2.2.2.2.2.2.2.1 ∧ y.2.2.2.2.2.1 = z.2.2.2.2.2.2.2.2.1 ∧ y.2.2.2.2.2.2.1 = nI K' ∧ z.2.2.2.2.2.1 = nI K' ∧ dat W H K' y.2.2.2.2.2.2.2.1 y.2.2.2.2.2.2.2.2.1 y.2.2.2.2.2.2.2.2.2 z.2.2.2.2.2.2.2.2.2.1 z.2.2.2.2.2.2.2.2.2.2.1 z.2.2.2.2.2.2.2.2.2.2.2.1 z.2.2.2.2.2.2.2.2.2.2.2.2.1 z.2.2.2.2.2.2.2.2.2.2.2.2.2) ∨ (∃ q, q ≤ n ∧ y.2.2.1 = nI q ∧ z.2.2.1 = nI q)) := fun hb => one 2 (by omega) (w11 hb).1 0 99 rfl rfl sT true lT
  have lStress : b10 = true → SM ((fX5_readSetting (nI n) (nI e) (nI q) (-1) A a36 0).bind (fun q19 => (fX5_readSetting (nI n) q19.1 q19.2.1 q19.2.2.1 A q19.2.2.2 1).bind (fun q => some (q.1, q.2.1, q.2.2.1, true, hT, lT, nI K, q.2.2.2, a37, a38)))) ((fX12_next (nI n) at' fr pt nb B).bind (fun q => (fX12_takesNumber (nI n) q.1 q.2.1 (-1) q.2.2.1 q.2.2.2 B (-20) 20).bind (fun r0 => (fX12_takesNumber (nI n) r0.2.1 r0.2.2.1 r0.2.2.2.1 r0.2.2.2.2.1 r0.2.2.2.2.2 B (-20) 20).bind (fun r => some (r.2.1, r.2.2.1, r.2.2.2.1, r.2.2.2.2.1, r.2.2.2.2.2, nI K, true, hT, lT, X, Y, Dx, Dy, upd (upd Se (tn 0) r0.1) (tn 1) r.1))))) (fun y z => (∃ e K', p ≤ e ∧ good A n e (y.1, y.2.1, y.2.2.1) (z.1, z.2.1, z.2.2.1, z.2.2.2.1, z.2.2.2.2.1) ∧ y.2.2.2.1 = z.2.2.2.2.2.2.1 ∧ y.2.2.2.2.1 = z.2.2.2.2.2.2.2.1 ∧ y.2.2.2.2.2.1 = z.2.2.2.2.2.2.2.2.1 ∧ y.2.2.2.2.2.2.1 = nI K' ∧ z.2.2.2.2.2.1 = nI K' ∧ dat W H K' y.2.2.2.2.2.2.2.1 y.2.2.2.2.2.2.2.2.1 y.2.2.2.2.2.2.2.2.2 z.2.2.2.2.2.2.2.2.2.1 z.2.2.2.2.2.2.2.2.2.2.1 z.2.2.2.2.2.2.2.2.2.2.2.1 z.2.2.2.2.2.2.2.2.2.2.2.2.1 z.2.2.2.2.2.2.2.2.2.2.2.2.2) ∨ (∃ q, q ≤ n ∧ y.2.2.1 = nI q ∧ z.2.2.1 = nI q)) := by
    intro hb
    have s0 := fun a b f => setting_eq (n := n) (A := A) (a36 := a36) (k := 0) (by omega) a b f
    rw [(w10 hb).1, z0, s0]
    refine SM.okR (nx fr pt nb) ?_
    intro t ht9
    have g9 : good A n e (nI e, nI q, -1) (t.1, t.2.1, -1, t.2.2.1, t.2.2.2) := ⟨hen, rfl, rfl, rfl, ht9⟩
    obtain ⟨y, z, ey, ez, hyz⟩ := num_sm ht g9 (-20) 20 (by decide)
    refine SM.eqL (z := (y.2.1, y.2.2.1, y.2.2.2, upd a36 0 y.1)) (by rw [show (sA0 0) = -20 from rfl, show (sA1 0) = 20 from rfl, ey]; rfl) (SM.eqR ez ?_)
    have t0 : tn 0 = 0 := rfl
    have t1 : tn 1 = 1 := rfl
    simp only
    rw [z1, setting_eq (k := 1) (by omega)]
    rcases hyz with ⟨e4, p4, g4, v4, l4, m4, _⟩ | ⟨q4, q5, q6, q7, _⟩
    · obtain ⟨y', z', ey', ez', hyz'⟩ := num_sm ht g4 (-20) 20 (by decide)
      refine SM.eqL (z := (y'.2.1, y'.2.2.1, y'.2.2.2, upd (upd a36 0 y.1) 1 y'.1)) (by rw [show (sA0 1) = -20 from rfl, show (sA1 1) = 20 from rfl, ey']; rfl) (SM.eqR ez' ?_)
      rcases hyz' with ⟨e5, p5, g5, v5, l5, m5, _⟩ | ⟨q4, q5, q6, q7, _⟩
      · refine SM.ret (Or.inl ⟨e5, K, by omega, g5, rfl, rfl, rfl, rfl, rfl, ?_⟩)
        simp only
        rw [← v4, ← v5]
        exact dat_set (dat_set hd (k := 0) (by omega) l4 m4) (k := 1) (by omega) l5 m5
      · exact SM.ret (Or.inr ⟨q4, q5, q6, q7⟩)
    · rw [q6, q7, rb (show q4 ≤ 300 by omega), tb' (show q4 ≤ 300 by omega)]
      exact SM.ret (Or.inr ⟨q4, q5, rfl, rfl⟩)
  exact SM.eqL sp9 (SM.eqR iw9 (SM.ite Iff.rfl (fun h9 => SM.ite Iff.rfl (fun _ => SM.eqL sp10 (SM.eqR iw10 (SM.ite Iff.rfl (fun h10 => SM.ite Iff.rfl (fun _ => SM.eqL sp11 (SM.eqR iw11 (SM.ite Iff.rfl (fun h11 => SM.ite Iff.rfl (fun _ => SM.eqL sp12 (SM.eqR iw12 (SM.ite Iff.rfl (fun h12 => SM.ite Iff.rfl (fun _ => lBad) (fun _ => lRule h12)) (fun _ => lBad)))) (fun hk => lHold h11)) (fun _ => SM.eqL sp12 (SM.eqR iw12 (SM.ite Iff.rfl (fun h12 => SM.ite Iff.rfl (fun _ => lBad) (fun _ => lRule h12)) (fun _ => lBad))))))) (fun hk => lStress h10)) (fun _ => SM.eqL sp11 (SM.eqR iw11 (SM.ite Iff.rfl (fun h11 => SM.ite Iff.rfl (fun _ => SM.eqL sp12 (SM.eqR iw12 (SM.ite Iff.rfl (fun h12 => SM.ite Iff.rfl (fun _ => lBad) (fun _ => lRule h12)) (fun _ => lBad)))) (fun hk => lHold h11)) (fun _ => SM.eqL sp12 (SM.eqR iw12 (SM.ite Iff.rfl (fun h12 => SM.ite Iff.rfl (fun _ => lBad) (fun _ => lRule h12)) (fun _ => lBad)))))))))) (fun hk => lCore h9 hk)) (fun _ => SM.eqL sp10 (SM.eqR iw10 (SM.ite Iff.rfl (fun h10 => SM.ite Iff.rfl (fun _ => SM.eqL sp11 (SM.eqR iw11 (SM.ite Iff.rfl (fun h11 => SM.ite Iff.rfl (fun _ => SM.eqL sp12 (SM.eqR iw12 (SM.ite Iff.rfl (fun h12 => SM.ite Iff.rfl (fun _ => lBad) (fun _ => lRule h12)) (fun _ => lBad)))) (fun hk => lHold h11)) (fun _ => SM.eqL sp12 (SM.eqR iw12 (SM.ite Iff.rfl (fun h12 => SM.ite Iff.rfl (fun _ => lBad) (fun _ => lRule h12)) (fun _ => lBad))))))) (fun hk => lStress h10)) (fun _ => SM.eqL sp11 (SM.eqR iw11 (SM.ite Iff.rfl (fun h11 => SM.ite Iff.rfl (fun _ => SM.eqL sp12 (SM.eqR iw12 (SM.ite Iff.rfl (fun h12 => SM.ite Iff.rfl (fun _ => lBad) (fun _ => lRule h12)) (fun _ => lBad)))) (fun hk => lHold h11)) (fun _ => SM.eqL sp12 (SM.eqR iw12 (SM.ite Iff.rfl (fun h12 => SM.ite Iff.rfl (fun _ => lBad) (fun _ => lRule h12)) (fun _ => lBad))))))))))))
