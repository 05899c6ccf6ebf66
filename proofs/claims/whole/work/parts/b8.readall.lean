/-! ===== read and readsAll ===== -/
theorem SM.inlF {V W Y Z : Type} {v : V} {w : W} {b : V → Option (V ⊕ Y)} {I : V → W → Prop} {Q : Y → Z → Prop} (h : I v w) : SM (some (Sum.inl v : V ⊕ Y)) (some (Sum.inl w : W ⊕ Z)) (fun p q => (∃ v' w', p = .inl v' ∧ q = .inl w' ∧ I v' w') ∨ (∃ y z, p = .inr y ∧ q = .inr z ∧ Q y z) ∨ ∃ v' y z, p = .inl v' ∧ b v' = some (.inr y) ∧ q = .inr z ∧ Q y z) := ⟨_, _, rfl, rfl, Or.inl ⟨v, w, rfl, rfl, h⟩⟩
theorem SM.inrF {V W Y Z : Type} {y : Y} {z : Z} {b : V → Option (V ⊕ Y)} {I : V → W → Prop} {Q : Y → Z → Prop} (h : Q y z) : SM (some (Sum.inr y : V ⊕ Y)) (some (Sum.inr z : W ⊕ Z)) (fun p q => (∃ v' w', p = .inl v' ∧ q = .inl w' ∧ I v' w') ∨ (∃ y z, p = .inr y ∧ q = .inr z ∧ Q y z) ∨ ∃ v' y z, p = .inl v' ∧ b v' = some (.inr y) ∧ q = .inr z ∧ Q y z) := ⟨_, _, rfl, rfl, Or.inr (Or.inl ⟨y, z, rfl, rfl, h⟩)⟩
theorem SM.inlxF {V W Y Z : Type} {v : V} {y : Y} {z : Z} {b : V → Option (V ⊕ Y)} {I : V → W → Prop} {Q : Y → Z → Prop} (hb : b v = some (.inr y)) (h : Q y z) : SM (some (Sum.inl v : V ⊕ Y)) (some (Sum.inr z : W ⊕ Z)) (fun p q => (∃ v' w', p = .inl v' ∧ q = .inl w' ∧ I v' w') ∨ (∃ y z, p = .inr y ∧ q = .inr z ∧ Q y z) ∨ ∃ v' y z, p = .inl v' ∧ b v' = some (.inr y) ∧ q = .inr z ∧ Q y z) := ⟨_, _, rfl, rfl, Or.inr (Or.inr ⟨v, y, z, rfl, hb, rfl, h⟩)⟩
theorem nz3 : (0 : Int32) ≠ 3 := by decide
set_option maxHeartbeats 4000000 in
theorem pieces_sm {n W H : Nat} {A B : Nat → Int32} (ht : tapR n A B) (hW : 2 ≤ W ∧ W ≤ 9) (hH : 2 ≤ H ∧ H ≤ 9) {v0 : cLT} {w0 : rLT} (h0 : rdI A n W H 0 v0 w0) :
    SM (e_loop (fun (v5 : cLT) => (
      if 300 ≤ v5.1 then
        some (.inr (v5.2.1, v5.2.2.2.2.2.2.2.1, v5.2.2.1, v5.2.2.2.1, v5.2.2.2.2.1, v5.2.2.2.2.2.1, v5.2.2.2.2.2.2.1, v5.2.2.2.2.2.2.2.2.1, v5.2.2.2.2.2.2.2.2.2.1, v5.2.2.2.2.2.2.2.2.2.2))
      else
        if v5.2.2.2.1 = (-1) then
          (fX5_nextByte (nI n) v5.2.1 A).bind (fun q8 =>
          if q8.1 = 0 then
            some (.inr (q8.2, v5.2.2.2.2.2.2.2.1, v5.2.2.1, v5.2.2.2.1, v5.2.2.2.2.1, v5.2.2.2.2.2.1, v5.2.2.2.2.2.2.1, v5.2.2.2.2.2.2.2.2.1, v5.2.2.2.2.2.2.2.2.2.1, v5.2.2.2.2.2.2.2.2.2.2))
          else
            (fX5_readSemicolon (nI n) q8.2 v5.2.2.2.1 A).bind (fun q10 =>
            (fX5_readPiece (nI n) q10.1 v5.2.2.1 q10.2 (nI W) (nI H) v5.2.2.2.2.1 v5.2.2.2.2.2.1 v5.2.2.2.2.2.2.1 v5.2.2.2.2.2.2.2.1 A v5.2.2.2.2.2.2.2.2.1 v5.2.2.2.2.2.2.2.2.2.1 v5.2.2.2.2.2.2.2.2.2.2).bind (fun q12 =>
            some (.inl (v5.1 + 1, q12.1, q12.2.1, q12.2.2.1, q12.2.2.2.1, q12.2.2.2.2.1, q12.2.2.2.2.2.1, q12.2.2.2.2.2.2.1, q12.2.2.2.2.2.2.2.1, q12.2.2.2.2.2.2.2.2.1, q12.2.2.2.2.2.2.2.2.2)))))
        else
          some (.inr (v5.2.1, v5.2.2.2.2.2.2.2.1, v5.2.2.1, v5.2.2.2.1, v5.2.2.2.2.1, v5.2.2.2.2.2.1, v5.2.2.2.2.2.2.1, v5.2.2.2.2.2.2.2.2.1, v5.2.2.2.2.2.2.2.2.2.1, v5.2.2.2.2.2.2.2.2.2.2)) : Option (cLT ⊕ cXT))) e_fuel v0)
    (e_loop (fun (v13 : rLT) => (
      (fX12_takesSign (nI n) v13.1 v13.2.1 v13.2.2.1 v13.2.2.2.1 v13.2.2.2.2.1 B 59).bind (fun q16 =>
      if q16.1 = true then
        (fX12_readsPiece (nI n) q16.2.1 q16.2.2.1 v13.2.2.1 q16.2.2.2.1 q16.2.2.2.2 (nI W) (nI H) v13.2.2.2.2.2.1 v13.2.2.2.2.2.2.1 v13.2.2.2.2.2.2.2.1 v13.2.2.2.2.2.2.2.2.1 B v13.2.2.2.2.2.2.2.2.2.1 v13.2.2.2.2.2.2.2.2.2.2.1 v13.2.2.2.2.2.2.2.2.2.2.2.1 v13.2.2.2.2.2.2.2.2.2.2.2.2.1 v13.2.2.2.2.2.2.2.2.2.2.2.2.2).bind (fun q18 =>
        some (.inl (q18.1, q18.2.1, q18.2.2.1, q18.2.2.2.1, q18.2.2.2.2.1, q18.2.2.2.2.2.1, q18.2.2.2.2.2.2.1, q18.2.2.2.2.2.2.2.1, q18.2.2.2.2.2.2.2.2.1, q18.2.2.2.2.2.2.2.2.2.1, q18.2.2.2.2.2.2.2.2.2.2.1, q18.2.2.2.2.2.2.2.2.2.2.2.1, q18.2.2.2.2.2.2.2.2.2.2.2.2.1, q18.2.2.2.2.2.2.2.2.2.2.2.2.2)))
      else
        some (.inr (v13.2.2.2.2.2.1, v13.2.2.2.2.2.2.1, v13.2.2.2.2.2.2.2.1, v13.2.2.2.2.2.2.2.2.1, q16.2.1, q16.2.2.1, v13.2.2.1, q16.2.2.2.1, q16.2.2.2.2, v13.2.2.2.2.2.2.2.2.2.1, v13.2.2.2.2.2.2.2.2.2.2.1, v13.2.2.2.2.2.2.2.2.2.2.2.1, v13.2.2.2.2.2.2.2.2.2.2.2.2.1, v13.2.2.2.2.2.2.2.2.2.2.2.2.2))) : Option (rLT ⊕ rXT))) e_fuel w0) (rdX n W H) := by
  have hn := ht.1
  have hp := ht.tpe
  refine SM.loopF (rdI A n W H) 300 (by omega) h0 ?_ ?_
  · rintro k ⟨v1, v2, v3, v4, v5, v6, v7, v8, v9, v10, v11⟩ ⟨w1, w2, w3, w4, w5, w6, w7, w8, w9, w10, w11, w12, w13, w14⟩ hk ⟨i1, ⟨p, K, kp, ⟨hpn, g1, g2, g3, g4⟩, f1, f2, f3, k1, k2, hd⟩ | ⟨q, hq, b1, b2⟩⟩
    · simp only at i1 g1 g2 g3 g4 f1 f2 f3 k1 k2 hd
      subst i1 g1 g2 g3 f1 f2 f3 k1 k2
      refine SM.fL (by rw [z300]; exact nle hk (by omega)) (SM.tL rfl (SM.okL (nextByte_ok hn hpn) ?_))
      rintro ⟨c, a⟩ ⟨q, hq, ha, hc⟩
      simp only at ha hc
      subst ha
      by_cases hqn : q < n
      · rw [if_pos hqn] at hc
        subst hc
        have hA := ht.2 q hqn
        have hb : blk A q = false := by
          rcases hq.2.2.2 with e | e
          · omega
          · exact e
        have hqp := hq.1
        refine SM.fL hA.2.1 ?_
        by_cases h59 : A q = 59
        · obtain ⟨t1, t2, t3⟩ := tok_semi hq hqn h59 g4
          subst t1 t2 t3
          refine SM.eqL (z := (nI q + 1, -1)) (by rw [semi_ok hn hqn hb, if_pos h59]) ?_
          rw [nI_s1, sign_yes (by omega) (show B q = 59 by rw [← hA.1]; exact h59)]
          obtain ⟨t, et, htk⟩ := next_ok (p := q + 1) hn hp.2.2 (by omega) (nI q) 3 w5
          have htk := tokR_cg hp.2.1 htk
          refine SM.eqR (z := (true, t.1, t.2.1, t.2.2.1, t.2.2.2)) (by rw [et]; rfl) (SM.tR rfl ?_)
          refine SM.bind (piece_sm hp hW hH hd (by omega) v3 v5 v6 v7 htk) ?_
          rintro y z (⟨e, K', he, gg, r1, r2, r3, r4, r5, hd'⟩ | ⟨r, hr, r1, r2⟩)
          · refine SM.inlF ⟨nI_s1 k, Or.inl ⟨e, K', by omega, gg, r1, r2, r3, r4, r5, hd'⟩⟩
          · refine SM.inlF ⟨nI_s1 k, Or.inr ⟨r, hr, r1, r2⟩⟩
        · obtain ⟨t1, t2⟩ := mid_pt hq hqn g4
          subst t2
          refine SM.eqL (z := (nI q, nI q)) (by rw [semi_ok hn hqn hb, if_neg h59]) ?_
          refine SM.eqL (piece_bad (by omega) _ _ _ _ _ _ _ _) (SM.eqR (sign_other (by omega) (show B q ≠ 59 by rw [← hA.1]; exact h59)) (SM.fR Bool.false_ne_true ?_))
          refine SM.inlxF (y := (nI q, nI K, v3, nI q, v5, v6, v7, v9, v10, v11)) ?_ (Or.inr (Or.inr ⟨q, by omega, rfl, rfl, t1, rfl⟩))
          simp only [nI_s1]
          by_cases h3 : (300 : Int32) ≤ nI (k + 1)
          · rw [if_pos h3]
          · rw [if_neg h3, if_neg (nI_m1 (by omega))]
      · rw [if_neg hqn] at hc
        subst hc
        have p0 := fin_pt hq hqn g4
        subst p0
        refine SM.tL rfl (SM.eqR (sign_no (Or.inr nz3)) (SM.fR Bool.false_ne_true (SM.inrF (Or.inl ⟨rfl, rfl, rfl, K, rfl, rfl, hd⟩))))
    · simp only at i1 b1 b2
      subst i1 b1 b2
      refine SM.fL (by rw [z300]; exact nle hk (by omega)) (SM.fL (nI_m1 (by omega)) (SM.eqR (sign_no (Or.inl (nI_m1 (by omega)))) (SM.fR Bool.false_ne_true (SM.inrF (Or.inr (Or.inl ⟨q, hq, rfl, rfl⟩))))))
  · rintro ⟨v1, v2, v3, v4, v5, v6, v7, v8, v9, v10, v11⟩ ⟨w1, w2, w3, w4, w5, w6, w7, w8, w9, w10, w11, w12, w13, w14⟩ ⟨i1, ⟨p, K, kp, ⟨hpn, g1, g2, g3, g4⟩, f1, f2, f3, k1, k2, hd⟩ | ⟨q, hq, b1, b2⟩⟩
    · simp only at i1 g1 g2 g3 g4 f1 f2 f3 k1 k2 hd
      subst i1 g1 g2 g3 f1 f2 f3 k1 k2
      have en : p = n := by omega
      subst en
      have p0 : w4 = 0 := fin_pt (q := p) ⟨Nat.le_refl _, Nat.le_refl _, fun i a b => by omega, Or.inl rfl⟩ (by omega) g4
      subst p0
      exact SM.tL (yle (n := 300) (by decide)) (SM.eqR (sign_no (Or.inr nz3)) (SM.fR Bool.false_ne_true (SM.inr (Or.inl ⟨rfl, rfl, rfl, K, rfl, rfl, hd⟩))))
    · simp only at i1 b1 b2
      subst i1 b1 b2
      exact SM.tL (yle (n := 300) (by decide)) (SM.eqR (sign_no (Or.inl (nI_m1 (by omega)))) (SM.fR Bool.false_ne_true (SM.inr (Or.inr (Or.inl ⟨q, hq, rfl, rfl⟩)))))
theorem dat0 {W H : Nat} (a36 a37 a38 X Y Dx Dy Se : Nat → Int32) : dat W H 0 (va_cpy sA2 a36 (tn 0) (tn 0) (tn 4)) a37 a38 X Y Dx Dy (upd (upd (upd (upd Se (tn 0) 0) (tn 1) 0) (tn 2) 10) (tn 3) 0) := by
  refine ⟨by omega, fun i hi => by omega, fun k hk => ?_, fun k hk => ?_⟩
  · rcases (show k = 0 ∨ k = 1 ∨ k = 2 ∨ k = 3 by omega) with rfl | rfl | rfl | rfl <;> rfl
  · rcases (show k = 0 ∨ k = 1 ∨ k = 2 ∨ k = 3 by omega) with rfl | rfl | rfl | rfl
    · show (sA0 0).toInt ≤ (0 : Int32).toInt ∧ (0 : Int32).toInt ≤ (sA1 0).toInt
      decide
    · show (sA0 1).toInt ≤ (0 : Int32).toInt ∧ (0 : Int32).toInt ≤ (sA1 1).toInt
      decide
    · show (sA0 2).toInt ≤ (10 : Int32).toInt ∧ (10 : Int32).toInt ≤ (sA1 2).toInt
      decide
    · show (sA0 3).toInt ≤ (0 : Int32).toInt ∧ (0 : Int32).toInt ≤ (sA1 3).toInt
      decide
theorem n3le : ¬ (300 : Int32) ≤ 0 := by decide
set_option maxHeartbeats 2000000 in
theorem read_sm {n : Nat} {A B : Nat → Int32} (ht : tapR n A B) (a1 a2 a3 a4 a5 a10 : Int32) (a7 a8 a9 : Bool) (a36 a37 a38 : Nat → Int32) (r3 r4 r5 r6 r7 r9 r10 r11 : Int32) (r17 r18 r19 : Bool) (X Y Dx Dy Se : Nat → Int32) :
    SM (fX5_read (nI n) a1 a2 a3 a4 a5 a7 a8 a9 a10 A a36 a37 a38) (fX12_readsAll (nI n) r3 r4 r5 r6 r7 r9 r10 r11 r17 r18 r19 B X Y Dx Dy Se) (rdR n) := by
  have hn := ht.1
  obtain ⟨y, z, ey, ez, hyz⟩ := size_sm ht.tpe a2 a4 a5 r4 r6 r7
  unfold fX5_read fX12_readsAll
  obtain ⟨q1, e1, ez⟩ := Option.bind_eq_some_iff.mp ez
  obtain ⟨q3, e3, ez⟩ := Option.bind_eq_some_iff.mp ez
  obtain ⟨q5, e5, ez⟩ := Option.bind_eq_some_iff.mp ez
  obtain ⟨q7, e7, ez⟩ := Option.bind_eq_some_iff.mp ez
  obtain ⟨q9, e9, ez⟩ := Option.bind_eq_some_iff.mp ez
  have ez := (Option.some.inj ez).symm
  subst ez
  refine SM.eqL ey (SM.eqR e1 (SM.eqR e3 (SM.eqR e5 (SM.eqR e7 (SM.eqR e9 ?_)))))
  clear e1 e3 e5 e7 e9 ey
  obtain ⟨y1, y2, y3, y4, y5⟩ := y
  obtain ⟨s1, s2⟩ := q7
  obtain ⟨u1, u2, u3, u4, u5, u6⟩ := q9
  rcases hyz with ⟨p, W, H, gd, hy4, hy5, hz1, hW, hH⟩ | ⟨q, hq, f1, f2⟩
  · simp only at hy4 hy5 hz1 gd
    have hs1 : s1 = nI W := congrArg Prod.fst hz1
    have hu1 : u1 = nI H := congrArg Prod.snd hz1
    subst hs1 hu1 hy4 hy5
    refine SM.bind (pieces_sm ht hW hH ⟨rfl, Or.inl ⟨p, 0, by omega, gd, rfl, rfl, rfl, rfl, rfl, dat0 _ _ _ _ _ _ _ _⟩⟩) ?_
    rintro ⟨v1, v2, v3, v4, v5, v6, v7, v9, v10, v11⟩ ⟨w1, w2, w3, w4, w5, w6, w7, w8, w9, w10, w11, w12, w13, w14⟩ (⟨g1, g2, g3, K, g4, g5, g6⟩ | ⟨q, hq, b1, b2⟩ | ⟨q, hq, b1, b2, b3, b4⟩)
    · simp only at g1 g2 g3 g4 g5 g6
      subst g1 g2 g3 g4 g5
      exact SM.tR rfl (SM.tR rfl (SM.ret ⟨rfl, Or.inr ⟨rfl, W, H, K, rfl, rfl, rfl, rfl, hW, hH, rfl, rfl, g6⟩⟩))
    · simp only at b1 b2
      subst b1 b2
      exact SM.fR (nI_m1 (by omega)) (SM.ret ⟨rfl, Or.inl ⟨q, hq, rfl⟩⟩)
    · simp only at b1 b2 b3 b4
      subst b1 b2 b4
      exact SM.tR rfl (SM.fR b3 (SM.eqR (z := nI q) rfl (SM.ret ⟨rfl, Or.inl ⟨q, hq, rfl⟩⟩)))
  · simp only at f1 f2
    subst f1 f2
    have k1 : ∀ {Y : Type} {b : cLT → Option (cLT ⊕ Y)} {v : cLT} {y : Y}, b v = some (.inr y) → e_loop b e_fuel v = some y := by
      intro Y b v y h
      show e_loop b (99999 + 1) v = some y
      rw [e_loop, h]; rfl
    have k2 : ∀ {Y : Type} {b : rLT → Option (rLT ⊕ Y)} {v : rLT} {y : Y}, b v = some (.inr y) → e_loop b e_fuel v = some y := by
      intro Y b v y h
      show e_loop b (99999 + 1) v = some y
      rw [e_loop, h]; rfl
    refine SM.eqL (k1 (by rw [if_neg n3le, if_neg (nI_m1 (by omega))])) (SM.eqR (k2 (by rw [sign_no (Or.inl (nI_m1 (by omega)))]; rfl)) ?_)
    exact SM.fR (nI_m1 (by omega)) (SM.ret ⟨rfl, Or.inl ⟨q, hq, rfl⟩⟩)
