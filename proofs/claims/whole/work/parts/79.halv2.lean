/-! ===== halved, the call ===== -/
set_option maxHeartbeats 1000000 in
theorem boxesOf_ok {W H : Nat} {g f : Nat → Int32} (h : agr W H g f) (hW : W ≤ 9) (hH : H ≤ 9) (hW2 : 2 ≤ W) (hH2 : 2 ≤ H) {N : Nat} (hN : N ≤ 6) (h1 : one (itB f (0, 0, W - 1, H - 1) N) = true) (h2 : ∀ k, k < N → one (itB f (0, 0, W - 1, H - 1) k) = false) (a b c d : Int32) :
    OK (fX2_boxesOf (nI W) (nI H) a b c d g) (fun q => if hs f 0 0 (W - 1) (H - 1) = true then q.1 = nI (N + 1) else q.1 = 0) := by
  unfold fX2_boxesOf fX2_begin
  rw [sub1_nI (show 1 ≤ W by omega) (by omega), sub1_nI (show 1 ≤ H by omega) (by omega)]
  have hs0 := (hs_eq h hW hH (x0 := 0) (y0 := 0) (x1 := W - 1) (y1 := H - 1) (by omega) (by omega) (by omega) (by omega)).2
  have b0 : okB W H (0, 0, W - 1, H - 1) := ⟨by show 0 < W - 1; omega, by show W - 1 < W; omega, by show 0 < H - 1; omega, by show H - 1 < H; omega⟩
  have okk := itB_ok b0 h2
  refine OK.eq rfl (OK.eq hs0 ?_)
  generalize hF : itB f (0, 0, W - 1, H - 1) = F at h1 h2 okk
  have hFs : ∀ k, F (k + 1) = nrw f (F k) := fun k => by rw [← hF]; rfl
  have hF0 : F 0 = (0, 0, W - 1, H - 1) := by rw [← hF]; rfl
  cases e : hs f 0 0 (W - 1) (H - 1) with
  | false => exact OK.t rfl (OK.ret (by rw [if_neg (by decide)]))
  | true =>
    refine OK.f (by decide) (OK.bind (OK.loopx (Q := fun q => q.1 = nI (N + 1)) (fun k v => v.1 = nI (k + 1) ∧ v.2.1 = nI k ∧ v.2.2 = nB (F k)) N (by omega) ⟨rfl, rfl, by rw [hF0]; rfl⟩ ?_ ?_) (fun q hq => OK.ret (by rw [if_pos rfl]; exact hq)))
    · rintro k ⟨v1, v2, v3⟩ hk ⟨rfl, rfl, rfl⟩
      simp only
      have nr := narrow_eq h hW hH (f := f) (okk k (by omega))
      rw [h2 k hk] at nr
      refine OK.f (by rw [show (6 : Int32) = nI 6 from rfl]; exact nle (by omega) (by omega)) (OK.eq nr (OK.t rfl ⟨_, rfl, Or.inl ⟨_, rfl, nI_s1 _, nI_s1 _, ?_⟩⟩))
      simp only [Bool.false_eq_true, if_false]
      rw [hFs]
    · rintro ⟨v1, v2, v3⟩ ⟨rfl, rfl, rfl⟩
      simp only
      have nr := narrow_eq h hW hH (f := f) (okk N (Nat.le_refl _))
      rw [h1] at nr
      refine OK.ite (fun _ => OK.inr rfl) (fun _ => OK.eq nr (OK.f (by simp) (OK.inr rfl)))
set_option maxHeartbeats 1000000 in
theorem reach_eq {W H : Nat} {g f : Nat → Int32} (h : agr W H g f) (hW : W ≤ 9) (hH : H ≤ 9) (hW2 : 2 ≤ W) (hH2 : 2 ≤ H) {N : Nat} (hN : N ≤ 6) (h2 : ∀ k, k < N → one (itB f (0, 0, W - 1, H - 1) k) = false) (a b c d : Int32) {m : Nat} (hm : m ≤ N) :
    fX2_reach (nI W) (nI H) a b c d g (nI m) = some (nB (itB f (0, 0, W - 1, H - 1) m)) := by
  apply OK.val
  unfold fX2_reach fX2_begin
  rw [sub1_nI (show 1 ≤ W by omega) (by omega), sub1_nI (show 1 ≤ H by omega) (by omega)]
  have b0 : okB W H (0, 0, W - 1, H - 1) := ⟨by show 0 < W - 1; omega, by show W - 1 < W; omega, by show 0 < H - 1; omega, by show H - 1 < H; omega⟩
  have okk := itB_ok b0 h2
  generalize hF : itB f (0, 0, W - 1, H - 1) = F at h2 okk
  have hFs : ∀ k, F (k + 1) = nrw f (F k) := fun k => by rw [← hF]; rfl
  have hF0 : F 0 = (0, 0, W - 1, H - 1) := by rw [← hF]; rfl
  refine OK.eq rfl (OK.bind (OK.loop (Q := fun q => q = nB (F m)) (fun k v => v.1 = nI k ∧ v.2 = nB (F k)) m (by omega) ⟨rfl, by rw [hF0]; rfl⟩ ?_ ?_) (fun q hq => OK.ret (by rw [hq])))
  · rintro k ⟨v1, v2⟩ hk ⟨rfl, rfl⟩
    simp only
    have nr := narrow_eq h hW hH (f := f) (okk k (by omega))
    rw [h2 k (by omega)] at nr
    refine OK.f (nle hk (by omega)) (OK.f (by rw [show (6 : Int32) = nI 6 from rfl]; exact nle (by omega) (by omega)) (OK.eq nr (OK.inl ⟨nI_s1 _, ?_⟩)))
    simp only [Bool.false_eq_true, if_false]
    rw [hFs]
  · rintro ⟨v1, v2⟩ ⟨rfl, rfl⟩
    exact OK.t (yle (by omega)) (OK.inr rfl)
set_option maxHeartbeats 1000000 in
theorem halved_sm {W H : Nat} {g f A : Nat → Int32} (h : agr W H g f) (hW : W ≤ 9) (hH : H ≤ 9) (hWH : W = 0 ∨ (2 ≤ W ∧ 2 ≤ H)) (a b c d p q t k0 : Int32) : SM (fX11_halved (nI W) (nI H) a b c d g p q) (fX12_halved t (nI W) (nI H) k0 f A p q) (fun y z => z.1 = y.1 ∧ z.2.1 = 0) := by
  unfold fX11_halved fX12_halved
  refine SM.eqL (empty_eq hW) (SM.eqR (crys_eq hW) ?_)
  rcases hWH with w0 | ⟨hW2, hH2⟩
  · exact SM.tL (decide_eq_true w0) (SM.fR (by rw [decide_eq_true_eq]; omega) (SM.ret ⟨rfl, rfl⟩))
  · have b0 : okB W H (0, 0, W - 1, H - 1) := ⟨by show 0 < W - 1; omega, by show W - 1 < W; omega, by show 0 < H - 1; omega, by show H - 1 < H; omega⟩
    have m6 : mu (0, 0, W - 1, H - 1) ≤ 6 := by
      have h1 := lg8_le ⟨W - 1, by omega⟩
      have h2 := lg8_le ⟨H - 1, by omega⟩
      simp only at h1 h2
      unfold mu
      simp only [Nat.sub_zero]
      omega
    obtain ⟨N, hN, h1, h2⟩ := itB_end hW hH (f := f) 6 _ b0 m6
    refine SM.fL (by rw [decide_eq_true_eq]; omega) (SM.tR (decide_eq_true (by omega)) (SM.okL (boxesOf_ok h hW hH hW2 hH2 hN h1 h2 a b c d) ?_))
    rintro ⟨y1, y2⟩ hy
    refine SM.okR (boxes_ok h hW hH hW2 hH2 hN h1 h2 A k0) ?_
    rintro ⟨r1, r2⟩ hr
    simp only at hy hr ⊢
    cases e : hs f 0 0 (W - 1) (H - 1) with
    | false =>
      rw [e, if_neg (by decide)] at hy hr
      subst hy; subst hr
      refine SM.ite Iff.rfl (fun _ => SM.ret ⟨rfl, rfl⟩) (fun _ => SM.eqR (in_c p (n := -1) (by decide)) (SM.fR (by rw [decide_eq_true_eq]; omega) ?_))
      by_cases q0 : p < 0
      · exact SM.tL q0 (SM.ret ⟨rfl, rfl⟩)
      · refine SM.fL q0 (SM.tL ?_ (SM.ret ⟨rfl, rfl⟩))
        rw [lt_i, c0] at q0
        rw [le_i, c0]; omega
    | true =>
      rw [e, if_pos rfl] at hy hr
      obtain ⟨hr1, hr2⟩ := hr
      subst hy; subst hr1
      refine SM.ite Iff.rfl (fun _ => SM.ret ⟨rfl, rfl⟩) (fun pm => SM.eqR (in_c p (n := (N : Int)) (by rw [i_l, sub1_nI (by omega) (by omega), nI_ti _ (by omega)]; omega)) (SM.rng2 (by rw [nI_ti _ (by omega)]; omega) ?_ (SM.ret ⟨rfl, rfl⟩)))
      rintro k hk rfl
      refine SM.eqR (in_c q (n := ((3 : Nat) : Int)) rfl) (SM.rng1 rfl ?_ (SM.ret ⟨rfl, rfl⟩))
      rintro w hw rfl
      refine SM.eqL (reach_eq h hW hH hW2 hH2 hN h2 _ _ _ _ hk) ?_
      rw [show (4 : Int32) * nI k + nI w = nI (4 * k + w) by rw [z4, pk_mul, nI_add]]
      refine SM.gR (ein_nI (by omega) (by omega)) ?_
      rw [tn_nI (by omega)]
      have hb := hr2 k (by omega)
      unfold fX2_sideOf
      rcases (show w = 0 ∨ w = 1 ∨ w = 2 ∨ w = 3 by omega) with rfl | rfl | rfl | rfl
      · exact SM.eqL (z := nI (itB f (0, 0, W - 1, H - 1) k).1) (by rw [if_pos (by decide)]) (SM.ret ⟨hb.1, rfl⟩)
      · exact SM.eqL (z := nI (itB f (0, 0, W - 1, H - 1) k).2.1) (by rw [if_neg (by decide), if_pos (by decide)]) (SM.ret ⟨hb.2.1, rfl⟩)
      · exact SM.eqL (z := nI (itB f (0, 0, W - 1, H - 1) k).2.2.1) (by rw [if_neg (by decide), if_neg (by decide), if_pos (by decide)]) (SM.ret ⟨hb.2.2.1, rfl⟩)
      · exact SM.eqL (z := nI (itB f (0, 0, W - 1, H - 1) k).2.2.2) (by rw [if_neg (by decide), if_neg (by decide), if_neg (by decide)]) (SM.ret ⟨hb.2.2.2, rfl⟩)
