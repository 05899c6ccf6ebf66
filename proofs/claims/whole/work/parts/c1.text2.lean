/-! ===== the cores of a text ===== -/
theorem nI_lt_iff' {a b : Nat} (ha : a < 2147483648) (hb : b < 2147483648) : nI a < nI b ↔ a < b := by
  rw [Int32.lt_iff_toInt_lt, nI_toInt ha, nI_toInt hb]
  omega
theorem lays_sm {W H K : Nat} {a36 a37 a38 X Y Dx Dy Se g f : Nat → Int32} (hW : 2 ≤ W ∧ W ≤ 9) (hH : 2 ≤ H ∧ H ≤ 9) (hd : dat W H K a36 a37 a38 X Y Dx Dy Se) (hg : ∀ k, k < 324 → g k = unt k) (hf : untR W H f) :
    SM (e_loop (fun (v5 : Int32 × (Nat → Int32)) => (
      if nI K ≤ v5.1 then
        some (.inr v5.2)
      else
        if 20 ≤ (((2 : Int32) * v5.1) + 1) then
          some (.inr v5.2)
        else
          (e_loop (fun (v10 : Int32 × (Nat → Int32)) => (
              e_g (e_in ((2 : Int32) * v5.1) 20) (
              if (a37 (tn ((2 : Int32) * v5.1))) < v10.1 then
                some (.inr v10.2)
              else
                e_g (e_in (((2 : Int32) * v5.1) + 1) 20) (
                e_g (e_in ((2 : Int32) * v5.1) 20) (
                e_g (e_in (((2 : Int32) * v5.1) + 1) 20) (
                (fX7_addTo (nI W) (nI H) v10.2 v10.1 (a37 (tn (((2 : Int32) * v5.1) + 1))) 1 ((0 : Int32) - (a38 (tn ((2 : Int32) * v5.1)))) ((0 : Int32) - (a38 (tn (((2 : Int32) * v5.1) + 1))))).bind (fun q13 =>
                some (.inl (v10.1 + 1, q13))))))) : Option ((Int32 × (Nat → Int32)) ⊕ ((Nat → Int32))))) e_fuel (0, v5.2)).bind (fun x11 =>
          some (.inl (v5.1 + 1, x11))) : Option ((Int32 × (Nat → Int32)) ⊕ ((Nat → Int32))))) e_fuel (0, g))
    (e_loop (fun (v29 : Int32 × (Nat → Int32)) => (
        if nI K ≤ v29.1 then
          some (.inr v29.2)
        else
          (e_loop (fun (v34 : Int32 × (Nat → Int32)) => (
              e_g (e_in v29.1 10) (
              if (X (tn v29.1)) < v34.1 then
                some (.inr v34.2)
              else
                e_g (e_in v29.1 10) (
                e_g (e_in v29.1 10) (
                e_g (e_in v29.1 10) (
                (fX12_changes v34.2 v34.1 (Y (tn v29.1)) true ((0 : Int32) - (Dx (tn v29.1))) ((0 : Int32) - (Dy (tn v29.1)))).bind (fun q37 =>
                some (.inl (v34.1 + 1, q37))))))) : Option ((Int32 × (Nat → Int32)) ⊕ ((Nat → Int32))))) e_fuel (0, v29.2)).bind (fun x35 =>
          some (.inl (v29.1 + 1, x35))) : Option ((Int32 × (Nat → Int32)) ⊕ ((Nat → Int32))))) e_fuel (0, f)) (fun a b => agr W H a b ∧ okY b W H K ∧ ∀ k, 324 ≤ k → k < 486 → b k = 0) := by
  have hK := hd.1
  refine SM.loop (fun i v w => v.1 = nI i ∧ w.1 = nI i ∧ agr W H v.2 w.2 ∧ okY w.2 W H i ∧ ∀ k, 324 ≤ k → k < 486 → w.2 k = 0) K (by omega) ⟨rfl, rfl, agr_unt hW.2 hH.2 hg hf, okY_0 hW hH hf, hf.1⟩ ?_ ?_
  · rintro i ⟨v1, v2⟩ ⟨w1, w2⟩ hi ⟨rfl, rfl, ha, ho, hh⟩
    obtain ⟨d1, d2, d3, d4, ⟨x, y, hx, hy, hxW, hyH⟩, n1, n2⟩ := hd.2.1 i hi
    simp only at ha ho hh ⊢
    rw [z2, pk_mul, nI_s1, tn_nI (show i < 2147483648 by omega), tn_nI (show 2 * i < 2147483648 by omega), tn_nI (show 2 * i + 1 < 2147483648 by omega), d1, d2, d3, d4, hx, hy]
    have g1 : e_in (nI (2 * i)) 20 = true := ein_nI (by omega) (by omega)
    have g2 : e_in (nI (2 * i + 1)) 20 = true := ein_nI (by omega) (by omega)
    have g3 : e_in (nI i) 10 = true := ein_nI (by omega) (by omega)
    refine SM.fL (nle hi (by omega)) (SM.fL (by rw [show (20 : Int32) = nI 20 from rfl]; exact nle (by omega) (by omega)) (SM.fR (nle hi (by omega)) (SM.bind (SM.loop (Q := fun a b => a = cutF v2 y (Dx i) (Dy i) (x + 1) ∧ b = cutF w2 y (Dx i) (Dy i) (x + 1)) (fun k a b => a.1 = nI k ∧ b.1 = nI k ∧ a.2 = cutF v2 y (Dx i) (Dy i) k ∧ b.2 = cutF w2 y (Dx i) (Dy i) k) (x + 1) (by omega) ⟨rfl, rfl, rfl, rfl⟩ ?_ ?_) ?_)))
    · rintro k ⟨a1, a2⟩ ⟨b1, b2⟩ hk ⟨rfl, rfl, rfl, rfl⟩
      have nl : ¬ nI x < nI k := by rw [nI_lt_iff' (by omega) (by omega)]; omega
      refine SM.gL g1 (SM.gR g3 (SM.fL nl (SM.fR nl (SM.gL g2 (SM.gL g1 (SM.gL g2 (SM.gR g3 (SM.gR g3 (SM.gR g3 ?_)))))))))
      have q1 := addTo_eq hW.2 hH.2 (cutF v2 y (Dx i) (Dy i) k) (x := k) (y := y) (r := 1) (by omega) (by omega) (by omega) (0 - Dx i) (0 - Dy i)
      have q2 := changes_eq (cutF w2 y (Dx i) (Dy i) k) (x := k) (y := y) true (by omega) (by omega) (0 - Dx i) (0 - Dy i)
      rw [← z1] at q1
      exact SM.eqL q1 (SM.eqR q2 (SM.inl ⟨nI_s1 k, nI_s1 k, rfl, rfl⟩))
    · rintro ⟨a1, a2⟩ ⟨b1, b2⟩ ⟨rfl, rfl, rfl, rfl⟩
      have yl : nI x < nI (x + 1) := by rw [nI_lt_iff' (by omega) (by omega)]; omega
      exact SM.gL g1 (SM.gR g3 (SM.tL yl (SM.tR yl (SM.inr ⟨rfl, rfl⟩))))
    · rintro _ _ ⟨rfl, rfl⟩
      exact SM.inl ⟨nI_s1 i, nI_s1 i, agr_cut ha hW.2 _ _ _ (by omega), okY_cut hW.2 ho (by omega) hxW hyH n1 n2, fun k hk hk2 => (cut_hi _ _ _ (by omega) hk _ (by omega)).trans (hh k hk hk2)⟩
  · rintro ⟨v1, v2⟩ ⟨w1, w2⟩ ⟨rfl, rfl, ha, ho, hh⟩
    exact SM.tL (yle (by omega)) (SM.tR (yle (by omega)) (SM.inr ⟨ha, ho, hh⟩))
theorem log_0 {rows f : Nat → Int32} (hf : ∀ k, 324 ≤ k → k < 486 → f k = 0) : logR 0 rows f 0 := ⟨rfl, hf 325 (by omega) (by omega), hf 324 (by omega) (by omega), fun i w hi => by omega⟩
theorem told4 {q Se T : Nat → Int32} (h : ∀ k, k < 4 → q k = Se k) : OK (e_loop (fun (v5 : Int32 × (Nat → Int32)) => (
        if 4 ≤ v5.1 then
          some (.inr v5.2)
        else
          e_g (e_in v5.1 4) (
          e_g (e_in v5.1 4) (
          some (.inl (v5.1 + 1, upd v5.2 (tn v5.1) (Se (tn v5.1)))))) : Option ((Int32 × (Nat → Int32)) ⊕ ((Nat → Int32))))) e_fuel (0, T)) (fun z => z = va_cpy q T (tn 0) (tn 0) (tn 4) ∧ ∀ k, k < 4 → z k = Se k) := by
  refine OK.loop (fun i v => v.1 = nI i ∧ ∀ k, v.2 k = if k < i then Se k else T k) 4 (by omega) ⟨rfl, fun k => rfl⟩ ?_ ?_
  · rintro i ⟨v1, v2⟩ hi ⟨rfl, hv⟩
    have g : e_in (nI i) 4 = true := ein_nI hi (by omega)
    simp only at hv ⊢
    refine OK.f (by rw [z4]; exact nle hi (by omega)) (OK.g g (OK.g g (OK.inl ⟨nI_s1 i, fun k => ?_⟩)))
    rw [tn_nI (by omega)]
    simp only [upd]
    by_cases e : k = i
    · rw [if_pos e, if_pos (by omega), e]
    · rw [if_neg e, hv k]
      by_cases e2 : k < i
      · rw [if_pos e2, if_pos (by omega)]
      · rw [if_neg e2, if_neg (by omega)]
  · rintro ⟨v1, v2⟩ ⟨rfl, hv⟩
    simp only at hv
    refine OK.t (yle (n := 4) (by omega)) (OK.inr ⟨?_, fun k hk => (hv k).trans (if_pos hk)⟩)
    funext k
    show v2 k = _
    rw [hv k]
    have t4 : tn 4 = 4 := tn_nI (k := 4) (by omega)
    have t0 : tn 0 = 0 := rfl
    unfold va_cpy
    rw [t4, t0]
    by_cases e : k < 4
    · rw [if_pos e, if_pos (by omega), ← h k e]
      congr 1
      omega
    · rw [if_neg e, if_neg (by omega)]
theorem zero_ok (f : Nat → Int32) : OK (e_loop (fun (v10 : Int32 × (Nat → Int32)) => (
        if 486 ≤ v10.1 then
          some (.inr v10.2)
        else
          e_g (e_in v10.1 486) (
          some (.inl (v10.1 + 1, upd v10.2 (tn v10.1) 0))) : Option ((Int32 × (Nat → Int32)) ⊕ ((Nat → Int32))))) e_fuel (0, f)) (fun z => ∀ k, k < 486 → z k = 0) := by
  refine OK.loop (fun i v => v.1 = nI i ∧ ∀ k, k < i → v.2 k = 0) 486 (by omega) ⟨rfl, fun k hk => by omega⟩ ?_ ?_
  · rintro i ⟨v1, v2⟩ hi ⟨rfl, hv⟩
    simp only at hv ⊢
    refine OK.f (by rw [show (486 : Int32) = nI 486 from rfl]; exact nle hi (by omega)) (OK.g (ein_nI hi (by omega)) (OK.inl ⟨nI_s1 i, fun k hk => ?_⟩))
    rw [tn_nI (by omega)]
    simp only [upd]
    by_cases e : k = i
    · rw [if_pos e]
    · rw [if_neg e]; exact hv k (by omega)
  · rintro ⟨v1, v2⟩ ⟨rfl, hv⟩
    exact OK.t (yle (n := 486) (by omega)) (OK.inr hv)
