/-! ===== the law's case of core ===== -/
theorem vp_upd0 {f : Nat → Int64} {v : Int64} : vp_updL f (tn 0) v (0 : Int32).toNatClampNeg = v := by
  show (if _ then _ else _) = _
  exact if_pos rfl
theorem lg_cmp0 {x y : Int64} (h : x = y) : lg_cmp x y = 0 := by
  subst h
  unfold lg_cmp
  rw [if_neg (by simp), if_pos rfl]
set_option maxRecDepth 100000 in
theorem law_core {G : eG} {X : eX} {N : Nat} {xs : Nat → Int32} (F : eFx G ML_law X) (hG : e_GS G) (hsT : (x_l X).stackTraces = false) (hU : e_TU G (x_a X) (x_s X) (x_s X).heap) (hN : e_stat G 5 = some (.int, N, xs)) : coreC G X N := by
  intro h nx k c sl i v5 v6 hk i1 i2 hs h98 hc hsl kk
  obtain ⟨ca, cb, cA, ring, SS, q6, nl, LE, ra, rb, rA, J, hC, hR, hL⟩ := hs
  obtain ⟨out, h98⟩ := h98
  obtain ⟨W, H, n, hW, hH, hWH, ⟨w1, w2, w3, w4⟩, ⟨t1, t2, ht⟩, hnow, hpast, ⟨j1, j2⟩, ⟨k1, k2⟩, hrf, ⟨s1, s2⟩, hnl⟩ := id hL
  have hok := hnow.1.2.1.okL hW hH
  have m40 : 40 * k ≤ 40 * (k + 1) := by omega
  have hnow' : nowR (40 * (k + 1)) W H (cA 41) (cA 55) (cA 43) (cA 44) (ca 54 1) (ca 42 0) (rA 79) := ⟨hnow.1.mono m40, hnow.2⟩
  have hpast' := hpast.mono m40
  have j2' : cb 32 8 = true → sv (40 * (k + 1)) W H (cA 59) (cA 60) (ca 58 2) (rA 97) := fun q => (j2 q).mono m40
  generalize ep0 : xs (i + 1).toNatClampNeg = p0
  generalize ep1 : xs (i + 2).toNatClampNeg = p1
  obtain ⟨z, e2, ez⟩ := core_sm (told := rA 80) (X := rA 81) (Y := rA 82) (Dx := rA 83) (Dy := rA 84) (Fo := rA 85) hW hH hok hnow.2.2 p0 p1 (ra 72 0) (ra 72 29)
  have hlen : (coreL (rA 79) W H).length ≤ 12 := hok.1
  have key : (¬ cThr (ca 42 0) p0 p1 ∧ z.2.1 = 0 ∧ cCore (ca 42 0) (cA 43) (cA 44) (cA 53) p0 p1 = some z.1) ∨ (cThr (ca 42 0) p0 p1 ∧ z.2.1 = 1) := by
    rw [hnow.2.1, s1]
    rcases ez with ⟨i, w, hi, hw, rfl, rfl, hz, hcc⟩ | ⟨ht, hz⟩
    · refine Or.inl ⟨?_, hz, hcc⟩
      unfold cThr
      rw [lt_i, le_i, lt_i, lt_i, c0, nI_ti _ (by omega), nI_ti _ (by omega), nI_ti _ (by omega), show (5 : Int32).toInt = 5 from rfl]
      omega
    · exact Or.inr ⟨ht, hz⟩
  have hf : ¬ cThr (ca 42 0) p0 p1 → cCore (ca 42 0) (cA 43) (cA 44) (cA 53) p0 p1 = some z.1 := by
    rcases key with q | q
    · exact fun _ => q.2.2
    · exact fun no => absurd q.1 no
  have tail : ∀ (h1 : Nat → eO) (nx1 : Nat) (b : Int32) (out1 : Nat → Int64), HC ca cb cA ring SS q6 nl LE h1 nx1 → HR ra rb rA J h1 → h1 98 = o98 out1 → ((b = 0 ∧ z.2.1 = 0 ∧ out1 (0 : Int32).toNatClampNeg = z.1.toInt64) ∨ (b = 1 ∧ z.2.1 = 1)) → eRun G X 350 (LL i v5 v6) [.int b] h1 [] nx1 (c + 1) (sl + 6) := by
    intro h1 nx1 b out1 hC1 hR1 h981 hb
    refine r_istore F dL_law_350 (e_le rfl) (L' := LL i (some (.int b)) v6) rfl ?_
    refine r_aload_n F dL_law_352 rfl ?_
    refine r_aload_n F dL_law_353 rfl ?_
    refine r_iload F dL_law_354 rfl ?_
    refine r_iconst F dL_law_356 (v := 1) (by decide) ?_
    refine r_iadd F dL_law_357 ?_
    refine r_ialdS F dL_law_358 hN i1 ?_
    refine r_aload_n F dL_law_359 rfl ?_
    refine r_iload F dL_law_360 rfl ?_
    refine r_iconst F dL_law_362 (v := 2) (by decide) ?_
    refine r_iadd F dL_law_363 ?_
    refine r_ialdS F dL_law_364 hN i2 ?_
    rw [ep0, ep1]
    refine r_callV F dL_law_365 (b := 72) (dc := 0) (ds := 0) (As := [.int p0, .int p1]) (S0 := []) lkL_48 mX12_core (tX12_core_72 hG (la := x_l X) (h := e_up h1 []) hC1.nx9 hR1.h72 hR1.h79 hR1.h80 hR1.h81 hR1.h82 hR1.h83 hR1.h84 hR1.h85 (R9 := z) (by rw [w3, w4]; exact e2)) rfl rfl rfl (e_le rfl) (e_le rfl) (e_le rfl) hR1.h72 (ci := 12) e_cl12.1 rfl (e_le rfl) (e_lt hC1.nx9 rfl) (by omega) (by omega) (e_k ?_)
    generalize eh2 : e_up (e_up h1 []) _ = h2
    refine r_istore F dL_law_368 (e_le rfl) (L' := LL i (some (.int b)) (some (.int z.1))) rfl ?_
    have hC2 : HC ca cb cA ring SS q6 nl LE h2 (nx1 + 0) := by
      subst eh2
      exact hC1.up (up_r rfl) hC1.nx9 (e_dyn.up rfl hC1.dy)
    have hR2 : HR (ua (ua ra 72 0 z.2.1) 72 29 z.2.2.1) rb (uA (uA (uA (uA (uA rA 81 z.2.2.2.1) 82 z.2.2.2.2.1) 83 z.2.2.2.2.2.1) 84 z.2.2.2.2.2.2.1) 85 z.2.2.2.2.2.2.2) J h2 := by
      subst eh2
      exact ⟨rfl, hR1.h73, hR1.h74, hR1.h75, hR1.h76, hR1.h77, hR1.h78, hR1.h79, hR1.h80, rfl, rfl, rfl, rfl, rfl, hR1.h86, hR1.h87, hR1.h88, hR1.h89, hR1.h90, hR1.h91, hR1.h92, hR1.h93, hR1.h94, hR1.h95, hR1.h96, hR1.h97⟩
    have h982 : h2 98 = o98 out1 := by
      subst eh2
      exact h981
    have hrel : REL (k + 1) ca cb cA ring SS nl (ua (ua ra 72 0 z.2.1) 72 29 z.2.2.1) rb (uA (uA (uA (uA (uA rA 81 z.2.2.2.1) 82 z.2.2.2.2.1) 83 z.2.2.2.2.2.1) 84 z.2.2.2.2.2.2.1) 85 z.2.2.2.2.2.2.2) := ⟨W, H, n, hW, hH, hWH, ⟨w1, w2, w3, w4⟩, ⟨t1, t2, ht⟩, hnow', hpast', ⟨j1, j2'⟩, ⟨k1, k2⟩, hrf, ⟨s1, s2⟩, hnl⟩
    refine r_aload_n F dL_law_370 rfl ?_
    refine r_callV F dL_law_371 (b := 72) (dc := 0) (ds := 0) (As := []) (S0 := []) lkL_49 mX12_thrown (tX12_thrown_72 hG (la := x_l X) (h := e_up h2 []) hC2.nx9 hR2.h72 (R9 := z.2.1) rfl) rfl rfl rfl (e_le rfl) (e_le rfl) (e_le rfl) hR2.h72 (ci := 12) e_cl12.1 rfl (e_le rfl) (e_lt hC2.nx9 rfl) (by omega) (by omega) (e_k ?_)
    refine r_wr0 ?_
    refine r_iload F dL_law_374 rfl ?_
    have hzb : z.2.1 = b := by
      rcases hb with q | q
      · rw [q.1, q.2.1]
      · rw [q.1, q.2]
    refine r_icmp_eq_t F dL_law_376 (tgt := 381) (by decide) hzb ?_
    refine r_iload F dL_law_381 rfl ?_
    have fin : ∀ c1 s1, c1 ≤ c + 60 → s1 ≤ sl + 9740 → eRun G X 398 (LL i (some (.int b)) (some (.int z.1))) [] h2 [] (nx1 + 0 + 0) c1 s1 := by
      intro c1 s1 q1 q2
      refine r_goto F dL_law_398 (tgt := 1339) (by decide) ?_
      exact kk h2 _ c1 s1 _ _ ⟨ca, cb, cA, ring, SS, q6, nl, LE, _, rb, _, J, hC2, hR2, hrel⟩ ⟨out1, h982⟩ q1 q2
    rcases hb with ⟨rfl, hz0, ho⟩ | ⟨rfl, hz1⟩
    · refine r_if_ne_f F dL_law_383 (tgt := 398) (by decide) rfl ?_
      refine r_aload_n F dL_law_386 rfl ?_
      refine r_iconst F dL_law_387 (v := 0) (by decide) ?_
      refine r_lald F dL_law_388 h982 (e_le rfl) (e_lt hC2.nx9 rfl) (e_vp (by decide)) ?_
      refine r_iload F dL_law_389 rfl ?_
      refine r_i2l F dL_law_391 ?_
      refine r_lcmp F dL_law_392 ?_
      refine r_if_eq_t F dL_law_393 (tgt := 398) (by decide) (lg_cmp0 ho) ?_
      exact fin _ _ (by omega) (by omega)
    · refine r_if_ne_t F dL_law_383 (tgt := 398) (by decide) (by decide) ?_
      exact fin _ _ (by omega) (by omega)
  refine r_aload_n F dL_law_333 rfl ?_
  refine r_aload_n F dL_law_334 rfl ?_
  refine r_iload F dL_law_335 rfl ?_
  refine r_iconst F dL_law_337 (v := 1) (by decide) ?_
  refine r_iadd F dL_law_338 ?_
  refine r_ialdS F dL_law_339 hN i1 ?_
  refine r_aload_n F dL_law_340 rfl ?_
  refine r_iload F dL_law_341 rfl ?_
  refine r_iconst F dL_law_343 (v := 2) (by decide) ?_
  refine r_iadd F dL_law_344 ?_
  refine r_ialdS F dL_law_345 hN i2 ?_
  refine r_aload_n F dL_law_346 rfl ?_
  rw [ep0, ep1]
  refine r_callSH F hU dL_law_347 (As := [.ref 32, .int p0, .int p1, .ref 98]) (S0 := []) (mc := 1) (ms := 6) lkL_43 mL_core (tL_core hG hsT hC.nx9 hC.h32 hC.h39 hC.h42 hC.h43 hC.h44 hC.h53 h98 hf) rfl rfl rfl (e_le rfl) (e_le rfl) (e_le rfl) (by omega) (by omega) ?_
  rintro r h1 nx1 (⟨no, rfl, rfl, rfl⟩ | ⟨yes, rfl, rfl, hn⟩)
  · have hz : z.2.1 = 0 := by
      rcases key with q | q
      · exact q.2.1
      · exact absurd q.1 no
    refine tail _ _ 0 (vp_updL out (tn 0) z.1.toInt64) (hC.up (up_r rfl) hC.nx9 (e_dyn.up rfl hC.dy)) ⟨hR.h72, hR.h73, hR.h74, hR.h75, hR.h76, hR.h77, hR.h78, hR.h79, hR.h80, hR.h81, hR.h82, hR.h83, hR.h84, hR.h85, hR.h86, hR.h87, hR.h88, hR.h89, hR.h90, hR.h91, hR.h92, hR.h93, hR.h94, hR.h95, hR.h96, hR.h97⟩ rfl (Or.inl ⟨rfl, hz, vp_upd0⟩)
  · have hz : z.2.1 = 1 := by
      rcases key with q | q
      · exact absurd yes q.1
      · exact q.2
    have n9 := hC.nx9
    exact tail _ _ 1 out (hC.up (fun k hk => e_jk_lo (by omega)) (Nat.le_trans n9 hn) (hC.dy.jk hn)) (hR.up (fun k _ hk => e_jk_lo (by omega))) ((e_jk_lo (by omega)).trans h98) (Or.inr ⟨rfl, hz⟩)
