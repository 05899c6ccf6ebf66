/-! ===== the law's loop ===== -/
theorem and31 (x : Int32) : ∃ j : Nat, j < 32 ∧ (x &&& 31).toInt = (j : Int) := by
  have h : (x &&& 31).toBitVec.toNat ≤ 31 := by
    rw [Int32.toBitVec_and, BitVec.toNat_and]
    exact Nat.and_le_right
  refine ⟨(x &&& 31).toBitVec.toNat, by omega, ?_⟩
  show (x &&& 31).toBitVec.toInt = _
  exact BitVec.toInt_eq_toNat_of_lt (by omega)
def coreC (G : eG) (X : eX) (N : Nat) : Prop := ∀ {h : Nat → eO} {nx k c sl : Nat} {i : Int32} {v5 v6 : Option Value}, k < 512 → vp_in (i + 1) N → vp_in (i + 2) N → LwS k h nx → (∃ f, h 98 = o98 f) → c + 60 ≤ (x_R X).cells → sl + 9740 ≤ (x_R X).slots → (∀ h1 nx1 c1 s1 w5 w6, LwS (k + 1) h1 nx1 → (∃ f, h1 98 = o98 f) → c1 ≤ c + 60 → s1 ≤ sl + 9740 → eRun G X 1339 (LL i w5 w6) [] h1 [] nx1 c1 s1) → eRun G X 333 (LL i v5 v6) [] h [] nx c sl
set_option maxRecDepth 100000 in
theorem law_loop {G : eG} {X : eX} {N : Nat} {xs : Nat → Int32} (F : eFx G ML_law X) (hG : e_GS G) (hN : e_stat G 5 = some (.int, N, xs)) (hNb : N ≤ 3072) (hcore : coreC G X N) {c0 s0 : Nat} (hc0 : c0 + 60 * 512 ≤ (x_R X).cells) (hs0 : s0 + 9740 * 512 ≤ (x_R X).slots) (fin : ∀ L h nx c sl, c ≤ (x_R X).cells → sl ≤ (x_R X).slots → eRun G X 1345 L [] h [] nx c sl) :
    ∀ (m k : Nat) (h : Nat → eO) (nx c sl : Nat) (v5 v6 : Option Value), k + m = 512 → LwS k h nx → (∃ f, h 98 = o98 f) → c ≤ c0 + 60 * k → sl ≤ s0 + 9740 * k → eRun G X 23 (LL (nI (6 * k)) v5 v6) [] h [] nx c sl := by
  intro m
  induction m with
  | zero =>
    intro k h nx c sl v5 v6 hm hs h98 hc hsl
    refine r_iload F dL_law_23 rfl ?_
    refine r_aload_n F dL_law_25 rfl ?_
    refine r_alenS F dL_law_26 hN (v := nI N) rfl ?_
    refine r_bipush F dL_law_27 (v := 6) (by decide) ?_
    refine r_isub F dL_law_29 ?_
    refine r_icmp_gt_t F dL_law_30 (tgt := 1345) (by decide) ?_ (fin _ _ _ _ _ (by omega) (by omega))
    have e : (nI N - 6).toInt = (N : Int) - 6 := by
      have := ti_sub (a := nI N) (b := 6) (by rw [nI_ti _ (by omega), show (6 : Int32).toInt = 6 from rfl]; omega) (by rw [nI_ti _ (by omega), show (6 : Int32).toInt = 6 from rfl]; omega)
      rw [this, nI_ti _ (by omega), show (6 : Int32).toInt = 6 from rfl]
    rw [lt_i, e, nI_ti _ (by omega)]
    omega
  | succ m ih =>
    intro k h nx c sl v5 v6 hm hs h98 hc hsl
    have hk : k < 512 := by omega
    have e : (nI N - 6).toInt = (N : Int) - 6 := by
      have := ti_sub (a := nI N) (b := 6) (by rw [nI_ti _ (by omega), show (6 : Int32).toInt = 6 from rfl]; omega) (by rw [nI_ti _ (by omega), show (6 : Int32).toInt = 6 from rfl]; omega)
      rw [this, nI_ti _ (by omega), show (6 : Int32).toInt = 6 from rfl]
    refine r_iload F dL_law_23 rfl ?_
    refine r_aload_n F dL_law_25 rfl ?_
    refine r_alenS F dL_law_26 hN (v := nI N) rfl ?_
    refine r_bipush F dL_law_27 (v := 6) (by decide) ?_
    refine r_isub F dL_law_29 ?_
    by_cases hle : 6 * k + 6 ≤ N
    · refine r_icmp_gt_f F dL_law_30 (tgt := 1345) (by decide) (by rw [lt_i, e, nI_ti _ (by omega)]; omega) ?_
      have inn : ∀ j : Nat, j < 6 → vp_in (nI (6 * k + j)) N := fun j hj => e_vp (ein_nI (by omega) (by omega))
      have i0 : vp_in (nI (6 * k)) N := inn 0 (by omega)
      have i1 : vp_in (nI (6 * k) + 1) N := by rw [z1, nI_add]; exact inn 1 (by omega)
      have i2 : vp_in (nI (6 * k) + 2) N := by rw [z2, nI_add]; exact inn 2 (by omega)
      have i3 : vp_in (nI (6 * k) + 3) N := by rw [show (3 : Int32) = nI 3 from rfl, nI_add]; exact inn 3 (by omega)
      have i4 : vp_in (nI (6 * k) + 4) N := by rw [z4, nI_add]; exact inn 4 (by omega)
      have i5 : vp_in (nI (6 * k) + 5) N := by rw [show (5 : Int32) = nI 5 from rfl, nI_add]; exact inn 5 (by omega)
      refine r_aload_n F dL_law_33 rfl ?_
      refine r_iload F dL_law_34 rfl ?_
      refine r_ialdS F dL_law_36 hN i0 ?_
      refine r_bipush F dL_law_37 (v := 31) (by decide) ?_
      refine r_iand F dL_law_39 ?_
      have next : ∀ h1 nx1 c1 s1 w5 w6, LwS (k + 1) h1 nx1 → (∃ f, h1 98 = o98 f) → c1 ≤ c + 60 → s1 ≤ sl + 9740 → eRun G X 1339 (LL (nI (6 * k)) w5 w6) [] h1 [] nx1 c1 s1 := by
        intro h1 nx1 c1 s1 w5 w6 q1 q2 q3 q4
        refine r_inc F dL_law_1339 (k9 := 6) (by decide) rfl (L' := LL (nI (6 * k) + 6) w5 w6) rfl ?_
        refine r_goto F dL_law_1342 (tgt := 23) (by decide) ?_
        rw [show (6 : Int32) = nI 6 from rfl, nI_add, show 6 * k + 6 = 6 * (k + 1) by omega]
        exact ih (k + 1) h1 nx1 c1 s1 w5 w6 (by omega) q1 q2 (by omega) (by omega)
      obtain ⟨j, hj, ej⟩ := and31 (xs (nI (6 * k)).toNatClampNeg)
      rcases (show j = 0 ∨ j = 1 ∨ j = 2 ∨ j = 3 ∨ j = 4 ∨ j = 5 ∨ j = 6 ∨ j = 7 ∨ j = 8 ∨ j = 9 ∨ j = 10 ∨ j = 11 ∨ j = 12 ∨ j = 13 ∨ j = 14 ∨ j = 15 ∨ j = 16 ∨ j = 17 ∨ j = 18 ∨ j = 19 ∨ j = 20 ∨ j = 21 ∨ j = 22 ∨ j = 23 ∨ j = 24 ∨ j = 25 ∨ j = 26 ∨ j = 27 ∨ j = 28 ∨ j = 29 ∨ j = 30 ∨ j = 31 by omega) with rfl | rfl | rfl | rfl | rfl | rfl | rfl | rfl | rfl | rfl | rfl | rfl | rfl | rfl | rfl | rfl | rfl | rfl | rfl | rfl | rfl | rfl | rfl | rfl | rfl | rfl | rfl | rfl | rfl | rfl | rfl | rfl
      · exact r_tsIn F dL_law_40 (off := 144) (tgt := 184) (by rw [ej]; decide) (by rw [ej]; decide) (by rw [ej]; rfl) (by decide) (law_feed F hG hk hN i1 i2 i3 i4 i5 hs (by omega) (by omega) (fun h1 nx1 c1 s1 q1 q2 q3 q4 => next h1 nx1 c1 s1 v5 v6 q1 (by rw [q2]; exact h98) q3 q4))
      · exact r_tsIn F dL_law_40 (off := 217) (tgt := 257) (by rw [ej]; decide) (by rw [ej]; decide) (by rw [ej]; rfl) (by decide) (law_end F hG hk hN i1 i2 i3 i4 i5 hs (by omega) (by omega) (fun h1 nx1 c1 s1 q1 q2 q3 q4 => next h1 nx1 c1 s1 v5 v6 q1 (by rw [q2]; exact h98) q3 q4))
      · exact r_tsIn F dL_law_40 (off := 242) (tgt := 282) (by rw [ej]; decide) (by rw [ej]; decide) (by rw [ej]; rfl) (by decide) (law_fault F hG hk hN i1 i2 i3 i4 i5 hs (by omega) (by omega) (fun h1 nx1 c1 s1 q1 q2 q3 q4 => next h1 nx1 c1 s1 v5 v6 q1 (by rw [q2]; exact h98) q3 q4))
      · exact r_tsIn F dL_law_40 (off := 255) (tgt := 295) (by rw [ej]; decide) (by rw [ej]; decide) (by rw [ej]; rfl) (by decide) (law_text F hG hk hN i1 i2 i3 i4 i5 hs (by omega) (by omega) (fun h1 nx1 c1 s1 q1 q2 q3 q4 => next h1 nx1 c1 s1 v5 v6 q1 (by rw [q2]; exact h98) q3 q4))
      · exact r_tsIn F dL_law_40 (off := 268) (tgt := 308) (by rw [ej]; decide) (by rw [ej]; decide) (by rw [ej]; rfl) (by decide) (law_rule F hG hk hN i1 i2 i3 i4 i5 hs (by omega) (by omega) (fun h1 nx1 c1 s1 q1 q2 q3 q4 => next h1 nx1 c1 s1 v5 v6 q1 (by rw [q2]; exact h98) q3 q4))
      · exact r_tsIn F dL_law_40 (off := 293) (tgt := 333) (by rw [ej]; decide) (by rw [ej]; decide) (by rw [ej]; rfl) (by decide) (hcore hk i1 i2 hs h98 (by omega) (by omega) (fun h1 nx1 c1 s1 w5 w6 q1 q2 q3 q4 => next h1 nx1 c1 s1 w5 w6 q1 q2 q3 q4))
      · exact r_tsIn F dL_law_40 (off := 361) (tgt := 401) (by rw [ej]; decide) (by rw [ej]; decide) (by rw [ej]; rfl) (by decide) (law_face F hG hk hN i1 i2 i3 i4 i5 hs (by omega) (by omega) (fun h1 nx1 c1 s1 q1 q2 q3 q4 => next h1 nx1 c1 s1 v5 v6 q1 (by rw [q2]; exact h98) q3 q4))
      · exact r_tsIn F dL_law_40 (off := 410) (tgt := 450) (by rw [ej]; decide) (by rw [ej]; decide) (by rw [ej]; rfl) (by decide) (law_link F hG hk hN i1 i2 i3 i4 i5 hs (by omega) (by omega) (fun h1 nx1 c1 s1 q1 q2 q3 q4 => next h1 nx1 c1 s1 v5 v6 q1 (by rw [q2]; exact h98) q3 q4))
      · exact r_tsIn F dL_law_40 (off := 487) (tgt := 527) (by rw [ej]; decide) (by rw [ej]; decide) (by rw [ej]; rfl) (by decide) (law_box F hG hk hN i1 i2 i3 i4 i5 hs (by omega) (by omega) (fun h1 nx1 c1 s1 q1 q2 q3 q4 => next h1 nx1 c1 s1 v5 v6 q1 (by rw [q2]; exact h98) q3 q4))
      · exact r_tsIn F dL_law_40 (off := 560) (tgt := 600) (by rw [ej]; decide) (by rw [ej]; decide) (by rw [ej]; rfl) (by decide) (law_halved F hG hk hN i1 i2 i3 i4 i5 hs (by omega) (by omega) (fun h1 nx1 c1 s1 q1 q2 q3 q4 => next h1 nx1 c1 s1 v5 v6 q1 (by rw [q2]; exact h98) q3 q4))
      · exact r_tsIn F dL_law_40 (off := 597) (tgt := 637) (by rw [ej]; decide) (by rw [ej]; decide) (by rw [ej]; rfl) (by decide) (law_path F hG hk hN i1 i2 i3 i4 i5 hs (by omega) (by omega) (fun h1 nx1 c1 s1 q1 q2 q3 q4 => next h1 nx1 c1 s1 v5 v6 q1 (by rw [q2]; exact h98) q3 q4))
      · exact r_tsIn F dL_law_40 (off := 634) (tgt := 674) (by rw [ej]; decide) (by rw [ej]; decide) (by rw [ej]; rfl) (by decide) (law_gone F hG hk hN i1 i2 i3 i4 i5 hs (by omega) (by omega) (fun h1 nx1 c1 s1 q1 q2 q3 q4 => next h1 nx1 c1 s1 v5 v6 q1 (by rw [q2]; exact h98) q3 q4))
      · exact r_tsIn F dL_law_40 (off := 659) (tgt := 699) (by rw [ej]; decide) (by rw [ej]; decide) (by rw [ej]; rfl) (by decide) (law_move F hG hk hN i1 i2 i3 i4 i5 hs (by omega) (by omega) (fun h1 nx1 c1 s1 q1 q2 q3 q4 => next h1 nx1 c1 s1 v5 v6 q1 (by rw [q2]; exact h98) q3 q4))
      · exact r_tsIn F dL_law_40 (off := 720) (tgt := 760) (by rw [ej]; decide) (by rw [ej]; decide) (by rw [ej]; rfl) (by decide) (law_go F hG hk hN i1 i2 i3 i4 i5 hs (by omega) (by omega) (fun h1 nx1 c1 s1 q1 q2 q3 q4 => next h1 nx1 c1 s1 v5 v6 q1 (by rw [q2]; exact h98) q3 q4))
      · exact r_tsIn F dL_law_40 (off := 745) (tgt := 785) (by rw [ej]; decide) (by rw [ej]; decide) (by rw [ej]; rfl) (by decide) (law_log F hG hk hN i1 i2 i3 i4 i5 hs (by omega) (by omega) (fun h1 nx1 c1 s1 q1 q2 q3 q4 => next h1 nx1 c1 s1 v5 v6 q1 (by rw [q2]; exact h98) q3 q4))
      · exact r_tsIn F dL_law_40 (off := 782) (tgt := 822) (by rw [ej]; decide) (by rw [ej]; decide) (by rw [ej]; rfl) (by decide) (law_shift F hG hk hN i1 i2 i3 i4 i5 hs (by omega) (by omega) (fun h1 nx1 c1 s1 q1 q2 q3 q4 => next h1 nx1 c1 s1 v5 v6 q1 (by rw [q2]; exact h98) q3 q4))
      · exact r_tsIn F dL_law_40 (off := 843) (tgt := 883) (by rw [ej]; decide) (by rw [ej]; decide) (by rw [ej]; rfl) (by decide) (law_shake F hG hk hN i1 i2 i3 i4 i5 hs (by omega) (by omega) (fun h1 nx1 c1 s1 q1 q2 q3 q4 => next h1 nx1 c1 s1 v5 v6 q1 (by rw [q2]; exact h98) q3 q4))
      · exact r_tsIn F dL_law_40 (off := 912) (tgt := 952) (by rw [ej]; decide) (by rw [ej]; decide) (by rw [ej]; rfl) (by decide) (law_set F hG hk hN i1 i2 i3 i4 i5 hs (by omega) (by omega) (fun h1 nx1 c1 s1 q1 q2 q3 q4 => next h1 nx1 c1 s1 v5 v6 q1 (by rw [q2]; exact h98) q3 q4))
      · exact r_tsIn F dL_law_40 (off := 949) (tgt := 989) (by rw [ej]; decide) (by rw [ej]; decide) (by rw [ej]; rfl) (by decide) (law_wall F hG hk hN i1 i2 i3 i4 i5 hs (by omega) (by omega) (fun h1 nx1 c1 s1 q1 q2 q3 q4 => next h1 nx1 c1 s1 v5 v6 q1 (by rw [q2]; exact h98) q3 q4))
      · exact r_tsIn F dL_law_40 (off := 986) (tgt := 1026) (by rw [ej]; decide) (by rw [ej]; decide) (by rw [ej]; rfl) (by decide) (law_rid F hG hk hN i1 i2 i3 i4 i5 hs (by omega) (by omega) (fun h1 nx1 c1 s1 q1 q2 q3 q4 => next h1 nx1 c1 s1 v5 v6 q1 (by rw [q2]; exact h98) q3 q4))
      · exact r_tsIn F dL_law_40 (off := 1011) (tgt := 1051) (by rw [ej]; decide) (by rw [ej]; decide) (by rw [ej]; rfl) (by decide) (law_meets F hG hk hN i1 i2 i3 i4 i5 hs (by omega) (by omega) (fun h1 nx1 c1 s1 q1 q2 q3 q4 => next h1 nx1 c1 s1 v5 v6 q1 (by rw [q2]; exact h98) q3 q4))
      · exact r_tsIn F dL_law_40 (off := 1048) (tgt := 1088) (by rw [ej]; decide) (by rw [ej]; decide) (by rw [ej]; rfl) (by decide) (law_ahead F hG hk hN i1 i2 i3 i4 i5 hs (by omega) (by omega) (fun h1 nx1 c1 s1 q1 q2 q3 q4 => next h1 nx1 c1 s1 v5 v6 q1 (by rw [q2]; exact h98) q3 q4))
      · exact r_tsIn F dL_law_40 (off := 1085) (tgt := 1125) (by rw [ej]; decide) (by rw [ej]; decide) (by rw [ej]; rfl) (by decide) (law_rests F hG hk hN i1 i2 i3 i4 i5 hs (by omega) (by omega) (fun h1 nx1 c1 s1 q1 q2 q3 q4 => next h1 nx1 c1 s1 v5 v6 q1 (by rw [q2]; exact h98) q3 q4))
      · exact r_tsIn F dL_law_40 (off := 1098) (tgt := 1138) (by rw [ej]; decide) (by rw [ej]; decide) (by rw [ej]; rfl) (by decide) (law_layer F hG hk hN i1 i2 i3 i4 i5 hs (by omega) (by omega) (fun h1 nx1 c1 s1 q1 q2 q3 q4 => next h1 nx1 c1 s1 v5 v6 q1 (by rw [q2]; exact h98) q3 q4))
      · exact r_tsIn F dL_law_40 (off := 1135) (tgt := 1175) (by rw [ej]; decide) (by rw [ej]; decide) (by rw [ej]; rfl) (by decide) (law_line F hG hk hN i1 i2 i3 i4 i5 hs (by omega) (by omega) (fun h1 nx1 c1 s1 q1 q2 q3 q4 => next h1 nx1 c1 s1 v5 v6 q1 (by rw [q2]; exact h98) q3 q4))
      · exact r_tsIn F dL_law_40 (off := 1172) (tgt := 1212) (by rw [ej]; decide) (by rw [ej]; decide) (by rw [ej]; rfl) (by decide) (law_stills F hG hk hN i1 i2 i3 i4 i5 hs (by omega) (by omega) (fun h1 nx1 c1 s1 q1 q2 q3 q4 => next h1 nx1 c1 s1 v5 v6 q1 (by rw [q2]; exact h98) q3 q4))
      · exact r_tsIn F dL_law_40 (off := 1185) (tgt := 1225) (by rw [ej]; decide) (by rw [ej]; decide) (by rw [ej]; rfl) (by decide) (law_undo F hG hk hN i1 i2 i3 i4 i5 hs (by omega) (by omega) (fun h1 nx1 c1 s1 q1 q2 q3 q4 => next h1 nx1 c1 s1 v5 v6 q1 (by rw [q2]; exact h98) q3 q4))
      · exact r_tsIn F dL_law_40 (off := 1198) (tgt := 1238) (by rw [ej]; decide) (by rw [ej]; decide) (by rw [ej]; rfl) (by decide) (law_image F hG hk hN i1 i2 i3 i4 i5 hs (by omega) (by omega) (fun h1 nx1 c1 s1 q1 q2 q3 q4 => next h1 nx1 c1 s1 v5 v6 q1 (by rw [q2]; exact h98) q3 q4))
      · exact r_tsIn F dL_law_40 (off := 1211) (tgt := 1251) (by rw [ej]; decide) (by rw [ej]; decide) (by rw [ej]; rfl) (by decide) (law_back F hG hk hN i1 i2 i3 i4 i5 hs (by omega) (by omega) (fun h1 nx1 c1 s1 q1 q2 q3 q4 => next h1 nx1 c1 s1 v5 v6 q1 (by rw [q2]; exact h98) q3 q4))
      · exact r_tsIn F dL_law_40 (off := 1224) (tgt := 1264) (by rw [ej]; decide) (by rw [ej]; decide) (by rw [ej]; rfl) (by decide) (law_status F hG hk hN i1 i2 i3 i4 i5 hs (by omega) (by omega) (fun h1 nx1 c1 s1 q1 q2 q3 q4 => next h1 nx1 c1 s1 v5 v6 q1 (by rw [q2]; exact h98) q3 q4))
      · exact r_tsIn F dL_law_40 (off := 1249) (tgt := 1289) (by rw [ej]; decide) (by rw [ej]; decide) (by rw [ej]; rfl) (by decide) (law_most F hG hk hN i1 i2 i3 i4 i5 hs (by omega) (by omega) (fun h1 nx1 c1 s1 q1 q2 q3 q4 => next h1 nx1 c1 s1 v5 v6 q1 (by rw [q2]; exact h98) q3 q4))
      · exact r_tsIn F dL_law_40 (off := 1274) (tgt := 1314) (by rw [ej]; decide) (by rw [ej]; decide) (by rw [ej]; rfl) (by decide) (law_count F hG hk hN i1 i2 i3 i4 i5 hs (by omega) (by omega) (fun h1 nx1 c1 s1 q1 q2 q3 q4 => next h1 nx1 c1 s1 v5 v6 q1 (by rw [q2]; exact h98) q3 q4))
    · refine r_icmp_gt_t F dL_law_30 (tgt := 1345) (by decide) ?_ (fin _ _ _ _ _ (by omega) (by omega))
      rw [lt_i, e, nI_ti _ (by omega)]
      omega
