/-! ===== the helper's contract ===== -/
set_option maxRecDepth 100000 in
theorem tL_core {G : eG} (hG : e_GS G) {la : Launch} (hsT : la.stackTraces = false) {h : Nat → eO} {nx : Nat} (hnx : 99 ≤ nx) {a32_8 a32_10 : Bool} {a42_0 : Int32} {A43 A44 A53 : Nat → Int32} {out : Nat → Int64} {p0 p1 : Int32} (h32 : h 32 = o32 a32_8 a32_10) (h39 : h 39 = o39) (h42 : h 42 = o42 a42_0) (h43 : h 43 = o43 A43) (h44 : h 44 = o44 A44) (h53 : h 53 = o53 A53) (h98 : h 98 = o98 out) {R9 : Int32} (hf : ¬ cThr a42_0 p0 p1 → cCore a42_0 A43 A44 A53 p0 p1 = some R9) :
    eSemH G la ML_core hhC [.ref 32, .int p0, .int p1, .ref 98] h nx 1 6 (fun r h9 nx9 => (¬ cThr a42_0 p0 p1 ∧ r = some (.int 0) ∧ h9 = e_up h [(98, o98 (vp_updL out (tn 0) R9.toInt64))] ∧ nx9 = nx) ∨ (cThr a42_0 p0 p1 ∧ r = some (.int 1) ∧ h9 = e_jk h nx ∧ nx ≤ nx9)) := by
  refine eSemH.of (k := 1) (L := [some (.ref 32), some (.int p0), some (.int p1), some (.ref 98), none]) (by decide +kernel) rfl rfl (fun X F hxl hq htb hU hcR hsR => ?_)
  subst hxl
  refine r_aload_n F dL_core_0 rfl ?_
  refine r_iconst F dL_core_1 (v := 0) (by decide) ?_
  refine r_aload_n F dL_core_2 rfl ?_
  refine r_iload_n F dL_core_3 rfl ?_
  refine r_iload_n F dL_core_4 rfl ?_
  refine r_callVX F hU dL_core_5 (b := 32) (As := [.int p0, .int p1]) (S0 := [.int 0, .ref 98]) lkL_7x mX11_coreX (tX11_core_32 hG hsT hnx h32 h39 h42 h43 h44 h53 hf) rfl rfl rfl (e_le rfl) (e_le rfl) (e_le rfl) h32 (ci := 11) e_cl11.1 rfl (e_le rfl) (e_lt hnx rfl) (by rw [hcR]; exact e_le rfl) (by rw [hsR]; exact e_le rfl) ?_ ?_
  · intro hth nx' H locs ls q ce hn hR hS hL hce hcv hcl
    refine vx_catch (own := RL) (name := nse) (E := nse) F.2.2.2.1 [] ⟨0, 10, 13, 13⟩ [] htb (fun z hz => by cases hz) (by decide) (by decide) (F.2.2.2.2.1 _ kkL_13) (hU.1 _ (by simp [thrW])) hce hcv hcl ?_
    refine lv_astore (pc := 13) (i := 4) F.1 F.2.1 dL_core_13 hL (e_le rfl) rfl (fun ls1 hl1 => ?_)
    have k : eRun G X 15 [some (.ref 32), some (.int p0), some (.int p1), some (.ref 98), none] [] (e_jk h nx) [] nx' (0 + 1) (0 + 6) := by
      refine r_iconst F dL_core_15 (v := 1) (by decide) ?_
      exact r_iretH F hq dL_core_16 rfl (e_le rfl) (e_le rfl) (Or.inr ⟨hth, rfl, rfl, hn⟩)
    refine k H locs ls1 hR hS ?_
    refine ⟨hl1.1, hl1.2.1, fun z hz => hl1.2.2 z (List.mem_cons_of_mem _ (List.mem_filter.mpr ⟨hz, ?_⟩))⟩
    simp only [e_pairs, List.mem_cons, List.not_mem_nil, or_false] at hz
    rcases hz with rfl | rfl | rfl | rfl <;> rfl
  · rintro r h1 nx1 ⟨no, rfl, rfl, rfl⟩
    refine r_i2l F dL_core_8 ?_
    refine r_last F dL_core_9 h98 (e_le rfl) (e_lt hnx rfl) (e_vp (by decide)) rfl ?_
    refine r_goto F dL_core_10 (tgt := 17) (by decide) ?_
    refine r_iconst F dL_core_17 (v := 0) (by decide) ?_
    exact r_iretH F hq dL_core_18 rfl (e_le rfl) (e_le rfl) (Or.inl ⟨no, rfl, rfl, rfl⟩)
