/-! ===== a call of a static method with a table, which doesn't throw ===== -/
def e_msH (M : eM) (hh : List (Nat × Nat × Nat × Nat)) (n : Nat) : Prop := Cond.codeWith (e_y M) (e_cc M) (e_nL M) (e_rt M) hh ∈ e_tb ∧ Cond.initialized (e_y M).cls ∈ e_tb ∧ ((e_y M).cls ≠ "java/lang/invoke/MethodHandle" ∧ (e_y M).cls ≠ "java/lang/invoke/VarHandle") ∧ (parseMethodDescriptor (e_y M).desc).map (fun d => d.parameters.length) = some n ∧ Cond.static (e_y M) ∈ e_tb
theorem e_goodH {M : eM} {hh : List (Nat × Nat × Nat × Nat)} (hc : Cond.codeWith (e_y M) (e_cc M) (e_nL M) (e_rt M) hh ∈ e_tb) : GoodIn e_tb (e_wsH M hh) := by
  have key : ∀ w ∈ e_tb, w ∈ e_tb ∧ ((w.onTables && w.keeps) = true ∨ ∃ ty, w = .arrayClass ty) := fun w hw => ⟨hw, good_of_word (List.mem_filter.mp hw).2⟩
  intro w hw
  rcases List.mem_cons.mp hw with rfl | hw
  · exact key _ hc
  · exact key _ hw
section CALLH
variable {G : eG} {M M2 : eM} {X : eX} {pc nx c sl : Nat} {L : List (Option Value)} {S S0 : List Value} {h : Nat → eO} {l : List (Nat × eO)} {As : List Value} {mc ms n : Nat} {hh : List (Nat × Nat × Nat × Nat)} {post : Option Value → (Nat → eO) → Nat → Prop}
theorem r_callSH (F : eFx G M X) (hU : e_TU G (x_a X) (x_s X) (x_s X).heap) {idx : Nat} (hd : decode (e_cc M) pc = .ok (.invokestatic idx, 3)) (hk : e_lk (e_y M).cls idx M2) (hm : e_msH M2 hh n) (hsem : eSemH G (x_l X) M2 hh As (e_up h l) nx mc ms post) (hn : As.length = n) (hL0 : L.length = e_nL M) (hS0 : S = As.reverse ++ S0) (hcat : e_cat S0 ≤ 8) (hfr : e_fr M2 + 1 ≤ e_fr M) (hlo : 19 + e_nL M2 + e_lo M2 ≤ e_lo M)
    (hc : c + mc ≤ (x_R X).cells) (hs : sl + ms ≤ (x_R X).slots)
    (kk : ∀ (r : Option Value) (h' : Nat → eO) (nx' : Nat), post r h' nx' → eRun G X (pc + 3) L (r.toList ++ S0) h' [] nx' (c + mc) (sl + ms)) : eRun G X pc L S h l nx c sl := by
  intro H locs ls hR hS hL
  subst hS0
  have hts := F.2.2.2.2.1
  have pre := e_pre (As := As) F hR hS
  have cw : vx_CSW (x_R X) (x_s X) (x_a X) (e_y M).cls idx (e_y M2) (e_cc M2) (e_nL M2) (e_rt M2) hh (e_wsH M2 hh) (e_rm M2 mc ms) mc ms n := by
    refine ⟨⟨rfl, rfl, ?_, ?_, pay_in hts (e_goodH hm.1), List.mem_cons_self⟩, hts _ hm.1, hts _ hm.2.1, hm.2.2.1, e_hlen hm.2.2.2.1, hts _ hk, hts _ hm.2.2.2.2⟩
    · rw [F.2.2.2.2.2.2.2.2.2.2.1]; exact hfr
    · rw [F.2.2.2.2.2.2.2.2.2.2.2.1]
      show 8 + (e_nL M2 + 11) + e_lo M2 ≤ _
      omega
  have hr := vx_runSX (p := x_p X) (e := x_e X) (R := x_R X) (below := x_b X) (meth := x_t X) (locs := locs) (cells := c) (slots := sl) (g := F0 (x_m X) pc ls ((As.reverse ++ S0).map (e_tr G))) (As := As.map (e_tr G)) (rest := S0.map (e_tr G)) (e_fix F) hsem cw ⟨e_PcX_blind G _ _ _, fun U hUh hW => ⟨pre U hUh hW, by rw [hUh]; exact e_TU.moved hW.alike (hU.kept hS.2.1)⟩⟩ rfl (by simpa using hn) (hL.1.trans hL0) (by simp [List.map_reverse]) (e_rest hcat) hd ⟨hc, hs⟩
  intro T hT Y
  rcases hr T hT Y with ⟨v, st₀, t, T', L9, h0, Y', hL9, e1, e2, ⟨⟨r, h', nx', hv, hp, hR'⟩, hz, hq⟩, st⟩ | ⟨q, st₀, t, T', L9, E, ce, h0, Y', hL9, e1, e2, hF, hce, hcv, hcl, st⟩
  · cases hv
    rw [h0] at hz hq
    have hS' : va_S (e_A G) (x_s X).heap t.heap (locs ++ L9) := by
      refine ⟨Nat.le_trans hS.1 hz, fun q g1 g2 => ?_, fun q hq => ?_⟩
      · rw [hq q (Nat.lt_of_lt_of_le g1 hS.1) g2]
        exact hS.2.1 q g1 g2
      · rcases List.mem_append.mp hq with z | z
        · exact hS.2.2 q z
        · exact hL9 q z
    obtain ⟨t2, a1, b1⟩ := kk r h' nx' hp t.heap (locs ++ L9) ls hR' hS' hL T' e1 Y'
    refine ⟨t2, st t2 ?_, b1⟩
    have e : (r.toList ++ S0).map (e_tr G) = (r.map (e_tr G)).toList ++ S0.map (e_tr G) := by cases r <;> simp
    rw [e] at a1
    exact a1
  · exact hF.elim
end CALLH
theorem lkL_43 : e_lk RL 43 ML_core := e_sub (ws := [Cond.methodLink RL 43 yL_core]) (by decide +kernel) _ List.mem_cons_self
theorem mL_core : e_msH ML_core hhC 4 := ⟨e_sub (ws := [Cond.codeWith yL_core cL_core 5 (some .int) hhC]) (by decide +kernel) _ List.mem_cons_self, e_sub (ws := [Cond.initialized RL]) (by decide +kernel) _ List.mem_cons_self, ⟨by decide, by decide⟩, by decide +kernel, e_sub (ws := [Cond.static yL_core]) (by decide +kernel) _ List.mem_cons_self⟩
