/-! ===== the rows of a method that may throw ===== -/
def eSemX (G : eG) (l : Launch) (M : eM) (As : List Value) (h : Nat → eO) (nx mc ms : Nat) (thr : Prop) (post : Option Value → (Nat → eO) → Nat → Prop) : Prop :=
  vx_Met l (e_y M) (e_ws M) (e_rm M mc ms) (e_PcX G As h nx) (e_QcB G post) (e_XC G thr h nx) mc ms (e_A G)
def eFqX (G : eG) (X : eX) (mc ms : Nat) (thr : Prop) (h0 : Nat → eO) (nx0 : Nat) (post : Option Value → (Nat → eO) → Nat → Prop) : Prop := x_Q X = vx_MQ (x_b X) (e_QcB G post) (e_XC G thr h0 nx0) (x_a X) (x_s X) mc ms (e_A G)
section SEMX
variable {G : eG} {M M2 : eM} {X : eX} {pc nx c sl : Nat} {L : List (Option Value)} {S S0 : List Value} {h h0 : Nat → eO} {l : List (Nat × eO)} {As : List Value} {mc ms n nx0 : Nat} {thr : Prop} {post : Option Value → (Nat → eO) → Nat → Prop}
theorem eSemX.of {la : Launch} {k : Nat} (hw : plainName (e_y M).cls = true) (hL : e_en As ++ List.replicate k none = L) (hlen : L.length = e_nL M)
    (body : ∀ X : eX, eFx G M X → x_l X = la → eFqX G X mc ms thr h nx post → (∀ x ∈ (x_c X).exceptionTable.toList, False) → e_TU G (x_a X) (x_s X) (x_s X).heap → (x_R X).cells = mc → (x_R X).slots = ms → eRun G X 0 L [] h [] nx 0 0) : eSemX G la M As h nx mc ms thr post := by
  refine vx_ofW (cc := e_cc M) (maxL := e_nL M) (ret := e_rt M) hw rfl ?_
  intro p e s m args below meth c s₁ B hml hT hv
  obtain ⟨⟨rfl, hR, hK, hZ⟩, hU⟩ := hv
  have hts := atoms_spec (ws := e_ws M) B.pre
  have F : eFx G M (p, la, e, (headSpec (e_ws M) (e_rm M mc ms)).room, s, m, (As.map (e_tr G)).toArray, below, meth, c, vx_MQ below (e_QcB G post) (e_XC G thr h nx) (As.map (e_tr G)).toArray s mc ms (e_A G)) :=
    ⟨B.exec, B.bytes, hml, findClass_of_methodNamed B.named, fun w hw => hts w (List.mem_cons_of_mem _ hw), hK, hZ, (name_of_methodNamed B.named B.method).1, B.returns, B.notSynchronized, rfl, rfl, by show e_S0 G ≤ s.heap.size; rw [hR.1]; exact Nat.le_add_right _ _⟩
  have hle : (lg_sl (As.map (e_tr G))).length ≤ e_nL M := by
    rw [← e_en_len As G, ← hlen, ← hL]
    simp
  have hl := lv_entry (As.map (e_tr G)) (n := e_nL M) hle
  rw [lg_entry_eq]
  refine body _ F rfl rfl hT hU rfl rfl s.heap [] _ hR va_S.rf ?_
  show lv_has _ L.length (e_pairs G L 0)
  rw [hlen, ← hL, e_en_args]
  exact hl
theorem r_iretX (F : eFx G M X) (hq : eFqX G X mc ms thr h0 nx0 post) {v : Int32} (hd : decode (e_cc M) pc = .ok (.ireturn, 1)) (hr : e_rt M = some .int) (hc : c ≤ mc) (hs : sl ≤ ms) (hp : post (some (.int v)) (e_up h l) nx) : eRun G X pc L [.int v] h l nx c sl := by
  intro H locs ls hR hS hL
  unfold eW
  rw [hq]
  refine W.widen hc hs (vx_ret ?_)
  exact W.iret F.1 F.2.1 (F.2.2.2.2.2.2.2.2.1.trans hr) (fun t ht hW => ⟨⟨some (.int v), e_up h l, nx, rfl, hp, by rw [ht]; exact hR⟩, hS.F ht⟩) hS.2.2 hd F.2.2.2.2.2.2.2.2.2.1
theorem r_throwN {pc : Nat} (hM : (e_y M).cls = RX11) (F : eFx G M X) (hq : eFqX G X mc ms thr h0 nx post) (hT : ∀ x ∈ (x_c X).exceptionTable.toList, False) (hU : e_TU G (x_a X) (x_s X) (x_s X).heap) (hl : (x_l X).stackTraces = false) (hth : thr) (he : e_up h l = h0)
    (d0 : decode (e_cc M) pc = .ok (.new 171, 3)) (d3 : decode (e_cc M) (pc + 3) = .ok (.dup, 1)) (d4 : decode (e_cc M) (pc + 4) = .ok (.invokespecial 173, 3)) (d7 : decode (e_cc M) (pc + 7) = .ok (.athrow, 1))
    (hL0 : L.length = e_nL M) (hfr : 5 < e_fr M) (hlo : 81 ≤ e_lo M) (hc : c + 1 ≤ mc) (hs : sl + 6 ≤ ms) (hcR : (x_R X).cells = mc) (hsR : (x_R X).slots = ms) : eRun G X pc L [] h l nx c sl := by
  intro H locs ls hR hS hL
  unfold eW
  rw [hq]
  have own := F.2.2.2.1
  rw [hM] at own
  refine vx_throw0 (cc := e_cc M) (own := RX11) (cls := nse) (names := nsN) (ik := 171) (ic := 173) (A := e_A G) F.1 F.2.1 hl own (by decide) (by decide) (F.2.2.2.2.1 _ k_nse) (F.2.2.2.2.1 _ k_nsi) (fun w hw => ?_) thr_good hU.2.1 hU.2.2 hS ((hL.1.trans hL0).trans F.2.2.1.symm) d0 d3 d4 d7 (fun x hx => (hT x hx).elim) ?_ ?_ (by rw [hcR]; exact hc) (by rw [hsR]; exact hs) F.2.2.2.2.2.2.2.2.2.1 (fun t ht hz hk => ?_) hS.2.2 hc hs
  · rcases thr_words w hw with q | q
    · exact F.2.2.2.2.1 _ q
    · exact hU.1 _ q
  · rw [F.2.2.2.2.2.2.2.2.2.2.1]; exact hfr
  · rw [F.2.2.2.2.2.2.2.2.2.2.2.1]; exact hlo
  · refine ⟨rfl, hth, ⟨nx + (t.heap.size - H.size), Nat.le_add_right _ _, ?_⟩, ?_⟩
    · rw [← he]
      exact hR.junk hz hk
    · exact ⟨Nat.le_trans hS.1 hz, fun q g1 g2 => (hk q (Nat.lt_of_lt_of_le g1 hS.1)).trans (hS.2.1 q g1 g2)⟩
end SEMX
