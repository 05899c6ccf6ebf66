/-! ===== the law's helper core ===== -/
def hhC : List (Nat × Nat × Nat × Nat) := [(0, 10, 13, 13)]
def ML_core : eM := (yL_core, cL_core, 5, some .int, 7, 160)
def e_wsH (M : eM) (hh : List (Nat × Nat × Nat × Nat)) : List Cond := Cond.codeWith (e_y M) (e_cc M) (e_nL M) (e_rt M) hh :: e_tb
def eSemH (G : eG) (l : Launch) (M : eM) (hh : List (Nat × Nat × Nat × Nat)) (As : List Value) (h : Nat → eO) (nx mc ms : Nat) (post : Option Value → (Nat → eO) → Nat → Prop) : Prop :=
  vx_Met l (e_y M) (e_wsH M hh) (e_rm M mc ms) (e_PcX G As h nx) (e_QcB G post) (fun _ _ _ => False) mc ms (e_A G)
def eFqH (G : eG) (X : eX) (mc ms : Nat) (post : Option Value → (Nat → eO) → Nat → Prop) : Prop := x_Q X = vx_MQ (x_b X) (e_QcB G post) (fun _ _ _ => False) (x_a X) (x_s X) mc ms (e_A G)
section SEMH
variable {G : eG} {M : eM} {X : eX} {pc nx c sl : Nat} {L : List (Option Value)} {h : Nat → eO} {l : List (Nat × eO)} {As : List Value} {mc ms : Nat} {hh : List (Nat × Nat × Nat × Nat)} {post : Option Value → (Nat → eO) → Nat → Prop}
theorem eSemH.of {la : Launch} {k : Nat} (hw : plainName (e_y M).cls = true) (hL : e_en As ++ List.replicate k none = L) (hlen : L.length = e_nL M)
    (body : ∀ X : eX, eFx G M X → x_l X = la → eFqH G X mc ms post → (x_c X).exceptionTable.toList = tableOf hh → e_TU G (x_a X) (x_s X) (x_s X).heap → (x_R X).cells = mc → (x_R X).slots = ms → eRun G X 0 L [] h [] nx 0 0) : eSemH G la M hh As h nx mc ms post := by
  refine vx_ofWH (cc := e_cc M) (maxL := e_nL M) (ret := e_rt M) (hh := hh) hw rfl ?_
  intro p e s m args below meth c s₁ B hml hv
  obtain ⟨⟨rfl, hR, hK, hZ⟩, hU⟩ := hv
  have hts := atoms_spec (ws := e_wsH M hh) B.pre
  have hT : c.exceptionTable.toList = tableOf hh := vx_table (x := e_y M) B (hts _ List.mem_cons_self)
  have F : eFx G M (p, la, e, (headSpec (e_wsH M hh) (e_rm M mc ms)).room, s, m, (As.map (e_tr G)).toArray, below, meth, c, vx_MQ below (e_QcB G post) (fun _ _ _ => False) (As.map (e_tr G)).toArray s mc ms (e_A G)) :=
    ⟨B.exec, B.bytes, hml, findClass_of_methodNamed B.named, fun w hw => hts w (List.mem_cons_of_mem _ hw), hK, hZ, (name_of_methodNamed B.named B.method).1, B.returns, B.notSynchronized, rfl, rfl, by show e_S0 G ≤ s.heap.size; rw [hR.1]; exact Nat.le_add_right _ _⟩
  have hle : (lg_sl (As.map (e_tr G))).length ≤ e_nL M := by
    rw [← e_en_len As G, ← hlen, ← hL]
    simp
  have hl := lv_entry (As.map (e_tr G)) (n := e_nL M) hle
  rw [lg_entry_eq]
  refine body _ F rfl rfl hT hU rfl rfl s.heap [] _ hR va_S.rf ?_
  show lv_has _ L.length (e_pairs G L 0)
  rw [hlen, ← hL, e_en_args]
  exact hl
theorem r_iretH (F : eFx G M X) (hq : eFqH G X mc ms post) {v : Int32} (hd : decode (e_cc M) pc = .ok (.ireturn, 1)) (hr : e_rt M = some .int) (hc : c ≤ mc) (hs : sl ≤ ms) (hp : post (some (.int v)) (e_up h l) nx) : eRun G X pc L [.int v] h l nx c sl := by
  intro H locs ls hR hS hL
  unfold eW
  rw [hq]
  refine W.widen hc hs (vx_ret ?_)
  exact W.iret F.1 F.2.1 (F.2.2.2.2.2.2.2.2.1.trans hr) (fun t ht hW => ⟨⟨some (.int v), e_up h l, nx, rfl, hp, by rw [ht]; exact hR⟩, hS.F ht⟩) hS.2.2 hd F.2.2.2.2.2.2.2.2.2.1
end SEMH
theorem kkL_13 : Cond.classLink RL 13 nse ∈ e_tb := e_sub (ws := [Cond.classLink RL 13 nse]) (by decide +kernel) _ List.mem_cons_self
