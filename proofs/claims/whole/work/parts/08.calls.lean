/-! ===== calls and returns ===== -/
def e_me (M : eM) (n : Nat) : Prop := Cond.code (e_y M) (e_cc M) (e_nL M) (e_rt M) ∈ e_tb ∧ Cond.initialized (e_y M).cls ∈ e_tb ∧ ((e_y M).cls ≠ "java/lang/invoke/MethodHandle" ∧ (e_y M).cls ≠ "java/lang/invoke/VarHandle") ∧ (parseMethodDescriptor (e_y M).desc).map (fun d => d.parameters.length) = some n
def e_mv (M : eM) (n : Nat) : Prop := e_me M n ∧ Cond.instanceMethod (e_y M) ∈ e_tb ∧ Cond.selects (e_y M).cls (e_y M) (e_y M) ∈ e_tb
def e_ms (M : eM) (n : Nat) : Prop := e_me M n ∧ Cond.static (e_y M) ∈ e_tb
def e_mi (M : eM) (n : Nat) : Prop := e_me M n ∧ Cond.instanceMethod (e_y M) ∈ e_tb ∧ (e_y M).name = "<init>" ∧ e_rt M = none
def e_lk (own : String) (idx : Nat) (M : eM) : Prop := Cond.methodLink own idx (e_y M) ∈ e_tb
def e_lkN (own : String) (idx : Nat) (M : eM) : Prop := ∃ host, (own, idx, e_y M, host) ∈ e_nm
theorem e_hlen {d : String} {n : Nat} (h : (parseMethodDescriptor d).map (fun d => d.parameters.length) = some n) : ∀ sig, parseMethodDescriptor d = some sig → n = sig.parameters.length := by
  intro sig hs
  rw [hs] at h
  exact (Option.some.inj h).symm
section CALLS
variable {G : eG} {M M2 : eM} {X : eX} {pc nx c sl : Nat} {L : List (Option Value)} {S S0 : List Value} {h : Nat → eO} {l : List (Nat × eO)} {As : List Value} {dc ds n : Nat} {post : Option Value → (Nat → eO) → Prop}
/-- what a callee's start asks, out of the caller's state -/
theorem e_pre (F : eFx G M X) {H : Heap} {locs : List Loc} (hR : e_Rep G (e_up h l) nx H) (hS : va_S (e_A G) (x_s X).heap H locs) : ∀ U : State, U.heap = H → (x_s X).WarmedH U.vm → e_Pc G As (e_up h l) nx (As.map (e_tr G)).toArray U :=
  fun U hU hW => ⟨rfl, by rw [hU]; exact hR, va_K.moved hW.alike F.2.2.2.2.2.1, e_Z.warm hW (by rw [hU]; exact e_Z.kept hS.2.1 F.2.2.2.2.2.2.1)⟩
theorem e_run {H : Heap} {locs : List Loc} {ls : Array Slot} {st0 : List Value} {a : Array Value} (hr : va_Run (x_p X) (x_l X) (x_e X) (x_R X) (x_s X) (x_m X) (x_a X) (x_b X) (x_t X) (x_c X) H locs c sl dc ds (F0 (x_m X) pc ls st0) (S0.map (e_tr G)) (e_Qc G (nx + dc) post a) (e_A G)) (hS : va_S (e_A G) (x_s X).heap H locs) (hL : e_L G L ls)
    (kk : ∀ (r : Option Value) (h' : Nat → eO), post r h' → eRun G X (pc + 3) L (r.toList ++ S0) h' [] (nx + dc) (c + dc) (sl + ds)) : eW X H locs c sl (F0 (x_m X) pc ls st0) := by
  intro T hT Y
  obtain ⟨v, st₀, t, T', L9, h0, Y', hL9, e1, e2, ⟨⟨r, h', hv, hp, hR'⟩, hz, hk⟩, st⟩ := hr T hT Y
  cases hv
  rw [h0] at hz hk
  have hS' : va_S (e_A G) (x_s X).heap t.heap (locs ++ L9) := by
    refine ⟨Nat.le_trans hS.1 hz, fun q g1 g2 => ?_, fun q hq => ?_⟩
    · rw [hk q (Nat.lt_of_lt_of_le g1 hS.1) g2]
      exact hS.2.1 q g1 g2
    · rcases List.mem_append.mp hq with z | z
      · exact hS.2.2 q z
      · exact hL9 q z
  obtain ⟨t2, a1, b1⟩ := kk r h' hp t.heap (locs ++ L9) ls hR' hS' hL T' e1 Y'
  refine ⟨t2, st t2 ?_, b1⟩
  have e : (r.toList ++ S0).map (e_tr G) = (r.map (e_tr G)).toList ++ S0.map (e_tr G) := by cases r <;> simp
  rw [e] at a1
  exact a1
theorem e_cb (F : eFx G M X) (hm : e_me M2 n) {own : String} {idx : Nat} (hl : Cond.methodLink own idx (e_y M2) ∈ e_tb) (h1 : e_fr M2 + 1 ≤ e_fr M) (h2 : 19 + e_nL M2 + e_lo M2 ≤ e_lo M) : CallB (x_R X) (x_s X) (x_a X) own idx (e_y M2) (e_cc M2) (e_nL M2) (e_rt M2) (e_ws M2) (e_rm M2 dc ds) dc ds n := by
  have hts := F.2.2.2.2.1
  refine ⟨rfl, rfl, ?_, ?_, pay_in hts (e_tb_good (fun _ z => z) hm.1), List.mem_cons_self, hts _ hm.1, hts _ hm.2.1, hm.2.2.1, e_hlen hm.2.2.2, hts _ hl⟩
  · rw [F.2.2.2.2.2.2.2.2.2.2.1]; exact h1
  · rw [F.2.2.2.2.2.2.2.2.2.2.2.1]
    show 8 + (e_nL M2 + 11) + e_lo M2 ≤ _
    omega
theorem e_cbN (F : eFx G M X) (hm : e_me M2 n) {own host : String} {idx : Nat} (hl : (own, idx, e_y M2, host) ∈ e_nm) (h1 : e_fr M2 + 1 ≤ e_fr M) (h2 : 19 + e_nL M2 + e_lo M2 ≤ e_lo M) : va_CN (x_R X) (x_s X) (x_a X) own idx (e_y M2) host (e_cc M2) (e_nL M2) (e_rt M2) (e_ws M2) (e_rm M2 dc ds) dc ds n := by
  have hts := F.2.2.2.2.1
  refine ⟨⟨rfl, rfl, ?_, ?_, pay_in hts (e_tb_good (fun _ z => z) hm.1), List.mem_cons_self⟩, hts _ hm.1, hts _ hm.2.1, hm.2.2.1, e_hlen hm.2.2.2, va_Nw.use rfl (F.2.2.2.2.2.2.1.2.2.2.2.2.1 _ hl)⟩
  · rw [F.2.2.2.2.2.2.2.2.2.2.1]; exact h1
  · rw [F.2.2.2.2.2.2.2.2.2.2.2.1]
    show 8 + (e_nL M2 + 11) + e_lo M2 ≤ _
    omega
theorem e_fix (F : eFx G M X) : CallFix (x_p X) (x_m X) (x_c X) (e_cc M) (e_nL M) (x_s X) (x_a X) e_tb (e_y M).cls := ⟨F.1, F.2.1, F.2.2.1, F.2.2.2.1, F.2.2.2.2.1⟩
def e_cat (S : List Value) : Nat := (S.map fun v => v.category).sum
theorem e_rest {S : List Value} {m : MethodId} {ls : Array Slot} {st : List Value} (h : e_cat S ≤ 8) : 2 * (F0 m pc ls st).monitorRoom + ((S.map (e_tr G)).map fun v => v.category).sum ≤ 8 := by
  have e : ((S.map (e_tr G)).map fun v => v.category).sum = e_cat S := by
    unfold e_cat
    rw [List.map_map]
    congr 1
    apply List.map_congr_left
    intro v _
    exact e_tr_cat G v
  show 2 * 0 + _ ≤ 8
  rw [e]
  omega
theorem r_callV (F : eFx G M X) {idx b ci : Nat} {fs : List Value} (hd : decode (e_cc M) pc = .ok (.invokevirtual idx, 3)) (hk : e_lk (e_y M).cls idx M2) (hm : e_mv M2 n) (hsem : eSem G (x_l X) M2 (.ref b :: As) (e_up h l) nx dc ds post) (hn : As.length = n) (hL0 : L.length = e_nL M) (hS0 : S = As.reverse ++ .ref b :: S0) (hcat : e_cat S0 ≤ 8) (hfr : e_fr M2 + 1 ≤ e_fr M) (hlo : 19 + e_nL M2 + e_lo M2 ≤ e_lo M)
    (ho : e_up h l b = .inr (ci, fs)) (hci : vwCl[ci]? = some (e_cT ci)) (hcn : (e_cT ci).1 = (e_y M2).cls) (h1 : 32 ≤ b) (h2 : b < nx) (hc : c + dc ≤ (x_R X).cells) (hs : sl + ds ≤ (x_R X).slots)
    (kk : ∀ (r : Option Value) (h' : Nat → eO), post r h' → eRun G X (pc + 3) L (r.toList ++ S0) h' [] (nx + dc) (c + dc) (sl + ds)) : eRun G X pc L S h l nx c sl := by
  intro H locs ls hR hS hL
  subst hS0
  have hrec := va_recv F.2.2.2.2.2.1 (e_one (hR.get h1 h2 ho (e_okC hci))) hci (a := e_ad G b) (q0 := 0) (fs := fs.map (e_tr G)) rfl
  rw [hcn] at hrec
  refine e_run (post := post) (dc := dc) (ds := ds) (S0 := S0) (va_runV (b := e_ad G b) (As := As.map (e_tr G)) (rest := S0.map (e_tr G)) (e_fix F) hsem ⟨e_cb F hm.1 hk hfr hlo, F.2.2.2.2.1 _ hm.2.1, F.2.2.2.2.1 _ hm.2.2⟩ ⟨e_Pc_blind G _ _ _, hrec, ?_⟩ rfl (by simpa using hn) (hL.1.trans hL0) (by simp [e_tr, List.map_reverse]) (e_rest hcat) hd ⟨hc, hs⟩) hS hL kk
  have := e_pre (As := .ref b :: As) F hR hS
  exact this
theorem r_callVN (F : eFx G M X) {idx b ci : Nat} {fs : List Value} (hd : decode (e_cc M) pc = .ok (.invokevirtual idx, 3)) (hk : e_lkN (e_y M).cls idx M2) (hm : e_mv M2 n) (hsem : eSem G (x_l X) M2 (.ref b :: As) (e_up h l) nx dc ds post) (hn : As.length = n) (hL0 : L.length = e_nL M) (hS0 : S = As.reverse ++ .ref b :: S0) (hcat : e_cat S0 ≤ 8) (hfr : e_fr M2 + 1 ≤ e_fr M) (hlo : 19 + e_nL M2 + e_lo M2 ≤ e_lo M)
    (ho : e_up h l b = .inr (ci, fs)) (hci : vwCl[ci]? = some (e_cT ci)) (hcn : (e_cT ci).1 = (e_y M2).cls) (h1 : 32 ≤ b) (h2 : b < nx) (hc : c + dc ≤ (x_R X).cells) (hs : sl + ds ≤ (x_R X).slots)
    (kk : ∀ (r : Option Value) (h' : Nat → eO), post r h' → eRun G X (pc + 3) L (r.toList ++ S0) h' [] (nx + dc) (c + dc) (sl + ds)) : eRun G X pc L S h l nx c sl := by
  intro H locs ls hR hS hL
  subst hS0
  obtain ⟨host, hk⟩ := hk
  have hrec := va_recv F.2.2.2.2.2.1 (e_one (hR.get h1 h2 ho (e_okC hci))) hci (a := e_ad G b) (q0 := 0) (fs := fs.map (e_tr G)) rfl
  rw [hcn] at hrec
  refine e_run (post := post) (dc := dc) (ds := ds) (S0 := S0) (va_runVN (b := e_ad G b) (As := As.map (e_tr G)) (rest := S0.map (e_tr G)) (e_fix F) hsem ⟨e_cbN F hm.1 hk hfr hlo, F.2.2.2.2.1 _ hm.2.1, F.2.2.2.2.1 _ hm.2.2⟩ ⟨e_Pc_blind G _ _ _, hrec, ?_⟩ rfl (by simpa using hn) (hL.1.trans hL0) (by simp [e_tr, List.map_reverse]) (e_rest hcat) hd ⟨hc, hs⟩) hS hL kk
  have := e_pre (As := .ref b :: As) F hR hS
  exact this
/-- a String constant's method -/
theorem r_callT (F : eFx G M X) {idx i : Nat} (hd : decode (e_cc M) pc = .ok (.invokevirtual idx, 3)) (hk : e_lk (e_y M).cls idx M2) (hm : e_mv M2 n) (hsem : eSem G (x_l X) M2 (.ref (8 + i) :: As) (e_up h l) nx dc ds post) (hn : As.length = n) (hL0 : L.length = e_nL M) (hS0 : S = As.reverse ++ .ref (8 + i) :: S0) (hcat : e_cat S0 ≤ 8) (hfr : e_fr M2 + 1 ≤ e_fr M) (hlo : 19 + e_nL M2 + e_lo M2 ≤ e_lo M)
    (hcn : "java/lang/String" = (e_y M2).cls) (hi : i < 5) (hc : c + dc ≤ (x_R X).cells) (hs : sl + ds ≤ (x_R X).slots)
    (kk : ∀ (r : Option Value) (h' : Nat → eO), post r h' → eRun G X (pc + 3) L (r.toList ++ S0) h' [] (nx + dc) (c + dc) (sl + ds)) : eRun G X pc L S h l nx c sl := by
  intro H locs ls hR hS hL
  subst hS0
  obtain ⟨cell, t1, t2, t3, -⟩ := (F.2.2.2.2.2.2.1.2.2.1 i hi).1.kept hS.2.1
  rw [hcn] at t3
  refine e_run (post := post) (dc := dc) (ds := ds) (S0 := S0) (va_runV (b := e_ad G (8 + i)) (As := As.map (e_tr G)) (rest := S0.map (e_tr G)) (e_fix F) hsem ⟨e_cb F hm.1 hk hfr hlo, F.2.2.2.2.1 _ hm.2.1, F.2.2.2.2.1 _ hm.2.2⟩ ⟨e_Pc_blind G _ _ _, ⟨cell, t1, t2, t3⟩, ?_⟩ rfl (by simpa using hn) (hL.1.trans hL0) (by simp [e_tr, List.map_reverse]) (e_rest hcat) hd ⟨hc, hs⟩) hS hL kk
  have := e_pre (As := .ref (8 + i) :: As) F hR hS
  exact this
theorem r_callS (F : eFx G M X) {idx : Nat} (hd : decode (e_cc M) pc = .ok (.invokestatic idx, 3)) (hk : e_lk (e_y M).cls idx M2) (hm : e_ms M2 n) (hsem : eSem G (x_l X) M2 As (e_up h l) nx dc ds post) (hn : As.length = n) (hL0 : L.length = e_nL M) (hS0 : S = As.reverse ++ S0) (hcat : e_cat S0 ≤ 8) (hfr : e_fr M2 + 1 ≤ e_fr M) (hlo : 19 + e_nL M2 + e_lo M2 ≤ e_lo M)
    (hc : c + dc ≤ (x_R X).cells) (hs : sl + ds ≤ (x_R X).slots)
    (kk : ∀ (r : Option Value) (h' : Nat → eO), post r h' → eRun G X (pc + 3) L (r.toList ++ S0) h' [] (nx + dc) (c + dc) (sl + ds)) : eRun G X pc L S h l nx c sl := by
  intro H locs ls hR hS hL
  subst hS0
  exact e_run (post := post) (dc := dc) (ds := ds) (S0 := S0) (va_runS (As := As.map (e_tr G)) (rest := S0.map (e_tr G)) (e_fix F) hsem ⟨e_cb F hm.1 hk hfr hlo, F.2.2.2.2.1 _ hm.2⟩ ⟨e_Pc_blind G _ _ _, e_pre (As := As) F hR hS⟩ rfl (by simpa using hn) (hL.1.trans hL0) (by simp [List.map_reverse]) (e_rest hcat) hd ⟨hc, hs⟩) hS hL kk
theorem r_callSN (F : eFx G M X) {idx : Nat} (hd : decode (e_cc M) pc = .ok (.invokestatic idx, 3)) (hk : e_lkN (e_y M).cls idx M2) (hm : e_ms M2 n) (hsem : eSem G (x_l X) M2 As (e_up h l) nx dc ds post) (hn : As.length = n) (hL0 : L.length = e_nL M) (hS0 : S = As.reverse ++ S0) (hcat : e_cat S0 ≤ 8) (hfr : e_fr M2 + 1 ≤ e_fr M) (hlo : 19 + e_nL M2 + e_lo M2 ≤ e_lo M)
    (hc : c + dc ≤ (x_R X).cells) (hs : sl + ds ≤ (x_R X).slots)
    (kk : ∀ (r : Option Value) (h' : Nat → eO), post r h' → eRun G X (pc + 3) L (r.toList ++ S0) h' [] (nx + dc) (c + dc) (sl + ds)) : eRun G X pc L S h l nx c sl := by
  intro H locs ls hR hS hL
  subst hS0
  obtain ⟨host, hk⟩ := hk
  exact e_run (post := post) (dc := dc) (ds := ds) (S0 := S0) (va_runSN (As := As.map (e_tr G)) (rest := S0.map (e_tr G)) (e_fix F) hsem ⟨e_cbN F hm.1 hk hfr hlo, F.2.2.2.2.1 _ hm.2, trivial⟩ ⟨e_Pc_blind G _ _ _, e_pre (As := As) F hR hS⟩ rfl (by simpa using hn) (hL.1.trans hL0) (by simp [List.map_reverse]) (e_rest hcat) hd ⟨hc, hs⟩) hS hL kk
theorem r_callI (F : eFx G M X) {idx b : Nat} (hd : decode (e_cc M) pc = .ok (.invokespecial idx, 3)) (hk : e_lk (e_y M).cls idx M2) (hm : e_mi M2 n) (hsem : eSem G (x_l X) M2 (.ref b :: As) (e_up h l) nx dc ds post) (hn : As.length = n) (hL0 : L.length = e_nL M) (hS0 : S = As.reverse ++ .ref b :: S0) (hcat : e_cat S0 ≤ 8) (hfr : e_fr M2 + 1 ≤ e_fr M) (hlo : 19 + e_nL M2 + e_lo M2 ≤ e_lo M)
    (hc : c + dc ≤ (x_R X).cells) (hs : sl + ds ≤ (x_R X).slots)
    (kk : ∀ (r : Option Value) (h' : Nat → eO), post r h' → eRun G X (pc + 3) L (r.toList ++ S0) h' [] (nx + dc) (c + dc) (sl + ds)) : eRun G X pc L S h l nx c sl := by
  intro H locs ls hR hS hL
  subst hS0
  have cb := e_cb (dc := dc) (ds := ds) F hm.1 hk hfr hlo
  rw [hm.2.2.2] at cb
  refine e_run (post := post) (dc := dc) (ds := ds) (S0 := S0) (va_runI (b := e_ad G b) (As := As.map (e_tr G)) (rest := S0.map (e_tr G)) (e_fix F) hsem ⟨cb, hm.2.2.1, F.2.2.2.2.1 _ hm.2.1⟩ ⟨e_Pc_blind G _ _ _, ?_⟩ rfl (by simpa using hn) (hL.1.trans hL0) (by simp [e_tr, List.map_reverse]) (e_rest hcat) hd ⟨hc, hs⟩) hS hL kk
  have := e_pre (As := .ref b :: As) F hR hS
  exact this
theorem r_callIN (F : eFx G M X) {idx b : Nat} (hd : decode (e_cc M) pc = .ok (.invokespecial idx, 3)) (hk : e_lkN (e_y M).cls idx M2) (hm : e_mi M2 n) (hsem : eSem G (x_l X) M2 (.ref b :: As) (e_up h l) nx dc ds post) (hn : As.length = n) (hL0 : L.length = e_nL M) (hS0 : S = As.reverse ++ .ref b :: S0) (hcat : e_cat S0 ≤ 8) (hfr : e_fr M2 + 1 ≤ e_fr M) (hlo : 19 + e_nL M2 + e_lo M2 ≤ e_lo M)
    (hc : c + dc ≤ (x_R X).cells) (hs : sl + ds ≤ (x_R X).slots)
    (kk : ∀ (r : Option Value) (h' : Nat → eO), post r h' → eRun G X (pc + 3) L (r.toList ++ S0) h' [] (nx + dc) (c + dc) (sl + ds)) : eRun G X pc L S h l nx c sl := by
  intro H locs ls hR hS hL
  subst hS0
  obtain ⟨host, hk⟩ := hk
  have cb := e_cbN (dc := dc) (ds := ds) F hm.1 hk hfr hlo
  rw [hm.2.2.2] at cb
  refine e_run (post := post) (dc := dc) (ds := ds) (S0 := S0) (va_runIN (b := e_ad G b) (As := As.map (e_tr G)) (rest := S0.map (e_tr G)) (e_fix F) hsem ⟨cb, hm.2.2.1, F.2.2.2.2.1 _ hm.2.1⟩ ⟨e_Pc_blind G _ _ _, ?_⟩ rfl (by simpa using hn) (hL.1.trans hL0) (by simp [e_tr, List.map_reverse]) (e_rest hcat) hd ⟨hc, hs⟩) hS hL kk
  have := e_pre (As := .ref b :: As) F hR hS
  exact this
end CALLS
