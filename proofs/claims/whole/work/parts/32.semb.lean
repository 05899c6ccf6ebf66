/-! ===== contracts with a number of new cells that the answer tells ===== -/
theorem e_up_hi {h : Nat → eO} : ∀ (l : List (Nat × eO)) (k : Nat), (∀ p ∈ l, p.1 ≠ k) → e_up h l k = h k := by
  intro l
  induction l with
  | nil => intro k _; rfl
  | cons p l ih =>
    obtain ⟨j, o⟩ := p
    intro k hk
    have h1 : j ≠ k := hk (j, o) List.mem_cons_self
    simp only [e_up, e_bf h1, cond_false]
    exact ih k (fun p hp => hk p (List.mem_cons_of_mem _ hp))
theorem e_dyn.up {h : Nat → eO} {l : List (Nat × eO)} {nx : Nat} {ring : Nat → Option Nat} {SS : eSS} {q6 nl : Nat} {LE : Nat → Int32} (hl : l.all (fun p => Nat.blt p.1 99 && !(Nat.beq p.1 71)) = true) (hd : e_dyn h nx ring SS q6 nl LE) : e_dyn (e_up h l) nx ring SS q6 nl LE := by
  have key : ∀ k, (99 ≤ k ∨ k = 71) → e_up h l k = h k := by
    intro k hk
    refine e_up_hi l k (fun p hp e => ?_)
    have h1 := List.all_eq_true.mp hl p hp
    simp only [Bool.and_eq_true, Bool.not_eq_true'] at h1
    have h2 : p.1 < 99 := Nat.blt_eq.mp h1.1
    rcases hk with hk | hk
    · omega
    · rw [e, hk] at h1
      exact absurd h1.2 (by decide)
  obtain ⟨y1, y2, y3, y4, y5⟩ := hd
  refine ⟨fun j hj q hq => ?_, y2, y3, y4, ?_⟩
  · obtain ⟨z1, z2, z3, z4, z5⟩ := y1 j hj q hq
    exact ⟨z1, z2, (key q (by omega)).trans z3, (key _ (by omega)).trans z4, (key _ (by omega)).trans z5⟩
  · refine (key q6 ?_).trans y5
    rcases y3 with y3 | y3
    · exact Or.inr y3
    · exact Or.inl y3.1
theorem f_rem_le {ring : Nat → Option Nat} {SS : eSS} {next size : Int32} {A41 A55 : Nat → Int32} {tot : Int32} {nx : Nat} {R9 : Int32 × Int32 × (Nat → Option Nat) × eSS × Nat} (h : f_rem ring SS next size A41 A55 tot nx = some R9) : R9.2.2.2.2 ≤ 1 := by
  unfold f_rem at h
  obtain ⟨s, -, h⟩ := e_bd h
  obtain ⟨-, h⟩ := e_gd h
  obtain ⟨m, -, h⟩ := e_bd h
  cases hr : ring (tn s) with
  | some q =>
    rw [hr] at h
    obtain rfl := Option.some.inj h
    exact Nat.zero_le _
  | none =>
    rw [hr] at h
    obtain rfl := Option.some.inj h
    exact Nat.le_refl _
theorem e_frm {h hB : Nat → eO} {l : List (Nat × eO)} {WL : List Nat} (fr : ∀ k, k < 99 → k ≠ 56 → k ≠ 57 → hB k = h k) (hl : l.all (fun p => WL.contains p.1) = true) (h56 : WL.contains 56 = true) (h57 : WL.contains 57 = true) : ∀ k, k < 99 → WL.contains k = false → e_up hB l k = h k := by
  intro k hk hw
  rw [e_up_hi l k]
  · exact fr k hk (fun e => by rw [e] at hw; rw [hw] at h56; cases h56) (fun e => by rw [e] at hw; rw [hw] at h57; cases h57)
  · intro p hp e
    have h1 := List.all_eq_true.mp hl p hp
    rw [e, hw] at h1
    cases h1
def e_QcB (G : eG) (post : Option Value → (Nat → eO) → Nat → Prop) : Array Value → State → Outcome → State → Prop := fun _ st oc t =>
  (∃ (r : Option Value) (h' : Nat → eO) (nx' : Nat), oc = .returned (r.map (e_tr G)) ∧ post r h' nx' ∧ e_Rep G h' nx' t.heap) ∧ va_F (e_A G) st t
def eSemB (G : eG) (l : Launch) (M : eM) (As : List Value) (h : Nat → eO) (nx mc ms : Nat) (post : Option Value → (Nat → eO) → Nat → Prop) : Prop :=
  Met l (e_y M) (e_ws M) (e_rm M mc ms) (e_Pc G As h nx) (e_QcB G post) mc ms (e_A G)
def eFqB (G : eG) (X : eX) (mc ms : Nat) (post : Option Value → (Nat → eO) → Nat → Prop) : Prop := x_Q X = MQ (x_b X) (e_QcB G post) (x_a X) (x_s X) mc ms (e_A G)
section SEMB
variable {G : eG} {M M2 : eM} {X : eX} {pc nx c sl : Nat} {L : List (Option Value)} {S S0 : List Value} {h : Nat → eO} {l : List (Nat × eO)} {As : List Value} {mc ms n : Nat} {post : Option Value → (Nat → eO) → Nat → Prop}
theorem eSemB.of {la : Launch} {k : Nat} (hw : plainFor (e_y M) = true) (hL : e_en As ++ List.replicate k none = L) (hlen : L.length = e_nL M)
    (body : ∀ X : eX, eFx G M X → x_l X = la → eFqB G X mc ms post → (x_R X).cells = mc → (x_R X).slots = ms → eRun G X 0 L [] h [] nx 0 0) : eSemB G la M As h nx mc ms post := by
  refine e_ofW (cc := e_cc M) (maxL := e_nL M) (ret := e_rt M) hw rfl ?_
  intro p e s m args below meth c s₁ B hml hv
  obtain ⟨rfl, hR, hK, hZ⟩ := hv
  have hts := atoms_spec (ws := e_ws M) B.pre
  have F : eFx G M (p, la, e, (headSpec (e_ws M) (e_rm M mc ms)).room, s, m, (As.map (e_tr G)).toArray, below, meth, c, MQ below (e_QcB G post) (As.map (e_tr G)).toArray s mc ms (e_A G)) :=
    ⟨B.exec, B.bytes, hml, findClass_of_methodNamed B.named, fun w hw => hts w (List.mem_cons_of_mem _ hw), hK, hZ, (name_of_methodNamed B.named B.method).1, B.returns, B.notSynchronized, rfl, rfl, by show e_S0 G ≤ s.heap.size; rw [hR.1]; exact Nat.le_add_right _ _⟩
  have hle : (lg_sl (As.map (e_tr G))).length ≤ e_nL M := by
    rw [← e_en_len As G, ← hlen, ← hL]
    simp
  have hl := lv_entry (As.map (e_tr G)) (n := e_nL M) hle
  rw [lg_entry_eq]
  refine body _ F rfl rfl rfl rfl s.heap [] _ hR va_S.rf ?_
  show lv_has _ L.length (e_pairs G L 0)
  rw [hlen, ← hL, e_en_args]
  exact hl
theorem r_iretB (F : eFx G M X) (hq : eFqB G X mc ms post) {v : Int32} (hd : decode (e_cc M) pc = .ok (.ireturn, 1)) (hr : e_rt M = some .int) (hc : c ≤ mc) (hs : sl ≤ ms) (hp : post (some (.int v)) (e_up h l) nx) : eRun G X pc L [.int v] h l nx c sl := by
  intro H locs ls hR hS hL
  unfold eW
  rw [hq]
  refine W.widen hc hs ?_
  exact W.iret F.1 F.2.1 (F.2.2.2.2.2.2.2.2.1.trans hr) (fun t ht hW => ⟨⟨some (.int v), e_up h l, nx, rfl, hp, by rw [ht]; exact hR⟩, hS.F ht⟩) hS.2.2 hd F.2.2.2.2.2.2.2.2.2.1
theorem r_vretB (F : eFx G M X) (hq : eFqB G X mc ms post) (hd : decode (e_cc M) pc = .ok (.return_, 1)) (hr : e_rt M = none) (hc : c ≤ mc) (hs : sl ≤ ms) (hp : post none (e_up h l) nx) : eRun G X pc L [] h l nx c sl := by
  intro H locs ls hR hS hL
  unfold eW
  rw [hq]
  refine W.widen hc hs ?_
  exact W.vret F.1 F.2.1 (F.2.2.2.2.2.2.2.2.1.trans hr) (fun t ht hW => ⟨⟨none, e_up h l, nx, rfl, hp, by rw [ht]; exact hR⟩, hS.F ht⟩) hS.2.2 hd F.2.2.2.2.2.2.2.2.2.1
theorem e_runB {H : Heap} {locs : List Loc} {ls : Array Slot} {st0 : List Value} {a : Array Value} (hr : va_Run (x_p X) (x_l X) (x_e X) (x_R X) (x_s X) (x_m X) (x_a X) (x_b X) (x_t X) (x_c X) H locs c sl mc ms (F0 (x_m X) pc ls st0) (S0.map (e_tr G)) (e_QcB G post a) (e_A G)) (hS : va_S (e_A G) (x_s X).heap H locs) (hL : e_L G L ls)
    (kk : ∀ (r : Option Value) (h' : Nat → eO) (nx' : Nat), post r h' nx' → eRun G X (pc + 3) L (r.toList ++ S0) h' [] nx' (c + mc) (sl + ms)) : eW X H locs c sl (F0 (x_m X) pc ls st0) := by
  intro T hT Y
  obtain ⟨v, st₀, t, T', L9, h0, Y', hL9, e1, e2, ⟨⟨r, h', nx', hv, hp, hR'⟩, hz, hk⟩, st⟩ := hr T hT Y
  cases hv
  rw [h0] at hz hk
  have hS' : va_S (e_A G) (x_s X).heap t.heap (locs ++ L9) := by
    refine ⟨Nat.le_trans hS.1 hz, fun q g1 g2 => ?_, fun q hq => ?_⟩
    · rw [hk q (Nat.lt_of_lt_of_le g1 hS.1) g2]
      exact hS.2.1 q g1 g2
    · rcases List.mem_append.mp hq with z | z
      · exact hS.2.2 q z
      · exact hL9 q z
  obtain ⟨t2, a1, b1⟩ := kk r h' nx' hp t.heap (locs ++ L9) ls hR' hS' hL T' e1 Y'
  refine ⟨t2, st t2 ?_, b1⟩
  have e : (r.toList ++ S0).map (e_tr G) = (r.map (e_tr G)).toList ++ S0.map (e_tr G) := by cases r <;> simp
  rw [e] at a1
  exact a1
theorem r_callVB (F : eFx G M X) {idx b ci : Nat} {fs : List Value} (hd : decode (e_cc M) pc = .ok (.invokevirtual idx, 3)) (hk : e_lk (e_y M).cls idx M2) (hm : e_mv M2 n) (hsem : eSemB G (x_l X) M2 (.ref b :: As) (e_up h l) nx mc ms post) (hn : As.length = n) (hL0 : L.length = e_nL M) (hS0 : S = As.reverse ++ .ref b :: S0) (hcat : e_cat S0 ≤ 8) (hfr : e_fr M2 + 1 ≤ e_fr M) (hlo : 19 + e_nL M2 + e_lo M2 ≤ e_lo M)
    (ho : e_up h l b = .inr (ci, fs)) (hci : vwCl[ci]? = some (e_cT ci)) (hcn : (e_cT ci).1 = (e_y M2).cls) (h1 : 32 ≤ b) (h2 : b < nx) (hc : c + mc ≤ (x_R X).cells) (hs : sl + ms ≤ (x_R X).slots)
    (kk : ∀ (r : Option Value) (h' : Nat → eO) (nx' : Nat), post r h' nx' → eRun G X (pc + 3) L (r.toList ++ S0) h' [] nx' (c + mc) (sl + ms)) : eRun G X pc L S h l nx c sl := by
  intro H locs ls hR hS hL
  subst hS0
  have hrec := va_recv F.2.2.2.2.2.1 (e_one (hR.get h1 h2 ho (e_okC hci))) hci (a := e_ad G b) (q0 := 0) (fs := fs.map (e_tr G)) rfl
  rw [hcn] at hrec
  refine e_runB (post := post) (mc := mc) (ms := ms) (S0 := S0) (va_runV (b := e_ad G b) (As := As.map (e_tr G)) (rest := S0.map (e_tr G)) (e_fix F) hsem ⟨e_cb F hm.1 hk hfr hlo, F.2.2.2.2.1 _ hm.2.1, F.2.2.2.2.1 _ hm.2.2⟩ ⟨e_Pc_blind G _ _ _, hrec, ?_⟩ rfl (by simpa using hn) (hL.1.trans hL0) (by simp [e_tr, List.map_reverse]) (e_rest hcat) hd ⟨hc, hs⟩) hS hL kk
  have := e_pre (As := .ref b :: As) F hR hS
  exact this
end SEMB
