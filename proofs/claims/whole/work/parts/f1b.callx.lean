/-! ===== a call that may throw ===== -/
theorem e_PcX_blind (G : eG) (As : List Value) (h : Nat → eO) (nx : Nat) : FrameBlind (e_PcX G As h nx) := by
  intro a U g mk q
  exact ⟨e_Pc_blind G As h nx a U g mk q.1, e_TU.moved (s := U) (U := U.calling g mk a) (Vm.Alike.refl U.vm) q.2⟩
section CALLX
variable {G : eG} {M M2 : eM} {X : eX} {pc nx c sl : Nat} {L : List (Option Value)} {S S0 : List Value} {h : Nat → eO} {l : List (Nat × eO)} {As : List Value} {mc ms n : Nat} {thr : Prop} {post : Option Value → (Nat → eO) → Nat → Prop}
theorem r_callVX (F : eFx G M X) (hU : e_TU G (x_a X) (x_s X) (x_s X).heap) {idx b ci : Nat} {fs : List Value} (hd : decode (e_cc M) pc = .ok (.invokevirtual idx, 3)) (hk : e_lk (e_y M).cls idx M2) (hm : e_mv M2 n) (hsem : eSemX G (x_l X) M2 (.ref b :: As) (e_up h l) nx mc ms thr post) (hn : As.length = n) (hL0 : L.length = e_nL M) (hS0 : S = As.reverse ++ .ref b :: S0) (hcat : e_cat S0 ≤ 8) (hfr : e_fr M2 + 1 ≤ e_fr M) (hlo : 19 + e_nL M2 + e_lo M2 ≤ e_lo M)
    (ho : e_up h l b = .inr (ci, fs)) (hci : vwCl[ci]? = some (e_cT ci)) (hcn : (e_cT ci).1 = (e_y M2).cls) (h1 : 32 ≤ b) (h2 : b < nx) (hc : c + mc ≤ (x_R X).cells) (hs : sl + ms ≤ (x_R X).slots)
    (kx : thr → ∀ (nx' : Nat) (H : Heap) (locs : List Loc) (ls : Array Slot) (q : Addr) (ce : Cell), nx ≤ nx' → e_Rep G (e_jk (e_up h l) nx) nx' H → va_S (e_A G) (x_s X).heap H locs → e_L G L ls → H[q]? = some ce → ce.vm = .none → (x_s X).vm.findClass nse = some ce.cls → vx_W (x_p X) (x_l X) (x_e X) (x_R X) (x_s X) (x_m X) (x_a X) (x_b X) (x_t X) (x_c X) H locs (c + mc) (sl + ms) (x_Q X) (F0 (x_m X) pc ls (S0.map (e_tr G))) q)
    (kk : ∀ (r : Option Value) (h' : Nat → eO) (nx' : Nat), post r h' nx' → eRun G X (pc + 3) L (r.toList ++ S0) h' [] nx' (c + mc) (sl + ms)) : eRun G X pc L S h l nx c sl := by
  intro H locs ls hR hS hL
  subst hS0
  have hrec := va_recv F.2.2.2.2.2.1 (e_one (hR.get h1 h2 ho (e_okC hci))) hci (a := e_ad G b) (q0 := 0) (fs := fs.map (e_tr G)) rfl
  rw [hcn] at hrec
  have pre := e_pre (As := .ref b :: As) F hR hS
  have hr := vx_runV (p := x_p X) (e := x_e X) (R := x_R X) (below := x_b X) (meth := x_t X) (locs := locs) (cells := c) (slots := sl) (g := F0 (x_m X) pc ls ((As.reverse ++ .ref b :: S0).map (e_tr G))) (b := e_ad G b) (As := As.map (e_tr G)) (rest := S0.map (e_tr G)) (e_fix F) hsem ⟨e_cb F hm.1 hk hfr hlo, F.2.2.2.2.1 _ hm.2.1, F.2.2.2.2.1 _ hm.2.2⟩ ⟨e_PcX_blind G _ _ _, hrec, fun U hUh hW => ⟨pre U hUh hW, by rw [hUh]; exact e_TU.moved hW.alike (hU.kept hS.2.1)⟩⟩ rfl (by simpa using hn) (hL.1.trans hL0) (by simp [e_tr, List.map_reverse]) (e_rest hcat) hd ⟨hc, hs⟩
  intro T hT Y
  have keep : ∀ {st₀ t : State} {L9 : List Loc}, st₀.heap = H → (∀ q ∈ L9, e_A G q.base) → va_F (e_A G) st₀ t → va_S (e_A G) (x_s X).heap t.heap (locs ++ L9) := by
    intro st₀ t L9 h0 hL9 hF
    obtain ⟨hz, hk⟩ := hF
    rw [h0] at hz hk
    refine ⟨Nat.le_trans hS.1 hz, fun q g1 g2 => ?_, fun q hq => ?_⟩
    · rw [hk q (Nat.lt_of_lt_of_le g1 hS.1) g2]
      exact hS.2.1 q g1 g2
    · rcases List.mem_append.mp hq with z | z
      · exact hS.2.2 q z
      · exact hL9 q z
  rcases hr T hT Y with ⟨v, st₀, t, T', L9, h0, Y', hL9, e1, e2, ⟨⟨r, h', nx', hv, hp, hR'⟩, hF⟩, st⟩ | ⟨q, st₀, t, T', L9, E, ce, h0, Y', hL9, e1, e2, ⟨rfl, hth, ⟨nx', hnx', hR'⟩, hF⟩, hce, hcv, hcl, st⟩
  · cases hv
    obtain ⟨t2, a1, b1⟩ := kk r h' nx' hp t.heap (locs ++ L9) ls hR' (keep h0 hL9 hF) hL T' e1 Y'
    refine ⟨t2, st t2 ?_, b1⟩
    have e : (r.toList ++ S0).map (e_tr G) = (r.map (e_tr G)).toList ++ S0.map (e_tr G) := by cases r <;> simp
    rw [e] at a1
    exact a1
  · obtain ⟨t2, a1, b1⟩ := kx hth nx' t.heap (locs ++ L9) ls q ce hnx' hR' (keep h0 hL9 hF) hL hce hcv hcl T' e1 Y'
    exact ⟨t2, st.trans a1, b1⟩
end CALLX
