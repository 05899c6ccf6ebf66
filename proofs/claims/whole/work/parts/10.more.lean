/-! ===== rows: references in rows, copies, switches, null ===== -/
section MORE
variable {G : eG} {M M2 : eM} {X : eX} {pc nx c sl : Nat} {L : List (Option Value)} {S : List Value} {h : Nat → eO} {l : List (Nat × eO)}
theorem r_aast (F : eFx G M X) {a n v : Nat} {f : Nat → Option Nat} {i : Int32} {vs : List Value} {l' : List (Nat × eO)} (hd : decode (e_cc M) pc = .ok (.aastore, 1)) (ho : e_up h l a = .inl (.object "SlipLattice$Snapshot", n, .inr (.inr (.inr (.inr f))))) (h1 : 32 ≤ a) (h2 : a < nx) (hv : e_up h l v = .inr (8, vs)) (g1 : 32 ≤ v) (g2 : v < nx) (hin : vp_in i n) (hl' : e_ins l a (.inl (.object "SlipLattice$Snapshot", n, .inr (.inr (.inr (.inr (va_up f i.toNatClampNeg (some v))))))) = l')
    (kk : eRun G X (pc + 1) L S h l' nx c sl) : eRun G X pc L (.ref v :: .int i :: .ref a :: S) h l nx c sl := by
  intro H locs ls hR hS hL
  have hat := hR.get h1 h2 ho
  have hlt : i.toNatClampNeg < n := Nat.not_le.mp fun q => hin (Or.inr q)
  have h0 : ¬ i < 0 := fun q => hin (Or.inl q)
  obtain ⟨r', hr', cellV, c1, c2, c3, -⟩ := hR.get g1 g2 hv
  have hK := F.2.2.2.2.2.1
  have hcls := (hK.1 8 (RX8, TX8, 3) rfl).2
  obtain ⟨kA, comp, k1, k2, k3, -⟩ := (hK.2 3 _ rfl).2
  have hcomp : comp = (e_D G).1 8 := Option.some.inj (k3.symm.trans hcls.1)
  subst hcomp
  obtain ⟨kC, hkC, -⟩ := hcls.2
  refine W.aast F.1 F.2.1 (v := e_ad G v) hat (fun q h => by cases h) (fun h => by cases h) k1 k2 rfl hkC ⟨h0, by show _ < (arrV _ _ _).slots.size; rw [arrV_size]; exact hlt⟩ c1 (fun q h => by rw [c3] at h; cases h) (by rw [c2]; exact hkC) (by rw [c2]; exact va_assign hcls) rfl rfl hd fun H1 e z oq => ?_
  refine kk H1 _ ls ?_ (e_S_put hS h1 z oq) hL
  rw [← hl', e_up_ins]
  refine hR.put h1 z ?_ oq
  show H1[e_ad G a]? = some (vp_cell (e_cA G (.object "SlipLattice$Snapshot")) (n, .inr (.inr (.inr (.inr (fun j => (va_up f i.toNatClampNeg (some v) j).map (e_ad G)))))))
  rw [e]
  show some ((vp_cell (e_cA G (.object "SlipLattice$Snapshot")) (n, .inr (.inr (.inr (.inr (fun j => (f j).map (e_ad G))))))).setSlot i.toNatClampNeg (Value.ref (e_ad G v))) = _
  rw [vp_cell_q, vp_cell_q, arrV_store]
  congr 2
  funext q
  by_cases hq : q = i.toNatClampNeg
  · subst hq
    simp [updV, va_up, va_rf]
  · simp [updV, va_up, hq]
/-- a copy out of a cell that holds f -/
theorem e_copy (F : eFx G M X) {H : Heap} {locs : List Loc} {ls : Array Slot} {idx a b0 n0 n1 : Nat} {scr : Cell} {f g : Nat → Int32} {sp dp n : Int32} {l' : List (Nat × eO)} (hd : decode (e_cc M) pc = .ok (.invokestatic idx, 3)) (hk : Cond.methodLink (e_y M).cls idx arraycopyName ∈ e_tb) (hnat : Cond.native arraycopyName ∈ e_tb) (hstat : Cond.static arraycopyName ∈ e_tb) (hini : Cond.initialized "java/lang/System" ∈ e_tb)
    (hc0 : H[b0]? = some scr) (hs2 : (x_s X).isArrayOf scr .int) (hs3 : scr.vm ≠ .unknown) (hs4 : n0 ≤ scr.slots.size) (hs5 : ∀ j : Nat, j < n0 → scr.slots[j]? = some (.int (f j)))
    (ho : e_up h l a = .inl (.int, n1, .inl g)) (h1 : 32 ≤ a) (h2 : a < nx) (p1 : ¬ sp < 0) (p2 : ¬ dp < 0) (p3 : ¬ n < 0) (p4 : sp.toNatClampNeg + n.toNatClampNeg ≤ n0) (p5 : dp.toNatClampNeg + n.toNatClampNeg ≤ n1) (hL0 : L.length = e_nL M) (hcat : e_cat S ≤ 8) (hfr : 1 ≤ e_fr M) (hlo : 8 + (nativeFrameWords "java/lang/System" "arraycopy" 5 + 11) ≤ e_lo M) (hl' : e_ins l a (.inl (.int, n1, .inl (va_cpy f g sp.toNatClampNeg dp.toNatClampNeg n.toNatClampNeg))) = l')
    (hR : e_Rep G (e_up h l) nx H) (hS : va_S (e_A G) (x_s X).heap H locs) (hL : e_L G L ls)
    (kk : eRun G X (pc + 3) L S h l' nx c sl) : eW X H locs c sl (F0 (x_m X) pc ls (.int n :: .int dp :: .ref (e_ad G a) :: .int sp :: .ref b0 :: S.map (e_tr G))) := by
  have nn : ∀ z : Int32, ¬ z < 0 → z.toInt = (z.toNatClampNeg : Int) := by
    intro z hz
    have hz0 : (0 : Int) ≤ z.toInt := by
      have := Int32.not_lt.mp hz
      simpa using Int32.le_iff_toInt_le.mp this
    show z.toInt = ((z.toInt.toNat : Nat) : Int)
    omega
  have hts := F.2.2.2.2.1
  have hrest : 2 * 0 + ((S.map (e_tr G)).map fun v => v.category).sum ≤ 8 := e_rest (pc := pc) (m := x_m X) (ls := ls) (st := []) (G := G) hcat
  have hc1 : H[e_ad G a]? = some (vp_cell (e_cA G .int) (n1, .inl g)) := hR.get h1 h2 ho
  intro T hT Y
  obtain ⟨hs6, k0, hk0, cm0, hkk0⟩ := hs2
  obtain ⟨-, k1, hk1, cm1, hkk1⟩ := (F.2.2.2.2.2.1.2 0 _ rfl).1 n1 (fun j => .int (g j))
  obtain ⟨vm', Y', step⟩ := Y.arraycopy F.1 F.2.2.2.1 (hts _ hk) (hts _ hnat) (hts _ hstat) (hts _ hini) (src := b0) (dst := e_ad G a) (cs := scr) (cd := vp_cell (e_cA G .int) (n1, .inl g)) (srcPos := sp) (destPos := dp) (n := n) (by rw [hT]; exact hc0) (by rw [hT]; exact hc1)
    hs6 (fun _ h => by cases h) hs3 (fun h => by cases h) hk0 hk1 hkk0 hkk1 (by simp [refKind]) p1 p2 p3
    (by rw [nn sp p1, nn n p3]; omega)
    (by rw [nn dp p2, nn n p3]; show ¬ _ > ((arrV (e_cA G .int) n1 (fun j => .int (g j))).slots.size : Int); rw [arrV_size]; omega)
    (fun vm₁ _ i hi => by
      have e : scr.slots.getD (sp.toNatClampNeg + i) .null = .int (f (sp.toNatClampNeg + i)) := by
        rw [Array.getD_eq_getD_getElem?, hs5 _ (by omega)]
        rfl
      refine ⟨?_, ?_⟩
      · rw [e]; rfl
      · rw [e]; exact trivial)
    (g := F0 (x_m X) pc ls (.int n :: .int dp :: .ref (e_ad G a) :: .int sp :: .ref b0 :: S.map (e_tr G))) rfl ((hL.1.trans hL0).trans F.2.2.1.symm) (rest := S.map (e_tr G)) rfl (by rw [F.2.1]; exact hd) (by rw [F.2.2.2.2.2.2.2.2.2.2.1]; exact hfr) (by rw [F.2.2.2.2.2.2.2.2.2.2.2.1]; show 2 * 0 + _ + _ ≤ _; omega)
  have e1 : copied scr (vp_cell (e_cA G .int) (n1, .inl g)) sp dp n = vp_cell (e_cA G .int) (n1, .inl (va_cpy f g sp.toNatClampNeg dp.toNatClampNeg n.toNatClampNeg)) := va_copiedX (fun z => .int z) scr (e_cA G .int) f g hs5 p4
  rw [e1] at Y' step
  have hl : e_ad G a < H.size := (Array.getElem?_eq_some_iff.mp hc1).1
  generalize hH1 : H.setIfInBounds (e_ad G a) (vp_cell (e_cA G .int) (n1, .inl (va_cpy f g sp.toNatClampNeg dp.toNatClampNeg n.toNatClampNeg))) = H1
  have hheap : ((T.setVm vm').setCell (e_ad G a) (vp_cell (e_cA G .int) (n1, .inl (va_cpy f g sp.toNatClampNeg dp.toNatClampNeg n.toNatClampNeg)))).heap = H1 := by rw [← hH1, ← hT]; rfl
  have oq : ∀ q : Nat, q ≠ e_ad G a → H1[q]? = H[q]? := fun q hq => by rw [← hH1]; simp [Array.getElem?_setIfInBounds, Ne.symm hq]
  have hz : H1.size = H.size := by rw [← hH1]; simp
  have hR' : e_Rep G (e_up h l') nx H1 := by
    rw [← hl', e_up_ins]
    refine hR.put h1 hz ?_ oq
    show H1[e_ad G a]? = some (vp_cell _ _)
    rw [← hH1]
    simp [Array.getElem?_setIfInBounds, hl, e_fa]
  obtain ⟨t, a1, b1⟩ := kk H1 _ ls hR' ⟨by rw [hz]; exact hS.1, fun q g1 g2 => by
      rw [oq q (fun e => g2 (by rw [e]; exact e_ad_A h1))]
      exact hS.2.1 q g1 g2, fun q hq => by
      rcases List.mem_append.mp hq with z | z
      · exact hS.2.2 q z
      · obtain ⟨w, -, hw⟩ := List.mem_map.mp z
        rw [← hw]
        exact e_ad_A h1⟩ hL _ hheap Y'
  exact ⟨t, step t a1, b1⟩
theorem r_copy (F : eFx G M X) {idx a b n0 n1 : Nat} {f g : Nat → Int32} {sp dp n : Int32} {l' : List (Nat × eO)} (hd : decode (e_cc M) pc = .ok (.invokestatic idx, 3)) (hk : Cond.methodLink (e_y M).cls idx arraycopyName ∈ e_tb) (hnat : Cond.native arraycopyName ∈ e_tb) (hstat : Cond.static arraycopyName ∈ e_tb) (hini : Cond.initialized "java/lang/System" ∈ e_tb)
    (hb : e_up h l b = .inl (.int, n0, .inl f)) (b1 : 32 ≤ b) (b2 : b < nx) (ho : e_up h l a = .inl (.int, n1, .inl g)) (h1 : 32 ≤ a) (h2 : a < nx) (p1 : ¬ sp < 0) (p2 : ¬ dp < 0) (p3 : ¬ n < 0) (p4 : sp.toNatClampNeg + n.toNatClampNeg ≤ n0) (p5 : dp.toNatClampNeg + n.toNatClampNeg ≤ n1) (hL0 : L.length = e_nL M) (hcat : e_cat S ≤ 8) (hfr : 1 ≤ e_fr M) (hlo : 8 + (nativeFrameWords "java/lang/System" "arraycopy" 5 + 11) ≤ e_lo M) (hl' : e_ins l a (.inl (.int, n1, .inl (va_cpy f g sp.toNatClampNeg dp.toNatClampNeg n.toNatClampNeg))) = l')
    (kk : eRun G X (pc + 3) L S h l' nx c sl) : eRun G X pc L (.int n :: .int dp :: .ref a :: .int sp :: .ref b :: S) h l nx c sl := by
  intro H locs ls hR hS hL
  have hc0 : H[e_ad G b]? = some (vp_cell (e_cA G .int) (n0, .inl f)) := hR.get b1 b2 hb
  exact e_copy F hd hk hnat hstat hini hc0 ((F.2.2.2.2.2.1.2 0 _ rfl).1 n0 (fun j => .int (f j))) (fun z => by cases z) (by show n0 ≤ (arrV (e_cA G .int) n0 (fun j => .int (f j))).slots.size; rw [arrV_size]; exact Nat.le_refl _) (fun j hj => by show (arrV (e_cA G .int) n0 (fun j => .int (f j))).slots[j]? = _; rw [arrV_read _ _ hj]) ho h1 h2 p1 p2 p3 p4 p5 hL0 hcat hfr hlo hl' hR hS hL kk
theorem r_copyS (F : eFx G M X) {idx a b n0 n1 : Nat} {f g : Nat → Int32} {sp dp n : Int32} {l' : List (Nat × eO)} (hd : decode (e_cc M) pc = .ok (.invokestatic idx, 3)) (hk : Cond.methodLink (e_y M).cls idx arraycopyName ∈ e_tb) (hnat : Cond.native arraycopyName ∈ e_tb) (hstat : Cond.static arraycopyName ∈ e_tb) (hini : Cond.initialized "java/lang/System" ∈ e_tb)
    (hb : e_stat G b = some (.int, n0, f)) (ho : e_up h l a = .inl (.int, n1, .inl g)) (h1 : 32 ≤ a) (h2 : a < nx) (p1 : ¬ sp < 0) (p2 : ¬ dp < 0) (p3 : ¬ n < 0) (p4 : sp.toNatClampNeg + n.toNatClampNeg ≤ n0) (p5 : dp.toNatClampNeg + n.toNatClampNeg ≤ n1) (hL0 : L.length = e_nL M) (hcat : e_cat S ≤ 8) (hfr : 1 ≤ e_fr M) (hlo : 8 + (nativeFrameWords "java/lang/System" "arraycopy" 5 + 11) ≤ e_lo M) (hl' : e_ins l a (.inl (.int, n1, .inl (va_cpy f g sp.toNatClampNeg dp.toNatClampNeg n.toNatClampNeg))) = l')
    (kk : eRun G X (pc + 3) L S h l' nx c sl) : eRun G X pc L (.int n :: .int dp :: .ref a :: .int sp :: .ref b :: S) h l nx c sl := by
  intro H locs ls hR hS hL
  obtain ⟨cell, t1, t2, t3, t4, t5, t6, t7⟩ := (F.2.2.2.2.2.2.1.1 b _ n0 f hb).kept hS.2.1
  exact e_copy F hd hk hnat hstat hini t1 t2 t3 t4 t6 ho h1 h2 p1 p2 p3 p4 p5 hL0 hcat hfr hlo hl' hR hS hL kk
theorem r_tsIn (F : eFx G M X) {x : Int32} {dflt lo hi off : Int} {offs : Array Int} {len tgt : Nat} (hd : decode (e_cc M) pc = .ok (.tableswitch dflt lo hi offs, len)) (h1 : ¬ x.toInt < lo) (h2 : ¬ hi < x.toInt) (ho : offs[(x.toInt - lo).toNat]? = some off) (ht : (pc : Int) + off = (tgt : Int))
    (kk : eRun G X tgt L S h l nx c sl) : eRun G X pc L (.int x :: S) h l nx c sl :=
  fun H locs ls hR hS hL => lv_tableIn F.1 F.2.1 hd h1 h2 ho ht (kk H locs ls hR hS hL)
theorem r_tsOut (F : eFx G M X) {x : Int32} {dflt lo hi : Int} {offs : Array Int} {len tgt : Nat} (hd : decode (e_cc M) pc = .ok (.tableswitch dflt lo hi offs, len)) (h1 : x.toInt < lo ∨ hi < x.toInt) (ht : (pc : Int) + dflt = (tgt : Int))
    (kk : eRun G X tgt L S h l nx c sl) : eRun G X pc L (.int x :: S) h l nx c sl :=
  fun H locs ls hR hS hL => lv_tableOut F.1 F.2.1 hd h1 ht (kk H locs ls hR hS hL)
theorem r_ls (F : eFx G M X) {x : Int32} {dflt off : Int} {ps : Array (Int × Int)} {len tgt : Nat} (hd : decode (e_cc M) pc = .ok (.lookupswitch dflt ps, len)) (hp : (ps.toList.zip (ps.toList.drop 1)).all (fun (a, next) => a.1 < next.1) = true) (ho : Op.lookupswitch.offset ps.toList dflt x.toInt = off) (ht : (pc : Int) + off = (tgt : Int))
    (kk : eRun G X tgt L S h l nx c sl) : eRun G X pc L (.int x :: S) h l nx c sl :=
  fun H locs ls hR hS hL => lv_lookup F.1 F.2.1 hd hp ho ht (kk H locs ls hR hS hL)
theorem r_lcmp (F : eFx G M X) {x y : Int64} (hd : decode (e_cc M) pc = .ok (.lcmp, 1)) (kk : eRun G X (pc + 1) L (.int (lg_cmp x y) :: S) h l nx c sl) : eRun G X pc L (.long y :: .long x :: S) h l nx c sl :=
  fun H locs ls hR hS hL => W.lcmp F.1 F.2.1 hd (kk H locs ls hR hS hL)
theorem r_ifnonnull (F : eFx G M X) {a : Nat} {off : Int} {tgt : Nat} (hd : decode (e_cc M) pc = .ok (.ifnonnull off, 3)) (ht : (pc : Int) + off = (tgt : Int)) (kk : eRun G X tgt L S h l nx c sl) : eRun G X pc L (.ref a :: S) h l nx c sl :=
  fun H locs ls hR hS hL => lv_ifnonnull F.1 F.2.1 hd ht (kk H locs ls hR hS hL)
theorem r_ifnonnullN (F : eFx G M X) {off : Int} (hd : decode (e_cc M) pc = .ok (.ifnonnull off, 3)) (kk : eRun G X (pc + 3) L S h l nx c sl) : eRun G X pc L (.null :: S) h l nx c sl :=
  fun H locs ls hR hS hL => lv_ifnonnullN F.1 F.2.1 hd (kk H locs ls hR hS hL)
theorem r_ifnull (F : eFx G M X) {a : Nat} {off : Int} (hd : decode (e_cc M) pc = .ok (.ifnull off, 3)) (kk : eRun G X (pc + 3) L S h l nx c sl) : eRun G X pc L (.ref a :: S) h l nx c sl :=
  fun H locs ls hR hS hL => lv_ifnull F.1 F.2.1 hd (kk H locs ls hR hS hL)
theorem r_ifnullN (F : eFx G M X) {off : Int} {tgt : Nat} (hd : decode (e_cc M) pc = .ok (.ifnull off, 3)) (ht : (pc : Int) + off = (tgt : Int)) (kk : eRun G X tgt L S h l nx c sl) : eRun G X pc L (.null :: S) h l nx c sl :=
  fun H locs ls hR hS hL => lv_ifnullN F.1 F.2.1 hd ht (kk H locs ls hR hS hL)
end MORE
