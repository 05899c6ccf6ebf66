/-! ===== a method's beginning and end, new cells ===== -/
def eFq (G : eG) (X : eX) (nx' dc ds : Nat) (post : Option Value → (Nat → eO) → Prop) : Prop := x_Q X = MQ (x_b X) (e_Qc G nx' post) (x_a X) (x_s X) dc ds (e_A G)
def e_en : List Value → List (Option Value)
  | [] => []
  | .long x :: vs => some (.long x) :: none :: e_en vs
  | .double x :: vs => some (.double x) :: none :: e_en vs
  | v :: vs => some v :: e_en vs
theorem e_pairs_nones {G : eG} : ∀ (k i : Nat), e_pairs G (List.replicate k none) i = [] := by
  intro k
  induction k with
  | zero => intro i; rfl
  | succ k ih => intro i; rw [List.replicate_succ, e_pairs, ih]
theorem e_en_args {G : eG} (k : Nat) : ∀ (As : List Value) (i : Nat), e_pairs G (e_en As ++ List.replicate k none) i = lv_args i (As.map (e_tr G)) := by
  intro As
  induction As with
  | nil => intro i; exact e_pairs_nones k i
  | cons v As ih =>
    intro i
    cases v <;> simp [e_en, e_pairs, lv_args, ih, e_tr, Value.category]
theorem e_en_len : ∀ (As : List Value) (G : eG), (e_en As).length = (lg_sl (As.map (e_tr G))).length := by
  intro As G
  induction As with
  | nil => rfl
  | cons v As ih =>
    have ih' : (List.map (List.length ∘ fun v => if v.category = 2 then [Slot.val v, Slot.second] else [Slot.val v]) (List.map (e_tr G) As)).sum = (e_en As).length := by
      rw [ih]; simp [lg_sl, List.length_flatMap, Function.comp_def]
    cases v <;> simp_all [e_en, lg_sl, e_tr, Value.category, List.length_flatMap, Function.comp_def] <;> omega
theorem e_ofW {l : Launch} {y : MethodName} {ws ws' : List Cond} {rm : Room} {Pc : Array Value → State → Prop} {Qc : Array Value → State → Outcome → State → Prop} {mc ms : Nat} {free : Addr → Prop} {cc : ByteArray} {maxL : Nat} {ret : Option FieldType}
    (hy : plainFor y = true) (hw : ws = Cond.code y cc maxL ret :: ws')
    (body : ∀ p e s m args below meth c s₁, BodyLoose p l y (headSpec ws rm) cc maxL ret e s m args below meth c s₁ → c.maxLocals = maxL → Pc args s →
      W p l e (headSpec ws rm).room s m args below meth c s.heap [] 0 0 (MQ below Qc args s mc ms free) (entryFrame m args maxL)) : Met l y ws rm Pc Qc mc ms free := by
  refine MetFree.of_bodySF (code := cc) (maxLocals := maxL) (ret := ret) hy ?_ ?_
  · intro args s m h hn
    obtain ⟨meth, c, h1, h2, h3, h4, h5, h6, -, -⟩ := Cond.code_spec hn (atoms_spec (ws := ws) h _ (by rw [hw]; exact List.mem_cons_self))
    exact ⟨meth, c, h1, h2, h3, h4, h5, h6⟩
  · intro p e s m args below meth c s₁ B hml hP _
    have hh0 : s₁.heap = s.heap := by rw [B.state]; rfl
    obtain ⟨t, a1, o, b1, b2, b3⟩ := body p e s m args below meth c s₁ B hml hP s₁ hh0 (Stand.of_body B)
    exact ⟨t, o, a1, b1, b2, ⟨b3.1, b3.2⟩⟩
section RETS
variable {G : eG} {M M2 : eM} {X : eX} {pc nx c sl : Nat} {L : List (Option Value)} {S : List Value} {h : Nat → eO} {l : List (Nat × eO)} {As : List Value} {dc ds nx' : Nat} {post : Option Value → (Nat → eO) → Prop}
theorem eSem.of {la : Launch} {k : Nat} (hw : plainFor (e_y M) = true) (hL : e_en As ++ List.replicate k none = L) (hlen : L.length = e_nL M)
    (body : ∀ X : eX, eFx G M X → x_l X = la → eFq G X (nx + dc) dc ds post → (x_R X).cells = dc → (x_R X).slots = ds → eRun G X 0 L [] h [] nx 0 0) : eSem G la M As h nx dc ds post := by
  refine e_ofW (cc := e_cc M) (maxL := e_nL M) (ret := e_rt M) hw rfl ?_
  intro p e s m args below meth c s₁ B hml hv
  obtain ⟨rfl, hR, hK, hZ⟩ := hv
  have hts := atoms_spec (ws := e_ws M) B.pre
  have F : eFx G M (p, la, e, (headSpec (e_ws M) (e_rm M dc ds)).room, s, m, (As.map (e_tr G)).toArray, below, meth, c, MQ below (e_Qc G (nx + dc) post) (As.map (e_tr G)).toArray s dc ds (e_A G)) :=
    ⟨B.exec, B.bytes, hml, findClass_of_methodNamed B.named, fun w hw => hts w (List.mem_cons_of_mem _ hw), hK, hZ, (name_of_methodNamed B.named B.method).1, B.returns, B.notSynchronized, rfl, rfl, by show e_S0 G ≤ s.heap.size; rw [hR.1]; exact Nat.le_add_right _ _⟩
  have hle : (lg_sl (As.map (e_tr G))).length ≤ e_nL M := by
    rw [← e_en_len As G, ← hlen, ← hL]
    simp
  have hl := lv_entry (As.map (e_tr G)) (n := e_nL M) hle
  rw [lg_entry_eq]
  refine body _ F rfl rfl rfl rfl s.heap [] _ hR va_S.rf ?_
  show lv_has _ L.length (e_pairs G L 0)
  rw [hlen, ← hL, e_en_args]
  exact hl
theorem r_iret (F : eFx G M X) (hq : eFq G X nx' dc ds post) {v : Int32} (hd : decode (e_cc M) pc = .ok (.ireturn, 1)) (hr : e_rt M = some .int) (hnx : nx = nx') (hc : c ≤ dc) (hs : sl ≤ ds) (hp : post (some (.int v)) (e_up h l)) : eRun G X pc L [.int v] h l nx c sl := by
  intro H locs ls hR hS hL
  unfold eW
  rw [hq]
  refine W.widen hc hs ?_
  exact W.iret F.1 F.2.1 (F.2.2.2.2.2.2.2.2.1.trans hr) (fun t ht hW => ⟨⟨some (.int v), e_up h l, rfl, hp, by rw [ht, ← hnx]; exact hR⟩, hS.F ht⟩) hS.2.2 hd F.2.2.2.2.2.2.2.2.2.1
theorem r_zret (F : eFx G M X) (hq : eFq G X nx' dc ds post) {v : Bool} (hd : decode (e_cc M) pc = .ok (.ireturn, 1)) (hr : e_rt M = some .boolean) (hnx : nx = nx') (hc : c ≤ dc) (hs : sl ≤ ds) (hp : post (some (.int (e_b v))) (e_up h l)) : eRun G X pc L [.int (e_b v)] h l nx c sl := by
  intro H locs ls hR hS hL
  unfold eW
  rw [hq]
  refine W.widen hc hs ?_
  exact W.zret F.1 F.2.1 (F.2.2.2.2.2.2.2.2.1.trans hr) (e_b_nar v) (fun t ht hW => ⟨⟨some (.int (e_b v)), e_up h l, rfl, hp, by rw [ht, ← hnx]; exact hR⟩, hS.F ht⟩) hS.2.2 hd F.2.2.2.2.2.2.2.2.2.1
/-- a small type's answer that the narrowing leaves -/
theorem r_nret (F : eFx G M X) (hq : eFq G X nx' dc ds post) {v : Int32} {ty : FieldType} (hd : decode (e_cc M) pc = .ok (.ireturn, 1)) (hr : e_rt M = some ty) (hn : narrow ty (.int v) = .int v) (hnx : nx = nx') (hc : c ≤ dc) (hs : sl ≤ ds) (hp : post (some (.int v)) (e_up h l)) : eRun G X pc L [.int v] h l nx c sl := by
  intro H locs ls hR hS hL
  unfold eW
  rw [hq]
  refine W.widen hc hs ?_
  exact W.zret F.1 F.2.1 (F.2.2.2.2.2.2.2.2.1.trans hr) hn (fun t ht hW => ⟨⟨some (.int v), e_up h l, rfl, hp, by rw [ht, ← hnx]; exact hR⟩, hS.F ht⟩) hS.2.2 hd F.2.2.2.2.2.2.2.2.2.1
theorem r_lret (F : eFx G M X) (hq : eFq G X nx' dc ds post) {v : Int64} (hd : decode (e_cc M) pc = .ok (.lreturn, 1)) (hr : e_rt M = some .long) (hnx : nx = nx') (hc : c ≤ dc) (hs : sl ≤ ds) (hp : post (some (.long v)) (e_up h l)) : eRun G X pc L [.long v] h l nx c sl := by
  intro H locs ls hR hS hL
  unfold eW
  rw [hq]
  refine W.widen hc hs ?_
  exact W.lret F.1 F.2.1 (F.2.2.2.2.2.2.2.2.1.trans hr) (fun t ht hW => ⟨⟨some (.long v), e_up h l, rfl, hp, by rw [ht, ← hnx]; exact hR⟩, hS.F ht⟩) hS.2.2 hd F.2.2.2.2.2.2.2.2.2.1
theorem r_vret (F : eFx G M X) (hq : eFq G X nx' dc ds post) (hd : decode (e_cc M) pc = .ok (.return_, 1)) (hr : e_rt M = none) (hnx : nx = nx') (hc : c ≤ dc) (hs : sl ≤ ds) (hp : post none (e_up h l)) : eRun G X pc L [] h l nx c sl := by
  intro H locs ls hR hS hL
  unfold eW
  rw [hq]
  refine W.widen hc hs ?_
  exact W.vret F.1 F.2.1 (F.2.2.2.2.2.2.2.2.1.trans hr) (fun t ht hW => ⟨⟨none, e_up h l, rfl, hp, by rw [ht, ← hnx]; exact hR⟩, hS.F ht⟩) hS.2.2 hd F.2.2.2.2.2.2.2.2.2.1
/-- another picture of the same heap -/
theorem r_pic {l' : List (Nat × eO)} (e : e_up h l' = e_up h l) (kk : eRun G X pc L S h l' nx c sl) : eRun G X pc L S h l nx c sl := by
  intro H locs ls hR hS hL
  exact kk H locs ls (by rw [e]; exact hR) hS hL
theorem r_pic2 {h' : Nat → eO} {l' : List (Nat × eO)} (e : e_up h' l' = e_up h l) (kk : eRun G X pc L S h' l' nx c sl) : eRun G X pc L S h l nx c sl := by
  intro H locs ls hR hS hL
  exact kk H locs ls (by rw [e]; exact hR) hS hL
theorem r_objInit (F : eFx G M X) {idx a : Nat} (hd : decode (e_cc M) pc = .ok (.invokespecial idx, 3)) (hk : Cond.methodLink (e_y M).cls idx Lib.objectInit ∈ e_tb) (hi : Cond.instanceMethod Lib.objectInit ∈ e_tb) (hco : Cond.code Lib.objectInit ⟨#[0xb1]⟩ 1 none ∈ e_tb) (hL0 : L.length = e_nL M) (hcat : e_cat S ≤ 8) (hfr : 1 ≤ e_fr M) (hlo : 20 ≤ e_lo M)
    (kk : eRun G X (pc + 3) L S h l nx c sl) : eRun G X pc L (.ref a :: S) h l nx c sl := by
  intro H locs ls hR hS hL
  refine W.objInit F.1 F.2.1 F.2.2.2.1 (F.2.2.2.2.1 _ hk) (F.2.2.2.2.1 _ hi) (F.2.2.2.2.1 _ hco) rfl ((hL.1.trans hL0).trans F.2.2.1.symm) rfl hd ?_ ?_ (kk H locs ls hR hS hL)
  · rw [F.2.2.2.2.2.2.2.2.2.2.1]; exact hfr
  · rw [F.2.2.2.2.2.2.2.2.2.2.2.1]
    have := e_rest (pc := pc) (m := x_m X) (ls := ls) (st := (Value.ref a :: S).map (e_tr G)) (G := G) hcat
    omega
theorem r_new (F : eFx G M X) {idx ci : Nat} {fs : List Value} {l' : List (Nat × eO)} (hd : decode (e_cc M) pc = .ok (.new idx, 3)) (hcl : e_clP ci) (hw : Cond.classLink (e_y M).cls idx (e_cT ci).1 ∈ e_tb) (hi : Cond.instantiable (e_cT ci).1 (e_cT ci).2.2 ∈ e_tb) (hini : Cond.initialized (e_cT ci).1 ∈ e_tb) (hfs : ∀ j, j < (e_cT ci).2.2 → defaultValue (e_tyT ci j) = vp_V (fs.map (e_tr G)) j) (hc : c + 1 ≤ (x_R X).cells) (hs : sl + (e_cT ci).2.2 ≤ (x_R X).slots) (hl' : e_ins l nx (.inr (ci, fs)) = l')
    (kk : eRun G X (pc + 3) L (.ref nx :: S) h l' (nx + 1) (c + 1) (sl + (e_cT ci).2.2)) : eRun G X pc L S h l nx c sl := by
  intro H locs ls hR hS hL
  have hts := F.2.2.2.2.1
  have hKn := F.2.2.2.2.2.1.1 ci _ hcl.1
  have had : H.size = e_ad G nx := by rw [e_ad_hi hR.2.1]; exact hR.1
  refine W.newcK F.1 F.2.1 F.2.2.2.1 (hts _ hw) (hts _ hi) (hts _ hini) rfl hd hc hs hKn.2.1 rfl fun H1 kC hkC e1 z1 o1 => ?_
  rw [had] at e1
  have k2 := kk H1 locs ls (by rw [← hl', e_up_ins]; exact hR.new z1 ⟨_, hcl.1, (u_born _ hts hcl.2.1 hKn hkC e1 hcl.2.2.1).to hfs⟩ o1) (e_S_new hS z1 o1) hL
  simp only [List.map_cons, e_tr, ← had] at k2
  exact k2
theorem r_newa (F : eFx G M X) {at9 : ArrayType} {n : Int32} {N : Nat} {x : vp_A} {t0 : Nat} {l' : List (Nat × eO)} (hd : decode (e_cc M) pc = .ok (.newarray at9, 2)) (hw : Cond.arrayClass (newarray.typeOf at9) ∈ e_tb) (ht0 : (e_ty G)[t0]? = some (e_cA G (newarray.typeOf at9), newarray.typeOf at9)) (hp : ∀ U cA, va_RA U cA (newarray.typeOf at9) = (U.vm.findClass ("[" ++ (newarray.typeOf at9).toString) = some cA)) (hn : ¬ n < 0) (hN : n.toNatClampNeg = N) (hb : N * componentBytes (newarray.typeOf at9) ≤ 536870912) (hx : ∀ cA : ClassId, vp_cell cA (x.1, e_fa G x.2) = arrV cA N (fun _ => defaultValue (newarray.typeOf at9))) (hc : c + 1 ≤ (x_R X).cells) (hs : sl + N ≤ (x_R X).slots) (hl' : e_ins l nx (.inl (newarray.typeOf at9, x)) = l')
    (kk : eRun G X (pc + 2) L (.ref nx :: S) h l' (nx + 1) (c + 1) (sl + N)) : eRun G X pc L (.int n :: S) h l nx c sl := by
  intro H locs ls hR hS hL
  have hts := F.2.2.2.2.1
  have had : H.size = e_ad G nx := by rw [e_ad_hi hR.2.1]; exact hR.1
  refine va_newaK F.1 F.2.1 (hts _ hw) rfl hd rfl hn hN hb hc hs rfl fun H1 cA e1 z1 o1 hAr hNm => ?_
  have hcA : cA = e_cA G (newarray.typeOf at9) := by
    have h9 := (F.2.2.2.2.2.1.2 t0 _ ht0).2
    rw [hp] at h9
    exact Option.some.inj (hNm.symm.trans h9)
  rw [had, hcA] at e1
  have k2 := kk H1 locs ls (by
    rw [← hl', e_up_ins]
    refine hR.new z1 ?_ o1
    show H1[e_ad G nx]? = some (vp_cell (e_cA G (newarray.typeOf at9)) (x.1, e_fa G x.2))
    rw [hx]; exact e1) (e_S_new hS z1 o1) hL
  simp only [List.map_cons, e_tr, ← had] at k2
  exact k2
theorem r_anew (F : eFx G M X) {idx : Nat} {n : Int32} {N : Nat} {l' : List (Nat × eO)} (hd : decode (e_cc M) pc = .ok (.anewarray idx, 3)) (hw : Cond.classLink (e_y M).cls idx "SlipLattice$Snapshot" ∈ e_tb) (hn : ¬ n < 0) (hN : n.toNatClampNeg = N) (hb : N * 4 ≤ 536870912) (hc : c + 1 ≤ (x_R X).cells) (hs : sl + N ≤ (x_R X).slots) (hl' : e_ins l nx (.inl (.object "SlipLattice$Snapshot", N, .inr (.inr (.inr (.inr (fun _ => none)))))) = l')
    (kk : eRun G X (pc + 3) L (.ref nx :: S) h l' (nx + 1) (c + 1) (sl + N)) : eRun G X pc L (.int n :: S) h l nx c sl := by
  intro H locs ls hR hS hL
  subst hN
  have hts := F.2.2.2.2.1
  have had : H.size = e_ad G nx := by rw [e_ad_hi hR.2.1]; exact hR.1
  refine W.anew F.1 F.2.1 F.2.2.2.1 (hts _ hw) (va_AO.use F.2.2.2.2.2.2.1.2.2.2.2.2.2) rfl hd rfl hn hb hc hs fun cA kA comp f1 f2 f3 f4 => ?_
  generalize hH1 : H.push ({ cls := cA, slots := Array.replicate n.toNatClampNeg .null, vm := .none } : Cell) = H1
  have z1 : H1.size = H.size + 1 := by rw [← hH1, Array.size_push]
  have e1 : H1[H.size]? = some (arrV cA n.toNatClampNeg (fun _ => .null)) := by rw [← hH1, Array.getElem?_push_size, ← arrV_new]
  have o1 : ∀ q : Nat, q < H.size → H1[q]? = H[q]? := fun q hq => by rw [← hH1, Array.getElem?_push, if_neg (Nat.ne_of_lt hq)]
  have hcA : cA = e_cA G (.object "SlipLattice$Snapshot") := by
    obtain ⟨kA2, comp2, -, -, -, h4⟩ := (F.2.2.2.2.2.1.2 3 _ rfl).2
    exact Option.some.inj (f1.symm.trans h4)
  rw [had, hcA] at e1
  have k2 := kk H1 locs ls (by
    rw [← hl', e_up_ins]
    refine hR.new z1 ?_ o1
    show H1[e_ad G nx]? = some (vp_cell (e_cA G (.object "SlipLattice$Snapshot")) (n.toNatClampNeg, .inr (.inr (.inr (.inr (fun _ => none))))))
    rw [vp_cell_q]; exact e1) (e_S_new hS z1 o1) hL
  simp only [List.map_cons, e_tr, ← had] at k2
  exact k2
end RETS
