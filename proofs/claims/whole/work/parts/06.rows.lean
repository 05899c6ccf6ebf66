/-! ===== methods, words, room ===== -/
abbrev eM : Type := MethodName × ByteArray × Nat × Option FieldType × Nat × Nat
abbrev e_y (M : eM) : MethodName := M.1
abbrev e_cc (M : eM) : ByteArray := M.2.1
abbrev e_nL (M : eM) : Nat := M.2.2.1
abbrev e_rt (M : eM) : Option FieldType := M.2.2.2.1
abbrev e_fr (M : eM) : Nat := M.2.2.2.2.1
abbrev e_lo (M : eM) : Nat := M.2.2.2.2.2
def e_tb : List Cond := lw_tbl.filter goodWord
def e_ws (M : eM) : List Cond := Cond.code (e_y M) (e_cc M) (e_nL M) (e_rt M) :: e_tb
def e_rm (M : eM) (dc ds : Nat) : Room := { frames := e_fr M, cells := dc, slots := ds, locals := e_lo M }
def e_ty (G : eG) : List (ClassId × FieldType) := [(e_cA G .int, .int), (e_cA G .boolean, .boolean), (e_cA G .long, .long), (e_cA G (.object "SlipLattice$Snapshot"), .object "SlipLattice$Snapshot")]
theorem e_tb_good {Ts : List Cond} (h : ∀ w ∈ e_tb, w ∈ Ts) {M : eM} (hc : Cond.code (e_y M) (e_cc M) (e_nL M) (e_rt M) ∈ e_tb) : GoodIn Ts (e_ws M) := by
  have key : ∀ w ∈ e_tb, w ∈ Ts ∧ ((w.onTables && w.keeps) = true ∨ ∃ ty, w = .arrayClass ty) := fun w hw => ⟨h w hw, good_of_word (List.mem_filter.mp hw).2⟩
  intro w hw
  rcases List.mem_cons.mp hw with rfl | hw
  · exact key _ hc
  · exact key _ hw
def e_Pc (G : eG) (As : List Value) (h : Nat → eO) (nx : Nat) : Array Value → State → Prop := fun v U => v = (As.map (e_tr G)).toArray ∧ e_Rep G h nx U.heap ∧ va_K (e_D G) vwCl (e_ty G) U ∧ e_Z G U U.heap
def e_Qc (G : eG) (nx : Nat) (post : Option Value → (Nat → eO) → Prop) : Array Value → State → Outcome → State → Prop := fun _ st oc t =>
  (∃ (r : Option Value) (h' : Nat → eO), oc = .returned (r.map (e_tr G)) ∧ post r h' ∧ e_Rep G h' nx t.heap) ∧ va_F (e_A G) st t
/-- a method's contract: from the abstract heap h, with the arguments As, it returns as 'post' says, dc cells of ds slots are new -/
def eSem (G : eG) (l : Launch) (M : eM) (As : List Value) (h : Nat → eO) (nx dc ds : Nat) (post : Option Value → (Nat → eO) → Prop) : Prop :=
  Met l (e_y M) (e_ws M) (e_rm M dc ds) (e_Pc G As h nx) (e_Qc G (nx + dc) post) dc ds (e_A G)
theorem e_Pc_blind (G : eG) (As : List Value) (h : Nat → eO) (nx : Nat) : FrameBlind (e_Pc G As h nx) := by
  intro a U g mk q
  obtain ⟨q1, q2, q3, q4⟩ := q
  exact ⟨q1, q2, va_K.moved (u := U) (U := U.calling g mk a) (Vm.Alike.refl U.vm) q3, e_Z.same (u := U) (U := U.calling g mk a) rfl q4⟩
/-! ===== the judgement inside a method ===== -/
abbrev eX : Type := Program × Launch × Env × Room × State × MethodId × Array Value × List Frame × Method × Code × (State → Prop)
abbrev x_p (X : eX) : Program := X.1
abbrev x_l (X : eX) : Launch := X.2.1
abbrev x_e (X : eX) : Env := X.2.2.1
abbrev x_R (X : eX) : Room := X.2.2.2.1
abbrev x_s (X : eX) : State := X.2.2.2.2.1
abbrev x_m (X : eX) : MethodId := X.2.2.2.2.2.1
abbrev x_a (X : eX) : Array Value := X.2.2.2.2.2.2.1
abbrev x_b (X : eX) : List Frame := X.2.2.2.2.2.2.2.1
abbrev x_t (X : eX) : Method := X.2.2.2.2.2.2.2.2.1
abbrev x_c (X : eX) : Code := X.2.2.2.2.2.2.2.2.2.1
abbrev x_Q (X : eX) : State → Prop := X.2.2.2.2.2.2.2.2.2.2
def eFx (G : eG) (M : eM) (X : eX) : Prop :=
  (x_p X).tables.exec = Jvm.exec ∧ (x_c X).code = e_cc M ∧ (x_c X).maxLocals = e_nL M ∧ (x_s X).vm.findClass (e_y M).cls = some (x_m X).cls ∧ (∀ w ∈ e_tb, w.before (x_a X) (x_s X) = true) ∧
  va_K (e_D G) vwCl (e_ty G) (x_s X) ∧ e_Z G (x_s X) (x_s X).heap ∧ (x_t X).name = (e_y M).name ∧ (x_t X).sig.returnType = e_rt M ∧ (x_t X).locks = false ∧ (x_R X).frames = e_fr M ∧ (x_R X).locals = e_lo M ∧ e_S0 G ≤ (x_s X).heap.size
def eW (X : eX) (H : Heap) (locs : List Loc) (cells slots : Nat) (g : JFrame) : Prop := W (x_p X) (x_l X) (x_e X) (x_R X) (x_s X) (x_m X) (x_a X) (x_b X) (x_t X) (x_c X) H locs cells slots (x_Q X) g
def eRun (G : eG) (X : eX) (pc : Nat) (L : List (Option Value)) (S : List Value) (h : Nat → eO) (l : List (Nat × eO)) (nx c sl : Nat) : Prop :=
  ∀ (H : Heap) (locs : List Loc) (ls : Array Slot), e_Rep G (e_up h l) nx H → va_S (e_A G) (x_s X).heap H locs → e_L G L ls → eW X H locs c sl (F0 (x_m X) pc ls (S.map (e_tr G)))
def e_b (b : Bool) : Int32 := bif b then 1 else 0
theorem e_b_nar (b : Bool) : narrow .boolean (.int (e_b b)) = .int (e_b b) := by cases b <;> rfl
theorem e_b_fit (b : Bool) : fits .boolean (.int (e_b b)) = true := by cases b <;> rfl
theorem e_lt {a b n : Nat} (h : b ≤ n) (q : Nat.blt a b = true) : a < n := Nat.lt_of_lt_of_le (Nat.blt_eq.mp q) h
theorem e_le {a b : Nat} (q : Nat.ble a b = true) : a ≤ b := Nat.le_of_ble_eq_true q
section ROWS
variable {G : eG} {M : eM} {X : eX} {pc nx c sl : Nat} {L : List (Option Value)} {S : List Value} {h : Nat → eO} {l : List (Nat × eO)}

theorem r_iconst (F : eFx G M X) {n : Int} {v : Int32} (hd : decode (e_cc M) pc = .ok (.iconst n, 1)) (hv : Int32.ofInt n = v) (k : eRun G X (pc + 1) L (.int v :: S) h l nx c sl) : eRun G X pc L S h l nx c sl :=
  fun H locs ls hR hS hL => lv_iconst F.1 F.2.1 hd hv (k H locs ls hR hS hL)
theorem r_lconst (F : eFx G M X) {n : Fin 2} {v : Int64} (hd : decode (e_cc M) pc = .ok (.lconst n, 1)) (hv : Int64.ofNat (n : Nat) = v) (k : eRun G X (pc + 1) L (.long v :: S) h l nx c sl) : eRun G X pc L S h l nx c sl :=
  fun H locs ls hR hS hL => lv_lconst F.1 F.2.1 hd hv (k H locs ls hR hS hL)
theorem r_bipush (F : eFx G M X) {n : Int} {v : Int32} (hd : decode (e_cc M) pc = .ok (.bipush n, 2)) (hv : (Int8.ofInt n).toInt32 = v) (k : eRun G X (pc + 2) L (.int v :: S) h l nx c sl) : eRun G X pc L S h l nx c sl :=
  fun H locs ls hR hS hL => lv_bipush F.1 F.2.1 hd hv (k H locs ls hR hS hL)
theorem r_sipush (F : eFx G M X) {n : Int} {v : Int32} (hd : decode (e_cc M) pc = .ok (.sipush n, 3)) (hv : (Int16.ofInt n).toInt32 = v) (k : eRun G X (pc + 3) L (.int v :: S) h l nx c sl) : eRun G X pc L S h l nx c sl :=
  fun H locs ls hR hS hL => lv_sipush F.1 F.2.1 hd hv (k H locs ls hR hS hL)
theorem r_ldc (F : eFx G M X) {i : Nat} {v : Int32} (hd : decode (e_cc M) pc = .ok (.ldc i, 2)) (hw : Cond.constant (e_y M).cls i v ∈ e_tb) (k : eRun G X (pc + 2) L (.int v :: S) h l nx c sl) : eRun G X pc L S h l nx c sl :=
  fun H locs ls hR hS hL => lv_ldc F.1 F.2.1 F.2.2.2.1 (F.2.2.2.2.1 _ hw) hd (k H locs ls hR hS hL)
theorem r_ldc2 (F : eFx G M X) {i : Nat} {v : Int64} (hd : decode (e_cc M) pc = .ok (.ldc2_w i, 3)) (hw : Cond.constantLong (e_y M).cls i v ∈ e_tb) (k : eRun G X (pc + 3) L (.long v :: S) h l nx c sl) : eRun G X pc L S h l nx c sl :=
  fun H locs ls hR hS hL => lv_ldc2 F.1 F.2.1 F.2.2.2.1 (F.2.2.2.2.1 _ hw) hd (k H locs ls hR hS hL)
theorem r_iload (F : eFx G M X) {i : Nat} {x : Int32} (hd : decode (e_cc M) pc = .ok (.iload i, 2)) (hl : L[i]? = some (some (.int x))) (k : eRun G X (pc + 2) L (.int x :: S) h l nx c sl) : eRun G X pc L S h l nx c sl :=
  fun H locs ls hR hS hL => lv_iload F.1 F.2.1 hd (hL.at hl) (k H locs ls hR hS hL)
theorem r_iload_n (F : eFx G M X) {n : Fin 4} {x : Int32} (hd : decode (e_cc M) pc = .ok (.iload_n n, 1)) (hl : L[(n : Nat)]? = some (some (.int x))) (k : eRun G X (pc + 1) L (.int x :: S) h l nx c sl) : eRun G X pc L S h l nx c sl :=
  fun H locs ls hR hS hL => lv_iload_n F.1 F.2.1 hd rfl (hL.at hl) (k H locs ls hR hS hL)
theorem r_aload (F : eFx G M X) {i : Nat} {x : Nat} (hd : decode (e_cc M) pc = .ok (.aload i, 2)) (hl : L[i]? = some (some (.ref x))) (k : eRun G X (pc + 2) L (.ref x :: S) h l nx c sl) : eRun G X pc L S h l nx c sl :=
  fun H locs ls hR hS hL => lv_aload F.1 F.2.1 hd (hL.at hl) (k H locs ls hR hS hL)
theorem r_aload_n (F : eFx G M X) {n : Fin 4} {x : Nat} (hd : decode (e_cc M) pc = .ok (.aload_n n, 1)) (hl : L[(n : Nat)]? = some (some (.ref x))) (k : eRun G X (pc + 1) L (.ref x :: S) h l nx c sl) : eRun G X pc L S h l nx c sl :=
  fun H locs ls hR hS hL => lv_aload_n F.1 F.2.1 hd rfl (hL.at hl) (k H locs ls hR hS hL)
theorem r_lload (F : eFx G M X) {i : Nat} {x : Int64} (hd : decode (e_cc M) pc = .ok (.lload i, 2)) (hl : L[i]? = some (some (.long x))) (k : eRun G X (pc + 2) L (.long x :: S) h l nx c sl) : eRun G X pc L S h l nx c sl :=
  fun H locs ls hR hS hL => lv_lload F.1 F.2.1 hd (hL.at hl) (k H locs ls hR hS hL)
theorem r_lload_n (F : eFx G M X) {n : Fin 4} {x : Int64} (hd : decode (e_cc M) pc = .ok (.lload_n n, 1)) (hl : L[(n : Nat)]? = some (some (.long x))) (k : eRun G X (pc + 1) L (.long x :: S) h l nx c sl) : eRun G X pc L S h l nx c sl :=
  fun H locs ls hR hS hL => lv_lload_n F.1 F.2.1 hd rfl (hL.at hl) (k H locs ls hR hS hL)
theorem r_istore (F : eFx G M X) {i : Nat} {x : Int32} {L' : List (Option Value)} (hd : decode (e_cc M) pc = .ok (.istore i, 2)) (hi : i < L.length) (hL' : e_st1 L i (.int x) = L') (k : eRun G X (pc + 2) L' S h l nx c sl) : eRun G X pc L (.int x :: S) h l nx c sl :=
  fun H locs ls hR hS hL => lv_istore F.1 F.2.1 hd hL hi rfl (fun ls1 hl1 => k H locs ls1 hR hS (e_L.st1 (ls := ls) hL' hl1))
theorem r_istore_n (F : eFx G M X) {n : Fin 4} {x : Int32} {L' : List (Option Value)} (hd : decode (e_cc M) pc = .ok (.istore_n n, 1)) (hi : (n : Nat) < L.length) (hL' : e_st1 L (n : Nat) (.int x) = L') (k : eRun G X (pc + 1) L' S h l nx c sl) : eRun G X pc L (.int x :: S) h l nx c sl :=
  fun H locs ls hR hS hL => lv_istore_n F.1 F.2.1 hd rfl hL hi rfl (fun ls1 hl1 => k H locs ls1 hR hS (e_L.st1 (ls := ls) hL' hl1))
theorem r_astore (F : eFx G M X) {i : Nat} {x : Nat} {L' : List (Option Value)} (hd : decode (e_cc M) pc = .ok (.astore i, 2)) (hi : i < L.length) (hL' : e_st1 L i (.ref x) = L') (k : eRun G X (pc + 2) L' S h l nx c sl) : eRun G X pc L (.ref x :: S) h l nx c sl :=
  fun H locs ls hR hS hL => lv_astore F.1 F.2.1 hd hL hi rfl (fun ls1 hl1 => k H locs ls1 hR hS (e_L.st1 (ls := ls) hL' hl1))
theorem r_astore_n (F : eFx G M X) {n : Fin 4} {x : Nat} {L' : List (Option Value)} (hd : decode (e_cc M) pc = .ok (.astore_n n, 1)) (hi : (n : Nat) < L.length) (hL' : e_st1 L (n : Nat) (.ref x) = L') (k : eRun G X (pc + 1) L' S h l nx c sl) : eRun G X pc L (.ref x :: S) h l nx c sl :=
  fun H locs ls hR hS hL => lv_astore_n F.1 F.2.1 hd rfl hL hi rfl (fun ls1 hl1 => k H locs ls1 hR hS (e_L.st1 (ls := ls) hL' hl1))
theorem r_lstore (F : eFx G M X) {i : Nat} {x : Int64} {L' : List (Option Value)} (hd : decode (e_cc M) pc = .ok (.lstore i, 2)) (hi : i + 1 < L.length) (hL' : e_st2 L i (.long x) = L') (k : eRun G X (pc + 2) L' S h l nx c sl) : eRun G X pc L (.long x :: S) h l nx c sl :=
  fun H locs ls hR hS hL => lv_lstore F.1 F.2.1 hd hL hi rfl (fun ls1 hl1 => k H locs ls1 hR hS (e_L.st2 (ls := ls) hi hL' hl1))
theorem r_lstore_n (F : eFx G M X) {n : Fin 4} {x : Int64} {L' : List (Option Value)} (hd : decode (e_cc M) pc = .ok (.lstore_n n, 1)) (hi : (n : Nat) + 1 < L.length) (hL' : e_st2 L (n : Nat) (.long x) = L') (k : eRun G X (pc + 1) L' S h l nx c sl) : eRun G X pc L (.long x :: S) h l nx c sl :=
  fun H locs ls hR hS hL => lv_lstore_n F.1 F.2.1 hd rfl hL hi rfl (fun ls1 hl1 => k H locs ls1 hR hS (e_L.st2 (ls := ls) hi hL' hl1))
theorem r_iinc (F : eFx G M X) {i : Nat} {n : Int} {x v : Int32} {L' : List (Option Value)} (hd : decode (e_cc M) pc = .ok (.iinc i n, 3)) (hl : L[i]? = some (some (.int x))) (hv : x + Int32.ofInt n = v) (hL' : e_st1 L i (.int v) = L') (k : eRun G X (pc + 3) L' S h l nx c sl) : eRun G X pc L S h l nx c sl := by
  intro H locs ls hR hS hL
  have hm : (i, Value.int x) ∈ e_pairs G L 0 := (e_pairs_mem L 0 _).mpr ⟨i, _, hl, by simp [e_tr]⟩
  obtain ⟨j, hj⟩ := List.getElem?_of_mem hm
  exact lv_iinc F.1 F.2.1 hd hL hj hv (List.getElem?_eq_some_iff.mp hl).1 rfl (fun ls1 hl1 => k H locs ls1 hR hS (e_L.st1 (ls := ls) hL' hl1))
theorem r_iadd (F : eFx G M X) {x y : Int32} (hd : decode (e_cc M) pc = .ok (.iadd, 1))  (k : eRun G X (pc + 1) L (.int (x + y) :: S) h l nx c sl) : eRun G X pc L (.int y :: .int x :: S) h l nx c sl :=
  fun H locs ls hR hS hL => lv_iadd F.1 F.2.1 hd  (k H locs ls hR hS hL)
theorem r_isub (F : eFx G M X) {x y : Int32} (hd : decode (e_cc M) pc = .ok (.isub, 1))  (k : eRun G X (pc + 1) L (.int (x - y) :: S) h l nx c sl) : eRun G X pc L (.int y :: .int x :: S) h l nx c sl :=
  fun H locs ls hR hS hL => lv_isub F.1 F.2.1 hd  (k H locs ls hR hS hL)
theorem r_imul (F : eFx G M X) {x y : Int32} (hd : decode (e_cc M) pc = .ok (.imul, 1))  (k : eRun G X (pc + 1) L (.int (x * y) :: S) h l nx c sl) : eRun G X pc L (.int y :: .int x :: S) h l nx c sl :=
  fun H locs ls hR hS hL => lv_imul F.1 F.2.1 hd  (k H locs ls hR hS hL)
theorem r_iand (F : eFx G M X) {x y : Int32} (hd : decode (e_cc M) pc = .ok (.iand, 1))  (k : eRun G X (pc + 1) L (.int (x &&& y) :: S) h l nx c sl) : eRun G X pc L (.int y :: .int x :: S) h l nx c sl :=
  fun H locs ls hR hS hL => lv_iand F.1 F.2.1 hd  (k H locs ls hR hS hL)
theorem r_ior (F : eFx G M X) {x y : Int32} (hd : decode (e_cc M) pc = .ok (.ior, 1))  (k : eRun G X (pc + 1) L (.int (x ||| y) :: S) h l nx c sl) : eRun G X pc L (.int y :: .int x :: S) h l nx c sl :=
  fun H locs ls hR hS hL => lv_ior F.1 F.2.1 hd  (k H locs ls hR hS hL)
theorem r_ixor (F : eFx G M X) {x y : Int32} (hd : decode (e_cc M) pc = .ok (.ixor, 1))  (k : eRun G X (pc + 1) L (.int (x ^^^ y) :: S) h l nx c sl) : eRun G X pc L (.int y :: .int x :: S) h l nx c sl :=
  fun H locs ls hR hS hL => lv_ixor F.1 F.2.1 hd  (k H locs ls hR hS hL)
theorem r_ishl (F : eFx G M X) {x y : Int32} (hd : decode (e_cc M) pc = .ok (.ishl, 1))  (k : eRun G X (pc + 1) L (.int (x <<< (y &&& 31)) :: S) h l nx c sl) : eRun G X pc L (.int y :: .int x :: S) h l nx c sl :=
  fun H locs ls hR hS hL => lv_ishl F.1 F.2.1 hd  (k H locs ls hR hS hL)
theorem r_ishr (F : eFx G M X) {x y : Int32} (hd : decode (e_cc M) pc = .ok (.ishr, 1))  (k : eRun G X (pc + 1) L (.int (x >>> (y &&& 31)) :: S) h l nx c sl) : eRun G X pc L (.int y :: .int x :: S) h l nx c sl :=
  fun H locs ls hR hS hL => lv_ishr F.1 F.2.1 hd  (k H locs ls hR hS hL)
theorem r_ladd (F : eFx G M X) {x y : Int64} (hd : decode (e_cc M) pc = .ok (.ladd, 1))  (k : eRun G X (pc + 1) L (.long (x + y) :: S) h l nx c sl) : eRun G X pc L (.long y :: .long x :: S) h l nx c sl :=
  fun H locs ls hR hS hL => lv_ladd F.1 F.2.1 hd  (k H locs ls hR hS hL)
theorem r_lsub (F : eFx G M X) {x y : Int64} (hd : decode (e_cc M) pc = .ok (.lsub, 1))  (k : eRun G X (pc + 1) L (.long (x - y) :: S) h l nx c sl) : eRun G X pc L (.long y :: .long x :: S) h l nx c sl :=
  fun H locs ls hR hS hL => lv_lsub F.1 F.2.1 hd  (k H locs ls hR hS hL)
theorem r_lmul (F : eFx G M X) {x y : Int64} (hd : decode (e_cc M) pc = .ok (.lmul, 1))  (k : eRun G X (pc + 1) L (.long (x * y) :: S) h l nx c sl) : eRun G X pc L (.long y :: .long x :: S) h l nx c sl :=
  fun H locs ls hR hS hL => lv_lmul F.1 F.2.1 hd  (k H locs ls hR hS hL)
theorem r_land (F : eFx G M X) {x y : Int64} (hd : decode (e_cc M) pc = .ok (.land, 1))  (k : eRun G X (pc + 1) L (.long (x &&& y) :: S) h l nx c sl) : eRun G X pc L (.long y :: .long x :: S) h l nx c sl :=
  fun H locs ls hR hS hL => lv_land F.1 F.2.1 hd  (k H locs ls hR hS hL)
theorem r_lor (F : eFx G M X) {x y : Int64} (hd : decode (e_cc M) pc = .ok (.lor, 1))  (k : eRun G X (pc + 1) L (.long (x ||| y) :: S) h l nx c sl) : eRun G X pc L (.long y :: .long x :: S) h l nx c sl :=
  fun H locs ls hR hS hL => lv_lor F.1 F.2.1 hd  (k H locs ls hR hS hL)
theorem r_ineg (F : eFx G M X) {x : Int32} (hd : decode (e_cc M) pc = .ok (.ineg, 1))  (k : eRun G X (pc + 1) L (.int (0 - x) :: S) h l nx c sl) : eRun G X pc L (.int x :: S) h l nx c sl :=
  fun H locs ls hR hS hL => lv_ineg F.1 F.2.1 hd  (k H locs ls hR hS hL)
theorem r_lneg (F : eFx G M X) {x : Int64} (hd : decode (e_cc M) pc = .ok (.lneg, 1))  (k : eRun G X (pc + 1) L (.long (0 - x) :: S) h l nx c sl) : eRun G X pc L (.long x :: S) h l nx c sl :=
  fun H locs ls hR hS hL => lv_lneg F.1 F.2.1 hd  (k H locs ls hR hS hL)
theorem r_i2l (F : eFx G M X) {x : Int32} (hd : decode (e_cc M) pc = .ok (.i2l, 1))  (k : eRun G X (pc + 1) L (.long x.toInt64 :: S) h l nx c sl) : eRun G X pc L (.int x :: S) h l nx c sl :=
  fun H locs ls hR hS hL => lv_i2l F.1 F.2.1 hd rfl (k H locs ls hR hS hL)
theorem r_l2i (F : eFx G M X) {x : Int64} (hd : decode (e_cc M) pc = .ok (.l2i, 1))  (k : eRun G X (pc + 1) L (.int x.toInt32 :: S) h l nx c sl) : eRun G X pc L (.long x :: S) h l nx c sl :=
  fun H locs ls hR hS hL => lv_l2i F.1 F.2.1 hd rfl (k H locs ls hR hS hL)
theorem r_iushr (F : eFx G M X) {x y : Int32} (hd : decode (e_cc M) pc = .ok (.iushr, 1))  (k : eRun G X (pc + 1) L (.int (x.toUInt32 >>> (y.toUInt32 &&& Int32.toUInt32 31)).toInt32 :: S) h l nx c sl) : eRun G X pc L (.int y :: .int x :: S) h l nx c sl :=
  fun H locs ls hR hS hL => lv_iushr F.1 F.2.1 hd rfl (k H locs ls hR hS hL)
theorem r_lshl (F : eFx G M X) {x : Int64} {y : Int32} (hd : decode (e_cc M) pc = .ok (.lshl, 1))  (k : eRun G X (pc + 1) L (.long (x <<< (y.toInt64 &&& 63)) :: S) h l nx c sl) : eRun G X pc L (.int y :: .long x :: S) h l nx c sl :=
  fun H locs ls hR hS hL => lv_lshl F.1 F.2.1 hd rfl (k H locs ls hR hS hL)
theorem r_lshr (F : eFx G M X) {x : Int64} {y : Int32} (hd : decode (e_cc M) pc = .ok (.lshr, 1))  (k : eRun G X (pc + 1) L (.long (x >>> (y.toInt64 &&& 63)) :: S) h l nx c sl) : eRun G X pc L (.int y :: .long x :: S) h l nx c sl :=
  fun H locs ls hR hS hL => lv_lshr F.1 F.2.1 hd rfl (k H locs ls hR hS hL)
theorem r_lushr (F : eFx G M X) {x : Int64} {y : Int32} (hd : decode (e_cc M) pc = .ok (.lushr, 1))  (k : eRun G X (pc + 1) L (.long (x.toUInt64 >>> (y.toInt64.toUInt64 &&& Int64.toUInt64 63)).toInt64 :: S) h l nx c sl) : eRun G X pc L (.int y :: .long x :: S) h l nx c sl :=
  fun H locs ls hR hS hL => lv_lushr F.1 F.2.1 hd rfl (k H locs ls hR hS hL)
theorem r_idiv (F : eFx G M X) {x y : Int32} (hd : decode (e_cc M) pc = .ok (.idiv, 1)) (hne : ¬ y = 0) (k : eRun G X (pc + 1) L (.int (x / y) :: S) h l nx c sl) : eRun G X pc L (.int y :: .int x :: S) h l nx c sl :=
  fun H locs ls hR hS hL => lv_idiv F.1 F.2.1 hd hne (k H locs ls hR hS hL)
theorem r_irem (F : eFx G M X) {x y : Int32} (hd : decode (e_cc M) pc = .ok (.irem, 1)) (hne : ¬ y = 0) (k : eRun G X (pc + 1) L (.int (x - x / y * y) :: S) h l nx c sl) : eRun G X pc L (.int y :: .int x :: S) h l nx c sl :=
  fun H locs ls hR hS hL => lv_irem F.1 F.2.1 hd hne (k H locs ls hR hS hL)
theorem r_ldiv (F : eFx G M X) {x y : Int64} (hd : decode (e_cc M) pc = .ok (.ldiv, 1)) (hne : ¬ y = 0) (k : eRun G X (pc + 1) L (.long (x / y) :: S) h l nx c sl) : eRun G X pc L (.long y :: .long x :: S) h l nx c sl :=
  fun H locs ls hR hS hL => lv_ldiv F.1 F.2.1 hd hne (k H locs ls hR hS hL)
theorem r_lrem (F : eFx G M X) {x y : Int64} (hd : decode (e_cc M) pc = .ok (.lrem, 1)) (hne : ¬ y = 0) (k : eRun G X (pc + 1) L (.long (x - x / y * y) :: S) h l nx c sl) : eRun G X pc L (.long y :: .long x :: S) h l nx c sl :=
  fun H locs ls hR hS hL => lv_lrem F.1 F.2.1 hd hne (k H locs ls hR hS hL)
theorem r_dup (F : eFx G M X) {v : Value} (hd : decode (e_cc M) pc = .ok (.dup, 1)) (hc : v.category = 1) (k : eRun G X (pc + 1) L (v :: v :: S) h l nx c sl) : eRun G X pc L (v :: S) h l nx c sl :=
  fun H locs ls hR hS hL => lv_dup F.1 F.2.1 hd ((e_tr_cat G v).trans hc) (k H locs ls hR hS hL)
theorem r_dup2 (F : eFx G M X) {v u : Value} (hd : decode (e_cc M) pc = .ok (.dup2, 1)) (hc : v.category = 1) (hc2 : u.category = 1) (k : eRun G X (pc + 1) L (v :: u :: v :: u :: S) h l nx c sl) : eRun G X pc L (v :: u :: S) h l nx c sl :=
  fun H locs ls hR hS hL => lv_dup2_11 F.1 F.2.1 hd ((e_tr_cat G v).trans hc) ((e_tr_cat G u).trans hc2) (k H locs ls hR hS hL)
theorem r_pop (F : eFx G M X) {v : Value} (hd : decode (e_cc M) pc = .ok (.pop, 1)) (hc : v.category = 1) (k : eRun G X (pc + 1) L S h l nx c sl) : eRun G X pc L (v :: S) h l nx c sl :=
  fun H locs ls hR hS hL => lv_pop F.1 F.2.1 hd ((e_tr_cat G v).trans hc) (k H locs ls hR hS hL)
theorem r_goto (F : eFx G M X) {off : Int} {tgt : Nat} (hd : decode (e_cc M) pc = .ok (.goto off, 3)) (ht : (pc : Int) + off = (tgt : Int)) (k : eRun G X tgt L S h l nx c sl) : eRun G X pc L S h l nx c sl :=
  fun H locs ls hR hS hL => lv_goto F.1 F.2.1 hd ht (k H locs ls hR hS hL)
theorem r_icmp_eq (F : eFx G M X) {x y : Int32} {off : Int} {tgt : Nat} (hd : decode (e_cc M) pc = .ok (.if_icmp .eq off, 3)) (ht : (pc : Int) + off = (tgt : Int)) (kt : x = y → eRun G X tgt L S h l nx c sl) (kf : ¬ x = y → eRun G X (pc + 3) L S h l nx c sl) : eRun G X pc L (.int y :: .int x :: S) h l nx c sl :=
  fun H locs ls hR hS hL => lv_icmp_eq F.1 F.2.1 hd ht (fun z => kt z H locs ls hR hS hL) (fun z => kf z H locs ls hR hS hL)
theorem r_if_eq (F : eFx G M X) {x : Int32} {off : Int} {tgt : Nat} (hd : decode (e_cc M) pc = .ok (.ifCond .eq off, 3)) (ht : (pc : Int) + off = (tgt : Int)) (kt : x = 0 → eRun G X tgt L S h l nx c sl) (kf : ¬ x = 0 → eRun G X (pc + 3) L S h l nx c sl) : eRun G X pc L (.int x :: S) h l nx c sl :=
  fun H locs ls hR hS hL => lv_if_eq F.1 F.2.1 hd ht (fun z => kt z H locs ls hR hS hL) (fun z => kf z H locs ls hR hS hL)
theorem r_icmp_ne (F : eFx G M X) {x y : Int32} {off : Int} {tgt : Nat} (hd : decode (e_cc M) pc = .ok (.if_icmp .ne off, 3)) (ht : (pc : Int) + off = (tgt : Int)) (kt : ¬ x = y → eRun G X tgt L S h l nx c sl) (kf : x = y → eRun G X (pc + 3) L S h l nx c sl) : eRun G X pc L (.int y :: .int x :: S) h l nx c sl :=
  fun H locs ls hR hS hL => lv_icmp_ne F.1 F.2.1 hd ht (fun z => kt z H locs ls hR hS hL) (fun z => kf z H locs ls hR hS hL)
theorem r_if_ne (F : eFx G M X) {x : Int32} {off : Int} {tgt : Nat} (hd : decode (e_cc M) pc = .ok (.ifCond .ne off, 3)) (ht : (pc : Int) + off = (tgt : Int)) (kt : ¬ x = 0 → eRun G X tgt L S h l nx c sl) (kf : x = 0 → eRun G X (pc + 3) L S h l nx c sl) : eRun G X pc L (.int x :: S) h l nx c sl :=
  fun H locs ls hR hS hL => lv_if_ne F.1 F.2.1 hd ht (fun z => kt z H locs ls hR hS hL) (fun z => kf z H locs ls hR hS hL)
theorem r_icmp_lt (F : eFx G M X) {x y : Int32} {off : Int} {tgt : Nat} (hd : decode (e_cc M) pc = .ok (.if_icmp .lt off, 3)) (ht : (pc : Int) + off = (tgt : Int)) (kt : x < y → eRun G X tgt L S h l nx c sl) (kf : ¬ x < y → eRun G X (pc + 3) L S h l nx c sl) : eRun G X pc L (.int y :: .int x :: S) h l nx c sl :=
  fun H locs ls hR hS hL => lv_icmp_lt F.1 F.2.1 hd ht (fun z => kt z H locs ls hR hS hL) (fun z => kf z H locs ls hR hS hL)
theorem r_if_lt (F : eFx G M X) {x : Int32} {off : Int} {tgt : Nat} (hd : decode (e_cc M) pc = .ok (.ifCond .lt off, 3)) (ht : (pc : Int) + off = (tgt : Int)) (kt : x < 0 → eRun G X tgt L S h l nx c sl) (kf : ¬ x < 0 → eRun G X (pc + 3) L S h l nx c sl) : eRun G X pc L (.int x :: S) h l nx c sl :=
  fun H locs ls hR hS hL => lv_if_lt F.1 F.2.1 hd ht (fun z => kt z H locs ls hR hS hL) (fun z => kf z H locs ls hR hS hL)
theorem r_icmp_ge (F : eFx G M X) {x y : Int32} {off : Int} {tgt : Nat} (hd : decode (e_cc M) pc = .ok (.if_icmp .ge off, 3)) (ht : (pc : Int) + off = (tgt : Int)) (kt : y ≤ x → eRun G X tgt L S h l nx c sl) (kf : ¬ y ≤ x → eRun G X (pc + 3) L S h l nx c sl) : eRun G X pc L (.int y :: .int x :: S) h l nx c sl :=
  fun H locs ls hR hS hL => lv_icmp_ge F.1 F.2.1 hd ht (fun z => kt z H locs ls hR hS hL) (fun z => kf z H locs ls hR hS hL)
theorem r_if_ge (F : eFx G M X) {x : Int32} {off : Int} {tgt : Nat} (hd : decode (e_cc M) pc = .ok (.ifCond .ge off, 3)) (ht : (pc : Int) + off = (tgt : Int)) (kt : 0 ≤ x → eRun G X tgt L S h l nx c sl) (kf : ¬ 0 ≤ x → eRun G X (pc + 3) L S h l nx c sl) : eRun G X pc L (.int x :: S) h l nx c sl :=
  fun H locs ls hR hS hL => lv_if_ge F.1 F.2.1 hd ht (fun z => kt z H locs ls hR hS hL) (fun z => kf z H locs ls hR hS hL)
theorem r_icmp_gt (F : eFx G M X) {x y : Int32} {off : Int} {tgt : Nat} (hd : decode (e_cc M) pc = .ok (.if_icmp .gt off, 3)) (ht : (pc : Int) + off = (tgt : Int)) (kt : y < x → eRun G X tgt L S h l nx c sl) (kf : ¬ y < x → eRun G X (pc + 3) L S h l nx c sl) : eRun G X pc L (.int y :: .int x :: S) h l nx c sl :=
  fun H locs ls hR hS hL => lv_icmp_gt F.1 F.2.1 hd ht (fun z => kt z H locs ls hR hS hL) (fun z => kf z H locs ls hR hS hL)
theorem r_if_gt (F : eFx G M X) {x : Int32} {off : Int} {tgt : Nat} (hd : decode (e_cc M) pc = .ok (.ifCond .gt off, 3)) (ht : (pc : Int) + off = (tgt : Int)) (kt : 0 < x → eRun G X tgt L S h l nx c sl) (kf : ¬ 0 < x → eRun G X (pc + 3) L S h l nx c sl) : eRun G X pc L (.int x :: S) h l nx c sl :=
  fun H locs ls hR hS hL => lv_if_gt F.1 F.2.1 hd ht (fun z => kt z H locs ls hR hS hL) (fun z => kf z H locs ls hR hS hL)
theorem r_icmp_le (F : eFx G M X) {x y : Int32} {off : Int} {tgt : Nat} (hd : decode (e_cc M) pc = .ok (.if_icmp .le off, 3)) (ht : (pc : Int) + off = (tgt : Int)) (kt : x ≤ y → eRun G X tgt L S h l nx c sl) (kf : ¬ x ≤ y → eRun G X (pc + 3) L S h l nx c sl) : eRun G X pc L (.int y :: .int x :: S) h l nx c sl :=
  fun H locs ls hR hS hL => lv_icmp_le F.1 F.2.1 hd ht (fun z => kt z H locs ls hR hS hL) (fun z => kf z H locs ls hR hS hL)
theorem r_if_le (F : eFx G M X) {x : Int32} {off : Int} {tgt : Nat} (hd : decode (e_cc M) pc = .ok (.ifCond .le off, 3)) (ht : (pc : Int) + off = (tgt : Int)) (kt : x ≤ 0 → eRun G X tgt L S h l nx c sl) (kf : ¬ x ≤ 0 → eRun G X (pc + 3) L S h l nx c sl) : eRun G X pc L (.int x :: S) h l nx c sl :=
  fun H locs ls hR hS hL => lv_if_le F.1 F.2.1 hd ht (fun z => kt z H locs ls hR hS hL) (fun z => kf z H locs ls hR hS hL)
end ROWS
