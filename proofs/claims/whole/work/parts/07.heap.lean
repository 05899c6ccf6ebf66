/-! ===== rows of the heap ===== -/
def e_cT (ci : Nat) : vw_C := vwCl.getD ci (RX0, TX0, 3)
def e_tyT (ci : Nat) : Nat → FieldType := [tyX0, tyX1, tyX2, tyX3, tyX4, tyX5, tyX6, tyX7, tyX8, tyX9, tyX10, tyX11, tyX12].getD ci tyX0
def e_clP (ci : Nat) : Prop := vwCl[ci]? = some (e_cT ci) ∧ (∀ w ∈ u_ws (e_cT ci).1 (e_cT ci).2.1 (e_cT ci).2.2, w ∈ e_tb) ∧ (∀ k, k < (e_cT ci).2.2 → parseFieldDescriptor ((e_cT ci).2.1 k).2.2.1 = some (e_tyT ci k)) ∧ (∀ a, a < (e_cT ci).2.2 → ∀ b, b < (e_cT ci).2.2 → a ≠ b → ((e_cT ci).2.1 a).2.1 ≠ ((e_cT ci).2.1 b).2.1)
/-- entry idx of the class own names the field k of the class ci -/
def e_fl (own : String) (idx ci k : Nat) : Prop := e_clP ci ∧ k < (e_cT ci).2.2 ∧ Cond.fieldLink own idx ((e_cT ci).2.1 k).1 ((e_cT ci).2.1 k).2.1 ((e_cT ci).2.1 k).2.2.1 ∈ e_tb
section HEAP
variable {G : eG} {M : eM} {X : eX} {pc nx c sl : Nat} {L : List (Option Value)} {S : List Value} {h : Nat → eO} {l : List (Nat × eO)}
theorem e_one {H : Heap} {q : Nat × va_E} (hq : va_at (e_D G) vwCl q H) : va_P (e_D G) vwCl [q] H := by
  intro k q' hk
  cases k with
  | zero => cases hk; exact hq
  | succ k => simp at hk
theorem r_get (F : eFx G M X) {idx ci k a : Nat} {fs : List Value} {v : Value} (hd : decode (e_cc M) pc = .ok (.getfield idx, 3)) (fl : e_fl (e_y M).cls idx ci k) (ho : e_up h l a = .inr (ci, fs)) (hv : fs[k]? = some v) (h1 : 32 ≤ a) (h2 : a < nx)
    (kk : eRun G X (pc + 3) L (v :: S) h l nx c sl) : eRun G X pc L (.ref a :: S) h l nx c sl := by
  intro H locs ls hR hS hL
  have hat := hR.get h1 h2 ho (e_okC fl.1.1)
  exact va_get (ref := ((e_cT ci).2.1 k).1) F.1 F.2.1 F.2.2.2.2.1 fl.1.2.1 F.2.2.2.1 F.2.2.2.2.2.1 (e_one hat) 0 (fs := fs.map (e_tr G)) rfl fl.1.1 k fl.2.1 (F.2.2.2.2.1 _ fl.2.2) (fun _ z => z) (v := e_tr G v) (by rw [List.getElem?_map, hv]; rfl) hd (kk H locs ls hR hS hL)
theorem e_wr {H' : Heap} {ci k a : Nat} {fs : List Value} {v : Value} {cell : Cell} {r : vw_C} (hc : vwCl[ci]? = some r) (hl : k < fs.length) (hk : k < r.2.2) (hap : ∀ x y, x < r.2.2 → y < r.2.2 → x ≠ y → (e_D G).2 ci x ≠ (e_D G).2 ci y) (q2 : cell.cls = (e_D G).1 ci) (q3 : cell.vm = .none) (q4 : ∀ k, k < r.2.2 → cell.slots[(e_D G).2 ci k]? = some (vp_V (fs.map (e_tr G)) k)) (e1 : H'[a]? = some (cell.setSlot ((e_D G).2 ci k) (e_tr G v))) : va_at (e_D G) vwCl (a, e_E G (.inr (ci, fs.set k v))) H' := by
  refine ⟨r, hc, t_OB.to (V := updV (vp_V (fs.map (e_tr G))) k (e_tr G v)) ⟨_, e1, q2, q3, t_set q4 hap hk (e_tr G v)⟩ (fun j _ => ?_)⟩
  rw [vp_updV_set (by simpa using hl) (e_tr G v) j, List.map_set]
theorem r_put (F : eFx G M X) {idx ci k a : Nat} {fs : List Value} {v : Value} {l' : List (Nat × eO)} (hd : decode (e_cc M) pc = .ok (.putfield idx, 3)) (fl : e_fl (e_y M).cls idx ci k) (hfin : ((e_cT ci).2.1 k).2.2.2 = false) (hn : narrow (e_tyT ci k) (e_tr G v) = e_tr G v) (hfit : fits (e_tyT ci k) (e_tr G v) = true)
    (ho : e_up h l a = .inr (ci, fs)) (hl : k < fs.length) (h1 : 32 ≤ a) (h2 : a < nx) (hl' : e_ins l a (.inr (ci, fs.set k v)) = l')
    (kk : eRun G X (pc + 3) L S h l' nx c sl) : eRun G X pc L (v :: .ref a :: S) h l nx c sl := by
  intro H locs ls hR hS hL
  obtain ⟨r, hr, cell, q1, q2, q3, q4⟩ := hR.get h1 h2 ho (e_okC fl.1.1)
  have hcl := fl.1
  have hc := hcl.1
  cases hr.symm.trans hc
  have hK := F.2.2.2.2.2.1
  have hap := va_apart (own := (e_y M).cls) F.2.2.2.2.1 hcl.2.1 _ hcl.2.2.1 hcl.2.2.2 hK hc
  obtain ⟨hSl, hfc, kC, hkC, hkind⟩ := hK.1 ci _ hc
  obtain ⟨cf, kf, fi, f, hi, hsl⟩ := hSl k fl.2.1
  have hlay := F.2.2.2.2.1 _ (hcl.2.1 _ (u_in_lay fl.2.1))
  unfold u_lay at hlay
  rw [if_neg (by rw [hfin]; decide)] at hlay
  have hst := (u_facts hfc hkC (u_lays F.2.2.2.2.1 hcl.2.1 fl.2.1) hi).1
  have h6 := u_store hfc hkC hkind hlay hi (hcl.2.2.1 k fl.2.1) hn hfit
  refine W.putK F.1 F.2.1 (f := f) ⟨F.2.2.2.1, F.2.2.2.2.1 _ fl.2.2, ⟨_, _, _, hi⟩, hst⟩ (by rw [q2]; exact h6) q1 q3 (by rw [hsl]; exact k2_hasslot (q4 k fl.2.1)) rfl rfl hd fun H' e1 e2 e3 => ?_
  rw [hsl] at e1 ⊢
  refine kk H' _ ls ?_ (e_S_put hS h1 e2 e3) hL
  rw [← hl', e_up_ins]
  exact hR.put h1 e2 (e_wr hc hl fl.2.1 hap q2 q3 q4 e1) e3
/-- a final field, in its class's constructor -/
theorem r_putF (F : eFx G M X) {idx ci k a : Nat} {fs : List Value} {v : Value} {l' : List (Nat × eO)} (hd : decode (e_cc M) pc = .ok (.putfield idx, 3)) (fl : e_fl (e_y M).cls idx ci k) (hfin : ((e_cT ci).2.1 k).2.2.2 = true) (hin2 : (e_y M).name = "<init>") (hdecl : ((e_cT ci).2.1 k).1 = (e_y M).cls) (hn : narrow (e_tyT ci k) (e_tr G v) = e_tr G v) (hfit : fits (e_tyT ci k) (e_tr G v) = true)
    (ho : e_up h l a = .inr (ci, fs)) (hl : k < fs.length) (h1 : 32 ≤ a) (h2 : a < nx) (hl' : e_ins l a (.inr (ci, fs.set k v)) = l')
    (kk : eRun G X (pc + 3) L S h l' nx c sl) : eRun G X pc L (v :: .ref a :: S) h l nx c sl := by
  intro H locs ls hR hS hL
  obtain ⟨r, hr, cell, q1, q2, q3, q4⟩ := hR.get h1 h2 ho (e_okC fl.1.1)
  have hcl := fl.1
  have hc := hcl.1
  cases hr.symm.trans hc
  have hK := F.2.2.2.2.2.1
  have hown := F.2.2.2.1
  have hap := va_apart (own := (e_y M).cls) F.2.2.2.2.1 hcl.2.1 _ hcl.2.2.1 hcl.2.2.2 hK hc
  obtain ⟨hSl, hfc, kC, hkC, hkind⟩ := hK.1 ci _ hc
  obtain ⟨cf, kf, fi, f, hi, hsl⟩ := hSl k fl.2.1
  have hlay := F.2.2.2.2.1 _ (hcl.2.1 _ (u_in_lay fl.2.1))
  unfold u_lay at hlay
  rw [if_pos hfin] at hlay
  have hst := (u_facts hfc hkC (u_lays F.2.2.2.2.1 hcl.2.1 fl.2.1) hi).1
  have hcf : (x_m X).cls = cf := by
    obtain ⟨_, _, c', _, _, _, -, -, hf', -, -, -, hown2, -⟩ := Cond.laysFinal_spec hlay
    have e1 : c' = cf := by have := hi.symm.trans hf'; simp at this; exact this.1.symm
    rw [hdecl] at hown2
    rw [← e1]; exact Option.some.inj (hown.symm.trans hown2)
  have h6 := u_fits hfc hkC hkind (Or.inr hlay) hi (hcl.2.2.1 k fl.2.1) hn hfit
  refine W.putFinK F.1 F.2.1 hown (F.2.2.2.2.1 _ fl.2.2) hi hst hcf (F.2.2.2.2.2.2.2.1.trans hin2) (by rw [q2]; exact h6) q1 q3 (by rw [hsl]; exact k2_hasslot (q4 k fl.2.1)) rfl rfl hd fun H' e1 e2 e3 => ?_
  rw [hsl] at e1 ⊢
  refine kk H' _ ls ?_ (e_S_put hS h1 e2 e3) hL
  rw [← hl', e_up_ins]
  exact hR.put h1 e2 (e_wr hc hl fl.2.1 hap q2 q3 q4 e1) e3
/-- arrays of ints -/
theorem r_iald (F : eFx G M X) {a n : Nat} {f : Nat → Int32} {i : Int32} (hd : decode (e_cc M) pc = .ok (.iaload, 1)) (ho : e_up h l a = .inl (.int, n, .inl f)) (h1 : 32 ≤ a) (h2 : a < nx) (hin : vp_in i n)
    (kk : eRun G X (pc + 1) L (.int (f i.toNatClampNeg) :: S) h l nx c sl) : eRun G X pc L (.int i :: .ref a :: S) h l nx c sl := by
  intro H locs ls hR hS hL
  exact va_iald F.1 F.2.1 F.2.2.2.2.2.1 (e_one (hR.get h1 h2 ho)) 0 0 rfl rfl hin hd (kk H locs ls hR hS hL)
theorem r_lald (F : eFx G M X) {a n : Nat} {f : Nat → Int64} {i : Int32} (hd : decode (e_cc M) pc = .ok (.laload, 1)) (ho : e_up h l a = .inl (.long, n, .inr (.inl f))) (h1 : 32 ≤ a) (h2 : a < nx) (hin : vp_in i n)
    (kk : eRun G X (pc + 1) L (.long (f i.toNatClampNeg) :: S) h l nx c sl) : eRun G X pc L (.int i :: .ref a :: S) h l nx c sl := by
  intro H locs ls hR hS hL
  exact va_lald F.1 F.2.1 F.2.2.2.2.2.1 (e_one (hR.get h1 h2 ho)) 0 2 rfl rfl hin hd (kk H locs ls hR hS hL)
theorem r_aald (F : eFx G M X) {a n : Nat} {f : Nat → Option Nat} {i : Int32} {v : Value} (hd : decode (e_cc M) pc = .ok (.aaload, 1)) (ho : e_up h l a = .inl (.object "SlipLattice$Snapshot", n, .inr (.inr (.inr (.inr f))))) (h1 : 32 ≤ a) (h2 : a < nx) (hin : vp_in i n) (hv : va_rf (f i.toNatClampNeg) = v)
    (kk : eRun G X (pc + 1) L (v :: S) h l nx c sl) : eRun G X pc L (.int i :: .ref a :: S) h l nx c sl := by
  intro H locs ls hR hS hL
  refine va_aldq F.1 F.2.1 F.2.2.2.2.2.1 (e_one (hR.get h1 h2 ho)) 0 3 rfl rfl hin hd ?_
  have e : va_rf ((f i.toNatClampNeg).map (e_ad G)) = e_tr G v := by
    rw [← hv]
    cases f i.toNatClampNeg <;> rfl
  have k2 := kk H locs ls hR hS hL
  simp only [List.map_cons] at k2
  rw [← e] at k2
  exact k2
theorem r_iast (F : eFx G M X) {a n : Nat} {f : Nat → Int32} {i x : Int32} {l' : List (Nat × eO)} (hd : decode (e_cc M) pc = .ok (.iastore, 1)) (ho : e_up h l a = .inl (.int, n, .inl f)) (h1 : 32 ≤ a) (h2 : a < nx) (hin : vp_in i n) (hl' : e_ins l a (.inl (.int, n, .inl (upd f i.toNatClampNeg x))) = l')
    (kk : eRun G X (pc + 1) L S h l' nx c sl) : eRun G X pc L (.int x :: .int i :: .ref a :: S) h l nx c sl := by
  intro H locs ls hR hS hL
  have hat := hR.get h1 h2 ho
  refine W.iast F.1 F.2.1 hat ((F.2.2.2.2.2.1.2 0 _ rfl).1 n (fun j => .int (f j))) (fun q => by cases q) (by show ¬ (i < 0 ∨ (arrV _ _ _).slots.size ≤ _); rw [arrV_size]; exact hin) rfl rfl hd fun H1 e z oq => ?_
  refine kk H1 _ ls ?_ (e_S_put hS h1 z oq) hL
  rw [← hl', e_up_ins]
  refine hR.put h1 z ?_ oq
  show H1[e_ad G a]? = some (vp_cell _ _)
  rw [e]
  show some ((vp_cell (e_cA G .int) (n, .inl f)).setSlot i.toNatClampNeg (Value.int x)) = some (vp_cell (e_cA G .int) (n, .inl (upd f i.toNatClampNeg x)))
  rw [vp_cell_i, vp_cell_i, arrV_store]
  congr 2
  funext q
  by_cases hq : q = i.toNatClampNeg
  · subst hq
    simp [updV, upd]
  · simp [updV, upd, hq]
theorem r_last (F : eFx G M X) {a n : Nat} {f : Nat → Int64} {i : Int32} {x : Int64} {l' : List (Nat × eO)} (hd : decode (e_cc M) pc = .ok (.lastore, 1)) (ho : e_up h l a = .inl (.long, n, .inr (.inl f))) (h1 : 32 ≤ a) (h2 : a < nx) (hin : vp_in i n) (hl' : e_ins l a (.inl (.long, n, .inr (.inl (vp_updL f i.toNatClampNeg x)))) = l')
    (kk : eRun G X (pc + 1) L S h l' nx c sl) : eRun G X pc L (.long x :: .int i :: .ref a :: S) h l nx c sl := by
  intro H locs ls hR hS hL
  have hat := hR.get h1 h2 ho
  refine W.last F.1 F.2.1 hat ((F.2.2.2.2.2.1.2 2 _ rfl).1 n (fun j => .long (f j))) (fun q => by cases q) (by show ¬ (i < 0 ∨ (arrV _ _ _).slots.size ≤ _); rw [arrV_size]; exact hin) rfl rfl hd fun H1 e z oq => ?_
  refine kk H1 _ ls ?_ (e_S_put hS h1 z oq) hL
  rw [← hl', e_up_ins]
  refine hR.put h1 z ?_ oq
  show H1[e_ad G a]? = some (vp_cell _ _)
  rw [e]
  show some ((vp_cell (e_cA G .long) (n, .inr (.inl f))).setSlot i.toNatClampNeg (Value.long x)) = some (vp_cell (e_cA G .long) (n, .inr (.inl (vp_updL f i.toNatClampNeg x))))
  rw [vp_cell_l, vp_cell_l, arrV_store]
  congr 2
  funext q
  by_cases hq : q = i.toNatClampNeg
  · subst hq
    simp [updV, vp_updL]
  · simp [updV, vp_updL, hq]
theorem r_alen (F : eFx G M X) {a : Nat} {x : vp_A} {v : Int32} (hd : decode (e_cc M) pc = .ok (.arraylength, 1)) (ho : e_up h l a = .inl (.int, x)) (h1 : 32 ≤ a) (h2 : a < nx) (hv : Int32.ofNat x.1 = v)
    (kk : eRun G X (pc + 1) L (.int v :: S) h l nx c sl) : eRun G X pc L (.ref a :: S) h l nx c sl := by
  intro H locs ls hR hS hL
  exact va_alen F.1 F.2.1 F.2.2.2.2.2.1 (e_one (hR.get h1 h2 ho)) 0 0 (cA := e_cA G .int) (x := (x.1, e_fa G x.2)) (ty := .int) rfl rfl hv hd (kk H locs ls hR hS hL)
/-- arrays that stood before -/
theorem r_ialdS (F : eFx G M X) {a n : Nat} {f : Nat → Int32} {i : Int32} (hd : decode (e_cc M) pc = .ok (.iaload, 1)) (ho : e_stat G a = some (.int, n, f)) (hin : vp_in i n)
    (kk : eRun G X (pc + 1) L (.int (f i.toNatClampNeg) :: S) h l nx c sl) : eRun G X pc L (.int i :: .ref a :: S) h l nx c sl := by
  intro H locs ls hR hS hL
  obtain ⟨cell, t1, t2, t3, t4, t5, t6, t7⟩ := (F.2.2.2.2.2.2.1.1 a _ n f ho).kept hS.2.1
  have hlt : i.toNatClampNeg < n := Nat.not_le.mp fun q => hin (Or.inr q)
  exact W.iald (v := .int (f i.toNatClampNeg)) F.1 F.2.1 t1 t2 t3 (fun q => hin (q.elim Or.inl (fun z => by omega))) (t6 _ hlt) rfl rfl hd (kk H locs ls hR hS hL)
theorem r_baldS (F : eFx G M X) {a n : Nat} {f : Nat → Int32} {i : Int32} (hd : decode (e_cc M) pc = .ok (.baload, 1)) (ho : e_stat G a = some (.byte, n, f)) (hin : vp_in i n)
    (kk : eRun G X (pc + 1) L (.int (f i.toNatClampNeg) :: S) h l nx c sl) : eRun G X pc L (.int i :: .ref a :: S) h l nx c sl := by
  intro H locs ls hR hS hL
  obtain ⟨cell, t1, t2, t3, t4, t5, t6, t7⟩ := (F.2.2.2.2.2.2.1.1 a _ n f ho).kept hS.2.1
  have hlt : i.toNatClampNeg < n := Nat.not_le.mp fun q => hin (Or.inr q)
  exact W.bald (v := .int (f i.toNatClampNeg)) F.1 F.2.1 t1 t2 t3 (fun q => hin (q.elim Or.inl (fun z => by omega))) (t6 _ hlt) rfl rfl hd (kk H locs ls hR hS hL)
theorem r_alenS (F : eFx G M X) {a n : Nat} {ty : FieldType} {f : Nat → Int32} {v : Int32} (hd : decode (e_cc M) pc = .ok (.arraylength, 1)) (ho : e_stat G a = some (ty, n, f)) (hv : Int32.ofNat n = v)
    (kk : eRun G X (pc + 1) L (.int v :: S) h l nx c sl) : eRun G X pc L (.ref a :: S) h l nx c sl := by
  intro H locs ls hR hS hL
  obtain ⟨cell, t1, t2, t3, t4, t5, t6, t7⟩ := (F.2.2.2.2.2.2.1.1 a _ n f ho).kept hS.2.1
  exact W.alen (n := v) F.1 F.2.1 t1 t2 (t5.trans hv) rfl rfl hd (kk H locs ls hR hS hL)
theorem r_gets (F : eFx G M X) {idx : Nat} {C n d : String} {v : Value} (hd : decode (e_cc M) pc = .ok (.getstatic idx, 3)) (hz : (C, n, d, v) ∈ e_sf) (hw : Cond.fieldLink (e_y M).cls idx C n d ∈ e_tb)
    (kk : eRun G X (pc + 3) L (v :: S) h l nx c sl) : eRun G X pc L S h l nx c sl := by
  intro H locs ls hR hS hL
  exact va_gets F.1 F.2.1 (F.2.2.2.2.2.2.1.2.1.1 _ hz) hS F.2.2.2.1 (F.2.2.2.2.1 _ hw) (fun _ z => z) hd (kk H locs ls hR hS hL)
/-- the formatter -/
theorem r_getsQ (F : eFx G M X) {idx : Nat} (hd : decode (e_cc M) pc = .ok (.getstatic idx, 3)) (hw : Cond.fieldLink (e_y M).cls idx "jdk/internal/util/Preconditions" "SIOOBE_FORMATTER" "Ljava/util/function/BiFunction;" ∈ e_tb)
    (kk : ∀ v : Value, (v = .null ∨ v = .ref 6) → eRun G X (pc + 3) L (v :: S) h l nx c sl) : eRun G X pc L S h l nx c sl := by
  intro H locs ls hR hS hL
  obtain ⟨v, h1, h2⟩ := F.2.2.2.2.2.2.1.2.1.2
  exact va_gets F.1 F.2.1 h2 hS F.2.2.2.1 (F.2.2.2.2.1 _ hw) (fun _ z => z) hd (kk v h1 H locs ls hR hS hL)
theorem r_getsN (F : eFx G M X) {idx : Nat} {C n d host : String} {v : Value} (hd : decode (e_cc M) pc = .ok (.getstatic idx, 3)) (hz : (C, n, d, v) ∈ e_sf) (hw : ((e_y M).cls, idx, C, n, d, host) ∈ e_nf)
    (kk : eRun G X (pc + 3) L (v :: S) h l nx c sl) : eRun G X pc L S h l nx c sl := by
  intro H locs ls hR hS hL
  exact va_getsN F.1 F.2.1 (F.2.2.2.2.2.2.1.2.1.1 _ hz) hS F.2.2.2.1 (va_Nw.use rfl (F.2.2.2.2.2.2.1.2.2.2.2.1 _ hw)) (fun _ z => z) hd (kk H locs ls hR hS hL)
theorem r_ldcS (F : eFx G M X) {idx a : Nat} {tx : String} (hd : decode (e_cc M) pc = .ok (.ldc idx, 2)) (hw : ((e_y M).cls, idx, tx, a) ∈ e_sr)
    (kk : eRun G X (pc + 2) L (.ref a :: S) h l nx c sl) : eRun G X pc L S h l nx c sl := by
  intro H locs ls hR hS hL
  exact va_ldcS F.1 F.2.1 F.2.2.2.1 (F.2.2.2.2.2.2.1.2.2.2.1 _ hw) hd (kk H locs ls hR hS hL)
/-- a String's own fields -/
theorem r_getV (F : eFx G M X) {idx i : Nat} (hd : decode (e_cc M) pc = .ok (.getfield idx, 3)) (hi : i < 5) (hw : Cond.fieldLink (e_y M).cls idx "java/lang/String" "value" "[B" ∈ e_tb)
    (kk : eRun G X (pc + 3) L (.ref (16 + i) :: S) h l nx c sl) : eRun G X pc L (.ref (8 + i) :: S) h l nx c sl := by
  intro H locs ls hR hS hL
  exact vk_getf F.1 F.2.1 (F.2.2.2.2.2.2.1.2.2.1 i hi).2.2 hS F.2.2.2.1 (F.2.2.2.2.1 _ hw) (fun _ z => z) hd (kk H locs ls hR hS hL)
theorem r_getC (F : eFx G M X) {idx i : Nat} (hd : decode (e_cc M) pc = .ok (.getfield idx, 3)) (hi : i < 5) (hw : Cond.fieldLink (e_y M).cls idx "java/lang/String" "coder" "B" ∈ e_tb)
    (kk : eRun G X (pc + 3) L (.int 0 :: S) h l nx c sl) : eRun G X pc L (.ref (8 + i) :: S) h l nx c sl := by
  intro H locs ls hR hS hL
  exact vk_getf F.1 F.2.1 (F.2.2.2.2.2.2.1.2.2.1 i hi).2.1 hS F.2.2.2.1 (F.2.2.2.2.1 _ hw) (fun _ z => z) hd (kk H locs ls hR hS hL)
end HEAP
