/-! ===== a contract that may throw ===== -/
def nse : String := "java/util/NoSuchElementException"
def nsN : List String := ["java/lang/RuntimeException", "java/lang/Exception"]
/-- the words of a throw that the tables' good words leave out -/
def thrW : List Cond := [.declares (Bundle.init0 "java/lang/RuntimeException"), .declares (Bundle.init0 "java/lang/Exception"), .declares (Bundle.init0 Bundle.tN), .castable nse nse]
theorem thr_moved {a a' : Array Value} {s U : State} (hv : s.vm.Alike U.vm) (h : ∀ w ∈ thrW, w.before a s = true) : ∀ w ∈ thrW, w.before a' U = true := by
  have key : ∀ w : Cond, w.onTables = true → w.before a (s.setVm U.vm) = true → w.before a' U = true := fun w hw q => va_tabs (u := s.setVm U.vm) hw rfl q
  intro w hw
  have h1 := h w hw
  simp only [thrW, List.mem_cons, List.not_mem_nil, or_false] at hw
  rcases hw with rfl | rfl | rfl | rfl
  · exact key _ rfl (by rw [Cond.declares_setVm hv]; exact h1)
  · exact key _ rfl (by rw [Cond.declares_setVm hv]; exact h1)
  · exact key _ rfl (by rw [Cond.declares_setVm hv]; exact h1)
  · exact key _ rfl (by rw [Cond.castable_setVm hv]; exact h1)
/-- what a throw needs of the state -/
def e_TU (G : eG) (a : Array Value) (U : State) (H : Heap) : Prop := (∀ w ∈ thrW, w.before a U = true) ∧ vx_Zq Bundle.tN "UNASSIGNED_STACK" Bundle.steD (e_A G) U H ∧ vx_Zq Bundle.tN "SUPPRESSED_SENTINEL" Bundle.listD (e_A G) U H
theorem e_TU.moved {G : eG} {a a' : Array Value} {s U : State} {H : Heap} (hv : s.vm.Alike U.vm) (h : e_TU G a s H) : e_TU G a' U H := ⟨thr_moved hv h.1, h.2.1.moved hv, h.2.2.moved hv⟩
theorem e_TU.kept {G : eG} {a : Array Value} {s : State} {H H1 : Heap} (h : e_TU G a s H) (hq : ∀ q : Nat, q < H.size → ¬ e_A G q → H1[q]? = H[q]?) : e_TU G a s H1 := ⟨h.1, h.2.1.kept hq, h.2.2.kept hq⟩
theorem thr_words : ∀ w ∈ vx_at0 RX11 173 nse nsN, w ∈ e_tb ∨ w ∈ thrW := by
  have h : ((vx_at0 RX11 173 nse nsN).all (fun w => decide (w ∈ e_tb) || decide (w ∈ thrW))) = true := by decide +kernel
  intro w hw
  have := List.all_eq_true.mp h w hw
  simpa using this
theorem thr_good : ∀ w ∈ Cond.classLink RX11 171 nse :: Cond.initialized nse :: vx_at0 RX11 173 nse nsN, vx_ot w = true := by
  have h : (Cond.classLink RX11 171 nse :: Cond.initialized nse :: vx_at0 RX11 173 nse nsN).all vx_ot = true := by decide +kernel
  exact List.all_eq_true.mp h
theorem k_nse : Cond.classLink RX11 171 nse ∈ e_tb := e_sub (ws := [Cond.classLink RX11 171 nse]) (by decide +kernel) _ List.mem_cons_self
theorem k_nsi : Cond.initialized nse ∈ e_tb := e_sub (ws := [Cond.initialized nse]) (by decide +kernel) _ List.mem_cons_self
def e_PcX (G : eG) (As : List Value) (h : Nat → eO) (nx : Nat) : Array Value → State → Prop := fun v U => e_Pc G As h nx v U ∧ e_TU G v U U.heap
def e_XC (G : eG) (thr : Prop) (h : Nat → eO) (nx : Nat) : String → State → State → Prop := fun E st t => E = nse ∧ thr ∧ (∃ nx', nx ≤ nx' ∧ e_Rep G (e_jk h nx) nx' t.heap) ∧ va_F (e_A G) st t
