/-! ===== what stood before the law began ===== -/
/-- static fields: class, name, type, what they hold -/
def e_sf : List (String × String × String × Value) := [("SlipLattice", "LEAST_SETTING", "[I", .ref 0), ("SlipLattice", "MOST_SETTING", "[I", .ref 1), ("SlipLattice", "USUAL_SETTING", "[I", .ref 2), ("SlipLattice", "ACROSS", "[I", .ref 3), ("SlipLattice", "UPWARDS", "[I", .ref 4), ("java/lang/String", "COMPACT_STRINGS", "Z", .int 1)]
/-- String constants: class, entry, text, where -/
def e_sr : List (String × Nat × String × Nat) := [("SlipLattice$Reader", 72, "size", 8), ("SlipLattice$Reader", 93, "core", 9), ("SlipLattice$Reader", 98, "stress", 10), ("SlipLattice$Reader", 104, "hold", 11), ("SlipLattice$Reader", 106, "rule", 12), ("SlipLatticeModel", 194, "size", 8), ("SlipLatticeModel", 169, "core", 9), ("SlipLatticeModel", 178, "stress", 10), ("SlipLatticeModel", 184, "hold", 11), ("SlipLatticeModel", 189, "rule", 12)]
/-- links to a nest mate's private members -/
def e_nf : List (String × Nat × String × String × String × String) := [("SlipLattice$Reader", 45, "SlipLattice", "USUAL_SETTING", "[I", "SlipLattice"), ("SlipLattice$Reader", 112, "SlipLattice", "LEAST_SETTING", "[I", "SlipLattice"), ("SlipLattice$Reader", 115, "SlipLattice", "MOST_SETTING", "[I", "SlipLattice"), ("SlipLattice$Sheet", 62, "SlipLattice", "ACROSS", "[I", "SlipLattice"), ("SlipLattice$Sheet", 65, "SlipLattice", "UPWARDS", "[I", "SlipLattice")]
def e_nm : List (String × Nat × MethodName × String) := [("SlipLattice", 9, ⟨"SlipLattice$Tape", "<init>", "()V"⟩, "SlipLattice"), ("SlipLattice", 27, ⟨"SlipLattice$Crystal", "<init>", "()V"⟩, "SlipLattice"), ("SlipLattice$Crystal", 11, ⟨"SlipLattice$Sheet", "<init>", "()V"⟩, "SlipLattice"), ("SlipLattice$Crystal", 20, ⟨"SlipLattice$Cores", "<init>", "()V"⟩, "SlipLattice"), ("SlipLattice", 41, ⟨"SlipLattice$Log", "<init>", "()V"⟩, "SlipLattice"), ("SlipLattice", 48, ⟨"SlipLattice$Past", "<init>", "()V"⟩, "SlipLattice"), ("SlipLattice", 55, ⟨"SlipLattice$Snapshot", "<init>", "()V"⟩, "SlipLattice"), ("SlipLattice", 68, ⟨"SlipLattice$Halving", "<init>", "()V"⟩, "SlipLattice"), ("SlipLattice", 75, ⟨"SlipLattice$Walls", "<init>", "()V"⟩, "SlipLattice"), ("SlipLattice", 82, ⟨"SlipLattice$Riddance", "<init>", "()V"⟩, "SlipLattice"), ("SlipLattice$Cores", 42, ⟨"SlipLattice", "wayOfVector", "(II)I"⟩, "SlipLattice"), ("SlipLattice$Past", 28, ⟨"SlipLattice$Snapshot", "<init>", "()V"⟩, "SlipLattice")]
/-- the formatter, which may be null -/
def e_zq (G : eG) (U : State) (H : Heap) : Prop := ∃ v : Value, (v = .null ∨ v = .ref 6) ∧ va_Z "jdk/internal/util/Preconditions" "SIOOBE_FORMATTER" "Ljava/util/function/BiFunction;" (e_tr G v) (e_A G) U H
theorem e_zq.moved {G : eG} {u U : State} {H : Heap} (ha : u.vm.Alike U.vm) (h : e_zq G u H) : e_zq G U H := by
  obtain ⟨v, h1, h2⟩ := h
  exact ⟨v, h1, va_Z.moved ha h2⟩
theorem e_zq.kept {G : eG} {s : State} {H H1 : Heap} (hq : ∀ a : Nat, a < H.size → ¬ e_A G a → H1[a]? = H[a]?) (h : e_zq G s H) : e_zq G s H1 := by
  obtain ⟨v, h1, h2⟩ := h
  exact ⟨v, h1, h2.kept hq⟩
def e_Z (G : eG) (U : State) (H : Heap) : Prop :=
  (∀ (k : Nat) (ty : FieldType) (n : Nat) (f : Nat → Int32), e_stat G k = some (ty, n, f) → va_T ty (e_ad G k) n (fun j => .int (f j)) (e_A G) U H) ∧
  ((∀ q ∈ e_sf, va_Z q.1 q.2.1 q.2.2.1 (e_tr G q.2.2.2) (e_A G) U H) ∧ e_zq G U H) ∧
  (∀ i : Nat, i < 5 → va_O "java/lang/String" (e_ad G (8 + i)) (e_A G) U H ∧ va_OF "java/lang/String" "coder" "B" (.int 0) (e_ad G (8 + i)) (e_A G) U H ∧ va_OF "java/lang/String" "value" "[B" (.ref (e_ad G (16 + i))) (e_ad G (8 + i)) (e_A G) U H) ∧
  (∀ q ∈ e_sr, vk_R q.1 q.2.1 q.2.2.1 (e_ad G q.2.2.2) U) ∧
  (∀ q ∈ e_nf, va_Nw (.fieldLinkNest q.1 q.2.1 q.2.2.1 q.2.2.2.1 q.2.2.2.2.1 q.2.2.2.2.2) U) ∧
  (∀ q ∈ e_nm, va_Nw (.methodLinkNest q.1 q.2.1 q.2.2.1 q.2.2.2) U) ∧
  va_AO "SlipLattice$Snapshot" U
theorem e_Z.same {G : eG} {u U : State} {H : Heap} (hv : U.vm = u.vm) (h : e_Z G u H) : e_Z G U H := by
  have ha : u.vm.Alike U.vm := by rw [hv]; exact Vm.Alike.refl _
  obtain ⟨h1, h2, h3, h4, h5, h6, h7⟩ := h
  exact ⟨fun k ty n f hk => va_T.moved ha (h1 k ty n f hk), ⟨fun q hq => va_Z.moved ha (h2.1 q hq), h2.2.moved ha⟩, fun i hi => ⟨va_O.moved ha (h3 i hi).1, va_OF.moved ha (h3 i hi).2.1, va_OF.moved ha (h3 i hi).2.2⟩, fun q hq => vk_R.same hv (h4 q hq), fun q hq => va_Nw.same rfl hv.symm (h5 q hq), fun q hq => va_Nw.same rfl hv.symm (h6 q hq), va_AO.moved ha h7⟩
theorem e_Z.warm {G : eG} {s U : State} {H : Heap} (hW : s.WarmedH U.vm) (h : e_Z G s H) : e_Z G U H := by
  have ha := hW.alike
  obtain ⟨h1, h2, h3, h4, h5, h6, h7⟩ := h
  exact ⟨fun k ty n f hk => va_T.moved ha (h1 k ty n f hk), ⟨fun q hq => va_Z.moved ha (h2.1 q hq), h2.2.moved ha⟩, fun i hi => ⟨va_O.moved ha (h3 i hi).1, va_OF.moved ha (h3 i hi).2.1, va_OF.moved ha (h3 i hi).2.2⟩, fun q hq => vk_R.warm hW (h4 q hq), fun q hq => va_Nw.warmF hW (h5 q hq), fun q hq => va_Nw.warmM hW (h6 q hq), va_AO.moved ha h7⟩
theorem e_Z.kept {G : eG} {s : State} {H H1 : Heap} (hq : ∀ a : Nat, a < H.size → ¬ e_A G a → H1[a]? = H[a]?) (h : e_Z G s H) : e_Z G s H1 := by
  obtain ⟨h1, h2, h3, h4⟩ := h
  exact ⟨fun k ty n f hk => (h1 k ty n f hk).kept hq, ⟨fun q hq' => (h2.1 q hq').kept hq, h2.2.kept hq⟩, fun i hi => ⟨(h3 i hi).1.kept hq, (h3 i hi).2.1.kept hq, (h3 i hi).2.2.kept hq⟩, h4⟩
/-! ===== the heap's picture ===== -/
/-- what is pictured (a cell that nobody knows, such as a thrown object, isn't) -/
def e_ok (o : eO) : Bool := match o with
  | .inl _ => true
  | .inr b => Nat.blt b.1 13
theorem e_okC {ci : Nat} {fs : List Value} {r : vw_C} (h : vwCl[ci]? = some r) : e_ok (.inr (ci, fs)) = true := by
  have h1 : ci < 13 := (List.getElem?_eq_some_iff.mp h).1
  exact Nat.blt_eq.mpr h1
def e_Rep (G : eG) (h : Nat → eO) (nx : Nat) (H : Heap) : Prop := H.size = e_S0 G + (nx - 32) ∧ 32 ≤ nx ∧ ∀ k : Nat, 32 ≤ k → k < nx → e_ok (h k) = true → va_at (e_D G) vwCl (e_ad G k, e_E G (h k)) H
theorem e_Rep.get {G : eG} {h : Nat → eO} {nx : Nat} {H : Heap} (hR : e_Rep G h nx H) {k : Nat} {o : eO} (h1 : 32 ≤ k) (h2 : k < nx) (ho : h k = o) (hj : e_ok o = true := by rfl) : va_at (e_D G) vwCl (e_ad G k, e_E G o) H := by
  subst ho
  exact hR.2.2 k h1 h2 hj
theorem e_ad_hi {G : eG} {k : Nat} (h : 32 ≤ k) : e_ad G k = e_S0 G + (k - 32) := if_neg (by omega)
theorem e_ad_A {G : eG} {k : Nat} (h : 32 ≤ k) : e_A G (e_ad G k) := by
  rw [e_ad_hi h]
  exact Nat.le_add_right _ _
/-- one object is written -/
theorem e_Rep.put {G : eG} {h : Nat → eO} {nx : Nat} {H H1 : Heap} (hR : e_Rep G h nx H) {k : Nat} {o : eO} (h1 : 32 ≤ k) (hz : H1.size = H.size) (ha : va_at (e_D G) vwCl (e_ad G k, e_E G o) H1) (oq : ∀ q : Nat, q ≠ e_ad G k → H1[q]? = H[q]?) : e_Rep G (e_set h k o) nx H1 := by
  refine ⟨hz.trans hR.1, hR.2.1, fun j hj hjn hok => ?_⟩
  by_cases q : j = k
  · subst q
    simpa [e_set] using ha
  · have e : e_set h k o j = h j := by simp [e_set, q]
    rw [e] at hok ⊢
    refine (hR.2.2 j hj hjn hok).kept (oq _ ?_)
    show e_ad G j ≠ e_ad G k
    rw [e_ad_hi hj, e_ad_hi h1]
    omega
/-- one object is new -/
theorem e_Rep.new {G : eG} {h : Nat → eO} {nx : Nat} {H H1 : Heap} (hR : e_Rep G h nx H) {o : eO} (hz : H1.size = H.size + 1) (ha : va_at (e_D G) vwCl (e_ad G nx, e_E G o) H1) (oq : ∀ q : Nat, q < H.size → H1[q]? = H[q]?) : e_Rep G (e_set h nx o) (nx + 1) H1 := by
  have h32 := hR.2.1
  refine ⟨by rw [hz, hR.1]; omega, by omega, fun j hj hjn hok => ?_⟩
  by_cases q : j = nx
  · subst q
    simpa [e_set] using ha
  · have e : e_set h nx o j = h j := by simp [e_set, q]
    rw [e] at hok ⊢
    have h3 := hR.2.2 j hj (by omega) hok
    exact h3.kept (oq _ h3.lt)
/-- cells come that nobody knows -/
def e_jk (h : Nat → eO) (nx : Nat) : Nat → eO := fun k => if k < nx then h k else .inr (99, [])
theorem e_Rep.junk {G : eG} {h : Nat → eO} {nx : Nat} {H H1 : Heap} (hR : e_Rep G h nx H) (hz : H.size ≤ H1.size) (oq : ∀ q : Nat, q < H.size → H1[q]? = H[q]?) : e_Rep G (e_jk h nx) (nx + (H1.size - H.size)) H1 := by
  have h32 := hR.2.1
  have h0 := hR.1
  refine ⟨by omega, by omega, fun j hj hjn hok => ?_⟩
  by_cases q : j < nx
  · have e : e_jk h nx j = h j := if_pos q
    rw [e] at hok ⊢
    have h3 := hR.2.2 j hj q hok
    exact h3.kept (oq _ h3.lt)
  · have e : e_jk h nx j = .inr (99, []) := if_neg q
    rw [e] at hok
    exact absurd hok (by decide)
theorem e_S_put {G : eG} {H0 H H1 : Heap} {locs : List Loc} {k i : Nat} (hS : va_S (e_A G) H0 H locs) (h1 : 32 ≤ k) (hz : H1.size = H.size) (oq : ∀ q : Nat, q ≠ e_ad G k → H1[q]? = H[q]?) : va_S (e_A G) H0 H1 (locs ++ [⟨e_ad G k, i⟩]) := hS.put hz oq (e_ad_A h1)
theorem e_S_new {G : eG} {H0 H H1 : Heap} {locs : List Loc} (hS : va_S (e_A G) H0 H locs) (hz : H1.size = H.size + 1) (oq : ∀ q : Nat, q < H.size → H1[q]? = H[q]?) : va_S (e_A G) H0 H1 locs :=
  ⟨Nat.le_trans hS.1 (by omega), fun x h1 h2 => (oq x (Nat.lt_of_lt_of_le h1 hS.1)).trans (hS.2.1 x h1 h2), hS.2.2⟩
/-! ===== locals ===== -/
def e_pairs (G : eG) : List (Option Value) → Nat → List (Nat × Value)
  | [], _ => []
  | some v :: l, i => (i, e_tr G v) :: e_pairs G l (i + 1)
  | none :: l, i => e_pairs G l (i + 1)
theorem e_pairs_mem {G : eG} : ∀ (L : List (Option Value)) (i : Nat) (q : Nat × Value), q ∈ e_pairs G L i ↔ ∃ (j : Nat) (v : Value), L[j]? = some (some v) ∧ q = (i + j, e_tr G v) := by
  intro L
  induction L with
  | nil => intro i q; simp [e_pairs]
  | cons a L ih =>
    intro i q
    cases a with
    | none =>
      rw [e_pairs, ih]
      constructor
      · rintro ⟨j, v, h1, h2⟩
        exact ⟨j + 1, v, by simpa using h1, by rw [h2]; congr 1; omega⟩
      · rintro ⟨j, v, h1, h2⟩
        cases j with
        | zero => simp at h1
        | succ j => exact ⟨j, v, by simpa using h1, by rw [h2]; congr 1; omega⟩
    | some w =>
      rw [e_pairs, List.mem_cons, ih]
      constructor
      · rintro (h | ⟨j, v, h1, h2⟩)
        · exact ⟨0, w, by simp, by rw [h]; rfl⟩
        · exact ⟨j + 1, v, by simpa using h1, by rw [h2]; congr 1; omega⟩
      · rintro ⟨j, v, h1, h2⟩
        cases j with
        | zero =>
          left
          simp at h1
          rw [h2, h1]; rfl
        | succ j => exact Or.inr ⟨j, v, by simpa using h1, by rw [h2]; congr 1; omega⟩
def e_L (G : eG) (L : List (Option Value)) (ls : Array Slot) : Prop := lv_has ls L.length (e_pairs G L 0)
theorem e_L.at {G : eG} {L : List (Option Value)} {ls : Array Slot} (h : e_L G L ls) {i : Nat} {v : Value} (hv : L[i]? = some (some v)) : ls[i]? = some (.val (e_tr G v)) :=
  h.2.2 (i, e_tr G v) ((e_pairs_mem L 0 _).mpr ⟨i, v, hv, by simp⟩)
def e_kill (L : List (Option Value)) : Nat → List (Option Value)
  | 0 => L
  | j + 1 => match L[j]? with
    | some (some (.long _)) => L.set j none
    | some (some (.double _)) => L.set j none
    | _ => L
def e_st1 (L : List (Option Value)) (i : Nat) (v : Value) : List (Option Value) := (e_kill L i).set i (some v)
def e_st2 (L : List (Option Value)) (i : Nat) (v : Value) : List (Option Value) := ((e_kill L i).set i (some v)).set (i + 1) none
theorem e_kill_s (L : List (Option Value)) (j : Nat) : e_kill L (j + 1) = match L[j]? with
    | some (some (.long _)) => L.set j none
    | some (some (.double _)) => L.set j none
    | _ => L := rfl
theorem e_kill_len (L : List (Option Value)) (i : Nat) : (e_kill L i).length = L.length := by
  cases i with
  | zero => rfl
  | succ j =>
    rw [e_kill_s]
    split <;> simp
theorem e_tr_cat (G : eG) (v : Value) : (e_tr G v).category = v.category := by cases v <;> rfl
theorem e_kill_at {L : List (Option Value)} {i j : Nat} {v : Value} (h : (e_kill L i)[j]? = some (some v)) : L[j]? = some (some v) ∧ ¬ (j + 1 = i ∧ v.category = 2) := by
  cases i with
  | zero => exact ⟨h, by omega⟩
  | succ n =>
    rw [e_kill_s] at h
    split at h
    · rename_i w hw
      by_cases q : n = j
      · subst q
        rw [List.getElem?_set_self (List.getElem?_eq_some_iff.mp hw).1] at h
        cases h
      · rw [List.getElem?_set_ne q] at h
        exact ⟨h, by omega⟩
    · rename_i w hw
      by_cases q : n = j
      · subst q
        rw [List.getElem?_set_self (List.getElem?_eq_some_iff.mp hw).1] at h
        cases h
      · rw [List.getElem?_set_ne q] at h
        exact ⟨h, by omega⟩
    · rename_i h1 h2
      refine ⟨h, ?_⟩
      rintro ⟨e1, e2⟩
      have e1 : j = n := by omega
      subst e1
      cases v with
      | long x => exact h1 x h
      | double x => exact h2 x h
      | _ => simp [Value.category] at e2
theorem e_L.st1 {G : eG} {L L' : List (Option Value)} {ls ls' : Array Slot} {i : Nat} {v : Value} (hL : e_st1 L i v = L') (h : lv_has ls' L.length ((i, e_tr G v) :: (e_pairs G L 0).filter (fun q => !(q.1 == i) && !(q.1 + 1 == i && q.2.category == 2)))) : e_L G L' ls' := by
  subst hL
  have hlen : (e_st1 L i v).length = L.length := by simp [e_st1, e_kill_len]
  refine ⟨by rw [hlen]; exact h.1, h.2.1, fun q hq => h.2.2 q ?_⟩
  obtain ⟨j, w, h1, rfl⟩ := (e_pairs_mem _ _ _).mp hq
  simp only [Nat.zero_add]
  by_cases e : j = i
  · subst e
    have hl : j < (e_kill L j).length := by
      have := (List.getElem?_eq_some_iff.mp h1).1
      rw [hlen] at this
      rw [e_kill_len]; exact this
    rw [e_st1, List.getElem?_set_self hl] at h1
    cases h1
    exact List.mem_cons_self
  · rw [e_st1, List.getElem?_set_ne (fun z => e z.symm)] at h1
    obtain ⟨h2, h3⟩ := e_kill_at h1
    refine List.mem_cons_of_mem _ (List.mem_filter.mpr ⟨(e_pairs_mem _ _ _).mpr ⟨j, w, h2, by simp⟩, ?_⟩)
    simp only [e_tr_cat, Bool.and_eq_true, Bool.not_eq_true', beq_eq_false_iff_ne, ne_eq, Bool.and_eq_false_iff]
    refine ⟨e, ?_⟩
    by_cases z : j + 1 = i
    · exact Or.inr (fun z2 => h3 ⟨z, z2⟩)
    · exact Or.inl z
theorem e_L.st2 {G : eG} {L L' : List (Option Value)} {ls ls' : Array Slot} {i : Nat} {v : Value} (hi : i + 1 < L.length) (hL : e_st2 L i v = L') (h : lv_has ls' L.length ((i, e_tr G v) :: (e_pairs G L 0).filter (fun q => !(q.1 == i) && (!(q.1 == i + 1) && !(q.1 + 1 == i && q.2.category == 2))))) : e_L G L' ls' := by
  subst hL
  have hlen : (e_st2 L i v).length = L.length := by simp [e_st2, e_kill_len]
  refine ⟨by rw [hlen]; exact h.1, h.2.1, fun q hq => h.2.2 q ?_⟩
  obtain ⟨j, w, h1, rfl⟩ := (e_pairs_mem _ _ _).mp hq
  simp only [Nat.zero_add]
  rw [e_st2] at h1
  by_cases e1 : j = i + 1
  · subst e1
    rw [List.getElem?_set_self (by simp [e_kill_len]; omega)] at h1
    cases h1
  · rw [List.getElem?_set_ne (fun z => e1 z.symm)] at h1
    by_cases e : j = i
    · subst e
      rw [List.getElem?_set_self (by rw [e_kill_len]; omega)] at h1
      cases h1
      exact List.mem_cons_self
    · rw [List.getElem?_set_ne (fun z => e z.symm)] at h1
      obtain ⟨h2, h3⟩ := e_kill_at h1
      refine List.mem_cons_of_mem _ (List.mem_filter.mpr ⟨(e_pairs_mem _ _ _).mpr ⟨j, w, h2, by simp⟩, ?_⟩)
      simp only [e_tr_cat, Bool.and_eq_true, Bool.not_eq_true', beq_eq_false_iff_ne, ne_eq, Bool.and_eq_false_iff]
      refine ⟨e, e1, ?_⟩
      by_cases z : j + 1 = i
      · exact Or.inr (fun z2 => h3 ⟨z, z2⟩)
      · exact Or.inl z
