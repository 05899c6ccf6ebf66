/-! ===== what stood before the law, out of the statement's words ===== -/
def lw_F : List Cond := flatC (Jvm.Cond.and given_1 narrow_1)
def st_ok (nm : String) (f : Nat → Int32) : Prop := Cond.arrayOf (.static "SlipLattice" nm "[I") .int ∈ lw_F ∧ Cond.eq (.length (.static "SlipLattice" nm "[I")) (.int 4) ∈ lw_F ∧ (∀ j, j < 4 → Cond.eq (.elem (.static "SlipLattice" nm "[I") (.int (Int32.ofNat j))) (.int (f j)) ∈ lw_F) ∧ Cond.laysStatic "SlipLattice" nm "[I" ∈ tables_1
theorem st_ok0 : st_ok "LEAST_SETTING" sA0 := ⟨by decide +kernel, by decide +kernel, by decide +kernel, List.mem_of_getElem? (i := 449) (by decide +kernel)⟩
theorem st_ok1 : st_ok "MOST_SETTING" sA1 := ⟨by decide +kernel, by decide +kernel, by decide +kernel, List.mem_of_getElem? (i := 451) (by decide +kernel)⟩
theorem st_ok2 : st_ok "USUAL_SETTING" sA2 := ⟨by decide +kernel, by decide +kernel, by decide +kernel, List.mem_of_getElem? (i := 349) (by decide +kernel)⟩
theorem st_ok3 : st_ok "ACROSS" sA3 := ⟨by decide +kernel, by decide +kernel, by decide +kernel, List.mem_of_getElem? (i := 659) (by decide +kernel)⟩
theorem st_ok4 : st_ok "UPWARDS" sA4 := ⟨by decide +kernel, by decide +kernel, by decide +kernel, List.mem_of_getElem? (i := 661) (by decide +kernel)⟩
theorem st_arr {args : Array Value} {s : State} {nm : String} {A : Nat → Prop} {f : Nat → Int32} (hw : st_ok nm f) (hs : ∀ w ∈ lw_F, w.before args s = true) (hts : ∀ w ∈ tables_1, w.before args s = true) (hini : (Cond.initialized "SlipLattice").before args s = true) (hA : ∀ a : Nat, a < s.heap.size → ¬ A a) : ∃ t : Nat, va_Z "SlipLattice" nm "[I" (.ref t) A s s.heap ∧ va_T .int t 4 (fun j => .int (f j)) A s s.heap := by
  obtain ⟨t, h1, h2⟩ := va_Tof (N := 4) (f := fun j => .int (f j)) (A := A) (by decide) (hs _ hw.1) (va_eqt (hs _ hw.2.1)) (fun j hj => va_eqt (hs _ (hw.2.2.1 j hj))) hA
  exact ⟨t, va_Zof (hts _ hw.2.2.2) hini h1 hA, h2⟩
/-- String constants -/
def sk_i : List Nat := [72, 93, 98, 104, 106]
def sk_t (i : Nat) : Term := .string "SlipLattice$Reader" (sk_i.getD i 0)
def sk_n : List Nat := [4, 4, 6, 4, 4]
def sk_b : List (List Int32) := [[115, 105, 122, 101], [99, 111, 114, 101], [115, 116, 114, 101, 115, 115], [104, 111, 108, 100], [114, 117, 108, 101]]
theorem sk_1 : ∀ i : Nat, i < 5 → Cond.exactly (sk_t i) "java/lang/String" ∈ lw_F := by decide +kernel
theorem sk_2 : ∀ i : Nat, i < 5 → Cond.eq (.field (sk_t i) "java/lang/String" "coder" "B") (.int 0) ∈ lw_F := by decide +kernel
theorem sk_3 : ∀ i : Nat, i < 5 → Cond.arrayOf (.field (sk_t i) "java/lang/String" "value" "[B") .byte ∈ lw_F := by decide +kernel
theorem sk_4 : ∀ i : Nat, i < 5 → Cond.eq (.length (.field (sk_t i) "java/lang/String" "value" "[B")) (.int (Int32.ofNat (sk_n.getD i 0))) ∈ lw_F := by decide +kernel
theorem sk_5 : ∀ i : Nat, i < 5 → ∀ j : Nat, j < sk_n.getD i 0 → Cond.eq (.elem (.field (sk_t i) "java/lang/String" "value" "[B") (.int (Int32.ofNat j))) (.int ((sk_b.getD i []).getD j 0)) ∈ lw_F := by decide +kernel
theorem sk_6 : ∀ i : Nat, i < 5 → ∀ j : Nat, j < 5 → i ≠ j → (Cond.not (Cond.eq (sk_t i) (sk_t j)) ∈ lw_F ∨ Cond.not (Cond.eq (sk_t j) (sk_t i)) ∈ lw_F) := by decide +kernel
theorem sk_7 : ∀ i : Nat, i < 5 → sk_n.getD i 0 < 2 ^ 31 := by decide
theorem sk_of {args : Array Value} {s : State} {A : Nat → Prop} (hs : ∀ w ∈ lw_F, w.before args s = true) (hA : ∀ a : Nat, a < s.heap.size → ¬ A a) : ∃ adK adV : Nat → Nat, vk_S 5 sk_n sk_b adK adV A s s.heap ∧ ∀ i : Nat, i < 5 → (sk_t i).eval args s none [] s = some (.ref (adK i)) :=
  vk_Sof sk_7 (fun i hi => hs _ (sk_1 i hi)) (fun i hi => hs _ (sk_2 i hi)) (fun i hi => hs _ (sk_3 i hi)) (fun i hi => hs _ (sk_4 i hi)) (fun i hi j hj => hs _ (sk_5 i hi j hj)) (fun i j hi hj hij => (sk_6 i hi j hj hij).imp (hs _) (hs _)) hA
/-- the reference's are the same -/
def sm_i : List Nat := [194, 169, 178, 184, 189]
def sk_x : List String := ["size", "core", "stress", "hold", "rule"]
theorem sm_1 : ∀ i : Nat, i < 5 → Cond.eq (sk_t i) (.string "SlipLatticeModel" (sm_i.getD i 0)) ∈ lw_F := by decide +kernel
theorem sm_2 : ∀ i : Nat, i < 5 → Cond.stringRef "SlipLattice$Reader" (sk_i.getD i 0) (sk_x.getD i "") ∈ tables_1 := by decide +kernel
theorem sm_3 : ∀ i : Nat, i < 5 → Cond.stringRef "SlipLatticeModel" (sm_i.getD i 0) (sk_x.getD i "") ∈ tables_1 := by decide +kernel
theorem sm_4 : ∀ q ∈ e_sr, ∃ i, i < 5 ∧ q.2.2.1 = sk_x.getD i "" ∧ q.2.2.2 = 8 + i ∧ ((q.1 = "SlipLattice$Reader" ∧ q.2.1 = sk_i.getD i 0) ∨ (q.1 = "SlipLatticeModel" ∧ q.2.1 = sm_i.getD i 0)) := by decide +kernel
/-- links of nest mates -/
theorem nf_w : ∀ q ∈ e_nf, Cond.fieldLinkNest q.1 q.2.1 q.2.2.1 q.2.2.2.1 q.2.2.2.2.1 q.2.2.2.2.2 ∈ tables_1 := by decide +kernel
theorem nm_w : ∀ q ∈ e_nm, Cond.methodLinkNest q.1 q.2.1 q.2.2.1 q.2.2.2 ∈ tables_1 := by decide +kernel
theorem ao_w : Cond.arrayOver (.object "SlipLattice$Snapshot") ∈ tables_1 := List.mem_of_getElem? (i := 193) (by decide +kernel)
theorem thr_w : ∀ w ∈ thrW, w ∈ tables_1 := by decide +kernel
theorem in_w : ∀ C ∈ ["SlipLattice", "java/lang/String", "jdk/internal/util/Preconditions", "java/lang/Throwable"], Cond.initialized C ∈ tables_1 := by decide +kernel
theorem ls_w : Cond.laysStatic "java/lang/String" "COMPACT_STRINGS" "Z" ∈ tables_1 ∧ Cond.laysStatic "jdk/internal/util/Preconditions" "SIOOBE_FORMATTER" "Ljava/util/function/BiFunction;" ∈ tables_1 ∧ Cond.laysStatic "java/lang/Throwable" "UNASSIGNED_STACK" "[Ljava/lang/StackTraceElement;" ∈ tables_1 ∧ Cond.laysStatic "java/lang/Throwable" "SUPPRESSED_SENTINEL" "Ljava/util/List;" ∈ tables_1 := by decide +kernel
theorem lf_w : Cond.eq (.static "java/lang/String" "COMPACT_STRINGS" "Z") (.int 1) ∈ lw_F ∧ Cond.isRef (.static "jdk/internal/util/Preconditions" "SIOOBE_FORMATTER" "Ljava/util/function/BiFunction;") ∈ lw_F ∧ Cond.isRef (.static "java/lang/Throwable" "UNASSIGNED_STACK" "[Ljava/lang/StackTraceElement;") ∈ lw_F ∧ Cond.isRef (.static "java/lang/Throwable" "SUPPRESSED_SENTINEL" "Ljava/util/List;") ∈ lw_F := by decide +kernel
theorem arr_of {args : Array Value} {s : State} {ty : FieldType} (hp : ∀ U cA, va_RA U cA ty = (U.vm.findClass ("[" ++ ty.toString) = some cA)) (h : (Cond.arrayClass ty).before args s = true) : ∃ cA : ClassId, ArrOfT s cA ty ∧ va_RA s cA ty := by
  obtain ⟨c, k, comp, h1, h2, h3⟩ := Cond.arrayClass_spec h
  refine ⟨c, fun n z => ⟨fun k h => ?_, k, h2, comp, h3⟩, ?_⟩
  · cases h
  · rw [hp]; exact h1
theorem arr_ov {args : Array Value} {s : State} {C : String} (h : (Cond.arrayOver (.object C)).before args s = true) : ∃ cA : ClassId, ArrOfT s cA (.object C) ∧ va_RA s cA (.object C) := by
  obtain ⟨comp, c, k, h1, -, h2, h3, h4⟩ := Cond.arrayOver_spec h
  refine ⟨c, fun n z => ⟨fun k h => ?_, k, h2, comp, h3⟩, k, comp, h2, h3, h1, h4⟩
  cases h
theorem ac_w : Cond.arrayClass .int ∈ tables_1 ∧ Cond.arrayClass .boolean ∈ tables_1 ∧ Cond.arrayClass .long ∈ tables_1 := ⟨List.mem_of_getElem? (i := 49) (by decide +kernel), List.mem_of_getElem? (i := 1249) (by decide +kernel), List.mem_of_getElem? (i := 1720) (by decide +kernel)⟩
theorem va_T.cg {ty : FieldType} {t N : Nat} {f g : Nat → Value} {A : Nat → Prop} {U : State} {H : Heap} (h : va_T ty t N f A U H) (e : ∀ j, j < N → f j = g j) : va_T ty t N g A U H := by
  obtain ⟨cell, t1, t2, t3, t4, t5, t6, t7⟩ := h
  exact ⟨cell, t1, t2, t3, t4, t5, fun j hj => by rw [t6 j hj, e j hj], t7⟩
theorem script_T {b L : Nat} {xs : Nat → Int32} {s : State} {A : Nat → Prop} (hX : va_X b L xs s s.heap) (hA : ¬ A b) : va_T .int b L (fun j => .int (xs j)) A s s.heap := by
  obtain ⟨cell, t1, t2, t3, t4, t5⟩ := hX
  exact ⟨cell, t1, t2, t3, Nat.le_of_eq t4.symm, by rw [t4], t5, hA⟩
