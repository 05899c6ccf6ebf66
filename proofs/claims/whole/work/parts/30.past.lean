theorem dX8_init_0q : decode cX8_init 0 = .ok (.aload_n 0, 1) := by decide +kernel
theorem dX8_init_1q : decode cX8_init 1 = .ok (.invokespecial 1, 3) := by decide +kernel
theorem dX8_init_4q : decode cX8_init 4 = .ok (.aload_n 0, 1) := by decide +kernel
theorem dX8_init_5q : decode cX8_init 5 = .ok (.sipush 324, 3) := by decide +kernel
theorem dX8_init_8q : decode cX8_init 8 = .ok (.newarray .int, 2) := by decide +kernel
theorem dX8_init_10q : decode cX8_init 10 = .ok (.putfield 9, 3) := by decide +kernel
theorem dX8_init_13q : decode cX8_init 13 = .ok (.aload_n 0, 1) := by decide +kernel
theorem dX8_init_14q : decode cX8_init 14 = .ok (.sipush 160, 3) := by decide +kernel
theorem dX8_init_17q : decode cX8_init 17 = .ok (.newarray .int, 2) := by decide +kernel
theorem dX8_init_19q : decode cX8_init 19 = .ok (.putfield 17, 3) := by decide +kernel
theorem dX8_init_22q : decode cX8_init 22 = .ok (.return_, 1) := by decide +kernel
theorem dX8_take_0q : decode cX8_take 0 = .ok (.aload_n 1, 1) := by decide +kernel
theorem dX8_take_1q : decode cX8_take 1 = .ok (.getfield 20, 3) := by decide +kernel
theorem dX8_take_4q : decode cX8_take 4 = .ok (.iconst 0, 1) := by decide +kernel
theorem dX8_take_5q : decode cX8_take 5 = .ok (.aload_n 0, 1) := by decide +kernel
theorem dX8_take_6q : decode cX8_take 6 = .ok (.getfield 9, 3) := by decide +kernel
theorem dX8_take_9q : decode cX8_take 9 = .ok (.iconst 0, 1) := by decide +kernel
theorem dX8_take_10q : decode cX8_take 10 = .ok (.aload_n 0, 1) := by decide +kernel
theorem dX8_take_11q : decode cX8_take 11 = .ok (.getfield 9, 3) := by decide +kernel
theorem dX8_take_14q : decode cX8_take 14 = .ok (.arraylength, 1) := by decide +kernel
theorem dX8_take_15q : decode cX8_take 15 = .ok (.invokestatic 21, 3) := by decide +kernel
theorem dX8_take_18q : decode cX8_take 18 = .ok (.aload_n 2, 1) := by decide +kernel
theorem dX8_take_19q : decode cX8_take 19 = .ok (.getfield 27, 3) := by decide +kernel
theorem dX8_take_22q : decode cX8_take 22 = .ok (.iconst 0, 1) := by decide +kernel
theorem dX8_take_23q : decode cX8_take 23 = .ok (.aload_n 0, 1) := by decide +kernel
theorem dX8_take_24q : decode cX8_take 24 = .ok (.getfield 17, 3) := by decide +kernel
theorem dX8_take_27q : decode cX8_take 27 = .ok (.iconst 0, 1) := by decide +kernel
theorem dX8_take_28q : decode cX8_take 28 = .ok (.aload_n 0, 1) := by decide +kernel
theorem dX8_take_29q : decode cX8_take 29 = .ok (.getfield 17, 3) := by decide +kernel
theorem dX8_take_32q : decode cX8_take 32 = .ok (.arraylength, 1) := by decide +kernel
theorem dX8_take_33q : decode cX8_take 33 = .ok (.invokestatic 21, 3) := by decide +kernel
theorem dX8_take_36q : decode cX8_take 36 = .ok (.aload_n 0, 1) := by decide +kernel
theorem dX8_take_37q : decode cX8_take 37 = .ok (.aload_n 2, 1) := by decide +kernel
theorem dX8_take_38q : decode cX8_take 38 = .ok (.getfield 28, 3) := by decide +kernel
theorem dX8_take_41q : decode cX8_take 41 = .ok (.putfield 32, 3) := by decide +kernel
theorem dX8_take_44q : decode cX8_take 44 = .ok (.return_, 1) := by decide +kernel
theorem dX8_give_0q : decode cX8_give 0 = .ok (.aload_n 0, 1) := by decide +kernel
theorem dX8_give_1q : decode cX8_give 1 = .ok (.getfield 9, 3) := by decide +kernel
theorem dX8_give_4q : decode cX8_give 4 = .ok (.iconst 0, 1) := by decide +kernel
theorem dX8_give_5q : decode cX8_give 5 = .ok (.aload_n 1, 1) := by decide +kernel
theorem dX8_give_6q : decode cX8_give 6 = .ok (.getfield 20, 3) := by decide +kernel
theorem dX8_give_9q : decode cX8_give 9 = .ok (.iconst 0, 1) := by decide +kernel
theorem dX8_give_10q : decode cX8_give 10 = .ok (.aload_n 0, 1) := by decide +kernel
theorem dX8_give_11q : decode cX8_give 11 = .ok (.getfield 9, 3) := by decide +kernel
theorem dX8_give_14q : decode cX8_give 14 = .ok (.arraylength, 1) := by decide +kernel
theorem dX8_give_15q : decode cX8_give 15 = .ok (.invokestatic 21, 3) := by decide +kernel
theorem dX8_give_18q : decode cX8_give 18 = .ok (.aload_n 0, 1) := by decide +kernel
theorem dX8_give_19q : decode cX8_give 19 = .ok (.getfield 17, 3) := by decide +kernel
theorem dX8_give_22q : decode cX8_give 22 = .ok (.iconst 0, 1) := by decide +kernel
theorem dX8_give_23q : decode cX8_give 23 = .ok (.aload_n 2, 1) := by decide +kernel
theorem dX8_give_24q : decode cX8_give 24 = .ok (.getfield 27, 3) := by decide +kernel
theorem dX8_give_27q : decode cX8_give 27 = .ok (.iconst 0, 1) := by decide +kernel
theorem dX8_give_28q : decode cX8_give 28 = .ok (.aload_n 0, 1) := by decide +kernel
theorem dX8_give_29q : decode cX8_give 29 = .ok (.getfield 17, 3) := by decide +kernel
theorem dX8_give_32q : decode cX8_give 32 = .ok (.arraylength, 1) := by decide +kernel
theorem dX8_give_33q : decode cX8_give 33 = .ok (.invokestatic 21, 3) := by decide +kernel
theorem dX8_give_36q : decode cX8_give 36 = .ok (.aload_n 2, 1) := by decide +kernel
theorem dX8_give_37q : decode cX8_give 37 = .ok (.aload_n 0, 1) := by decide +kernel
theorem dX8_give_38q : decode cX8_give 38 = .ok (.getfield 32, 3) := by decide +kernel
theorem dX8_give_41q : decode cX8_give 41 = .ok (.putfield 28, 3) := by decide +kernel
theorem dX8_give_44q : decode cX8_give 44 = .ok (.return_, 1) := by decide +kernel
theorem dX4_remember_0q : decode cX4_remember 0 = .ok (.aload_n 0, 1) := by decide +kernel
theorem dX4_remember_1q : decode cX4_remember 1 = .ok (.getfield 19, 3) := by decide +kernel
theorem dX4_remember_4q : decode cX4_remember 4 = .ok (.bipush 20, 2) := by decide +kernel
theorem dX4_remember_6q : decode cX4_remember 6 = .ok (.invokestatic 22, 3) := by decide +kernel
theorem dX4_remember_9q : decode cX4_remember 9 = .ok (.istore_n 3, 1) := by decide +kernel
theorem dX4_remember_10q : decode cX4_remember 10 = .ok (.aload_n 0, 1) := by decide +kernel
theorem dX4_remember_11q : decode cX4_remember 11 = .ok (.getfield 11, 3) := by decide +kernel
theorem dX4_remember_14q : decode cX4_remember 14 = .ok (.iload_n 3, 1) := by decide +kernel
theorem dX4_remember_15q : decode cX4_remember 15 = .ok (.aaload, 1) := by decide +kernel
theorem dX4_remember_16q : decode cX4_remember 16 = .ok (.astore 4, 2) := by decide +kernel
theorem dX4_remember_18q : decode cX4_remember 18 = .ok (.aload 4, 2) := by decide +kernel
theorem dX4_remember_20q : decode cX4_remember 20 = .ok (.ifnonnull 20, 3) := by decide +kernel
theorem dX4_remember_23q : decode cX4_remember 23 = .ok (.new 9, 3) := by decide +kernel
theorem dX4_remember_26q : decode cX4_remember 26 = .ok (.dup, 1) := by decide +kernel
theorem dX4_remember_27q : decode cX4_remember 27 = .ok (.invokespecial 28, 3) := by decide +kernel
theorem dX4_remember_30q : decode cX4_remember 30 = .ok (.astore 4, 2) := by decide +kernel
theorem dX4_remember_32q : decode cX4_remember 32 = .ok (.aload_n 0, 1) := by decide +kernel
theorem dX4_remember_33q : decode cX4_remember 33 = .ok (.getfield 11, 3) := by decide +kernel
theorem dX4_remember_36q : decode cX4_remember 36 = .ok (.iload_n 3, 1) := by decide +kernel
theorem dX4_remember_37q : decode cX4_remember 37 = .ok (.aload 4, 2) := by decide +kernel
theorem dX4_remember_39q : decode cX4_remember 39 = .ok (.aastore, 1) := by decide +kernel
theorem dX4_remember_40q : decode cX4_remember 40 = .ok (.aload 4, 2) := by decide +kernel
theorem dX4_remember_42q : decode cX4_remember 42 = .ok (.aload_n 1, 1) := by decide +kernel
theorem dX4_remember_43q : decode cX4_remember 43 = .ok (.aload_n 2, 1) := by decide +kernel
theorem dX4_remember_44q : decode cX4_remember 44 = .ok (.invokevirtual 29, 3) := by decide +kernel
theorem dX4_remember_47q : decode cX4_remember 47 = .ok (.aload_n 0, 1) := by decide +kernel
theorem dX4_remember_48q : decode cX4_remember 48 = .ok (.iload_n 3, 1) := by decide +kernel
theorem dX4_remember_49q : decode cX4_remember 49 = .ok (.iconst 1, 1) := by decide +kernel
theorem dX4_remember_50q : decode cX4_remember 50 = .ok (.iadd, 1) := by decide +kernel
theorem dX4_remember_51q : decode cX4_remember 51 = .ok (.putfield 19, 3) := by decide +kernel
theorem dX4_remember_54q : decode cX4_remember 54 = .ok (.aload_n 0, 1) := by decide +kernel
theorem dX4_remember_55q : decode cX4_remember 55 = .ok (.aload_n 0, 1) := by decide +kernel
theorem dX4_remember_56q : decode cX4_remember 56 = .ok (.getfield 15, 3) := by decide +kernel
theorem dX4_remember_59q : decode cX4_remember 59 = .ok (.iconst 1, 1) := by decide +kernel
theorem dX4_remember_60q : decode cX4_remember 60 = .ok (.iadd, 1) := by decide +kernel
theorem dX4_remember_61q : decode cX4_remember 61 = .ok (.bipush 20, 2) := by decide +kernel
theorem dX4_remember_63q : decode cX4_remember 63 = .ok (.invokestatic 33, 3) := by decide +kernel
theorem dX4_remember_66q : decode cX4_remember 66 = .ok (.putfield 15, 3) := by decide +kernel
theorem dX4_remember_69q : decode cX4_remember 69 = .ok (.return_, 1) := by decide +kernel
theorem dX4_restore_0q : decode cX4_restore 0 = .ok (.aload_n 0, 1) := by decide +kernel
theorem dX4_restore_1q : decode cX4_restore 1 = .ok (.getfield 19, 3) := by decide +kernel
theorem dX4_restore_4q : decode cX4_restore 4 = .ok (.iconst 1, 1) := by decide +kernel
theorem dX4_restore_5q : decode cX4_restore 5 = .ok (.isub, 1) := by decide +kernel
theorem dX4_restore_6q : decode cX4_restore 6 = .ok (.bipush 20, 2) := by decide +kernel
theorem dX4_restore_8q : decode cX4_restore 8 = .ok (.invokestatic 22, 3) := by decide +kernel
theorem dX4_restore_11q : decode cX4_restore 11 = .ok (.istore_n 3, 1) := by decide +kernel
theorem dX4_restore_12q : decode cX4_restore 12 = .ok (.aload_n 0, 1) := by decide +kernel
theorem dX4_restore_13q : decode cX4_restore 13 = .ok (.getfield 11, 3) := by decide +kernel
theorem dX4_restore_16q : decode cX4_restore 16 = .ok (.iload_n 3, 1) := by decide +kernel
theorem dX4_restore_17q : decode cX4_restore 17 = .ok (.aaload, 1) := by decide +kernel
theorem dX4_restore_18q : decode cX4_restore 18 = .ok (.astore 4, 2) := by decide +kernel
theorem dX4_restore_20q : decode cX4_restore 20 = .ok (.aload_n 0, 1) := by decide +kernel
theorem dX4_restore_21q : decode cX4_restore 21 = .ok (.getfield 15, 3) := by decide +kernel
theorem dX4_restore_24q : decode cX4_restore 24 = .ok (.ifCond .le 8, 3) := by decide +kernel
theorem dX4_restore_27q : decode cX4_restore 27 = .ok (.aload 4, 2) := by decide +kernel
theorem dX4_restore_29q : decode cX4_restore 29 = .ok (.ifnonnull 5, 3) := by decide +kernel
theorem dX4_restore_32q : decode cX4_restore 32 = .ok (.iconst 0, 1) := by decide +kernel
theorem dX4_restore_33q : decode cX4_restore 33 = .ok (.ireturn, 1) := by decide +kernel
theorem dX4_restore_34q : decode cX4_restore 34 = .ok (.aload 4, 2) := by decide +kernel
theorem dX4_restore_36q : decode cX4_restore 36 = .ok (.aload_n 1, 1) := by decide +kernel
theorem dX4_restore_37q : decode cX4_restore 37 = .ok (.aload_n 2, 1) := by decide +kernel
theorem dX4_restore_38q : decode cX4_restore 38 = .ok (.invokevirtual 36, 3) := by decide +kernel
theorem dX4_restore_41q : decode cX4_restore 41 = .ok (.aload_n 0, 1) := by decide +kernel
theorem dX4_restore_42q : decode cX4_restore 42 = .ok (.iload_n 3, 1) := by decide +kernel
theorem dX4_restore_43q : decode cX4_restore 43 = .ok (.putfield 19, 3) := by decide +kernel
theorem dX4_restore_46q : decode cX4_restore 46 = .ok (.aload_n 0, 1) := by decide +kernel
theorem dX4_restore_47q : decode cX4_restore 47 = .ok (.dup, 1) := by decide +kernel
theorem dX4_restore_48q : decode cX4_restore 48 = .ok (.getfield 15, 3) := by decide +kernel
theorem dX4_restore_51q : decode cX4_restore 51 = .ok (.iconst 1, 1) := by decide +kernel
theorem dX4_restore_52q : decode cX4_restore 52 = .ok (.isub, 1) := by decide +kernel
theorem dX4_restore_53q : decode cX4_restore 53 = .ok (.putfield 15, 3) := by decide +kernel
theorem dX4_restore_56q : decode cX4_restore 56 = .ok (.iconst 1, 1) := by decide +kernel
theorem dX4_restore_57q : decode cX4_restore 57 = .ok (.ireturn, 1) := by decide +kernel
/-! ===== snapshots whose numbers the history decides ===== -/
theorem e_set_ne {h : Nat → eO} {a k : Nat} {o : eO} (q : k ≠ a) : e_set h a o k = h k := if_neg q
theorem e_set_eq {h : Nat → eO} {a : Nat} {o : eO} : e_set h a o a = o := if_pos rfl
theorem r_base {G : eG} {X : eX} {pc nx c sl : Nat} {L : List (Option Value)} {S : List Value} {h : Nat → eO} {a : Nat} {o : eO} (k : eRun G X pc L S (e_set h a o) [] nx c sl) : eRun G X pc L S h [(a, o)] nx c sl := by
  refine r_pic2 (h' := e_set h a o) (l' := []) ?_ k
  funext j
  by_cases e : j = a
  · subst e; simp [e_up, e_set]
  · simp [e_up, e_set, e, e_bf (Ne.symm e)]
abbrev oSn (q : Nat) (t : Int32) : eO := .inr (8, [.ref (q + 1), .ref (q + 2), .int t])
set_option maxRecDepth 100000 in
theorem t_take {G : eG} {la : Launch} {h : Nat → eO} {nx q : Nat} (hq9 : 99 ≤ q) (hqn : q + 2 < nx) {a40_0 a40_1 a54_1 t : Int32} {A41 A55 S1 R1 : Nat → Int32} (h40 : h 40 = o40 a40_0 a40_1) (h41 : h 41 = o41 A41) (h54 : h 54 = o54 a54_1) (h55 : h 55 = o55 A55) (hq0 : h q = oSn q t) (hq1 : h (q + 1) = iA 324 S1) (hq2 : h (q + 2) = iA 160 R1) :
    eSem G la MX8_take [.ref q, .ref 40, .ref 54] h nx 0 0 (fun r9 h9 => r9 = none ∧ h9 = e_set (e_set (e_set h (q + 1) (iA 324 (va_cpy A41 S1 (tn 0) (tn 0) (tn 324)))) (q + 2) (iA 160 (va_cpy A55 R1 (tn 0) (tn 0) (tn 160)))) q (oSn q a54_1)) := by
  refine eSem.of (k := 0) (L := [some (.ref q), some (.ref 40), some (.ref 54)]) (by decide +kernel) rfl rfl (fun X F hxl hq hcR hsR => ?_)
  subst hxl
  have hnx : 99 ≤ nx := by omega
  have g0 : 32 ≤ q := by omega
  have g1 : 32 ≤ q + 1 := by omega
  have g2 : 32 ≤ q + 2 := by omega
  have b0 : q < nx := by omega
  have b1 : q + 1 < nx := by omega
  refine r_aload_n F dX8_take_0q rfl ?_
  refine r_get F dX8_take_1q flX8_20 h40 rfl (e_le rfl) (e_lt hnx rfl) ?_
  refine r_iconst F dX8_take_4q (v := 0) (by decide) ?_
  refine r_aload_n F dX8_take_5q rfl ?_
  refine r_get F dX8_take_6q flX8_9 hq0 rfl g0 b0 ?_
  refine r_iconst F dX8_take_9q (v := 0) (by decide) ?_
  refine r_aload_n F dX8_take_10q rfl ?_
  refine r_get F dX8_take_11q flX8_9 hq0 rfl g0 b0 ?_
  refine r_alen F dX8_take_14q hq1 g1 b1 (v := 324) rfl ?_
  refine r_copy F dX8_take_15q lnX8_21 k_an k_as k_ai h41 (e_le rfl) (e_lt hnx rfl) hq1 g1 b1 (by decide) (by decide) (by decide) (by decide) (by decide) rfl (e_le rfl) (e_le rfl) (by decide) rfl (r_base ?_)
  have h54 : e_set h (q + 1) (iA 324 (va_cpy A41 S1 (tn 0) (tn 0) (tn 324))) 54 = o54 a54_1 := (e_set_ne (by omega)).trans h54
  have h55 : e_set h (q + 1) (iA 324 (va_cpy A41 S1 (tn 0) (tn 0) (tn 324))) 55 = o55 A55 := (e_set_ne (by omega)).trans h55
  have hq0 : e_set h (q + 1) (iA 324 (va_cpy A41 S1 (tn 0) (tn 0) (tn 324))) q = oSn q t := (e_set_ne (by omega)).trans hq0
  have hq2 : e_set h (q + 1) (iA 324 (va_cpy A41 S1 (tn 0) (tn 0) (tn 324))) (q + 2) = iA 160 R1 := (e_set_ne (by omega)).trans hq2
  refine r_aload_n F dX8_take_18q rfl ?_
  refine r_get F dX8_take_19q flX8_27 h54 rfl (e_le rfl) (e_lt hnx rfl) ?_
  refine r_iconst F dX8_take_22q (v := 0) (by decide) ?_
  refine r_aload_n F dX8_take_23q rfl ?_
  refine r_get F dX8_take_24q flX8_17 hq0 rfl g0 b0 ?_
  refine r_iconst F dX8_take_27q (v := 0) (by decide) ?_
  refine r_aload_n F dX8_take_28q rfl ?_
  refine r_get F dX8_take_29q flX8_17 hq0 rfl g0 b0 ?_
  refine r_alen F dX8_take_32q hq2 g2 hqn (v := 160) rfl ?_
  refine r_copy F dX8_take_33q lnX8_21 k_an k_as k_ai h55 (e_le rfl) (e_lt hnx rfl) hq2 g2 hqn (by decide) (by decide) (by decide) (by decide) (by decide) rfl (e_le rfl) (e_le rfl) (by decide) rfl (r_base ?_)
  have h54 := (e_set_ne (a := q + 2) (o := iA 160 (va_cpy A55 R1 (tn 0) (tn 0) (tn 160))) (by omega)).trans h54
  have hq0 := (e_set_ne (a := q + 2) (o := iA 160 (va_cpy A55 R1 (tn 0) (tn 0) (tn 160))) (by omega)).trans hq0
  refine r_aload_n F dX8_take_36q rfl ?_
  refine r_aload_n F dX8_take_37q rfl ?_
  refine r_get F dX8_take_38q flX8_28 h54 rfl (e_le rfl) (e_lt hnx rfl) ?_
  refine r_put F dX8_take_41q flX8_32 rfl rfl rfl hq0 (e_le rfl) g0 b0 rfl (r_base ?_)
  exact r_vret F hq dX8_take_44q rfl rfl (Nat.le_refl _) (Nat.le_refl _) ⟨rfl, rfl⟩
set_option maxRecDepth 100000 in
theorem t_give {G : eG} {la : Launch} {h : Nat → eO} {nx q : Nat} (hq9 : 99 ≤ q) (hqn : q + 2 < nx) {a40_0 a40_1 a54_1 t : Int32} {A41 A55 S1 R1 : Nat → Int32} (h40 : h 40 = o40 a40_0 a40_1) (h41 : h 41 = o41 A41) (h54 : h 54 = o54 a54_1) (h55 : h 55 = o55 A55) (hq0 : h q = oSn q t) (hq1 : h (q + 1) = iA 324 S1) (hq2 : h (q + 2) = iA 160 R1) :
    eSem G la MX8_give [.ref q, .ref 40, .ref 54] h nx 0 0 (fun r9 h9 => r9 = none ∧ h9 = e_up h [(41, o41 (va_cpy S1 A41 (tn 0) (tn 0) (tn 324))), (54, o54 t), (55, o55 (va_cpy R1 A55 (tn 0) (tn 0) (tn 160)))]) := by
  refine eSem.of (k := 0) (L := [some (.ref q), some (.ref 40), some (.ref 54)]) (by decide +kernel) rfl rfl (fun X F hxl hq hcR hsR => ?_)
  subst hxl
  have hnx : 99 ≤ nx := by omega
  have g0 : 32 ≤ q := by omega
  have g1 : 32 ≤ q + 1 := by omega
  have g2 : 32 ≤ q + 2 := by omega
  have b0 : q < nx := by omega
  have b1 : q + 1 < nx := by omega
  have hi : ∀ (l : List (Nat × eO)) (k : Nat), 99 ≤ k → l.all (fun p => Nat.blt p.1 99) = true → e_up h l k = h k := by
    intro l
    induction l with
    | nil => intro k _ _; rfl
    | cons p l ih =>
      intro k hk hl
      simp only [List.all_cons, Bool.and_eq_true] at hl
      have : p.1 < 99 := Nat.blt_eq.mp hl.1
      obtain ⟨j, o⟩ := p
      simp only [e_up, e_bf (show j ≠ k by simp at this; omega), cond_false]
      exact ih k hk hl.2
  refine r_aload_n F dX8_give_0q rfl ?_
  refine r_get F dX8_give_1q flX8_9 hq0 rfl g0 b0 ?_
  refine r_iconst F dX8_give_4q (v := 0) (by decide) ?_
  refine r_aload_n F dX8_give_5q rfl ?_
  refine r_get F dX8_give_6q flX8_20 h40 rfl (e_le rfl) (e_lt hnx rfl) ?_
  refine r_iconst F dX8_give_9q (v := 0) (by decide) ?_
  refine r_aload_n F dX8_give_10q rfl ?_
  refine r_get F dX8_give_11q flX8_9 hq0 rfl g0 b0 ?_
  refine r_alen F dX8_give_14q hq1 g1 b1 (v := 324) rfl ?_
  refine r_copy F dX8_give_15q lnX8_21 k_an k_as k_ai hq1 g1 b1 h41 (e_le rfl) (e_lt hnx rfl) (by decide) (by decide) (by decide) (by decide) (by decide) rfl (e_le rfl) (e_le rfl) (by decide) (l' := [(41, o41 (va_cpy S1 A41 (tn 0) (tn 0) (tn 324)))]) rfl ?_
  refine r_aload_n F dX8_give_18q rfl ?_
  refine r_get F dX8_give_19q flX8_17 ((hi _ q hq9 rfl).trans hq0) rfl g0 b0 ?_
  refine r_iconst F dX8_give_22q (v := 0) (by decide) ?_
  refine r_aload_n F dX8_give_23q rfl ?_
  refine r_get F dX8_give_24q flX8_27 h54 rfl (e_le rfl) (e_lt hnx rfl) ?_
  refine r_iconst F dX8_give_27q (v := 0) (by decide) ?_
  refine r_aload_n F dX8_give_28q rfl ?_
  refine r_get F dX8_give_29q flX8_17 ((hi _ q hq9 rfl).trans hq0) rfl g0 b0 ?_
  refine r_alen F dX8_give_32q ((hi _ (q + 2) (by omega) rfl).trans hq2) g2 hqn (v := 160) rfl ?_
  refine r_copy F dX8_give_33q lnX8_21 k_an k_as k_ai ((hi _ (q + 2) (by omega) rfl).trans hq2) g2 hqn h55 (e_le rfl) (e_lt hnx rfl) (by decide) (by decide) (by decide) (by decide) (by decide) rfl (e_le rfl) (e_le rfl) (by decide) (l' := [(41, o41 (va_cpy S1 A41 (tn 0) (tn 0) (tn 324))), (55, o55 (va_cpy R1 A55 (tn 0) (tn 0) (tn 160)))]) rfl ?_
  refine r_aload_n F dX8_give_36q rfl ?_
  refine r_aload_n F dX8_give_37q rfl ?_
  refine r_get F dX8_give_38q flX8_32 ((hi _ q hq9 rfl).trans hq0) rfl g0 b0 ?_
  refine r_put F dX8_give_41q flX8_28 rfl rfl rfl h54 (e_le rfl) (e_le rfl) (e_lt hnx rfl) (l' := [(41, o41 (va_cpy S1 A41 (tn 0) (tn 0) (tn 324))), (54, o54 t), (55, o55 (va_cpy R1 A55 (tn 0) (tn 0) (tn 160)))]) rfl ?_
  exact r_vret F hq dX8_give_44q rfl rfl (Nat.le_refl _) (Nat.le_refl _) ⟨rfl, rfl⟩
set_option maxRecDepth 100000 in
theorem t_snap {G : eG} {la : Launch} {h : Nat → eO} {nx q : Nat} (hq9 : 99 ≤ q) (hqn : q + 1 = nx) (hq0 : h q = .inr (8, [.null, .null, .int 0])) :
    eSem G la MX8_init [.ref q] h nx 2 484 (fun r9 h9 => r9 = none ∧ h9 = e_set (e_set (e_set h (q + 1) (iA 324 (fun _ => 0))) (q + 2) (iA 160 (fun _ => 0))) q (oSn q 0)) := by
  subst hqn
  refine eSem.of (k := 0) (L := [some (.ref q)]) (by decide +kernel) rfl rfl (fun X F hxl hq hcR hsR => ?_)
  subst hxl
  have g0 : 32 ≤ q := by omega
  refine r_aload_n F dX8_init_0q rfl ?_
  refine r_objInit F dX8_init_1q loX8_1 k_oi k_oc rfl (e_le rfl) (e_le rfl) (e_le rfl) ?_
  refine r_aload_n F dX8_init_4q rfl ?_
  refine r_sipush F dX8_init_5q (v := 324) (by decide) ?_
  refine r_newa F dX8_init_8q (at9 := .int) (N := 324) (x := (324, .inl (fun _ => 0))) (t0 := 0) (e_sub (ws := [Cond.arrayClass .int]) (by decide +kernel) _ List.mem_cons_self) rfl (fun _ _ => rfl) (by decide) (by decide) (by decide) (fun cA => by rw [e_fa, vp_cell_i]; rfl) (by rw [hcR]; omega) (by rw [hsR]; omega) rfl (r_base ?_)
  have hq0 : e_set h (q + 1) (iA 324 (fun _ => 0)) q = .inr (8, [.null, .null, .int 0]) := (e_set_ne (by omega)).trans hq0
  refine r_putF F dX8_init_10q flX8_9 rfl rfl rfl rfl rfl hq0 (e_le rfl) g0 (by omega) rfl (r_base ?_)
  refine r_aload_n F dX8_init_13q rfl ?_
  refine r_sipush F dX8_init_14q (v := 160) (by decide) ?_
  refine r_newa F dX8_init_17q (at9 := .int) (N := 160) (x := (160, .inl (fun _ => 0))) (t0 := 0) (e_sub (ws := [Cond.arrayClass .int]) (by decide +kernel) _ List.mem_cons_self) rfl (fun _ _ => rfl) (by decide) (by decide) (by decide) (fun cA => by rw [e_fa, vp_cell_i]; rfl) (by rw [hcR]; omega) (by rw [hsR]; omega) rfl (r_base ?_)
  refine r_putF F dX8_init_19q flX8_17 rfl rfl rfl rfl rfl ((e_set_ne (by omega)).trans e_set_eq) (e_le rfl) g0 (by omega) rfl (r_base ?_)
  refine r_vret F hq dX8_init_22q rfl rfl (by omega) (by omega) ⟨rfl, ?_⟩
  show e_set (e_set (e_set (e_set h (q + 1) (iA 324 (fun _ => 0))) q _) (q + 1 + 1) (iA 160 (fun _ => 0))) q (oSn q 0) = _
  funext j
  by_cases e : j = q
  · subst e; simp [e_set]
  · simp [e_set, e]
