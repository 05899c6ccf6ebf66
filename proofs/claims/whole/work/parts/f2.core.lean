/-! ===== SlipLattice.core, which may throw ===== -/
def MX11_coreX : eM := (yX11_core, cX11_core, 3, some .int, 6, 120)
theorem mX11_coreX : e_mv MX11_coreX 2 := mX11_core
theorem lkL_7x : e_lk RL 7 MX11_coreX := lkL_7
def cThr (sz p0 p1 : Int32) : Prop := p0 < 0 ∨ sz ≤ p0 ∨ p1 < 0 ∨ 5 < p1
set_option maxRecDepth 100000 in
theorem tX11_core_32 {G : eG} (hG : e_GS G) {la : Launch} (hsT : la.stackTraces = false) {h : Nat → eO} {nx : Nat} (hnx : 99 ≤ nx) {a32_8 a32_10 : Bool} {a42_0 : Int32} {A43 A44 A53 : Nat → Int32} {p0 p1 : Int32} (h32 : h 32 = o32 a32_8 a32_10) (h39 : h 39 = o39) (h42 : h 42 = o42 a42_0) (h43 : h 43 = o43 A43) (h44 : h 44 = o44 A44) (h53 : h 53 = o53 A53) {R9 : Int32} (hf : ¬ cThr a42_0 p0 p1 → cCore a42_0 A43 A44 A53 p0 p1 = some R9) :
    eSemX G la MX11_coreX [.ref 32, .int p0, .int p1] h nx 1 6 (cThr a42_0 p0 p1) (fun r h9 nx9 => ¬ cThr a42_0 p0 p1 ∧ r = some (.int R9) ∧ h9 = h ∧ nx9 = nx) := by
  refine eSemX.of (k := 0) (L := [some (.ref 32), some (.int p0), some (.int p1)]) (by decide +kernel) rfl rfl (fun X F hxl hq hT hU hcR hsR => ?_)
  subst hxl
  have thr : cThr a42_0 p0 p1 → eRun G X 27 [some (.ref 32), some (.int p0), some (.int p1)] [] h [] nx 0 0 := fun ht => r_throwN rfl F hq hT hU hsT ht rfl dX11_core_27 dX11_core_30 dX11_core_31 dX11_core_34 rfl (by decide) (by decide) (by decide) (by decide) hcR hsR
  refine r_iload_n F dX11_core_0 rfl ?_
  refine r_if_lt F dX11_core_1 (tgt := 27) (by decide) (fun c1 => thr (Or.inl c1)) (fun c1 => ?_)
  refine r_iload_n F dX11_core_4 rfl ?_
  refine r_aload_n F dX11_core_5 rfl ?_
  refine r_get F dX11_core_6 flX11_28 h32 rfl (e_le rfl) (e_lt hnx rfl) ?_
  refine r_get F dX11_core_9 flX11_127 h39 rfl (e_le rfl) (e_lt hnx rfl) ?_
  refine r_get F dX11_core_12 flX11_131 h42 rfl (e_le rfl) (e_lt hnx rfl) ?_
  refine r_icmp_ge F dX11_core_15 (tgt := 27) (by decide) (fun c2 => thr (Or.inr (Or.inl c2))) (fun c2 => ?_)
  refine r_iload_n F dX11_core_18 rfl ?_
  refine r_if_lt F dX11_core_19 (tgt := 27) (by decide) (fun c3 => thr (Or.inr (Or.inr (Or.inl c3)))) (fun c3 => ?_)
  refine r_iload_n F dX11_core_22 rfl ?_
  refine r_iconst F dX11_core_23 (v := 5) (by decide) ?_
  refine r_icmp_le F dX11_core_24 (tgt := 35) (by decide) (fun c4 => ?_) (fun c4 => thr (Or.inr (Or.inr (Or.inr (by rw [Int32.lt_iff_toInt_lt]; rw [Int32.le_iff_toInt_le] at c4; omega)))))
  have no : ¬ cThr a42_0 p0 p1 := by
    rintro (q | q | q | q)
    · exact c1 q
    · exact c2 q
    · exact c3 q
    · rw [Int32.lt_iff_toInt_lt] at q; rw [Int32.le_iff_toInt_le] at c4; omega
  have hf := hf no
  unfold cCore at hf
  refine r_iload_n F dX11_core_35 rfl ?_
  by_cases w0 : p1 = 0
  · rw [if_pos w0] at hf
    refine r_tsIn F dX11_core_36 (off := 36) (tgt := 72) (by rw [w0]; decide) (by rw [w0]; decide) (by rw [w0]; rfl) (by decide) ?_
    refine r_aload_n F dX11_core_72 rfl ?_
    refine r_get F dX11_core_73 flX11_28 h32 rfl (e_le rfl) (e_lt hnx rfl) ?_
    refine r_get F dX11_core_76 flX11_127 h39 rfl (e_le rfl) (e_lt hnx rfl) ?_
    refine r_iload_n F dX11_core_79 rfl ?_
    refine r_iload_n F dX11_core_80 rfl ?_
    refine r_callV F dX11_core_81 (b := 42) (dc := 0) (ds := 0) (As := [.int p0, .int p1]) (S0 := []) lkX11_174 mX0_placeOf (tX0_placeOf_42 hG (la := x_l X) (h := e_up h []) hnx h42 h43 hf) rfl rfl rfl (e_le rfl) (e_le rfl) (e_le rfl) h42 (ci := 0) e_cl0.1 rfl (e_le rfl) (e_lt hnx rfl) (Nat.zero_le _) (Nat.zero_le _) (e_k ?_)
    refine r_wr0 ?_
    exact r_iretX F hq dX11_core_84 rfl (Nat.zero_le _) (Nat.zero_le _) ⟨no, rfl, rfl, rfl⟩
  rw [if_neg w0] at hf
  by_cases w1 : p1 = 1
  · rw [if_pos w1] at hf
    refine r_tsIn F dX11_core_36 (off := 36) (tgt := 72) (by rw [w1]; decide) (by rw [w1]; decide) (by rw [w1]; rfl) (by decide) ?_
    refine r_aload_n F dX11_core_72 rfl ?_
    refine r_get F dX11_core_73 flX11_28 h32 rfl (e_le rfl) (e_lt hnx rfl) ?_
    refine r_get F dX11_core_76 flX11_127 h39 rfl (e_le rfl) (e_lt hnx rfl) ?_
    refine r_iload_n F dX11_core_79 rfl ?_
    refine r_iload_n F dX11_core_80 rfl ?_
    refine r_callV F dX11_core_81 (b := 42) (dc := 0) (ds := 0) (As := [.int p0, .int p1]) (S0 := []) lkX11_174 mX0_placeOf (tX0_placeOf_42 hG (la := x_l X) (h := e_up h []) hnx h42 h43 hf) rfl rfl rfl (e_le rfl) (e_le rfl) (e_le rfl) h42 (ci := 0) e_cl0.1 rfl (e_le rfl) (e_lt hnx rfl) (Nat.zero_le _) (Nat.zero_le _) (e_k ?_)
    refine r_wr0 ?_
    exact r_iretX F hq dX11_core_84 rfl (Nat.zero_le _) (Nat.zero_le _) ⟨no, rfl, rfl, rfl⟩
  rw [if_neg w1] at hf
  have num : ∀ (hf : fX0_numberOf a42_0 A44 p0 (p1 - 2) = some R9), eRun G X 85 [some (.ref 32), some (.int p0), some (.int p1)] [] h [] nx 0 0 := by
    intro hf
    refine r_aload_n F dX11_core_85 rfl ?_
    refine r_get F dX11_core_86 flX11_28 h32 rfl (e_le rfl) (e_lt hnx rfl) ?_
    refine r_get F dX11_core_89 flX11_127 h39 rfl (e_le rfl) (e_lt hnx rfl) ?_
    refine r_iload_n F dX11_core_92 rfl ?_
    refine r_iload_n F dX11_core_93 rfl ?_
    refine r_iconst F dX11_core_94 (v := 2) (by decide) ?_
    refine r_isub F dX11_core_95 ?_
    refine r_callV F dX11_core_96 (b := 42) (dc := 0) (ds := 0) (As := [.int p0, .int (p1 - 2)]) (S0 := []) lkX11_178 mX0_numberOf (tX0_numberOf_42 hG (la := x_l X) (h := e_up h []) hnx h42 h44 hf) rfl rfl rfl (e_le rfl) (e_le rfl) (e_le rfl) h42 (ci := 0) e_cl0.1 rfl (e_le rfl) (e_lt hnx rfl) (Nat.zero_le _) (Nat.zero_le _) (e_k ?_)
    refine r_wr0 ?_
    exact r_iretX F hq dX11_core_99 rfl (Nat.zero_le _) (Nat.zero_le _) ⟨no, rfl, rfl, rfl⟩
  by_cases w2 : p1 = 2
  · rw [if_pos w2] at hf
    exact r_tsIn F dX11_core_36 (off := 49) (tgt := 85) (by rw [w2]; decide) (by rw [w2]; decide) (by rw [w2]; rfl) (by decide) (num hf)
  rw [if_neg w2] at hf
  by_cases w3 : p1 = 3
  · rw [if_pos w3] at hf
    exact r_tsIn F dX11_core_36 (off := 49) (tgt := 85) (by rw [w3]; decide) (by rw [w3]; decide) (by rw [w3]; rfl) (by decide) (num hf)
  rw [if_neg w3] at hf
  by_cases w4 : p1 = 4
  · rw [if_pos w4] at hf
    refine r_tsIn F dX11_core_36 (off := 64) (tgt := 100) (by rw [w4]; decide) (by rw [w4]; decide) (by rw [w4]; rfl) (by decide) ?_
    refine r_aload_n F dX11_core_100 rfl ?_
    refine r_get F dX11_core_101 flX11_28 h32 rfl (e_le rfl) (e_lt hnx rfl) ?_
    refine r_get F dX11_core_104 flX11_127 h39 rfl (e_le rfl) (e_lt hnx rfl) ?_
    refine r_iload_n F dX11_core_107 rfl ?_
    refine r_callV F dX11_core_108 (b := 42) (dc := 0) (ds := 0) (As := [.int p0]) (S0 := []) lkX11_181 mX0_wayOf (tX0_wayOf_42 hG (la := x_l X) (h := e_up h []) hnx h42 h44 hf) rfl rfl rfl (e_le rfl) (e_le rfl) (e_le rfl) h42 (ci := 0) e_cl0.1 rfl (e_le rfl) (e_lt hnx rfl) (Nat.zero_le _) (Nat.zero_le _) (e_k ?_)
    refine r_wr0 ?_
    exact r_iretX F hq dX11_core_111 rfl (Nat.zero_le _) (Nat.zero_le _) ⟨no, rfl, rfl, rfl⟩
  rw [if_neg w4] at hf
  refine r_tsOut F dX11_core_36 (tgt := 112) (e_out5 w0 w1 w2 w3 w4) (by decide) ?_
  refine r_aload_n F dX11_core_112 rfl ?_
  refine r_get F dX11_core_113 flX11_28 h32 rfl (e_le rfl) (e_lt hnx rfl) ?_
  refine r_get F dX11_core_116 flX11_127 h39 rfl (e_le rfl) (e_lt hnx rfl) ?_
  refine r_iload_n F dX11_core_119 rfl ?_
  refine r_aload_n F dX11_core_120 rfl ?_
  refine r_get F dX11_core_121 flX11_35 h32 rfl (e_le rfl) (e_lt hnx rfl) ?_
  refine r_callV F dX11_core_124 (b := 42) (dc := 0) (ds := 0) (As := [.int p0, .ref 53]) (S0 := []) lkX11_184 mX0_forceOn (tX0_forceOn_42_53 hG (la := x_l X) (h := e_up h []) hnx h42 h43 h44 h53 hf) rfl rfl rfl (e_le rfl) (e_le rfl) (e_le rfl) h42 (ci := 0) e_cl0.1 rfl (e_le rfl) (e_lt hnx rfl) (Nat.zero_le _) (Nat.zero_le _) (e_k ?_)
  refine r_wr0 ?_
  exact r_iretX F hq dX11_core_127 rfl (Nat.zero_le _) (Nat.zero_le _) ⟨no, rfl, rfl, rfl⟩
