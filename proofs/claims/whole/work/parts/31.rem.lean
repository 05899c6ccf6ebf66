/-! ===== Past.remember, Past.restore ===== -/
section NUL
variable {G : eG} {M : eM} {X : eX} {pc nx c sl : Nat} {L : List (Option Value)} {S : List Value} {h : Nat → eO} {l : List (Nat × eO)}
theorem r_aloadN (F : eFx G M X) {i : Nat} (hd : decode (e_cc M) pc = .ok (.aload i, 2)) (hl : L[i]? = some (some .null)) (k : eRun G X (pc + 2) L (.null :: S) h l nx c sl) : eRun G X pc L S h l nx c sl :=
  fun H locs ls hR hS hL => lv_aloadN F.1 F.2.1 hd (hL.at hl) (k H locs ls hR hS hL)
theorem r_astoreN (F : eFx G M X) {i : Nat} {L' : List (Option Value)} (hd : decode (e_cc M) pc = .ok (.astore i, 2)) (hi : i < L.length) (hL' : e_st1 L i .null = L') (k : eRun G X (pc + 2) L' S h l nx c sl) : eRun G X pc L (.null :: S) h l nx c sl :=
  fun H locs ls hR hS hL => lv_astoreN F.1 F.2.1 hd hL hi rfl (fun ls1 hl1 => k H locs ls1 hR hS (e_L.st1 (ls := ls) hL' hl1))
theorem r_num {nx' c' sl' : Nat} (e1 : nx = nx') (e2 : c = c') (e3 : sl = sl') (k : eRun G X pc L S h l nx' c' sl') : eRun G X pc L S h l nx c sl := by
  subst e1; subst e2; subst e3; exact k
end NUL
abbrev eSS : Type := Nat → (Nat → Int32) × (Nat → Int32) × Int32
/-- the snapshots of the ring, and the row 'least' -/
def e_dyn (h : Nat → eO) (nx : Nat) (ring : Nat → Option Nat) (SS : eSS) (q6 nl : Nat) (LE : Nat → Int32) : Prop :=
  (∀ j, j < 20 → ∀ q, ring j = some q → 99 ≤ q ∧ q + 2 < nx ∧ h q = oSn q (SS j).2.2 ∧ h (q + 1) = iA 324 (SS j).1 ∧ h (q + 2) = iA 160 (SS j).2.1) ∧
  (∀ i j, i < 20 → j < 20 → i ≠ j → ∀ p q, ring i = some p → ring j = some q → p + 2 < q ∨ q + 2 < p) ∧
  (q6 = 71 ∨ (99 ≤ q6 ∧ ∀ j, j < 20 → ∀ q, ring j = some q → q6 < q ∨ q + 2 < q6)) ∧ q6 < nx ∧ h q6 = iA nl LE
def f_rem (ring : Nat → Option Nat) (SS : eSS) (next size : Int32) (A41 A55 : Nat → Int32) (tot : Int32) (nx : Nat) : Option (Int32 × Int32 × (Nat → Option Nat) × eSS × Nat) :=
  (fJ9_floorMod_7cf53 next 20).bind (fun s => e_g (e_in s 20) (
    (fJ9_min_7cf53 (size + 1) 20).bind (fun m =>
    match ring (tn s) with
    | some _ => some (s + 1, m, ring, va_up SS (tn s) (va_cpy A41 (SS (tn s)).1 (tn 0) (tn 0) (tn 324), va_cpy A55 (SS (tn s)).2.1 (tn 0) (tn 0) (tn 160), tot), 0)
    | none => some (s + 1, m, va_up ring (tn s) (some nx), va_up SS (tn s) (va_cpy A41 (fun _ => 0) (tn 0) (tn 0) (tn 324), va_cpy A55 (fun _ => 0) (tn 0) (tn 0) (tn 160), tot), 1))))
theorem e_tn_lt {s : Int32} {n : Nat} (h : vp_in s n) : tn s < n := Nat.not_le.mp fun q => h (Or.inr q)
theorem k_i8 : Cond.instantiable RX8 3 ∈ e_tb := e_sub (ws := [Cond.instantiable RX8 3]) (by decide +kernel) _ List.mem_cons_self
theorem k_n8 : Cond.initialized RX8 ∈ e_tb := e_sub (ws := [Cond.initialized RX8]) (by decide +kernel) _ List.mem_cons_self
set_option maxRecDepth 100000 in
theorem t_rem {G : eG} (hG : e_GS G) {la : Launch} {h : Nat → eO} {nx : Nat} (hnx : 99 ≤ nx) {a40_0 a40_1 a54_1 a56_1 a56_2 : Int32} {A41 A55 : Nat → Int32} {A57 : Nat → Option Nat} {SS : eSS} {q6 nl : Nat} {LE : Nat → Int32} (h40 : h 40 = o40 a40_0 a40_1) (h41 : h 41 = o41 A41) (h54 : h 54 = o54 a54_1) (h55 : h 55 = o55 A55) (h56 : h 56 = o56 a56_1 a56_2) (h57 : h 57 = o57 A57) (hd9 : e_dyn h nx A57 SS q6 nl LE)
    {R9 : Int32 × Int32 × (Nat → Option Nat) × eSS × Nat} (hf : f_rem A57 SS a56_1 a56_2 A41 A55 a54_1 nx = some R9) :
    eSem G la MX4_remember [.ref 56, .ref 40, .ref 54] h nx (3 * R9.2.2.2.2) (487 * R9.2.2.2.2) (fun r9 h9 => r9 = none ∧ (∀ k, k < 99 → k ≠ 56 → k ≠ 57 → h9 k = h k) ∧ h9 56 = o56 R9.1 R9.2.1 ∧ h9 57 = o57 R9.2.2.1 ∧ e_dyn h9 (nx + 3 * R9.2.2.2.2) R9.2.2.1 R9.2.2.2.1 q6 nl LE) := by
  refine eSem.of (k := 2) (L := [some (.ref 56), some (.ref 40), some (.ref 54), none, none]) (by decide +kernel) rfl rfl (fun X F hxl hq hcR hsR => ?_)
  subst hxl
  unfold f_rem at hf
  obtain ⟨s, hs, hf⟩ := e_bd hf
  obtain ⟨hg, hf⟩ := e_gd hf
  obtain ⟨m9, hm, hf⟩ := e_bd hf
  have hin := e_vp hg
  have hlt := e_tn_lt hin
  refine r_aload_n F dX4_remember_0q rfl ?_
  refine r_get F dX4_remember_1q flX4_19 h56 rfl (e_le rfl) (e_lt hnx rfl) ?_
  refine r_bipush F dX4_remember_4q (v := 20) (by decide) ?_
  refine r_callS F dX4_remember_6q (dc := 0) (ds := 0) (As := [.int a56_1, .int 20]) (S0 := []) lkX4_22 mJ9_floorMod_7cf53 (tJ9_floorMod_7cf53 hG (la := x_l X) (h := e_up h []) hnx hs) rfl rfl rfl (e_le rfl) (e_le rfl) (e_le rfl) (Nat.zero_le _) (Nat.zero_le _) (e_k ?_)
  refine r_wr0 ?_
  refine r_istore_n F dX4_remember_9q (e_le rfl) (L' := [some (.ref 56), some (.ref 40), some (.ref 54), some (.int s), none]) rfl ?_
  refine r_aload_n F dX4_remember_10q rfl ?_
  refine r_get F dX4_remember_11q flX4_11 h56 rfl (e_le rfl) (e_lt hnx rfl) ?_
  refine r_iload_n F dX4_remember_14q rfl ?_
  -- from the snapshot's taking on
  have tail : ∀ (hC : Nat → eO) (q nx' c' s' : Nat) (t : Int32) (S1 R1 : Nat → Int32), R9 = (s + 1, m9, R9.2.2.1, R9.2.2.2.1, R9.2.2.2.2) → 99 ≤ q → q + 2 < nx' → nx' = nx + 3 * R9.2.2.2.2 → c' ≤ 3 * R9.2.2.2.2 → s' ≤ 487 * R9.2.2.2.2 →
      (∀ k, k < 99 → k ≠ 57 → hC k = h k) → hC 57 = o57 R9.2.2.1 → hC q = oSn q t → hC (q + 1) = iA 324 S1 → hC (q + 2) = iA 160 R1 →
      (∀ h9 : Nat → eO, (∀ k, k ≠ 56 → k ≠ q → k ≠ q + 1 → k ≠ q + 2 → h9 k = hC k) → h9 q = oSn q a54_1 → h9 (q + 1) = iA 324 (va_cpy A41 S1 (tn 0) (tn 0) (tn 324)) → h9 (q + 2) = iA 160 (va_cpy A55 R1 (tn 0) (tn 0) (tn 160)) → e_dyn h9 nx' R9.2.2.1 R9.2.2.2.1 q6 nl LE) →
      eRun G X 40 [some (.ref 56), some (.ref 40), some (.ref 54), some (.int s), some (.ref q)] [] hC [] nx' c' s' := by
    intro hC q nx' c' s' t S1 R1 hR9 hq9 hqn hnx' hc' hs' hfr hC57 hCq hCq1 hCq2 hdyn
    have hnx2 : 99 ≤ nx' := by omega
    refine r_aload F dX4_remember_40q rfl ?_
    refine r_aload_n F dX4_remember_42q rfl ?_
    refine r_aload_n F dX4_remember_43q rfl ?_
    refine r_callV F dX4_remember_44q (b := q) (dc := 0) (ds := 0) (As := [.ref 40, .ref 54]) (S0 := []) lkX4_29 mX8_take (t_take (la := x_l X) (h := e_up hC []) hq9 hqn ((hfr 40 (by decide) (by decide)).trans h40) ((hfr 41 (by decide) (by decide)).trans h41) ((hfr 54 (by decide) (by decide)).trans h54) ((hfr 55 (by decide) (by decide)).trans h55) hCq hCq1 hCq2) rfl rfl rfl (e_le rfl) (e_le rfl) (e_le rfl) hCq (ci := 8) e_cl8.1 rfl (by omega) (by omega) (by rw [hcR]; omega) (by rw [hsR]; omega) (e_k ?_)
    generalize hT : e_set (e_set (e_set (e_up hC []) (q + 1) (iA 324 (va_cpy A41 S1 (tn 0) (tn 0) (tn 324)))) (q + 2) (iA 160 (va_cpy A55 R1 (tn 0) (tn 0) (tn 160)))) q (oSn q a54_1) = hD
    have d1 : ∀ k, k ≠ q → k ≠ q + 1 → k ≠ q + 2 → hD k = hC k := by
      intro k k0 k1 k2
      rw [← hT, e_set_ne k0, e_set_ne k2, e_set_ne k1]; rfl
    have d2 : hD q = oSn q a54_1 := by rw [← hT, e_set_eq]
    have d3 : hD (q + 1) = iA 324 (va_cpy A41 S1 (tn 0) (tn 0) (tn 324)) := by rw [← hT, e_set_ne (by omega), e_set_ne (by omega), e_set_eq]
    have d4 : hD (q + 2) = iA 160 (va_cpy A55 R1 (tn 0) (tn 0) (tn 160)) := by rw [← hT, e_set_ne (by omega), e_set_eq]
    have d56 : hD 56 = o56 a56_1 a56_2 := ((d1 56 (by omega) (by omega) (by omega)).trans (hfr 56 (by decide) (by decide))).trans h56
    refine r_aload_n F dX4_remember_47q rfl ?_
    refine r_iload_n F dX4_remember_48q rfl ?_
    refine r_iconst F dX4_remember_49q (v := 1) (by decide) ?_
    refine r_iadd F dX4_remember_50q ?_
    refine r_put F dX4_remember_51q flX4_19 rfl rfl rfl d56 (e_le rfl) (e_le rfl) (e_lt hnx2 rfl) (l' := [(56, o56 (s + 1) a56_2)]) rfl ?_
    refine r_aload_n F dX4_remember_54q rfl ?_
    refine r_aload_n F dX4_remember_55q rfl ?_
    refine r_get F dX4_remember_56q flX4_15 rfl rfl (e_le rfl) (e_lt hnx2 rfl) ?_
    refine r_iconst F dX4_remember_59q (v := 1) (by decide) ?_
    refine r_iadd F dX4_remember_60q ?_
    refine r_bipush F dX4_remember_61q (v := 20) (by decide) ?_
    refine r_callS F dX4_remember_63q (dc := 0) (ds := 0) (As := [.int (a56_2 + 1), .int 20]) (S0 := [.ref 56]) lkX4_33 mJ9_min_7cf53 (tJ9_min_7cf53 hG (la := x_l X) (h := e_up hD [(56, o56 (s + 1) a56_2)]) (nx := nx') hnx2 hm) rfl rfl rfl (e_le rfl) (e_le rfl) (e_le rfl) (by rw [hcR]; omega) (by rw [hsR]; omega) (e_k ?_)
    refine r_wr0 ?_
    refine r_put F dX4_remember_66q flX4_15 rfl rfl rfl rfl (e_le rfl) (e_le rfl) (e_lt hnx2 rfl) (l' := [(56, o56 (s + 1) m9)]) rfl (r_base ?_)
    refine r_vret F hq dX4_remember_69q rfl (by omega) (by omega) (by omega) ⟨rfl, ?_, ?_, ?_, ?_⟩
    · intro k k1 k2 k3
      show e_set hD 56 _ k = h k
      rw [e_set_ne k2, d1 k (by omega) (by omega) (by omega)]
      exact hfr k k1 k3
    · show e_set hD 56 _ 56 = _
      rw [e_set_eq, hR9]
    · show e_set hD 56 _ 57 = _
      rw [e_set_ne (by decide), d1 57 (by omega) (by omega) (by omega)]
      exact hC57
    · rw [← hnx']
      refine hdyn _ (fun k k0 k1 k2 k3 => ?_) ?_ ?_ ?_
      · show e_set hD 56 _ k = _
        rw [e_set_ne k0, d1 k k1 k2 k3]
      · show e_set hD 56 _ q = _
        rw [e_set_ne (by omega), d2]
      · show e_set hD 56 _ (q + 1) = _
        rw [e_set_ne (by omega), d3]
      · show e_set hD 56 _ (q + 2) = _
        rw [e_set_ne (by omega), d4]
  obtain ⟨y1, y2, y3, y4, y5⟩ := hd9
  cases hr : A57 (tn s) with
  | some q =>
    rw [hr] at hf
    obtain rfl := Option.some.inj hf
    obtain ⟨z1, z2, z3, z4, z5⟩ := y1 _ hlt q hr
    refine r_aald F dX4_remember_15q h57 (e_le rfl) (e_lt hnx rfl) hin (v := .ref q) (by rw [hr]; rfl) ?_
    refine r_astore F dX4_remember_16q (e_le rfl) (L' := [some (.ref 56), some (.ref 40), some (.ref 54), some (.int s), some (.ref q)]) rfl ?_
    refine r_aload F dX4_remember_18q rfl ?_
    refine r_ifnonnull F dX4_remember_20q (tgt := 40) (by decide) ?_
    refine tail h q _ _ _ _ _ _ rfl z1 z2 (by show _ = nx + 3 * 0; rfl) (Nat.zero_le _) (Nat.zero_le _) (fun k _ _ => rfl) h57 z3 z4 z5 ?_
    intro h9 e0 e1 e2 e3
    refine ⟨?_, y2, y3, y4, ?_⟩
    · intro j hj p hp
      by_cases ej : j = tn s
      · subst ej
        have hp' : A57 (tn s) = some p := hp
        rw [hr] at hp'; cases hp'
        simp only [va_up, if_true]
        exact ⟨z1, z2, e1, e2, e3⟩
      · obtain ⟨w1, w2, w3, w4, w5⟩ := y1 j hj p hp
        have ap := y2 j (tn s) hj hlt ej p q hp hr
        simp only [va_up, if_neg ej]
        exact ⟨w1, w2, (e0 p (by omega) (by omega) (by omega) (by omega)).trans w3, (e0 _ (by omega) (by omega) (by omega) (by omega)).trans w4, (e0 _ (by omega) (by omega) (by omega) (by omega)).trans w5⟩
    · have : q6 ≠ q ∧ q6 ≠ q + 1 ∧ q6 ≠ q + 2 ∧ q6 ≠ 56 := by
        rcases y3 with y3 | ⟨y3, y6⟩
        · omega
        · have := y6 _ hlt q hr; omega
      rw [e0 q6 this.2.2.2 this.1 this.2.1 this.2.2.1]
      exact y5
  | none =>
    rw [hr] at hf
    obtain rfl := Option.some.inj hf
    refine r_aald F dX4_remember_15q h57 (e_le rfl) (e_lt hnx rfl) hin (v := .null) (by rw [hr]; rfl) ?_
    refine r_astoreN F dX4_remember_16q (e_le rfl) (L' := [some (.ref 56), some (.ref 40), some (.ref 54), some (.int s), some .null]) rfl ?_
    refine r_aloadN F dX4_remember_18q rfl ?_
    refine r_ifnonnullN F dX4_remember_20q ?_
    refine r_new F dX4_remember_23q (ci := 8) (fs := [.null, .null, .int 0]) e_cl8 kkX4_9 k_i8 k_n8 (fun j hj => by match j, hj with | 0, _ => rfl | 1, _ => rfl | 2, _ => rfl) (by rw [hcR]; show 0 + 1 ≤ 3 * 1; omega) (by rw [hsR]; show 0 + 3 ≤ 487 * 1; omega) rfl (r_base ?_)
    refine r_dup F dX4_remember_26q rfl ?_
    refine r_callIN F dX4_remember_27q (b := nx) (dc := 2) (ds := 484) (As := []) (S0 := [.ref nx]) lkX4_28 mX8_init (t_snap (la := x_l X) (h := e_up (e_set h nx (.inr (8, [.null, .null, .int 0]))) []) hnx rfl e_set_eq) rfl rfl rfl (e_le rfl) (e_le rfl) (e_le rfl) (by rw [hcR]; show 0 + 1 + 2 ≤ 3 * 1; omega) (by rw [hsR]; show 0 + 3 + 484 ≤ 487 * 1; omega) (e_k ?_)
    generalize hT : e_set (e_set (e_set (e_up (e_set h nx (.inr (8, [.null, .null, .int 0]))) []) (nx + 1) (iA 324 (fun _ => 0))) (nx + 2) (iA 160 (fun _ => 0))) nx (oSn nx 0) = hD
    have d1 : ∀ k, k ≠ nx → k ≠ nx + 1 → k ≠ nx + 2 → hD k = h k := by
      intro k k0 k1 k2
      rw [← hT, e_set_ne k0, e_set_ne k2, e_set_ne k1]
      show e_set h nx _ k = _
      rw [e_set_ne k0]
    have d2 : hD nx = oSn nx 0 := by rw [← hT, e_set_eq]
    have d3 : hD (nx + 1) = iA 324 (fun _ => 0) := by rw [← hT, e_set_ne (by omega), e_set_ne (by omega), e_set_eq]
    have d4 : hD (nx + 2) = iA 160 (fun _ => 0) := by rw [← hT, e_set_ne (by omega), e_set_eq]
    have d56 : hD 56 = o56 a56_1 a56_2 := (d1 56 (by omega) (by omega) (by omega)).trans h56
    have d57 : hD 57 = o57 A57 := (d1 57 (by omega) (by omega) (by omega)).trans h57
    have hnx3 : 99 ≤ nx + 1 + 2 := by omega
    refine r_astore F dX4_remember_30q (e_le rfl) (L' := [some (.ref 56), some (.ref 40), some (.ref 54), some (.int s), some (.ref nx)]) rfl ?_
    refine r_aload_n F dX4_remember_32q rfl ?_
    refine r_get F dX4_remember_33q flX4_11 d56 rfl (e_le rfl) (e_lt hnx3 rfl) ?_
    refine r_iload_n F dX4_remember_36q rfl ?_
    refine r_aload F dX4_remember_37q rfl ?_
    refine r_aast F dX4_remember_39q d57 (e_le rfl) (e_lt hnx3 rfl) d2 (by omega) (by omega) hin rfl (r_base ?_)
    refine tail _ nx _ _ _ 0 (fun _ => 0) (fun _ => 0) rfl hnx (by omega) (by show nx + 1 + 2 = nx + 3 * 1; omega) (by show 0 + 1 + 2 ≤ 3 * 1; omega) (by show 0 + 3 + 484 ≤ 487 * 1; omega) (fun k k1 k2 => by rw [e_set_ne k2]; exact d1 k (by omega) (by omega) (by omega)) e_set_eq (by rw [e_set_ne (by omega)]; exact d2) (by rw [e_set_ne (by omega)]; exact d3) (by rw [e_set_ne (by omega)]; exact d4) ?_
    intro h9 e0 e1 e2 e3
    have e0' : ∀ k, k ≠ 56 → k ≠ 57 → k < nx → h9 k = h k := by
      intro k k1 k2 k3
      rw [e0 k k1 (by omega) (by omega) (by omega), e_set_ne k2]
      exact d1 k (by omega) (by omega) (by omega)
    refine ⟨?_, ?_, ?_, by show q6 < nx + 1 + 2; omega, ?_⟩
    · intro j hj p hp
      by_cases ej : j = tn s
      · subst ej
        have hp' : va_up A57 (tn s) (some nx) (tn s) = some p := hp
        simp only [va_up, if_true] at hp'
        cases hp'
        simp only [va_up, if_true]
        exact ⟨hnx, by omega, e1, e2, e3⟩
      · have hp' : va_up A57 (tn s) (some nx) j = some p := hp
        simp only [va_up, if_neg ej] at hp'
        obtain ⟨w1, w2, w3, w4, w5⟩ := y1 j hj p hp'
        simp only [va_up, if_neg ej]
        exact ⟨w1, by omega, (e0' p (by omega) (by omega) (by omega)).trans w3, (e0' _ (by omega) (by omega) (by omega)).trans w4, (e0' _ (by omega) (by omega) (by omega)).trans w5⟩
    · intro i j hi hj hij p q hp hq9
      have hp' : va_up A57 (tn s) (some nx) i = some p := hp
      have hq' : va_up A57 (tn s) (some nx) j = some q := hq9
      by_cases ei : i = tn s
      · have ej : j ≠ tn s := by omega
        simp only [va_up, if_pos ei] at hp'
        simp only [va_up, if_neg ej] at hq'
        cases hp'
        have := (y1 j hj q hq').2.1
        omega
      · simp only [va_up, if_neg ei] at hp'
        by_cases ej : j = tn s
        · simp only [va_up, if_pos ej] at hq'
          cases hq'
          have := (y1 i hi p hp').2.1
          omega
        · simp only [va_up, if_neg ej] at hq'
          exact y2 i j hi hj hij p q hp' hq'
    · rcases y3 with y3 | ⟨y3, y6⟩
      · exact Or.inl y3
      · refine Or.inr ⟨y3, fun j hj q hq9 => ?_⟩
        have hq' : va_up A57 (tn s) (some nx) j = some q := hq9
        by_cases ej : j = tn s
        · simp only [va_up, if_pos ej] at hq'
          cases hq'
          omega
        · simp only [va_up, if_neg ej] at hq'
          exact y6 j hj q hq'
    · rw [e0' q6 (by omega) (by omega) y4]
      exact y5

/-! restore -/
def f_res (ring : Nat → Option Nat) (SS : eSS) (next size : Int32) (A41 A55 : Nat → Int32) (tot : Int32) : Option (Bool × Int32 × Int32 × (Nat → Int32) × (Nat → Int32) × Int32) :=
  (fJ9_floorMod_7cf53 (next - 1) 20).bind (fun s => e_g (e_in s 20) (
    if size ≤ 0 then some (false, next, size, A41, A55, tot) else
    match ring (tn s) with
    | none => some (false, next, size, A41, A55, tot)
    | some _ => some (true, s, size - 1, va_cpy (SS (tn s)).1 A41 (tn 0) (tn 0) (tn 324), va_cpy (SS (tn s)).2.1 A55 (tn 0) (tn 0) (tn 160), (SS (tn s)).2.2)))
set_option maxRecDepth 100000 in
theorem t_res {G : eG} (hG : e_GS G) {la : Launch} {h : Nat → eO} {nx : Nat} (hnx : 99 ≤ nx) {a40_0 a40_1 a54_1 a56_1 a56_2 : Int32} {A41 A55 : Nat → Int32} {A57 : Nat → Option Nat} {SS : eSS} {q6 nl : Nat} {LE : Nat → Int32} (h40 : h 40 = o40 a40_0 a40_1) (h41 : h 41 = o41 A41) (h54 : h 54 = o54 a54_1) (h55 : h 55 = o55 A55) (h56 : h 56 = o56 a56_1 a56_2) (h57 : h 57 = o57 A57) (hd9 : e_dyn h nx A57 SS q6 nl LE)
    {R9 : Bool × Int32 × Int32 × (Nat → Int32) × (Nat → Int32) × Int32} (hf : f_res A57 SS a56_1 a56_2 A41 A55 a54_1 = some R9) :
    eSem G la MX4_restore [.ref 56, .ref 40, .ref 54] h nx 0 0 (fun r9 h9 => r9 = some (.int (e_b R9.1)) ∧ h9 = e_up h [(41, o41 R9.2.2.2.1), (54, o54 R9.2.2.2.2.2), (55, o55 R9.2.2.2.2.1), (56, o56 R9.2.1 R9.2.2.1)]) := by
  refine eSem.of (k := 2) (L := [some (.ref 56), some (.ref 40), some (.ref 54), none, none]) (by decide +kernel) rfl rfl (fun X F hxl hq hcR hsR => ?_)
  subst hxl
  unfold f_res at hf
  obtain ⟨s, hs, hf⟩ := e_bd hf
  obtain ⟨hg, hf⟩ := e_gd hf
  have hin := e_vp hg
  have hlt := e_tn_lt hin
  refine r_aload_n F dX4_restore_0q rfl ?_
  refine r_get F dX4_restore_1q flX4_19 h56 rfl (e_le rfl) (e_lt hnx rfl) ?_
  refine r_iconst F dX4_restore_4q (v := 1) (by decide) ?_
  refine r_isub F dX4_restore_5q ?_
  refine r_bipush F dX4_restore_6q (v := 20) (by decide) ?_
  refine r_callS F dX4_restore_8q (dc := 0) (ds := 0) (As := [.int (a56_1 - 1), .int 20]) (S0 := []) lkX4_22 mJ9_floorMod_7cf53 (tJ9_floorMod_7cf53 hG (la := x_l X) (h := e_up h []) hnx hs) rfl rfl rfl (e_le rfl) (e_le rfl) (e_le rfl) (Nat.zero_le _) (Nat.zero_le _) (e_k ?_)
  refine r_wr0 ?_
  refine r_istore_n F dX4_restore_11q (e_le rfl) (L' := [some (.ref 56), some (.ref 40), some (.ref 54), some (.int s), none]) rfl ?_
  refine r_aload_n F dX4_restore_12q rfl ?_
  refine r_get F dX4_restore_13q flX4_11 h56 rfl (e_le rfl) (e_lt hnx rfl) ?_
  refine r_iload_n F dX4_restore_16q rfl ?_
  have no : ∀ L, some (false, a56_1, a56_2, A41, A55, a54_1) = some R9 → eRun G X 32 L [] h [] nx 0 0 := by
    intro L hf
    obtain rfl := Option.some.inj hf
    refine r_iconst F dX4_restore_32q (v := 0) (by decide) ?_
    refine r_mat (k := 41) h41 (l' := [(41, o41 A41)]) rfl ?_
    refine r_mat (k := 54) h54 (l' := [(41, o41 A41), (54, o54 a54_1)]) rfl ?_
    refine r_mat (k := 55) h55 (l' := [(41, o41 A41), (54, o54 a54_1), (55, o55 A55)]) rfl ?_
    refine r_mat (k := 56) h56 (l' := [(41, o41 A41), (54, o54 a54_1), (55, o55 A55), (56, o56 a56_1 a56_2)]) rfl ?_
    exact r_zret F hq (v := false) dX4_restore_33q rfl rfl (Nat.le_refl _) (Nat.le_refl _) ⟨rfl, rfl⟩
  cases hr : A57 (tn s) with
  | some q =>
    rw [hr] at hf
    obtain ⟨z1, z2, z3, z4, z5⟩ := hd9.1 _ hlt q hr
    refine r_aald F dX4_restore_17q h57 (e_le rfl) (e_lt hnx rfl) hin (v := .ref q) (by rw [hr]; rfl) ?_
    refine r_astore F dX4_restore_18q (e_le rfl) (L' := [some (.ref 56), some (.ref 40), some (.ref 54), some (.int s), some (.ref q)]) rfl ?_
    refine r_aload_n F dX4_restore_20q rfl ?_
    refine r_get F dX4_restore_21q flX4_15 h56 rfl (e_le rfl) (e_lt hnx rfl) ?_
    refine r_if_le F dX4_restore_24q (tgt := 32) (by decide) (fun hc => ?_) (fun hc => ?_)
    · exact no _ (e_t hc hf)
    · have hf := e_f hc hf
      obtain rfl := Option.some.inj hf
      refine r_aload F dX4_restore_27q rfl ?_
      refine r_ifnonnull F dX4_restore_29q (tgt := 34) (by decide) ?_
      refine r_aload F dX4_restore_34q rfl ?_
      refine r_aload_n F dX4_restore_36q rfl ?_
      refine r_aload_n F dX4_restore_37q rfl ?_
      refine r_callV F dX4_restore_38q (b := q) (dc := 0) (ds := 0) (As := [.ref 40, .ref 54]) (S0 := []) lkX4_36 mX8_give (t_give (la := x_l X) (h := e_up h []) z1 z2 h40 h41 h54 h55 z3 z4 z5) rfl rfl rfl (e_le rfl) (e_le rfl) (e_le rfl) z3 (ci := 8) e_cl8.1 rfl (by omega) (by omega) (Nat.zero_le _) (Nat.zero_le _) (e_k ?_)
      refine r_wr (l' := [(41, o41 (va_cpy (SS (tn s)).1 A41 (tn 0) (tn 0) (tn 324))), (54, o54 (SS (tn s)).2.2), (55, o55 (va_cpy (SS (tn s)).2.1 A55 (tn 0) (tn 0) (tn 160)))]) rfl rfl ?_
      refine r_aload_n F dX4_restore_41q rfl ?_
      refine r_iload_n F dX4_restore_42q rfl ?_
      refine r_put F dX4_restore_43q flX4_19 rfl rfl rfl h56 (e_le rfl) (e_le rfl) (e_lt hnx rfl) (l' := [(41, o41 (va_cpy (SS (tn s)).1 A41 (tn 0) (tn 0) (tn 324))), (54, o54 (SS (tn s)).2.2), (55, o55 (va_cpy (SS (tn s)).2.1 A55 (tn 0) (tn 0) (tn 160))), (56, o56 s a56_2)]) rfl ?_
      refine r_aload_n F dX4_restore_46q rfl ?_
      refine r_dup F dX4_restore_47q rfl ?_
      refine r_get F dX4_restore_48q flX4_15 rfl rfl (e_le rfl) (e_lt hnx rfl) ?_
      refine r_iconst F dX4_restore_51q (v := 1) (by decide) ?_
      refine r_isub F dX4_restore_52q ?_
      refine r_put F dX4_restore_53q flX4_15 rfl rfl rfl rfl (e_le rfl) (e_le rfl) (e_lt hnx rfl) (l' := [(41, o41 (va_cpy (SS (tn s)).1 A41 (tn 0) (tn 0) (tn 324))), (54, o54 (SS (tn s)).2.2), (55, o55 (va_cpy (SS (tn s)).2.1 A55 (tn 0) (tn 0) (tn 160))), (56, o56 s (a56_2 - 1))]) rfl ?_
      refine r_iconst F dX4_restore_56q (v := 1) (by decide) ?_
      exact r_zret F hq (v := true) dX4_restore_57q rfl rfl (Nat.le_refl _) (Nat.le_refl _) ⟨rfl, rfl⟩
  | none =>
    rw [hr] at hf
    refine r_aald F dX4_restore_17q h57 (e_le rfl) (e_lt hnx rfl) hin (v := .null) (by rw [hr]; rfl) ?_
    refine r_astoreN F dX4_restore_18q (e_le rfl) (L' := [some (.ref 56), some (.ref 40), some (.ref 54), some (.int s), some .null]) rfl ?_
    refine r_aload_n F dX4_restore_20q rfl ?_
    refine r_get F dX4_restore_21q flX4_15 h56 rfl (e_le rfl) (e_lt hnx rfl) ?_
    refine r_if_le F dX4_restore_24q (tgt := 32) (by decide) (fun hc => ?_) (fun hc => ?_)
    · exact no _ (e_t hc hf)
    · refine r_aloadN F dX4_restore_27q rfl ?_
      refine r_ifnonnullN F dX4_restore_29q ?_
      exact no _ (e_f hc hf)
