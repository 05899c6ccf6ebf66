/-! ===== the law's start ===== -/
theorem okSet0 : okSet (fun _ => 0) := by
  intro k hk
  rcases (show k = 0 ∨ k = 1 ∨ k = 2 ∨ k = 3 by omega) with rfl | rfl | rfl | rfl
  · show (sA0 0).toInt ≤ (0 : Int32).toInt ∧ (0 : Int32).toInt ≤ (sA1 0).toInt
    decide
  · show (sA0 1).toInt ≤ (0 : Int32).toInt ∧ (0 : Int32).toInt ≤ (sA1 1).toInt
    decide
  · show (sA0 2).toInt ≤ (0 : Int32).toInt ∧ (0 : Int32).toInt ≤ (sA1 2).toInt
    decide
  · show (sA0 3).toInt ≤ (0 : Int32).toInt ∧ (0 : Int32).toInt ≤ (sA1 3).toInt
    decide
theorem nowR0 {g rows pl ve f : Nat → Int32} (hf : ∀ k, 324 ≤ k → k < 486 → f k = 0) : nowR 0 0 0 g rows pl ve 0 0 f := by
  have hl : (coreL f 0 0).length = 0 := coreL_0 rfl
  refine ⟨⟨fun x y r p hr hp hx hy => by omega, ⟨by omega, Nat.zero_le _, Nat.zero_le _⟩, 0, Nat.le_refl _, log_0 hf⟩, ?_, fun i hi => by omega⟩
  rw [hl]; rfl
theorem REL0 : REL 0 (fun _ _ => 0) (fun _ _ => false) (fun _ _ => 0) (fun _ => none) (fun _ => (fun _ => 0, fun _ => 0, 0)) 1 (fun _ _ => 0) (fun _ _ => false) (fun _ _ => 0) := by
  refine ⟨0, 0, 0, by omega, by omega, Or.inl rfl, ⟨rfl, rfl, rfl, rfl⟩, ⟨rfl, rfl, ⟨by omega, fun k hk => by omega⟩⟩, nowR0 (fun _ _ _ => rfl), ⟨0, 0, by omega, by omega, rfl, rfl, rfl, fun i hi => by omega⟩, ⟨rfl, fun q => absurd q Bool.false_ne_true⟩, ⟨rfl, fun q => absurd q Bool.false_ne_true⟩, fun _ _ => rfl, ⟨rfl, okSet0⟩, by omega⟩
set_option maxRecDepth 100000 in
theorem law_start {G : eG} {X : eX} {h0 : Nat → eO} (F : eFx G ML_law X) (hcc : 67 ≤ (x_R X).cells) (hss : 22851 ≤ (x_R X).slots)
    (loop : ∀ (h : Nat → eO) (nx c sl : Nat) (v5 v6 : Option Value), LwS 0 h nx → (∃ f, h 98 = o98 f) → c ≤ 67 → sl ≤ 22851 → eRun G X 23 (LL (nI (6 * 0)) v5 v6) [] h [] nx c sl) : eRun G X 0 [some (.ref 5), none, none, none, none, none, none] [] h0 [] 32 0 0 := by
  have b1 : (e_cT 11).2.2 = 15 := rfl
  have b2 : (e_cT 12).2.2 = 51 := rfl
  refine r_new F dL_law_0 (ci := 11) (fs := [.null, .null, .null, .null, .null, .null, .null, .null, .int 0, .null, .int 0, .null, .null, .null, .null]) e_cl11 kkL_8 k_in11 k_nn11 k_df11 (by omega) (by rw [b1]; omega) (l' := [(32, .inr (11, [.null, .null, .null, .null, .null, .null, .null, .null, .int 0, .null, .int 0, .null, .null, .null, .null]))]) rfl ?_
  refine r_dup F dL_law_3 rfl ?_
  refine r_callI F dL_law_4 (b := 32) (dc := 39) (ds := 2167) (As := []) (S0 := [.ref 32]) lkL_15 mX11_init (iX11_init_32 (la := x_l X) (h := e_up h0 [(32, .inr (11, [.null, .null, .null, .null, .null, .null, .null, .null, .int 0, .null, .int 0, .null, .null, .null, .null]))]) rfl) rfl rfl rfl (e_le rfl) (e_le rfl) (e_le rfl) (by omega) (by rw [b1]; omega) ?_
  rintro r h1 ⟨rfl, eh1⟩
  refine r_astore_n F dL_law_7 (e_le rfl) (L' := [some (.ref 5), some (.ref 32), none, none, none, none, none]) rfl ?_
  refine r_new F dL_law_8 (ci := 12) (fs := [.int 0, .null, .int 0, .int 0, .int 0, .int 0, .int 0, .int 0, .int 0, .int 0, .int 0, .int 0, .null, .null, .null, .null, .null, .int 0, .int 0, .int 0, .null, .int 0, .int 0, .null, .null, .null, .null, .null, .null, .int 0, .null, .int 0, .null, .null, .null, .int 0, .null, .int 0, .int 0, .int 0, .int 0, .long 0, .null, .null, .int 0, .null, .null, .null, .null, .null, .int 0]) e_cl12 kkL_16 k_in12 k_nn12 k_df12 (by omega) (by rw [b1, b2]; omega) (l' := [(72, .inr (12, [.int 0, .null, .int 0, .int 0, .int 0, .int 0, .int 0, .int 0, .int 0, .int 0, .int 0, .int 0, .null, .null, .null, .null, .null, .int 0, .int 0, .int 0, .null, .int 0, .int 0, .null, .null, .null, .null, .null, .null, .int 0, .null, .int 0, .null, .null, .null, .int 0, .null, .int 0, .int 0, .int 0, .int 0, .long 0, .null, .null, .int 0, .null, .null, .null, .null, .null, .int 0]))]) rfl ?_
  refine r_dup F dL_law_11 rfl ?_
  refine r_callI F dL_law_12 (b := 72) (dc := 25) (ds := 20617) (As := []) (S0 := [.ref 72]) lkL_18 mX12_init (iX12_init_72 (la := x_l X) (h := e_up h1 [(72, .inr (12, [.int 0, .null, .int 0, .int 0, .int 0, .int 0, .int 0, .int 0, .int 0, .int 0, .int 0, .int 0, .null, .null, .null, .null, .null, .int 0, .int 0, .int 0, .null, .int 0, .int 0, .null, .null, .null, .null, .null, .null, .int 0, .null, .int 0, .null, .null, .null, .int 0, .null, .int 0, .int 0, .int 0, .int 0, .long 0, .null, .null, .int 0, .null, .null, .null, .null, .null, .int 0]))]) rfl) rfl rfl rfl (e_le rfl) (e_le rfl) (e_le rfl) (by omega) (by rw [b1, b2]; omega) ?_
  rintro r2 h2 ⟨rfl, eh2⟩
  refine r_astore_n F dL_law_15 (e_le rfl) (L' := [some (.ref 5), some (.ref 32), some (.ref 72), none, none, none, none]) rfl ?_
  refine r_iconst F dL_law_16 (v := 1) (by decide) ?_
  refine r_newa F dL_law_17 (at9 := .long) (N := 1) (x := (1, .inr (.inl (fun _ => 0)))) (t0 := 2) k_along rfl (fun _ _ => rfl) (by decide) (by decide) (by decide) (fun cA => by rw [e_fa, vp_cell_l]; rfl) (by omega) (by rw [b1, b2]; omega) (l' := [(98, .inl (.long, 1, .inr (.inl (fun _ => 0))))]) rfl ?_
  refine r_astore_n F dL_law_19 (e_le rfl) (L' := [some (.ref 5), some (.ref 32), some (.ref 72), some (.ref 98), none, none, none]) rfl ?_
  refine r_iconst F dL_law_20 (v := 0) (by decide) ?_
  refine r_istore F dL_law_21 (e_le rfl) (L' := LL (nI (6 * 0)) none none) rfl ?_
  have hC : HC (fun _ _ => 0) (fun _ _ => false) (fun _ _ => 0) (fun _ => none) (fun _ => (fun _ => 0, fun _ => 0, 0)) 71 1 (fun _ => 0) (e_up h2 [(98, .inl (.long, 1, .inr (.inl (fun _ => 0))))]) 99 := by
    subst eh2 eh1
    exact ⟨Nat.le_refl _, rfl, rfl, rfl, rfl, rfl, rfl, rfl, rfl, rfl, rfl, rfl, rfl, rfl, rfl, rfl, rfl, rfl, rfl, rfl, rfl, rfl, rfl, rfl, rfl, rfl, rfl, rfl, rfl, rfl, rfl, rfl, rfl, rfl, rfl, rfl, rfl, rfl, rfl, rfl, ⟨fun j hj q hq => (by cases hq), fun i j hi hj hij p q hp => (by cases hp), Or.inl rfl, by decide, rfl⟩⟩
  have hR : HR (fun _ _ => 0) (fun _ _ => false) (fun _ _ => 0) 0 (e_up h2 [(98, .inl (.long, 1, .inr (.inl (fun _ => 0))))]) := by
    subst eh2 eh1
    exact ⟨rfl, rfl, rfl, rfl, rfl, rfl, rfl, rfl, rfl, rfl, rfl, rfl, rfl, rfl, rfl, rfl, rfl, rfl, rfl, rfl, rfl, rfl, rfl, rfl, rfl, rfl⟩
  refine r_pic2 (h' := e_up h2 [(98, .inl (.long, 1, .inr (.inl (fun _ => 0))))]) (l' := []) rfl ?_
  exact loop _ 99 _ _ none none ⟨_, _, _, _, _, 71, 1, _, _, _, _, 0, hC, hR, REL0⟩ ⟨fun _ => 0, rfl⟩ (by omega) (by rw [b1, b2]; omega)
