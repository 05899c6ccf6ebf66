/-! ===== the engine's picture of the start ===== -/
theorem kn_ex {args : Array Value} {s : State} (hts : ∀ w ∈ e_tb, w.before args s = true) : ∃ (dC : Nat → ClassId) (dI : Nat → Nat → Nat), ∀ (c : Nat) (q : vw_C), vwCl[c]? = some q → u_Kn s q.1 q.2.1 q.2.2 (dC c) (dI c) := by
  have one : ∀ (ci : Nat) (N : Nat), e_clP ci → Cond.instantiable (e_cT ci).1 N ∈ e_tb → ∃ p : ClassId × (Nat → Nat), ∀ q : vw_C, vwCl[ci]? = some q → u_Kn s q.1 q.2.1 q.2.2 p.1 p.2 := by
    intro ci N h1 h2
    obtain ⟨cC, iS, hK⟩ := u_known (C := (e_cT ci).1) (T := (e_cT ci).2.1) (N := (e_cT ci).2.2) (n := N) hts h1.2.1 (hts _ h2)
    refine ⟨(cC, iS), fun q hq => ?_⟩
    rw [h1.1] at hq
    cases hq
    exact hK
  have h0 : ∀ c : Nat, ∃ p : ClassId × (Nat → Nat), ∀ q : vw_C, vwCl[c]? = some q → u_Kn s q.1 q.2.1 q.2.2 p.1 p.2 := by
    intro c
    match c with
    | 0 => exact one 0 3 e_cl0 k_in0
    | 1 => exact one 1 3 e_cl1 k_in1
    | 2 => exact one 2 4 e_cl2 k_in2
    | 3 => exact one 3 2 e_cl3 k_in3
    | 4 => exact one 4 3 e_cl4 k_in4
    | 5 => exact one 5 13 e_cl5 k_in5
    | 6 => exact one 6 7 e_cl6 k_in6
    | 7 => exact one 7 3 e_cl7 k_in7
    | 8 => exact one 8 3 e_cl8 k_in8
    | 9 => exact one 9 2 e_cl9 k_in9
    | 10 => exact one 10 1 e_cl10 k_in10
    | 11 => exact one 11 15 e_cl11 k_in11
    | 12 => exact one 12 51 e_cl12 k_in12
    | k + 13 => exact ⟨(0, fun _ => 0), fun q hq => by cases hq⟩
  obtain ⟨ad, had⟩ := Classical.axiomOfChoice h0
  exact ⟨fun c => (ad c).1, fun c => (ad c).2, had⟩
theorem e_start {s : State} {b L : Nat} {xs : Nat → Int32} (hts : ∀ w ∈ lw_tbl, w.before #[Value.ref b] s = true) (hX : va_X b L xs s s.heap) (hbl : b < s.heap.size) (hgv : (Jvm.Cond.and given_1 narrow_1).before #[Value.ref b] s = true) :
    ∃ G : eG, e_S0 G = s.heap.size ∧ e_ad G 5 = b ∧ e_GS G ∧ e_stat G 5 = some (.int, L, xs) ∧ va_K (e_D G) vwCl (e_ty G) s ∧ e_Z G s s.heap ∧ e_TU G #[Value.ref b] s s.heap := by
  have hA : ∀ a : Nat, a < s.heap.size → ¬ (fun q : Nat => s.heap.size ≤ q) a := fun a h => Nat.not_le.mpr h
  have htt : ∀ w ∈ tables_1, w.before #[Value.ref b] s = true := fun w hw => hts w (List.mem_append_right _ hw)
  have hte : ∀ w ∈ e_tb, w.before #[Value.ref b] s = true := fun w hw => hts w (List.mem_filter.mp hw).1
  have hs : ∀ w ∈ lw_F, w.before #[Value.ref b] s = true := flat_of_before _ hgv
  have hin : ∀ C ∈ ["SlipLattice", "java/lang/String", "jdk/internal/util/Preconditions", "java/lang/Throwable"], (Cond.initialized C).before #[Value.ref b] s = true := fun C hC => htt _ (in_w C hC)
  have i0 := hin "SlipLattice" (by simp)
  have i1 := hin "java/lang/String" (by simp)
  have i2 := hin "jdk/internal/util/Preconditions" (by simp)
  have i3 := hin "java/lang/Throwable" (by simp)
  obtain ⟨a0, z0, t0⟩ := st_arr st_ok0 hs htt i0 hA
  obtain ⟨a1, z1, t1⟩ := st_arr st_ok1 hs htt i0 hA
  obtain ⟨a2, z2, t2⟩ := st_arr st_ok2 hs htt i0 hA
  obtain ⟨a3, z3, t3⟩ := st_arr st_ok3 hs htt i0 hA
  obtain ⟨a4, z4, t4⟩ := st_arr st_ok4 hs htt i0 hA
  have z5 := va_Zof (htt _ ls_w.1) i1 (va_eqt (hs _ lf_w.1)) hA
  obtain ⟨a6, w6, hw6, z6⟩ : ∃ (a6 : Nat) (w6 : Value), (w6 = .null ∨ w6 = .ref a6) ∧ va_Z "jdk/internal/util/Preconditions" "SIOOBE_FORMATTER" "Ljava/util/function/BiFunction;" w6 (fun q : Nat => s.heap.size ≤ q) s s.heap := by
    rcases va_Zqof (htt _ ls_w.2.1) i2 (hs _ lf_w.2.1) hA with h | ⟨t, h⟩
    · exact ⟨0, .null, Or.inl rfl, h⟩
    · exact ⟨t, .ref t, Or.inr rfl, h⟩
  obtain ⟨K, V, ⟨hS, -⟩, hK⟩ := sk_of hs hA
  obtain ⟨dC, dI, hKn⟩ := kn_ex hte
  obtain ⟨c1, y1⟩ := arr_of (ty := .int) (fun _ _ => rfl) (htt _ ac_w.1)
  obtain ⟨c2, y2⟩ := arr_of (ty := .boolean) (fun _ _ => rfl) (htt _ ac_w.2.1)
  obtain ⟨c3, y3⟩ := arr_of (ty := .long) (fun _ _ => rfl) (htt _ ac_w.2.2)
  obtain ⟨c4, y4⟩ := arr_ov (htt _ ao_w)
  let cA : FieldType → ClassId := fun ty => match ty with
    | .int => c1
    | .boolean => c2
    | .long => c3
    | _ => c4
  let ad : Nat → Nat := fun k => [a0, a1, a2, a3, a4, b, a6, 0, K 0, K 1, K 2, K 3, K 4, 0, 0, 0, V 0, V 1, V 2, V 3, V 4].getD k 0
  let st : Nat → Option (FieldType × Nat × (Nat → Int32)) := fun k => [some (.int, 4, sA0), some (.int, 4, sA1), some (.int, 4, sA2), some (.int, 4, sA3), some (.int, 4, sA4), some (.int, L, xs), none, none, none, none, none, none, none, none, none, none, some (.byte, 4, sB0), some (.byte, 4, sB1), some (.byte, 6, sB2), some (.byte, 4, sB3), some (.byte, 4, sB4)].getD k none
  refine ⟨(dC, dI, cA, s.heap.size, ad, st), rfl, rfl, ⟨rfl, rfl, rfl, rfl, rfl, rfl, rfl, rfl, rfl, rfl⟩, rfl, ⟨hKn, ?_⟩, ⟨?_, ⟨?_, ?_⟩, ?_, ?_, ?_, ?_, ?_⟩, ?_⟩
  · intro k q hq
    match k with
    | 0 => cases hq; exact y1
    | 1 => cases hq; exact y2
    | 2 => cases hq; exact y3
    | 3 => cases hq; exact y4
    | k + 4 => cases hq
  · intro k ty n f hk
    match k with
    | 0 => cases hk; exact t0
    | 1 => cases hk; exact t1
    | 2 => cases hk; exact t2
    | 3 => cases hk; exact t3
    | 4 => cases hk; exact t4
    | 5 => cases hk; exact script_T hX (hA _ hbl)
    | 6 => cases hk
    | 7 => cases hk
    | 8 => cases hk
    | 9 => cases hk
    | 10 => cases hk
    | 11 => cases hk
    | 12 => cases hk
    | 13 => cases hk
    | 14 => cases hk
    | 15 => cases hk
    | 16 => cases hk; exact (hS 0 (by decide)).2.2.2.cg (fun j hj => rfl)
    | 17 => cases hk; exact (hS 1 (by decide)).2.2.2.cg (fun j hj => rfl)
    | 18 => cases hk; exact (hS 2 (by decide)).2.2.2.cg (fun j hj => rfl)
    | 19 => cases hk; exact (hS 3 (by decide)).2.2.2.cg (fun j hj => rfl)
    | 20 => cases hk; exact (hS 4 (by decide)).2.2.2.cg (fun j hj => rfl)
    | k + 21 => cases hk
  · intro q hq
    simp only [e_sf, List.mem_cons, List.not_mem_nil, or_false] at hq
    rcases hq with rfl | rfl | rfl | rfl | rfl | rfl
    · exact z0
    · exact z1
    · exact z2
    · exact z3
    · exact z4
    · exact z5
  · rcases hw6 with rfl | rfl
    · exact ⟨.null, Or.inl rfl, z6⟩
    · exact ⟨.ref 6, Or.inr rfl, z6⟩
  · intro i hi
    have h := hS i hi
    match i, hi with
    | 0, _ => exact ⟨h.1, h.2.1, h.2.2.1⟩
    | 1, _ => exact ⟨h.1, h.2.1, h.2.2.1⟩
    | 2, _ => exact ⟨h.1, h.2.1, h.2.2.1⟩
    | 3, _ => exact ⟨h.1, h.2.1, h.2.2.1⟩
    | 4, _ => exact ⟨h.1, h.2.1, h.2.2.1⟩
    | k + 5, hi => omega
  · rintro ⟨own, idx, tx, a⟩ hq
    obtain ⟨i, hi, e1, e2, e3⟩ := sm_4 _ hq
    simp only at e1 e2 e3
    subst e1 e2
    have hd : e_ad ((dC, dI, cA, s.heap.size, ad, st) : eG) (8 + i) = K i := by
      match i, hi with
      | 0, _ => rfl
      | 1, _ => rfl
      | 2, _ => rfl
      | 3, _ => rfl
      | 4, _ => rfl
      | k + 5, hi => omega
    show vk_R own idx (sk_x.getD i "") (e_ad ((dC, dI, cA, s.heap.size, ad, st) : eG) (8 + i)) s
    rw [hd]
    rcases e3 with ⟨rfl, rfl⟩ | ⟨rfl, rfl⟩
    · exact vk_R.of (htt _ (sm_2 i hi)) (hK i hi)
    · exact vk_R.of (htt _ (sm_3 i hi)) (va_eqR (hs _ (sm_1 i hi)) (hK i hi))
  · exact fun q hq => va_Nw.of rfl (htt _ (nf_w q hq))
  · exact fun q hq => va_Nw.of rfl (htt _ (nm_w q hq))
  · exact va_AO.of (htt _ ao_w)
  · exact ⟨fun w hw => htt _ (thr_w w hw), vx_Zqof (htt _ ls_w.2.2.1) i3 (hs _ lf_w.2.2.1) hA, vx_Zqof (htt _ ls_w.2.2.2) i3 (hs _ lf_w.2.2.2) hA⟩
