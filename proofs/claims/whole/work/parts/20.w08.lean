def fX12_ahead (a72_0 : Int32) (a72_21 : Int32) (a72_22 : Int32) (a72_29 : Int32) (a72_38 : Int32) (a72_39 : Int32) (a72_40 : Int32) (A79 : Nat → Int32) (A80 : Nat → Int32) (A81 : Nat → Int32) (A82 : Nat → Int32) (A83 : Nat → Int32) (A84 : Nat → Int32) (A85 : Nat → Int32) (A96 : Nat → Int32) (p0 : Int32) (p1 : Int32) : Option (Int32 × Int32 × Int32 × Int32 × Int32 × Int32 × (Nat → Int32) × (Nat → Int32) × (Nat → Int32) × (Nat → Int32) × (Nat → Int32) × (Nat → Int32) × (Nat → Int32)) :=
  (fX12_isCrystal a72_21).bind (fun q1 =>
  if q1 = true then
    (fX12_in (Int32.toInt64 p0) 0 40).bind (fun q3 =>
    if q3 = true then
      (fX12_in (Int32.toInt64 p1) 0 5).bind (fun q5 =>
      if q5 = true then
        (fX12_putAside A79 A96).bind (fun q7 =>
        (fX12_counts a72_38 a72_39 a72_40).bind (fun q9 =>
        (e_loop (fun (v13 : Int32 × Int32 × Int32 × Int32 × Int32 × (Nat → Int32) × (Nat → Int32) × (Nat → Int32) × (Nat → Int32) × (Nat → Int32) × (Nat → Int32)) => (
            if p0 ≤ v13.1 then
              some (.inr (v13.2.1, v13.2.2.1, v13.2.2.2.1, v13.2.2.2.2.1, v13.2.2.2.2.2.1, v13.2.2.2.2.2.2.1, v13.2.2.2.2.2.2.2.1, v13.2.2.2.2.2.2.2.2.1, v13.2.2.2.2.2.2.2.2.2.1, v13.2.2.2.2.2.2.2.2.2.2))
            else
              (fX12_round a72_21 a72_22 v13.2.1 v13.2.2.1 v13.2.2.2.1 v13.2.2.2.2.1 v13.2.2.2.2.2.1 A80 v13.2.2.2.2.2.2.1 v13.2.2.2.2.2.2.2.1 v13.2.2.2.2.2.2.2.2.1 v13.2.2.2.2.2.2.2.2.2.1 v13.2.2.2.2.2.2.2.2.2.2).bind (fun q16 =>
              some (.inl (v13.1 + 1, q16.1, q16.2.1, q16.2.2.1, q16.2.2.2.1, q16.2.2.2.2.1, q16.2.2.2.2.2.1, q16.2.2.2.2.2.2.1, q16.2.2.2.2.2.2.2.1, q16.2.2.2.2.2.2.2.2.1, q16.2.2.2.2.2.2.2.2.2))) : Option ((Int32 × Int32 × Int32 × Int32 × Int32 × (Nat → Int32) × (Nat → Int32) × (Nat → Int32) × (Nat → Int32) × (Nat → Int32) × (Nat → Int32)) ⊕ (Int32 × Int32 × Int32 × Int32 × (Nat → Int32) × (Nat → Int32) × (Nat → Int32) × (Nat → Int32) × (Nat → Int32) × (Nat → Int32))))) e_fuel (0, a72_29, q9.1, q9.2.1, q9.2.2, A79, A81, A82, A83, A84, A85)).bind (fun x14 =>
        (fX12_aheadBy a72_21 a72_22 x14.1 x14.2.1 x14.2.2.1 x14.2.2.2.1 x14.2.2.2.2.1 A80 x14.2.2.2.2.2.1 x14.2.2.2.2.2.2.1 x14.2.2.2.2.2.2.2.1 x14.2.2.2.2.2.2.2.2.1 x14.2.2.2.2.2.2.2.2.2 p1).bind (fun q18 =>
        (fX12_takeBack x14.2.2.2.2.1 q7).bind (fun q20 =>
        some (q18.1, 0, q18.2.1, x14.2.1, x14.2.2.1, x14.2.2.2.1, q20, q18.2.2.1, q18.2.2.2.1, q18.2.2.2.2.1, q18.2.2.2.2.2.1, q18.2.2.2.2.2.2, q7))))))
      else
        some ((-1000000), 0, a72_29, a72_38, a72_39, a72_40, A79, A81, A82, A83, A84, A85, A96))
    else
      some ((-1000000), 0, a72_29, a72_38, a72_39, a72_40, A79, A81, A82, A83, A84, A85, A96))
  else
    some ((-1000000), 0, a72_29, a72_38, a72_39, a72_40, A79, A81, A82, A83, A84, A85, A96))
set_option maxRecDepth 100000 in
theorem tX12_ahead_72 {G : eG} (hG : e_GS G) {la : Launch} {h : Nat → eO} {nx : Nat} (hnx : 99 ≤ nx) {a72_0 : Int32} {a72_2 : Int32} {a72_3 : Int32} {a72_4 : Int32} {a72_5 : Int32} {a72_6 : Int32} {a72_7 : Int32} {a72_8 : Bool} {a72_9 : Int32} {a72_10 : Int32} {a72_11 : Int32} {a72_17 : Bool} {a72_18 : Bool} {a72_19 : Bool} {a72_21 : Int32} {a72_22 : Int32} {a72_29 : Int32} {a72_31 : Int32} {a72_35 : Int32} {a72_37 : Bool} {a72_38 : Int32} {a72_39 : Int32} {a72_40 : Int32} {a72_41 : Int64} {a72_44 : Int32} {a72_50 : Bool} {A79 : Nat → Int32} {A80 : Nat → Int32} {A81 : Nat → Int32} {A82 : Nat → Int32} {A83 : Nat → Int32} {A84 : Nat → Int32} {A85 : Nat → Int32} {A96 : Nat → Int32} {p0 : Int32} {p1 : Int32} (h72 : h 72 = o72 a72_0 a72_2 a72_3 a72_4 a72_5 a72_6 a72_7 a72_8 a72_9 a72_10 a72_11 a72_17 a72_18 a72_19 a72_21 a72_22 a72_29 a72_31 a72_35 a72_37 a72_38 a72_39 a72_40 a72_41 a72_44 a72_50) (h79 : h 79 = o79 A79) (h80 : h 80 = o80 A80) (h81 : h 81 = o81 A81) (h82 : h 82 = o82 A82) (h83 : h 83 = o83 A83) (h84 : h 84 = o84 A84) (h85 : h 85 = o85 A85) (h96 : h 96 = o96 A96) {R9 : Int32 × Int32 × Int32 × Int32 × Int32 × Int32 × (Nat → Int32) × (Nat → Int32) × (Nat → Int32) × (Nat → Int32) × (Nat → Int32) × (Nat → Int32) × (Nat → Int32)} (hf : fX12_ahead a72_0 a72_21 a72_22 a72_29 a72_38 a72_39 a72_40 A79 A80 A81 A82 A83 A84 A85 A96 p0 p1 = some R9) :
    eSem G la MX12_ahead [.ref 72, .int p0, .int p1] h nx 0 0 (fun r9 h9 => r9 = some (.int R9.1) ∧ h9 = e_up h [(72, o72 R9.2.1 a72_2 a72_3 a72_4 a72_5 a72_6 a72_7 a72_8 a72_9 a72_10 a72_11 a72_17 a72_18 a72_19 a72_21 a72_22 R9.2.2.1 a72_31 a72_35 a72_37 R9.2.2.2.1 R9.2.2.2.2.1 R9.2.2.2.2.2.1 a72_41 a72_44 a72_50), (79, o79 R9.2.2.2.2.2.2.1), (81, o81 R9.2.2.2.2.2.2.2.1), (82, o82 R9.2.2.2.2.2.2.2.2.1), (83, o83 R9.2.2.2.2.2.2.2.2.2.1), (84, o84 R9.2.2.2.2.2.2.2.2.2.2.1), (85, o85 R9.2.2.2.2.2.2.2.2.2.2.2.1), (96, o96 R9.2.2.2.2.2.2.2.2.2.2.2.2)]) := by
  refine eSem.of (k := 1) (L := [some (.ref 72), some (.int p0), some (.int p1), none]) (by decide +kernel) rfl rfl (fun X F hxl hq hcR hsR => ?_)
  subst hxl
  unfold fX12_ahead at hf
  refine r_aload_n F dX12_ahead_0 rfl ?_
  refine r_iconst F dX12_ahead_1 (v := 0) (by decide) ?_
  refine r_put F dX12_ahead_2 flX12_86 rfl rfl rfl h72 (e_le rfl) (e_le rfl) (e_lt hnx rfl) (l' := [(72, o72 0 a72_2 a72_3 a72_4 a72_5 a72_6 a72_7 a72_8 a72_9 a72_10 a72_11 a72_17 a72_18 a72_19 a72_21 a72_22 a72_29 a72_31 a72_35 a72_37 a72_38 a72_39 a72_40 a72_41 a72_44 a72_50)]) rfl ?_
  refine r_aload_n F dX12_ahead_5 rfl ?_
  obtain ⟨q1, hq2, hf⟩ := e_bd hf
  refine r_callV F dX12_ahead_6 (b := 72) (dc := 0) (ds := 0) (As := []) (S0 := []) lkX12_306 mX12_isCrystal (tX12_isCrystal_72 hG (la := x_l X) (h := e_up h [(72, o72 0 a72_2 a72_3 a72_4 a72_5 a72_6 a72_7 a72_8 a72_9 a72_10 a72_11 a72_17 a72_18 a72_19 a72_21 a72_22 a72_29 a72_31 a72_35 a72_37 a72_38 a72_39 a72_40 a72_41 a72_44 a72_50)]) hnx rfl hq2) rfl rfl rfl (e_le rfl) (e_le rfl) (e_le rfl) rfl (ci := 12) e_cl12.1 rfl (e_le rfl) (e_lt hnx rfl) (Nat.zero_le _) (Nat.zero_le _) (e_k ?_)
  refine r_wr0 ?_
  refine r_z_eq F dX12_ahead_9 (tgt := 36) (by decide) (fun hc => ?_) (fun hc => ?_)
  · have hf := e_t hc hf
    refine r_iload_n F dX12_ahead_12 rfl ?_
    refine r_i2l F dX12_ahead_13 ?_
    refine r_lconst F dX12_ahead_14 (v := 0) (by decide) ?_
    refine r_ldc2 F dX12_ahead_15 klX12_385 ?_
    obtain ⟨q3, hq4, hf⟩ := e_bd hf
    refine r_callS F dX12_ahead_18 (dc := 0) (ds := 0) (As := [.long (Int32.toInt64 p0), .long 0, .long 40]) (S0 := []) lkX12_97 mX12_in (tX12_in hG (la := x_l X) (h := e_up h [(72, o72 0 a72_2 a72_3 a72_4 a72_5 a72_6 a72_7 a72_8 a72_9 a72_10 a72_11 a72_17 a72_18 a72_19 a72_21 a72_22 a72_29 a72_31 a72_35 a72_37 a72_38 a72_39 a72_40 a72_41 a72_44 a72_50)]) hnx  hq4) rfl rfl rfl (e_le rfl) (e_le rfl) (e_le rfl) (Nat.zero_le _) (Nat.zero_le _) (e_k ?_)
    refine r_wr0 ?_
    refine r_z_eq F dX12_ahead_21 (tgt := 36) (by decide) (fun hc => ?_) (fun hc => ?_)
    · have hf := e_t hc hf
      refine r_iload_n F dX12_ahead_24 rfl ?_
      refine r_i2l F dX12_ahead_25 ?_
      refine r_lconst F dX12_ahead_26 (v := 0) (by decide) ?_
      refine r_ldc2 F dX12_ahead_27 klX12_327 ?_
      obtain ⟨q5, hq6, hf⟩ := e_bd hf
      refine r_callS F dX12_ahead_30 (dc := 0) (ds := 0) (As := [.long (Int32.toInt64 p1), .long 0, .long 5]) (S0 := []) lkX12_97 mX12_in (tX12_in hG (la := x_l X) (h := e_up h [(72, o72 0 a72_2 a72_3 a72_4 a72_5 a72_6 a72_7 a72_8 a72_9 a72_10 a72_11 a72_17 a72_18 a72_19 a72_21 a72_22 a72_29 a72_31 a72_35 a72_37 a72_38 a72_39 a72_40 a72_41 a72_44 a72_50)]) hnx  hq6) rfl rfl rfl (e_le rfl) (e_le rfl) (e_le rfl) (Nat.zero_le _) (Nat.zero_le _) (e_k ?_)
      refine r_wr0 ?_
      refine r_z_ne F dX12_ahead_33 (tgt := 40) (by decide) (fun hc => ?_) (fun hc => ?_)
      · have hf := e_t hc hf
        refine r_aload_n F dX12_ahead_40 rfl ?_
        obtain ⟨q7, hq8, hf⟩ := e_bd hf
        refine r_callV F dX12_ahead_41 (b := 72) (dc := 0) (ds := 0) (As := []) (S0 := []) lkX12_455 mX12_putAside (tX12_putAside_72 hG (la := x_l X) (h := e_up h [(72, o72 0 a72_2 a72_3 a72_4 a72_5 a72_6 a72_7 a72_8 a72_9 a72_10 a72_11 a72_17 a72_18 a72_19 a72_21 a72_22 a72_29 a72_31 a72_35 a72_37 a72_38 a72_39 a72_40 a72_41 a72_44 a72_50)]) hnx rfl h79 h96 hq8) rfl rfl rfl (e_le rfl) (e_le rfl) (e_le rfl) rfl (ci := 12) e_cl12.1 rfl (e_le rfl) (e_lt hnx rfl) (Nat.zero_le _) (Nat.zero_le _) (e_k ?_)
        refine r_wr (l' := [(72, o72 0 a72_2 a72_3 a72_4 a72_5 a72_6 a72_7 a72_8 a72_9 a72_10 a72_11 a72_17 a72_18 a72_19 a72_21 a72_22 a72_29 a72_31 a72_35 a72_37 a72_38 a72_39 a72_40 a72_41 a72_44 a72_50), (96, o96 q7)]) rfl rfl ?_
        refine r_aload_n F dX12_ahead_44 rfl ?_
        obtain ⟨q9, hq10, hf⟩ := e_bd hf
        refine r_callV F dX12_ahead_45 (b := 72) (dc := 0) (ds := 0) (As := []) (S0 := []) lkX12_387 mX12_counts (tX12_counts_72 hG (la := x_l X) (h := e_up h [(72, o72 0 a72_2 a72_3 a72_4 a72_5 a72_6 a72_7 a72_8 a72_9 a72_10 a72_11 a72_17 a72_18 a72_19 a72_21 a72_22 a72_29 a72_31 a72_35 a72_37 a72_38 a72_39 a72_40 a72_41 a72_44 a72_50), (96, o96 q7)]) hnx rfl hq10) rfl rfl rfl (e_le rfl) (e_le rfl) (e_le rfl) rfl (ci := 12) e_cl12.1 rfl (e_le rfl) (e_lt hnx rfl) (Nat.zero_le _) (Nat.zero_le _) (e_k ?_)
        refine r_wr (l' := [(72, o72 0 a72_2 a72_3 a72_4 a72_5 a72_6 a72_7 a72_8 a72_9 a72_10 a72_11 a72_17 a72_18 a72_19 a72_21 a72_22 a72_29 a72_31 a72_35 a72_37 q9.1 q9.2.1 q9.2.2 a72_41 a72_44 a72_50), (96, o96 q7)]) rfl rfl ?_
        refine r_iconst F dX12_ahead_48 (v := 0) (by decide) ?_
        refine r_istore_n F dX12_ahead_49 (e_le rfl) (L' := [some (.ref 72), some (.int p0), some (.int p1), some (.int 0)]) rfl ?_
        refine r_mat (k := 79) h79 (l' := [(72, o72 0 a72_2 a72_3 a72_4 a72_5 a72_6 a72_7 a72_8 a72_9 a72_10 a72_11 a72_17 a72_18 a72_19 a72_21 a72_22 a72_29 a72_31 a72_35 a72_37 q9.1 q9.2.1 q9.2.2 a72_41 a72_44 a72_50), (79, o79 A79), (96, o96 q7)]) rfl ?_
        refine r_mat (k := 81) h81 (l' := [(72, o72 0 a72_2 a72_3 a72_4 a72_5 a72_6 a72_7 a72_8 a72_9 a72_10 a72_11 a72_17 a72_18 a72_19 a72_21 a72_22 a72_29 a72_31 a72_35 a72_37 q9.1 q9.2.1 q9.2.2 a72_41 a72_44 a72_50), (79, o79 A79), (81, o81 A81), (96, o96 q7)]) rfl ?_
        refine r_mat (k := 82) h82 (l' := [(72, o72 0 a72_2 a72_3 a72_4 a72_5 a72_6 a72_7 a72_8 a72_9 a72_10 a72_11 a72_17 a72_18 a72_19 a72_21 a72_22 a72_29 a72_31 a72_35 a72_37 q9.1 q9.2.1 q9.2.2 a72_41 a72_44 a72_50), (79, o79 A79), (81, o81 A81), (82, o82 A82), (96, o96 q7)]) rfl ?_
        refine r_mat (k := 83) h83 (l' := [(72, o72 0 a72_2 a72_3 a72_4 a72_5 a72_6 a72_7 a72_8 a72_9 a72_10 a72_11 a72_17 a72_18 a72_19 a72_21 a72_22 a72_29 a72_31 a72_35 a72_37 q9.1 q9.2.1 q9.2.2 a72_41 a72_44 a72_50), (79, o79 A79), (81, o81 A81), (82, o82 A82), (83, o83 A83), (96, o96 q7)]) rfl ?_
        refine r_mat (k := 84) h84 (l' := [(72, o72 0 a72_2 a72_3 a72_4 a72_5 a72_6 a72_7 a72_8 a72_9 a72_10 a72_11 a72_17 a72_18 a72_19 a72_21 a72_22 a72_29 a72_31 a72_35 a72_37 q9.1 q9.2.1 q9.2.2 a72_41 a72_44 a72_50), (79, o79 A79), (81, o81 A81), (82, o82 A82), (83, o83 A83), (84, o84 A84), (96, o96 q7)]) rfl ?_
        refine r_mat (k := 85) h85 (l' := [(72, o72 0 a72_2 a72_3 a72_4 a72_5 a72_6 a72_7 a72_8 a72_9 a72_10 a72_11 a72_17 a72_18 a72_19 a72_21 a72_22 a72_29 a72_31 a72_35 a72_37 q9.1 q9.2.1 q9.2.2 a72_41 a72_44 a72_50), (79, o79 A79), (81, o81 A81), (82, o82 A82), (83, o83 A83), (84, o84 A84), (85, o85 A85), (96, o96 q7)]) rfl ?_
        obtain ⟨x14, hx15, hf⟩ := e_bd hf
        refine (e_loop_ok (P := fun (v13 : Int32 × Int32 × Int32 × Int32 × Int32 × (Nat → Int32) × (Nat → Int32) × (Nat → Int32) × (Nat → Int32) × (Nat → Int32) × (Nat → Int32)) => eRun G X 50 [some (.ref 72), some (.int p0), some (.int p1), some (.int v13.1)] [] h [(72, o72 0 a72_2 a72_3 a72_4 a72_5 a72_6 a72_7 a72_8 a72_9 a72_10 a72_11 a72_17 a72_18 a72_19 a72_21 a72_22 v13.2.1 a72_31 a72_35 a72_37 v13.2.2.1 v13.2.2.2.1 v13.2.2.2.2.1 a72_41 a72_44 a72_50), (79, o79 v13.2.2.2.2.2.1), (81, o81 v13.2.2.2.2.2.2.1), (82, o82 v13.2.2.2.2.2.2.2.1), (83, o83 v13.2.2.2.2.2.2.2.2.1), (84, o84 v13.2.2.2.2.2.2.2.2.2.1), (85, o85 v13.2.2.2.2.2.2.2.2.2.2), (96, o96 q7)] nx 0 0) (K := fun (x14 : Int32 × Int32 × Int32 × Int32 × (Nat → Int32) × (Nat → Int32) × (Nat → Int32) × (Nat → Int32) × (Nat → Int32) × (Nat → Int32)) => eRun G X 65 [some (.ref 72), none, some (.int p1), none] [] h [(72, o72 0 a72_2 a72_3 a72_4 a72_5 a72_6 a72_7 a72_8 a72_9 a72_10 a72_11 a72_17 a72_18 a72_19 a72_21 a72_22 x14.1 a72_31 a72_35 a72_37 x14.2.1 x14.2.2.1 x14.2.2.2.1 a72_41 a72_44 a72_50), (79, o79 x14.2.2.2.2.1), (81, o81 x14.2.2.2.2.2.1), (82, o82 x14.2.2.2.2.2.2.1), (83, o83 x14.2.2.2.2.2.2.2.1), (84, o84 x14.2.2.2.2.2.2.2.2.1), (85, o85 x14.2.2.2.2.2.2.2.2.2), (96, o96 q7)] nx 0 0) ?_ e_fuel (0, a72_29, q9.1, q9.2.1, q9.2.2, A79, A81, A82, A83, A84, A85) x14 hx15 ?_ : _)
        · intro v13 z hz ih hx
          refine r_iload_n F dX12_ahead_50 rfl ?_
          refine r_iload_n F dX12_ahead_51 rfl ?_
          refine r_icmp_ge F dX12_ahead_52 (tgt := 65) (by decide) (fun hc => ?_) (fun hc => ?_)
          · have hz := e_t hc hz
            refine r_drop 1 (L' := [some (.ref 72), none, some (.int p1), some (.int v13.1)]) rfl ?_
            refine r_drop 3 (L' := [some (.ref 72), none, some (.int p1), none]) rfl ?_
            obtain rfl := Option.some.inj hz
            exact hx (v13.2.1, v13.2.2.1, v13.2.2.2.1, v13.2.2.2.2.1, v13.2.2.2.2.2.1, v13.2.2.2.2.2.2.1, v13.2.2.2.2.2.2.2.1, v13.2.2.2.2.2.2.2.2.1, v13.2.2.2.2.2.2.2.2.2.1, v13.2.2.2.2.2.2.2.2.2.2) rfl
          · have hz := e_f hc hz
            refine r_aload_n F dX12_ahead_55 rfl ?_
            obtain ⟨q16, hq17, hz⟩ := e_bd hz
            refine r_callV F dX12_ahead_56 (b := 72) (dc := 0) (ds := 0) (As := []) (S0 := []) lkX12_390 mX12_round (tX12_round_72 hG (la := x_l X) (h := e_up h [(72, o72 0 a72_2 a72_3 a72_4 a72_5 a72_6 a72_7 a72_8 a72_9 a72_10 a72_11 a72_17 a72_18 a72_19 a72_21 a72_22 v13.2.1 a72_31 a72_35 a72_37 v13.2.2.1 v13.2.2.2.1 v13.2.2.2.2.1 a72_41 a72_44 a72_50), (79, o79 v13.2.2.2.2.2.1), (81, o81 v13.2.2.2.2.2.2.1), (82, o82 v13.2.2.2.2.2.2.2.1), (83, o83 v13.2.2.2.2.2.2.2.2.1), (84, o84 v13.2.2.2.2.2.2.2.2.2.1), (85, o85 v13.2.2.2.2.2.2.2.2.2.2), (96, o96 q7)]) hnx rfl rfl h80 rfl rfl rfl rfl rfl hq17) rfl rfl rfl (e_le rfl) (e_le rfl) (e_le rfl) rfl (ci := 12) e_cl12.1 rfl (e_le rfl) (e_lt hnx rfl) (Nat.zero_le _) (Nat.zero_le _) (e_k ?_)
            refine r_wr (l' := [(72, o72 0 a72_2 a72_3 a72_4 a72_5 a72_6 a72_7 a72_8 a72_9 a72_10 a72_11 a72_17 a72_18 a72_19 a72_21 a72_22 q16.1 a72_31 a72_35 a72_37 q16.2.1 q16.2.2.1 q16.2.2.2.1 a72_41 a72_44 a72_50), (79, o79 q16.2.2.2.2.1), (81, o81 q16.2.2.2.2.2.1), (82, o82 q16.2.2.2.2.2.2.1), (83, o83 q16.2.2.2.2.2.2.2.1), (84, o84 q16.2.2.2.2.2.2.2.2.1), (85, o85 q16.2.2.2.2.2.2.2.2.2), (96, o96 q7)]) rfl rfl ?_
            refine r_inc F dX12_ahead_59 (k9 := 1) (by decide) rfl (L' := [some (.ref 72), some (.int p0), some (.int p1), some (.int (v13.1 + 1))]) rfl ?_
            refine r_goto F dX12_ahead_62 (tgt := 50) (by decide) ?_
            obtain rfl := Option.some.inj hz
            exact ih (v13.1 + 1, q16.1, q16.2.1, q16.2.2.1, q16.2.2.2.1, q16.2.2.2.2.1, q16.2.2.2.2.2.1, q16.2.2.2.2.2.2.1, q16.2.2.2.2.2.2.2.1, q16.2.2.2.2.2.2.2.2.1, q16.2.2.2.2.2.2.2.2.2) rfl
        · show eRun G X 65 [some (.ref 72), none, some (.int p1), none] [] h [(72, o72 0 a72_2 a72_3 a72_4 a72_5 a72_6 a72_7 a72_8 a72_9 a72_10 a72_11 a72_17 a72_18 a72_19 a72_21 a72_22 x14.1 a72_31 a72_35 a72_37 x14.2.1 x14.2.2.1 x14.2.2.2.1 a72_41 a72_44 a72_50), (79, o79 x14.2.2.2.2.1), (81, o81 x14.2.2.2.2.2.1), (82, o82 x14.2.2.2.2.2.2.1), (83, o83 x14.2.2.2.2.2.2.2.1), (84, o84 x14.2.2.2.2.2.2.2.2.1), (85, o85 x14.2.2.2.2.2.2.2.2.2), (96, o96 q7)] nx 0 0
          refine r_aload_n F dX12_ahead_65 rfl ?_
          refine r_iload_n F dX12_ahead_66 rfl ?_
          obtain ⟨q18, hq19, hf⟩ := e_bd hf
          refine r_callV F dX12_ahead_67 (b := 72) (dc := 0) (ds := 0) (As := [.int p1]) (S0 := []) lkX12_458 mX12_aheadBy (tX12_aheadBy_72 hG (la := x_l X) (h := e_up h [(72, o72 0 a72_2 a72_3 a72_4 a72_5 a72_6 a72_7 a72_8 a72_9 a72_10 a72_11 a72_17 a72_18 a72_19 a72_21 a72_22 x14.1 a72_31 a72_35 a72_37 x14.2.1 x14.2.2.1 x14.2.2.2.1 a72_41 a72_44 a72_50), (79, o79 x14.2.2.2.2.1), (81, o81 x14.2.2.2.2.2.1), (82, o82 x14.2.2.2.2.2.2.1), (83, o83 x14.2.2.2.2.2.2.2.1), (84, o84 x14.2.2.2.2.2.2.2.2.1), (85, o85 x14.2.2.2.2.2.2.2.2.2), (96, o96 q7)]) hnx rfl rfl h80 rfl rfl rfl rfl rfl hq19) rfl rfl rfl (e_le rfl) (e_le rfl) (e_le rfl) rfl (ci := 12) e_cl12.1 rfl (e_le rfl) (e_lt hnx rfl) (Nat.zero_le _) (Nat.zero_le _) (e_k ?_)
          refine r_wr (l' := [(72, o72 0 a72_2 a72_3 a72_4 a72_5 a72_6 a72_7 a72_8 a72_9 a72_10 a72_11 a72_17 a72_18 a72_19 a72_21 a72_22 q18.2.1 a72_31 a72_35 a72_37 x14.2.1 x14.2.2.1 x14.2.2.2.1 a72_41 a72_44 a72_50), (79, o79 x14.2.2.2.2.1), (81, o81 q18.2.2.1), (82, o82 q18.2.2.2.1), (83, o83 q18.2.2.2.2.1), (84, o84 q18.2.2.2.2.2.1), (85, o85 q18.2.2.2.2.2.2), (96, o96 q7)]) rfl rfl ?_
          refine r_istore_n F dX12_ahead_70 (e_le rfl) (L' := [some (.ref 72), none, some (.int p1), some (.int q18.1)]) rfl ?_
          refine r_aload_n F dX12_ahead_71 rfl ?_
          obtain ⟨q20, hq21, hf⟩ := e_bd hf
          refine r_callV F dX12_ahead_72 (b := 72) (dc := 0) (ds := 0) (As := []) (S0 := []) lkX12_461 mX12_takeBack (tX12_takeBack_72 hG (la := x_l X) (h := e_up h [(72, o72 0 a72_2 a72_3 a72_4 a72_5 a72_6 a72_7 a72_8 a72_9 a72_10 a72_11 a72_17 a72_18 a72_19 a72_21 a72_22 q18.2.1 a72_31 a72_35 a72_37 x14.2.1 x14.2.2.1 x14.2.2.2.1 a72_41 a72_44 a72_50), (79, o79 x14.2.2.2.2.1), (81, o81 q18.2.2.1), (82, o82 q18.2.2.2.1), (83, o83 q18.2.2.2.2.1), (84, o84 q18.2.2.2.2.2.1), (85, o85 q18.2.2.2.2.2.2), (96, o96 q7)]) hnx rfl rfl rfl hq21) rfl rfl rfl (e_le rfl) (e_le rfl) (e_le rfl) rfl (ci := 12) e_cl12.1 rfl (e_le rfl) (e_lt hnx rfl) (Nat.zero_le _) (Nat.zero_le _) (e_k ?_)
          refine r_wr (l' := [(72, o72 0 a72_2 a72_3 a72_4 a72_5 a72_6 a72_7 a72_8 a72_9 a72_10 a72_11 a72_17 a72_18 a72_19 a72_21 a72_22 q18.2.1 a72_31 a72_35 a72_37 x14.2.1 x14.2.2.1 x14.2.2.2.1 a72_41 a72_44 a72_50), (79, o79 q20), (81, o81 q18.2.2.1), (82, o82 q18.2.2.2.1), (83, o83 q18.2.2.2.2.1), (84, o84 q18.2.2.2.2.2.1), (85, o85 q18.2.2.2.2.2.2), (96, o96 q7)]) rfl rfl ?_
          refine r_iload_n F dX12_ahead_75 rfl ?_
          obtain rfl := Option.some.inj hf
          exact r_iret F hq dX12_ahead_76 rfl rfl (Nat.le_refl _) (Nat.le_refl _) ⟨rfl, rfl⟩
      · have hf := e_f hc hf
        refine r_ldcw F dX12_ahead_36 kcX12_310 ?_
        refine r_mat (k := 79) h79 (l' := [(72, o72 0 a72_2 a72_3 a72_4 a72_5 a72_6 a72_7 a72_8 a72_9 a72_10 a72_11 a72_17 a72_18 a72_19 a72_21 a72_22 a72_29 a72_31 a72_35 a72_37 a72_38 a72_39 a72_40 a72_41 a72_44 a72_50), (79, o79 A79)]) rfl ?_
        refine r_mat (k := 81) h81 (l' := [(72, o72 0 a72_2 a72_3 a72_4 a72_5 a72_6 a72_7 a72_8 a72_9 a72_10 a72_11 a72_17 a72_18 a72_19 a72_21 a72_22 a72_29 a72_31 a72_35 a72_37 a72_38 a72_39 a72_40 a72_41 a72_44 a72_50), (79, o79 A79), (81, o81 A81)]) rfl ?_
        refine r_mat (k := 82) h82 (l' := [(72, o72 0 a72_2 a72_3 a72_4 a72_5 a72_6 a72_7 a72_8 a72_9 a72_10 a72_11 a72_17 a72_18 a72_19 a72_21 a72_22 a72_29 a72_31 a72_35 a72_37 a72_38 a72_39 a72_40 a72_41 a72_44 a72_50), (79, o79 A79), (81, o81 A81), (82, o82 A82)]) rfl ?_
        refine r_mat (k := 83) h83 (l' := [(72, o72 0 a72_2 a72_3 a72_4 a72_5 a72_6 a72_7 a72_8 a72_9 a72_10 a72_11 a72_17 a72_18 a72_19 a72_21 a72_22 a72_29 a72_31 a72_35 a72_37 a72_38 a72_39 a72_40 a72_41 a72_44 a72_50), (79, o79 A79), (81, o81 A81), (82, o82 A82), (83, o83 A83)]) rfl ?_
        refine r_mat (k := 84) h84 (l' := [(72, o72 0 a72_2 a72_3 a72_4 a72_5 a72_6 a72_7 a72_8 a72_9 a72_10 a72_11 a72_17 a72_18 a72_19 a72_21 a72_22 a72_29 a72_31 a72_35 a72_37 a72_38 a72_39 a72_40 a72_41 a72_44 a72_50), (79, o79 A79), (81, o81 A81), (82, o82 A82), (83, o83 A83), (84, o84 A84)]) rfl ?_
        refine r_mat (k := 85) h85 (l' := [(72, o72 0 a72_2 a72_3 a72_4 a72_5 a72_6 a72_7 a72_8 a72_9 a72_10 a72_11 a72_17 a72_18 a72_19 a72_21 a72_22 a72_29 a72_31 a72_35 a72_37 a72_38 a72_39 a72_40 a72_41 a72_44 a72_50), (79, o79 A79), (81, o81 A81), (82, o82 A82), (83, o83 A83), (84, o84 A84), (85, o85 A85)]) rfl ?_
        refine r_mat (k := 96) h96 (l' := [(72, o72 0 a72_2 a72_3 a72_4 a72_5 a72_6 a72_7 a72_8 a72_9 a72_10 a72_11 a72_17 a72_18 a72_19 a72_21 a72_22 a72_29 a72_31 a72_35 a72_37 a72_38 a72_39 a72_40 a72_41 a72_44 a72_50), (79, o79 A79), (81, o81 A81), (82, o82 A82), (83, o83 A83), (84, o84 A84), (85, o85 A85), (96, o96 A96)]) rfl ?_
        obtain rfl := Option.some.inj hf
        exact r_iret F hq dX12_ahead_39 rfl rfl (Nat.le_refl _) (Nat.le_refl _) ⟨rfl, rfl⟩
    · have hf := e_f hc hf
      refine r_ldcw F dX12_ahead_36 kcX12_310 ?_
      refine r_mat (k := 79) h79 (l' := [(72, o72 0 a72_2 a72_3 a72_4 a72_5 a72_6 a72_7 a72_8 a72_9 a72_10 a72_11 a72_17 a72_18 a72_19 a72_21 a72_22 a72_29 a72_31 a72_35 a72_37 a72_38 a72_39 a72_40 a72_41 a72_44 a72_50), (79, o79 A79)]) rfl ?_
      refine r_mat (k := 81) h81 (l' := [(72, o72 0 a72_2 a72_3 a72_4 a72_5 a72_6 a72_7 a72_8 a72_9 a72_10 a72_11 a72_17 a72_18 a72_19 a72_21 a72_22 a72_29 a72_31 a72_35 a72_37 a72_38 a72_39 a72_40 a72_41 a72_44 a72_50), (79, o79 A79), (81, o81 A81)]) rfl ?_
      refine r_mat (k := 82) h82 (l' := [(72, o72 0 a72_2 a72_3 a72_4 a72_5 a72_6 a72_7 a72_8 a72_9 a72_10 a72_11 a72_17 a72_18 a72_19 a72_21 a72_22 a72_29 a72_31 a72_35 a72_37 a72_38 a72_39 a72_40 a72_41 a72_44 a72_50), (79, o79 A79), (81, o81 A81), (82, o82 A82)]) rfl ?_
      refine r_mat (k := 83) h83 (l' := [(72, o72 0 a72_2 a72_3 a72_4 a72_5 a72_6 a72_7 a72_8 a72_9 a72_10 a72_11 a72_17 a72_18 a72_19 a72_21 a72_22 a72_29 a72_31 a72_35 a72_37 a72_38 a72_39 a72_40 a72_41 a72_44 a72_50), (79, o79 A79), (81, o81 A81), (82, o82 A82), (83, o83 A83)]) rfl ?_
      refine r_mat (k := 84) h84 (l' := [(72, o72 0 a72_2 a72_3 a72_4 a72_5 a72_6 a72_7 a72_8 a72_9 a72_10 a72_11 a72_17 a72_18 a72_19 a72_21 a72_22 a72_29 a72_31 a72_35 a72_37 a72_38 a72_39 a72_40 a72_41 a72_44 a72_50), (79, o79 A79), (81, o81 A81), (82, o82 A82), (83, o83 A83), (84, o84 A84)]) rfl ?_
      refine r_mat (k := 85) h85 (l' := [(72, o72 0 a72_2 a72_3 a72_4 a72_5 a72_6 a72_7 a72_8 a72_9 a72_10 a72_11 a72_17 a72_18 a72_19 a72_21 a72_22 a72_29 a72_31 a72_35 a72_37 a72_38 a72_39 a72_40 a72_41 a72_44 a72_50), (79, o79 A79), (81, o81 A81), (82, o82 A82), (83, o83 A83), (84, o84 A84), (85, o85 A85)]) rfl ?_
      refine r_mat (k := 96) h96 (l' := [(72, o72 0 a72_2 a72_3 a72_4 a72_5 a72_6 a72_7 a72_8 a72_9 a72_10 a72_11 a72_17 a72_18 a72_19 a72_21 a72_22 a72_29 a72_31 a72_35 a72_37 a72_38 a72_39 a72_40 a72_41 a72_44 a72_50), (79, o79 A79), (81, o81 A81), (82, o82 A82), (83, o83 A83), (84, o84 A84), (85, o85 A85), (96, o96 A96)]) rfl ?_
      obtain rfl := Option.some.inj hf
      exact r_iret F hq dX12_ahead_39 rfl rfl (Nat.le_refl _) (Nat.le_refl _) ⟨rfl, rfl⟩
  · have hf := e_f hc hf
    refine r_ldcw F dX12_ahead_36 kcX12_310 ?_
    refine r_mat (k := 79) h79 (l' := [(72, o72 0 a72_2 a72_3 a72_4 a72_5 a72_6 a72_7 a72_8 a72_9 a72_10 a72_11 a72_17 a72_18 a72_19 a72_21 a72_22 a72_29 a72_31 a72_35 a72_37 a72_38 a72_39 a72_40 a72_41 a72_44 a72_50), (79, o79 A79)]) rfl ?_
    refine r_mat (k := 81) h81 (l' := [(72, o72 0 a72_2 a72_3 a72_4 a72_5 a72_6 a72_7 a72_8 a72_9 a72_10 a72_11 a72_17 a72_18 a72_19 a72_21 a72_22 a72_29 a72_31 a72_35 a72_37 a72_38 a72_39 a72_40 a72_41 a72_44 a72_50), (79, o79 A79), (81, o81 A81)]) rfl ?_
    refine r_mat (k := 82) h82 (l' := [(72, o72 0 a72_2 a72_3 a72_4 a72_5 a72_6 a72_7 a72_8 a72_9 a72_10 a72_11 a72_17 a72_18 a72_19 a72_21 a72_22 a72_29 a72_31 a72_35 a72_37 a72_38 a72_39 a72_40 a72_41 a72_44 a72_50), (79, o79 A79), (81, o81 A81), (82, o82 A82)]) rfl ?_
    refine r_mat (k := 83) h83 (l' := [(72, o72 0 a72_2 a72_3 a72_4 a72_5 a72_6 a72_7 a72_8 a72_9 a72_10 a72_11 a72_17 a72_18 a72_19 a72_21 a72_22 a72_29 a72_31 a72_35 a72_37 a72_38 a72_39 a72_40 a72_41 a72_44 a72_50), (79, o79 A79), (81, o81 A81), (82, o82 A82), (83, o83 A83)]) rfl ?_
    refine r_mat (k := 84) h84 (l' := [(72, o72 0 a72_2 a72_3 a72_4 a72_5 a72_6 a72_7 a72_8 a72_9 a72_10 a72_11 a72_17 a72_18 a72_19 a72_21 a72_22 a72_29 a72_31 a72_35 a72_37 a72_38 a72_39 a72_40 a72_41 a72_44 a72_50), (79, o79 A79), (81, o81 A81), (82, o82 A82), (83, o83 A83), (84, o84 A84)]) rfl ?_
    refine r_mat (k := 85) h85 (l' := [(72, o72 0 a72_2 a72_3 a72_4 a72_5 a72_6 a72_7 a72_8 a72_9 a72_10 a72_11 a72_17 a72_18 a72_19 a72_21 a72_22 a72_29 a72_31 a72_35 a72_37 a72_38 a72_39 a72_40 a72_41 a72_44 a72_50), (79, o79 A79), (81, o81 A81), (82, o82 A82), (83, o83 A83), (84, o84 A84), (85, o85 A85)]) rfl ?_
    refine r_mat (k := 96) h96 (l' := [(72, o72 0 a72_2 a72_3 a72_4 a72_5 a72_6 a72_7 a72_8 a72_9 a72_10 a72_11 a72_17 a72_18 a72_19 a72_21 a72_22 a72_29 a72_31 a72_35 a72_37 a72_38 a72_39 a72_40 a72_41 a72_44 a72_50), (79, o79 A79), (81, o81 A81), (82, o82 A82), (83, o83 A83), (84, o84 A84), (85, o85 A85), (96, o96 A96)]) rfl ?_
    obtain rfl := Option.some.inj hf
    exact r_iret F hq dX12_ahead_39 rfl rfl (Nat.le_refl _) (Nat.le_refl _) ⟨rfl, rfl⟩

def fX12_alikeWith (a72_29 : Int32) (A81 : Nat → Int32) (A83 : Nat → Int32) (A84 : Nat → Int32) (p0 : Int32) : Option (Int32) :=
  (e_loop (fun (v3 : Int32 × Int32) => (
      if a72_29 ≤ v3.2 then
        some (.inr v3.1)
      else
        e_g (e_in v3.2 64) (
        e_g (e_in p0 64) (
        Option.bind (α := Bool) (
          if (A81 (tn v3.2)) = (A81 (tn p0)) then
            e_g (e_in v3.2 64) (
            e_g (e_in p0 64) (
            if (A83 (tn v3.2)) = (A83 (tn p0)) then
              e_g (e_in v3.2 64) (
              e_g (e_in p0 64) (
              if (A84 (tn v3.2)) = (A84 (tn p0)) then
                some true
              else
                some false))
            else
              some false))
          else
            some false) (fun q6 =>
        some (.inl (v3.1 + (e_b q6), v3.2 + 1))))) : Option ((Int32 × Int32) ⊕ (Int32)))) e_fuel (0, 0)).bind (fun x4 =>
  some x4)
set_option maxRecDepth 100000 in
theorem tX12_alikeWith_72 {G : eG} (hG : e_GS G) {la : Launch} {h : Nat → eO} {nx : Nat} (hnx : 99 ≤ nx) {a72_0 : Int32} {a72_2 : Int32} {a72_3 : Int32} {a72_4 : Int32} {a72_5 : Int32} {a72_6 : Int32} {a72_7 : Int32} {a72_8 : Bool} {a72_9 : Int32} {a72_10 : Int32} {a72_11 : Int32} {a72_17 : Bool} {a72_18 : Bool} {a72_19 : Bool} {a72_21 : Int32} {a72_22 : Int32} {a72_29 : Int32} {a72_31 : Int32} {a72_35 : Int32} {a72_37 : Bool} {a72_38 : Int32} {a72_39 : Int32} {a72_40 : Int32} {a72_41 : Int64} {a72_44 : Int32} {a72_50 : Bool} {A81 : Nat → Int32} {A83 : Nat → Int32} {A84 : Nat → Int32} {p0 : Int32} (h72 : h 72 = o72 a72_0 a72_2 a72_3 a72_4 a72_5 a72_6 a72_7 a72_8 a72_9 a72_10 a72_11 a72_17 a72_18 a72_19 a72_21 a72_22 a72_29 a72_31 a72_35 a72_37 a72_38 a72_39 a72_40 a72_41 a72_44 a72_50) (h81 : h 81 = o81 A81) (h83 : h 83 = o83 A83) (h84 : h 84 = o84 A84) {R9 : Int32} (hf : fX12_alikeWith a72_29 A81 A83 A84 p0 = some R9) :
    eSem G la MX12_alikeWith [.ref 72, .int p0] h nx 0 0 (fun r9 h9 => r9 = some (.int R9) ∧ h9 = h) := by
  refine eSem.of (k := 2) (L := [some (.ref 72), some (.int p0), none, none]) (by decide +kernel) rfl rfl (fun X F hxl hq hcR hsR => ?_)
  subst hxl
  unfold fX12_alikeWith at hf
  refine r_iconst F dX12_alikeWith_0 (v := 0) (by decide) ?_
  refine r_istore_n F dX12_alikeWith_1 (e_le rfl) (L' := [some (.ref 72), some (.int p0), some (.int 0), none]) rfl ?_
  refine r_iconst F dX12_alikeWith_2 (v := 0) (by decide) ?_
  refine r_istore_n F dX12_alikeWith_3 (e_le rfl) (L' := [some (.ref 72), some (.int p0), some (.int 0), some (.int 0)]) rfl ?_
  obtain ⟨x4, hx5, hf⟩ := e_bd hf
  refine (e_loop_ok (P := fun (v3 : Int32 × Int32) => eRun G X 4 [some (.ref 72), some (.int p0), some (.int v3.1), some (.int v3.2)] [] h [] nx 0 0) (K := fun (x4 : Int32) => eRun G X 71 [none, none, some (.int x4), none] [] h [] nx 0 0) ?_ e_fuel (0, 0) x4 hx5 ?_ : _)
  · intro v3 z hz ih hx
    refine r_iload_n F dX12_alikeWith_4 rfl ?_
    refine r_aload_n F dX12_alikeWith_5 rfl ?_
    refine r_get F dX12_alikeWith_6 flX12_241 h72 rfl (e_le rfl) (e_lt hnx rfl) ?_
    refine r_icmp_ge F dX12_alikeWith_9 (tgt := 71) (by decide) (fun hc => ?_) (fun hc => ?_)
    · have hz := e_t hc hz
      refine r_drop 0 (L' := [none, some (.int p0), some (.int v3.1), some (.int v3.2)]) rfl ?_
      refine r_drop 1 (L' := [none, none, some (.int v3.1), some (.int v3.2)]) rfl ?_
      refine r_drop 3 (L' := [none, none, some (.int v3.1), none]) rfl ?_
      obtain rfl := Option.some.inj hz
      exact hx v3.1 rfl
    · have hz := e_f hc hz
      refine r_iload_n F dX12_alikeWith_12 rfl ?_
      refine r_aload_n F dX12_alikeWith_13 rfl ?_
      refine r_get F dX12_alikeWith_14 flX12_34 h72 rfl (e_le rfl) (e_lt hnx rfl) ?_
      refine r_iload_n F dX12_alikeWith_17 rfl ?_
      obtain ⟨hg, hz⟩ := e_gd hz
      refine r_iald F dX12_alikeWith_18 (i := v3.2) h81 (e_le rfl) (e_lt hnx rfl) (e_vp hg) ?_
      refine r_aload_n F dX12_alikeWith_19 rfl ?_
      refine r_get F dX12_alikeWith_20 flX12_34 h72 rfl (e_le rfl) (e_lt hnx rfl) ?_
      refine r_iload_n F dX12_alikeWith_23 rfl ?_
      obtain ⟨hg, hz⟩ := e_gd hz
      refine r_iald F dX12_alikeWith_24 (i := p0) h81 (e_le rfl) (e_lt hnx rfl) (e_vp hg) ?_
      obtain ⟨q6, hq7, hz⟩ := e_bd hz
      have Jq6 : eRun G X 63 [some (.ref 72), some (.int p0), none, some (.int v3.2)] [.int (e_b q6), .int v3.1] h [] nx 0 0 := by
        refine r_iadd F dX12_alikeWith_63 ?_
        refine r_istore_n F dX12_alikeWith_64 (e_le rfl) (L' := [some (.ref 72), some (.int p0), some (.int (v3.1 + (e_b q6))), some (.int v3.2)]) rfl ?_
        refine r_inc F dX12_alikeWith_65 (k9 := 1) (by decide) rfl (L' := [some (.ref 72), some (.int p0), some (.int (v3.1 + (e_b q6))), some (.int (v3.2 + 1))]) rfl ?_
        refine r_goto F dX12_alikeWith_68 (tgt := 4) (by decide) ?_
        obtain rfl := Option.some.inj hz
        exact ih (v3.1 + (e_b q6), v3.2 + 1) rfl
      refine r_icmp_ne F dX12_alikeWith_25 (tgt := 62) (by decide) (fun hc => ?_) (fun hc => ?_)
      · have hq7 := e_f hc hq7
        refine r_iconst F dX12_alikeWith_62 (v := 0) (by decide) ?_
        refine r_drop 2 (L' := [some (.ref 72), some (.int p0), none, some (.int v3.2)]) rfl ?_
        obtain rfl := Option.some.inj hq7
        exact Jq6
      · have hq7 := e_t hc hq7
        refine r_aload_n F dX12_alikeWith_28 rfl ?_
        refine r_get F dX12_alikeWith_29 flX12_40 h72 rfl (e_le rfl) (e_lt hnx rfl) ?_
        refine r_iload_n F dX12_alikeWith_32 rfl ?_
        obtain ⟨hg, hq7⟩ := e_gd hq7
        refine r_iald F dX12_alikeWith_33 (i := v3.2) h83 (e_le rfl) (e_lt hnx rfl) (e_vp hg) ?_
        refine r_aload_n F dX12_alikeWith_34 rfl ?_
        refine r_get F dX12_alikeWith_35 flX12_40 h72 rfl (e_le rfl) (e_lt hnx rfl) ?_
        refine r_iload_n F dX12_alikeWith_38 rfl ?_
        obtain ⟨hg, hq7⟩ := e_gd hq7
        refine r_iald F dX12_alikeWith_39 (i := p0) h83 (e_le rfl) (e_lt hnx rfl) (e_vp hg) ?_
        refine r_icmp_ne F dX12_alikeWith_40 (tgt := 62) (by decide) (fun hc => ?_) (fun hc => ?_)
        · have hq7 := e_f hc hq7
          refine r_iconst F dX12_alikeWith_62 (v := 0) (by decide) ?_
          refine r_drop 2 (L' := [some (.ref 72), some (.int p0), none, some (.int v3.2)]) rfl ?_
          obtain rfl := Option.some.inj hq7
          exact Jq6
        · have hq7 := e_t hc hq7
          refine r_aload_n F dX12_alikeWith_43 rfl ?_
          refine r_get F dX12_alikeWith_44 flX12_43 h72 rfl (e_le rfl) (e_lt hnx rfl) ?_
          refine r_iload_n F dX12_alikeWith_47 rfl ?_
          obtain ⟨hg, hq7⟩ := e_gd hq7
          refine r_iald F dX12_alikeWith_48 (i := v3.2) h84 (e_le rfl) (e_lt hnx rfl) (e_vp hg) ?_
          refine r_aload_n F dX12_alikeWith_49 rfl ?_
          refine r_get F dX12_alikeWith_50 flX12_43 h72 rfl (e_le rfl) (e_lt hnx rfl) ?_
          refine r_iload_n F dX12_alikeWith_53 rfl ?_
          obtain ⟨hg, hq7⟩ := e_gd hq7
          refine r_iald F dX12_alikeWith_54 (i := p0) h84 (e_le rfl) (e_lt hnx rfl) (e_vp hg) ?_
          refine r_icmp_ne F dX12_alikeWith_55 (tgt := 62) (by decide) (fun hc => ?_) (fun hc => ?_)
          · have hq7 := e_f hc hq7
            refine r_iconst F dX12_alikeWith_62 (v := 0) (by decide) ?_
            refine r_drop 2 (L' := [some (.ref 72), some (.int p0), none, some (.int v3.2)]) rfl ?_
            obtain rfl := Option.some.inj hq7
            exact Jq6
          · have hq7 := e_t hc hq7
            refine r_iconst F dX12_alikeWith_58 (v := 1) (by decide) ?_
            refine r_goto F dX12_alikeWith_59 (tgt := 63) (by decide) ?_
            refine r_drop 2 (L' := [some (.ref 72), some (.int p0), none, some (.int v3.2)]) rfl ?_
            obtain rfl := Option.some.inj hq7
            exact Jq6
  · show eRun G X 71 [none, none, some (.int x4), none] [] h [] nx 0 0
    refine r_iload_n F dX12_alikeWith_71 rfl ?_
    obtain rfl := Option.some.inj hf
    exact r_iret F hq dX12_alikeWith_72 rfl rfl (Nat.le_refl _) (Nat.le_refl _) ⟨rfl, rfl⟩

def fX12_areOpposite (A83 : Nat → Int32) (A84 : Nat → Int32) (p0 : Int32) (p1 : Int32) : Option (Bool) :=
  e_g (e_in p0 64) (
  e_g (e_in p1 64) (
  if ((A83 (tn p0)) + (A83 (tn p1))) = 0 then
    e_g (e_in p0 64) (
    e_g (e_in p1 64) (
    if ((A84 (tn p0)) + (A84 (tn p1))) = 0 then
      some true
    else
      some false))
  else
    some false))
set_option maxRecDepth 100000 in
theorem tX12_areOpposite_72 {G : eG} (hG : e_GS G) {la : Launch} {h : Nat → eO} {nx : Nat} (hnx : 99 ≤ nx) {a72_0 : Int32} {a72_2 : Int32} {a72_3 : Int32} {a72_4 : Int32} {a72_5 : Int32} {a72_6 : Int32} {a72_7 : Int32} {a72_8 : Bool} {a72_9 : Int32} {a72_10 : Int32} {a72_11 : Int32} {a72_17 : Bool} {a72_18 : Bool} {a72_19 : Bool} {a72_21 : Int32} {a72_22 : Int32} {a72_29 : Int32} {a72_31 : Int32} {a72_35 : Int32} {a72_37 : Bool} {a72_38 : Int32} {a72_39 : Int32} {a72_40 : Int32} {a72_41 : Int64} {a72_44 : Int32} {a72_50 : Bool} {A83 : Nat → Int32} {A84 : Nat → Int32} {p0 : Int32} {p1 : Int32} (h72 : h 72 = o72 a72_0 a72_2 a72_3 a72_4 a72_5 a72_6 a72_7 a72_8 a72_9 a72_10 a72_11 a72_17 a72_18 a72_19 a72_21 a72_22 a72_29 a72_31 a72_35 a72_37 a72_38 a72_39 a72_40 a72_41 a72_44 a72_50) (h83 : h 83 = o83 A83) (h84 : h 84 = o84 A84) {R9 : Bool} (hf : fX12_areOpposite A83 A84 p0 p1 = some R9) :
    eSem G la MX12_areOpposite [.ref 72, .int p0, .int p1] h nx 0 0 (fun r9 h9 => r9 = some (.int (e_b R9)) ∧ h9 = h) := by
  refine eSem.of (k := 0) (L := [some (.ref 72), some (.int p0), some (.int p1)]) (by decide +kernel) rfl rfl (fun X F hxl hq hcR hsR => ?_)
  subst hxl
  unfold fX12_areOpposite at hf
  refine r_aload_n F dX12_areOpposite_0 rfl ?_
  refine r_get F dX12_areOpposite_1 flX12_40 h72 rfl (e_le rfl) (e_lt hnx rfl) ?_
  refine r_iload_n F dX12_areOpposite_4 rfl ?_
  obtain ⟨hg, hf⟩ := e_gd hf
  refine r_iald F dX12_areOpposite_5 (i := p0) h83 (e_le rfl) (e_lt hnx rfl) (e_vp hg) ?_
  refine r_aload_n F dX12_areOpposite_6 rfl ?_
  refine r_get F dX12_areOpposite_7 flX12_40 h72 rfl (e_le rfl) (e_lt hnx rfl) ?_
  refine r_iload_n F dX12_areOpposite_10 rfl ?_
  obtain ⟨hg, hf⟩ := e_gd hf
  refine r_iald F dX12_areOpposite_11 (i := p1) h83 (e_le rfl) (e_lt hnx rfl) (e_vp hg) ?_
  refine r_iadd F dX12_areOpposite_12 ?_
  refine r_if_ne F dX12_areOpposite_13 (tgt := 36) (by decide) (fun hc => ?_) (fun hc => ?_)
  · have hf := e_f hc hf
    refine r_iconst F dX12_areOpposite_36 (v := 0) (by decide) ?_
    obtain rfl := Option.some.inj hf
    exact r_zret F hq (v := false) dX12_areOpposite_37 rfl rfl (Nat.le_refl _) (Nat.le_refl _) ⟨rfl, rfl⟩
  · have hf := e_t hc hf
    refine r_aload_n F dX12_areOpposite_16 rfl ?_
    refine r_get F dX12_areOpposite_17 flX12_43 h72 rfl (e_le rfl) (e_lt hnx rfl) ?_
    refine r_iload_n F dX12_areOpposite_20 rfl ?_
    obtain ⟨hg, hf⟩ := e_gd hf
    refine r_iald F dX12_areOpposite_21 (i := p0) h84 (e_le rfl) (e_lt hnx rfl) (e_vp hg) ?_
    refine r_aload_n F dX12_areOpposite_22 rfl ?_
    refine r_get F dX12_areOpposite_23 flX12_43 h72 rfl (e_le rfl) (e_lt hnx rfl) ?_
    refine r_iload_n F dX12_areOpposite_26 rfl ?_
    obtain ⟨hg, hf⟩ := e_gd hf
    refine r_iald F dX12_areOpposite_27 (i := p1) h84 (e_le rfl) (e_lt hnx rfl) (e_vp hg) ?_
    refine r_iadd F dX12_areOpposite_28 ?_
    refine r_if_ne F dX12_areOpposite_29 (tgt := 36) (by decide) (fun hc => ?_) (fun hc => ?_)
    · have hf := e_f hc hf
      refine r_iconst F dX12_areOpposite_36 (v := 0) (by decide) ?_
      obtain rfl := Option.some.inj hf
      exact r_zret F hq (v := false) dX12_areOpposite_37 rfl rfl (Nat.le_refl _) (Nat.le_refl _) ⟨rfl, rfl⟩
    · have hf := e_t hc hf
      refine r_iconst F dX12_areOpposite_32 (v := 1) (by decide) ?_
      refine r_goto F dX12_areOpposite_33 (tgt := 37) (by decide) ?_
      obtain rfl := Option.some.inj hf
      exact r_zret F hq (v := true) dX12_areOpposite_37 rfl rfl (Nat.le_refl _) (Nat.le_refl _) ⟨rfl, rfl⟩

def fX12_back (a72_0 : Int32) (a72_31 : Int32) (a72_50 : Bool) (A79 : Nat → Int32) (A97 : Nat → Int32)  : Option (Int32 × Int32 × Int32 × (Nat → Int32)) :=
  if a72_50 = true then
    (e_loop (fun (v3 : Int32 × (Nat → Int32)) => (
        if 486 ≤ v3.1 then
          some (.inr v3.2)
        else
          e_g (e_in v3.1 486) (
          e_g (e_in v3.1 486) (
          some (.inl (v3.1 + 1, upd v3.2 (tn v3.1) (A97 (tn v3.1)))))) : Option ((Int32 × (Nat → Int32)) ⊕ ((Nat → Int32))))) e_fuel (0, A79)).bind (fun x4 =>
    some (x4 (tn 325), 0, 0, x4))
  else
    some ((-1), 0, a72_31, A79)
set_option maxRecDepth 100000 in
theorem tX12_back_72 {G : eG} (hG : e_GS G) {la : Launch} {h : Nat → eO} {nx : Nat} (hnx : 99 ≤ nx) {a72_0 : Int32} {a72_2 : Int32} {a72_3 : Int32} {a72_4 : Int32} {a72_5 : Int32} {a72_6 : Int32} {a72_7 : Int32} {a72_8 : Bool} {a72_9 : Int32} {a72_10 : Int32} {a72_11 : Int32} {a72_17 : Bool} {a72_18 : Bool} {a72_19 : Bool} {a72_21 : Int32} {a72_22 : Int32} {a72_29 : Int32} {a72_31 : Int32} {a72_35 : Int32} {a72_37 : Bool} {a72_38 : Int32} {a72_39 : Int32} {a72_40 : Int32} {a72_41 : Int64} {a72_44 : Int32} {a72_50 : Bool} {A79 : Nat → Int32} {A97 : Nat → Int32}  (h72 : h 72 = o72 a72_0 a72_2 a72_3 a72_4 a72_5 a72_6 a72_7 a72_8 a72_9 a72_10 a72_11 a72_17 a72_18 a72_19 a72_21 a72_22 a72_29 a72_31 a72_35 a72_37 a72_38 a72_39 a72_40 a72_41 a72_44 a72_50) (h79 : h 79 = o79 A79) (h97 : h 97 = o97 A97) {R9 : Int32 × Int32 × Int32 × (Nat → Int32)} (hf : fX12_back a72_0 a72_31 a72_50 A79 A97  = some R9) :
    eSem G la MX12_back [.ref 72] h nx 0 0 (fun r9 h9 => r9 = some (.int R9.1) ∧ h9 = e_up h [(72, o72 R9.2.1 a72_2 a72_3 a72_4 a72_5 a72_6 a72_7 a72_8 a72_9 a72_10 a72_11 a72_17 a72_18 a72_19 a72_21 a72_22 a72_29 R9.2.2.1 a72_35 a72_37 a72_38 a72_39 a72_40 a72_41 a72_44 a72_50), (79, o79 R9.2.2.2)]) := by
  refine eSem.of (k := 1) (L := [some (.ref 72), none]) (by decide +kernel) rfl rfl (fun X F hxl hq hcR hsR => ?_)
  subst hxl
  unfold fX12_back at hf
  refine r_aload_n F dX12_back_0 rfl ?_
  refine r_iconst F dX12_back_1 (v := 0) (by decide) ?_
  refine r_put F dX12_back_2 flX12_86 rfl rfl rfl h72 (e_le rfl) (e_le rfl) (e_lt hnx rfl) (l' := [(72, o72 0 a72_2 a72_3 a72_4 a72_5 a72_6 a72_7 a72_8 a72_9 a72_10 a72_11 a72_17 a72_18 a72_19 a72_21 a72_22 a72_29 a72_31 a72_35 a72_37 a72_38 a72_39 a72_40 a72_41 a72_44 a72_50)]) rfl ?_
  refine r_aload_n F dX12_back_5 rfl ?_
  refine r_get F dX12_back_6 flX12_232 rfl rfl (e_le rfl) (e_lt hnx rfl) ?_
  refine r_z_ne F dX12_back_9 (tgt := 14) (by decide) (fun hc => ?_) (fun hc => ?_)
  · have hf := e_t hc hf
    refine r_iconst F dX12_back_14 (v := 0) (by decide) ?_
    refine r_istore_n F dX12_back_15 (e_le rfl) (L' := [some (.ref 72), some (.int 0)]) rfl ?_
    refine r_mat (k := 79) h79 (l' := [(72, o72 0 a72_2 a72_3 a72_4 a72_5 a72_6 a72_7 a72_8 a72_9 a72_10 a72_11 a72_17 a72_18 a72_19 a72_21 a72_22 a72_29 a72_31 a72_35 a72_37 a72_38 a72_39 a72_40 a72_41 a72_44 a72_50), (79, o79 A79)]) rfl ?_
    obtain ⟨x4, hx5, hf⟩ := e_bd hf
    refine (e_loop_ok (P := fun (v3 : Int32 × (Nat → Int32)) => eRun G X 16 [some (.ref 72), some (.int v3.1)] [] h [(72, o72 0 a72_2 a72_3 a72_4 a72_5 a72_6 a72_7 a72_8 a72_9 a72_10 a72_11 a72_17 a72_18 a72_19 a72_21 a72_22 a72_29 a72_31 a72_35 a72_37 a72_38 a72_39 a72_40 a72_41 a72_44 a72_50), (79, o79 v3.2)] nx 0 0) (K := fun (x4 : (Nat → Int32)) => eRun G X 41 [some (.ref 72), none] [] h [(72, o72 0 a72_2 a72_3 a72_4 a72_5 a72_6 a72_7 a72_8 a72_9 a72_10 a72_11 a72_17 a72_18 a72_19 a72_21 a72_22 a72_29 a72_31 a72_35 a72_37 a72_38 a72_39 a72_40 a72_41 a72_44 a72_50), (79, o79 x4)] nx 0 0) ?_ e_fuel (0, A79) x4 hx5 ?_ : _)
    · intro v3 z hz ih hx
      refine r_iload_n F dX12_back_16 rfl ?_
      refine r_sipush F dX12_back_17 (v := 486) (by decide) ?_
      refine r_icmp_ge F dX12_back_20 (tgt := 41) (by decide) (fun hc => ?_) (fun hc => ?_)
      · have hz := e_t hc hz
        refine r_drop 1 (L' := [some (.ref 72), none]) rfl ?_
        obtain rfl := Option.some.inj hz
        exact hx v3.2 rfl
      · have hz := e_f hc hz
        refine r_aload_n F dX12_back_23 rfl ?_
        refine r_get F dX12_back_24 flX12_28 rfl rfl (e_le rfl) (e_lt hnx rfl) ?_
        refine r_iload_n F dX12_back_27 rfl ?_
        refine r_aload_n F dX12_back_28 rfl ?_
        refine r_get F dX12_back_29 flX12_83 rfl rfl (e_le rfl) (e_lt hnx rfl) ?_
        refine r_iload_n F dX12_back_32 rfl ?_
        obtain ⟨hg, hz⟩ := e_gd hz
        refine r_iald F dX12_back_33 (i := v3.1) h97 (e_le rfl) (e_lt hnx rfl) (e_vp hg) ?_
        obtain ⟨hg, hz⟩ := e_gd hz
        refine r_iast F dX12_back_34 rfl (e_le rfl) (e_lt hnx rfl) (e_vp hg) (l' := [(72, o72 0 a72_2 a72_3 a72_4 a72_5 a72_6 a72_7 a72_8 a72_9 a72_10 a72_11 a72_17 a72_18 a72_19 a72_21 a72_22 a72_29 a72_31 a72_35 a72_37 a72_38 a72_39 a72_40 a72_41 a72_44 a72_50), (79, o79 (upd v3.2 (tn v3.1) (A97 (tn v3.1))))]) rfl ?_
        refine r_inc F dX12_back_35 (k9 := 1) (by decide) rfl (L' := [some (.ref 72), some (.int (v3.1 + 1))]) rfl ?_
        refine r_goto F dX12_back_38 (tgt := 16) (by decide) ?_
        obtain rfl := Option.some.inj hz
        exact ih (v3.1 + 1, upd v3.2 (tn v3.1) (A97 (tn v3.1))) rfl
    · show eRun G X 41 [some (.ref 72), none] [] h [(72, o72 0 a72_2 a72_3 a72_4 a72_5 a72_6 a72_7 a72_8 a72_9 a72_10 a72_11 a72_17 a72_18 a72_19 a72_21 a72_22 a72_29 a72_31 a72_35 a72_37 a72_38 a72_39 a72_40 a72_41 a72_44 a72_50), (79, o79 x4)] nx 0 0
      refine r_aload_n F dX12_back_41 rfl ?_
      refine r_iconst F dX12_back_42 (v := 0) (by decide) ?_
      refine r_put F dX12_back_43 flX12_229 rfl rfl rfl rfl (e_le rfl) (e_le rfl) (e_lt hnx rfl) (l' := [(72, o72 0 a72_2 a72_3 a72_4 a72_5 a72_6 a72_7 a72_8 a72_9 a72_10 a72_11 a72_17 a72_18 a72_19 a72_21 a72_22 a72_29 0 a72_35 a72_37 a72_38 a72_39 a72_40 a72_41 a72_44 a72_50), (79, o79 x4)]) rfl ?_
      refine r_aload_n F dX12_back_46 rfl ?_
      refine r_get F dX12_back_47 flX12_28 rfl rfl (e_le rfl) (e_lt hnx rfl) ?_
      refine r_sipush F dX12_back_50 (v := 325) (by decide) ?_
      refine r_iald F dX12_back_53 (i := 325) rfl (e_le rfl) (e_lt hnx rfl) (e_vp (by decide)) ?_
      obtain rfl := Option.some.inj hf
      exact r_iret F hq dX12_back_54 rfl rfl (Nat.le_refl _) (Nat.le_refl _) ⟨rfl, rfl⟩
  · have hf := e_f hc hf
    refine r_iconst F dX12_back_12 (v := (-1)) (by decide) ?_
    refine r_mat (k := 79) h79 (l' := [(72, o72 0 a72_2 a72_3 a72_4 a72_5 a72_6 a72_7 a72_8 a72_9 a72_10 a72_11 a72_17 a72_18 a72_19 a72_21 a72_22 a72_29 a72_31 a72_35 a72_37 a72_38 a72_39 a72_40 a72_41 a72_44 a72_50), (79, o79 A79)]) rfl ?_
    obtain rfl := Option.some.inj hf
    exact r_iret F hq dX12_back_13 rfl rfl (Nat.le_refl _) (Nat.le_refl _) ⟨rfl, rfl⟩

def fX12_bad (a72_4 : Int32) (a72_5 : Int32)  : Option (Int32) :=
  if a72_5 = (-1) then
    some a72_4
  else
    some a72_5
set_option maxRecDepth 100000 in
theorem tX12_bad_72 {G : eG} (hG : e_GS G) {la : Launch} {h : Nat → eO} {nx : Nat} (hnx : 99 ≤ nx) {a72_0 : Int32} {a72_2 : Int32} {a72_3 : Int32} {a72_4 : Int32} {a72_5 : Int32} {a72_6 : Int32} {a72_7 : Int32} {a72_8 : Bool} {a72_9 : Int32} {a72_10 : Int32} {a72_11 : Int32} {a72_17 : Bool} {a72_18 : Bool} {a72_19 : Bool} {a72_21 : Int32} {a72_22 : Int32} {a72_29 : Int32} {a72_31 : Int32} {a72_35 : Int32} {a72_37 : Bool} {a72_38 : Int32} {a72_39 : Int32} {a72_40 : Int32} {a72_41 : Int64} {a72_44 : Int32} {a72_50 : Bool}  (h72 : h 72 = o72 a72_0 a72_2 a72_3 a72_4 a72_5 a72_6 a72_7 a72_8 a72_9 a72_10 a72_11 a72_17 a72_18 a72_19 a72_21 a72_22 a72_29 a72_31 a72_35 a72_37 a72_38 a72_39 a72_40 a72_41 a72_44 a72_50) {R9 : Int32} (hf : fX12_bad a72_4 a72_5  = some R9) :
    eSem G la MX12_bad [.ref 72] h nx 0 0 (fun r9 h9 => r9 = none ∧ h9 = e_up h [(72, o72 a72_0 a72_2 a72_3 a72_4 R9 a72_6 a72_7 a72_8 a72_9 a72_10 a72_11 a72_17 a72_18 a72_19 a72_21 a72_22 a72_29 a72_31 a72_35 a72_37 a72_38 a72_39 a72_40 a72_41 a72_44 a72_50)]) := by
  refine eSem.of (k := 0) (L := [some (.ref 72)]) (by decide +kernel) rfl rfl (fun X F hxl hq hcR hsR => ?_)
  subst hxl
  unfold fX12_bad at hf
  refine r_aload_n F dX12_bad_0 rfl ?_
  refine r_aload_n F dX12_bad_1 rfl ?_
  refine r_get F dX12_bad_2 flX12_134 h72 rfl (e_le rfl) (e_lt hnx rfl) ?_
  refine r_iconst F dX12_bad_5 (v := (-1)) (by decide) ?_
  refine r_icmp_ne F dX12_bad_6 (tgt := 16) (by decide) (fun hc => ?_) (fun hc => ?_)
  · have hf := e_f hc hf
    refine r_aload_n F dX12_bad_16 rfl ?_
    refine r_get F dX12_bad_17 flX12_134 h72 rfl (e_le rfl) (e_lt hnx rfl) ?_
    refine r_put F dX12_bad_20 flX12_134 rfl rfl rfl h72 (e_le rfl) (e_le rfl) (e_lt hnx rfl) (l' := [(72, o72 a72_0 a72_2 a72_3 a72_4 a72_5 a72_6 a72_7 a72_8 a72_9 a72_10 a72_11 a72_17 a72_18 a72_19 a72_21 a72_22 a72_29 a72_31 a72_35 a72_37 a72_38 a72_39 a72_40 a72_41 a72_44 a72_50)]) rfl ?_
    obtain rfl := Option.some.inj hf
    exact r_vret F hq dX12_bad_23 rfl rfl (Nat.le_refl _) (Nat.le_refl _) ⟨rfl, rfl⟩
  · have hf := e_t hc hf
    refine r_aload_n F dX12_bad_9 rfl ?_
    refine r_get F dX12_bad_10 flX12_108 h72 rfl (e_le rfl) (e_lt hnx rfl) ?_
    refine r_goto F dX12_bad_13 (tgt := 20) (by decide) ?_
    refine r_put F dX12_bad_20 flX12_134 rfl rfl rfl h72 (e_le rfl) (e_le rfl) (e_lt hnx rfl) (l' := [(72, o72 a72_0 a72_2 a72_3 a72_4 a72_4 a72_6 a72_7 a72_8 a72_9 a72_10 a72_11 a72_17 a72_18 a72_19 a72_21 a72_22 a72_29 a72_31 a72_35 a72_37 a72_38 a72_39 a72_40 a72_41 a72_44 a72_50)]) rfl ?_
    obtain rfl := Option.some.inj hf
    exact r_vret F hq dX12_bad_23 rfl rfl (Nat.le_refl _) (Nat.le_refl _) ⟨rfl, rfl⟩

def fX12_coresIn (A79 : Nat → Int32) (p0 : Int32) (p1 : Int32) (p2 : Int32) (p3 : Int32) : Option (Int32) :=
  (e_loop (fun (v3 : Int32 × Int32) => (
      if p3 ≤ v3.2 then
        some (.inr v3.1)
      else
        (e_loop (fun (v7 : Int32 × Int32) => (
            if p2 ≤ v7.2 then
              some (.inr v7.1)
            else
              (fX12_isCore A79 v7.2 v3.2).bind (fun q10 =>
              Option.bind (α := Bool) (
                if q10 = true then
                  some true
                else
                  some false) (fun q12 =>
              some (.inl (v7.1 + (e_b q12), v7.2 + 1)))) : Option ((Int32 × Int32) ⊕ (Int32)))) e_fuel (v3.1, p0)).bind (fun x8 =>
        some (.inl (x8, v3.2 + 1))) : Option ((Int32 × Int32) ⊕ (Int32)))) e_fuel (0, p1)).bind (fun x4 =>
  some x4)
set_option maxRecDepth 100000 in
theorem tX12_coresIn_72 {G : eG} (hG : e_GS G) {la : Launch} {h : Nat → eO} {nx : Nat} (hnx : 99 ≤ nx) {a72_0 : Int32} {a72_2 : Int32} {a72_3 : Int32} {a72_4 : Int32} {a72_5 : Int32} {a72_6 : Int32} {a72_7 : Int32} {a72_8 : Bool} {a72_9 : Int32} {a72_10 : Int32} {a72_11 : Int32} {a72_17 : Bool} {a72_18 : Bool} {a72_19 : Bool} {a72_21 : Int32} {a72_22 : Int32} {a72_29 : Int32} {a72_31 : Int32} {a72_35 : Int32} {a72_37 : Bool} {a72_38 : Int32} {a72_39 : Int32} {a72_40 : Int32} {a72_41 : Int64} {a72_44 : Int32} {a72_50 : Bool} {A79 : Nat → Int32} {p0 : Int32} {p1 : Int32} {p2 : Int32} {p3 : Int32} (h72 : h 72 = o72 a72_0 a72_2 a72_3 a72_4 a72_5 a72_6 a72_7 a72_8 a72_9 a72_10 a72_11 a72_17 a72_18 a72_19 a72_21 a72_22 a72_29 a72_31 a72_35 a72_37 a72_38 a72_39 a72_40 a72_41 a72_44 a72_50) (h79 : h 79 = o79 A79) {R9 : Int32} (hf : fX12_coresIn A79 p0 p1 p2 p3 = some R9) :
    eSem G la MX12_coresIn [.ref 72, .int p0, .int p1, .int p2, .int p3] h nx 0 0 (fun r9 h9 => r9 = some (.int R9) ∧ h9 = h) := by
  refine eSem.of (k := 3) (L := [some (.ref 72), some (.int p0), some (.int p1), some (.int p2), some (.int p3), none, none, none]) (by decide +kernel) rfl rfl (fun X F hxl hq hcR hsR => ?_)
  subst hxl
  unfold fX12_coresIn at hf
  refine r_iconst F dX12_coresIn_0 (v := 0) (by decide) ?_
  refine r_istore F dX12_coresIn_1 (e_le rfl) (L' := [some (.ref 72), some (.int p0), some (.int p1), some (.int p2), some (.int p3), some (.int 0), none, none]) rfl ?_
  refine r_iload_n F dX12_coresIn_3 rfl ?_
  refine r_istore F dX12_coresIn_4 (e_le rfl) (L' := [some (.ref 72), some (.int p0), some (.int p1), some (.int p2), some (.int p3), some (.int 0), some (.int p1), none]) rfl ?_
  refine r_drop 2 (L' := [some (.ref 72), some (.int p0), none, some (.int p2), some (.int p3), some (.int 0), some (.int p1), none]) rfl ?_
  obtain ⟨x4, hx5, hf⟩ := e_bd hf
  refine (e_loop_ok (P := fun (v3 : Int32 × Int32) => eRun G X 6 [some (.ref 72), some (.int p0), none, some (.int p2), some (.int p3), some (.int v3.1), some (.int v3.2), none] [] h [] nx 0 0) (K := fun (x4 : Int32) => eRun G X 55 [none, none, none, none, none, some (.int x4), none, none] [] h [] nx 0 0) ?_ e_fuel (0, p1) x4 hx5 ?_ : _)
  · intro v3 z hz ih hx
    refine r_iload F dX12_coresIn_6 rfl ?_
    refine r_iload F dX12_coresIn_8 rfl ?_
    refine r_icmp_ge F dX12_coresIn_10 (tgt := 55) (by decide) (fun hc => ?_) (fun hc => ?_)
    · have hz := e_t hc hz
      refine r_drop 0 (L' := [none, some (.int p0), none, some (.int p2), some (.int p3), some (.int v3.1), some (.int v3.2), none]) rfl ?_
      refine r_drop 1 (L' := [none, none, none, some (.int p2), some (.int p3), some (.int v3.1), some (.int v3.2), none]) rfl ?_
      refine r_drop 3 (L' := [none, none, none, none, some (.int p3), some (.int v3.1), some (.int v3.2), none]) rfl ?_
      refine r_drop 4 (L' := [none, none, none, none, none, some (.int v3.1), some (.int v3.2), none]) rfl ?_
      refine r_drop 6 (L' := [none, none, none, none, none, some (.int v3.1), none, none]) rfl ?_
      obtain rfl := Option.some.inj hz
      exact hx v3.1 rfl
    · have hz := e_f hc hz
      refine r_iload_n F dX12_coresIn_13 rfl ?_
      refine r_istore F dX12_coresIn_14 (e_le rfl) (L' := [some (.ref 72), some (.int p0), none, some (.int p2), some (.int p3), some (.int v3.1), some (.int v3.2), some (.int p0)]) rfl ?_
      obtain ⟨x8, hx9, hz⟩ := e_bd hz
      refine (e_loop_ok (P := fun (v7 : Int32 × Int32) => eRun G X 16 [some (.ref 72), some (.int p0), none, some (.int p2), some (.int p3), some (.int v7.1), some (.int v3.2), some (.int v7.2)] [] h [] nx 0 0) (K := fun (x8 : Int32) => eRun G X 49 [some (.ref 72), some (.int p0), none, some (.int p2), some (.int p3), some (.int x8), some (.int v3.2), none] [] h [] nx 0 0) ?_ e_fuel (v3.1, p0) x8 hx9 ?_ : _)
      · intro v7 z hz ih hx
        refine r_iload F dX12_coresIn_16 rfl ?_
        refine r_iload_n F dX12_coresIn_18 rfl ?_
        refine r_icmp_ge F dX12_coresIn_19 (tgt := 49) (by decide) (fun hc => ?_) (fun hc => ?_)
        · have hz := e_t hc hz
          refine r_drop 7 (L' := [some (.ref 72), some (.int p0), none, some (.int p2), some (.int p3), some (.int v7.1), some (.int v3.2), none]) rfl ?_
          obtain rfl := Option.some.inj hz
          exact hx v7.1 rfl
        · have hz := e_f hc hz
          refine r_iload F dX12_coresIn_22 rfl ?_
          refine r_aload_n F dX12_coresIn_24 rfl ?_
          refine r_iload F dX12_coresIn_25 rfl ?_
          refine r_iload F dX12_coresIn_27 rfl ?_
          obtain ⟨q10, hq11, hz⟩ := e_bd hz
          refine r_callV F dX12_coresIn_29 (b := 72) (dc := 0) (ds := 0) (As := [.int v7.2, .int v3.2]) (S0 := [.int v7.1]) lkX12_244 mX12_isCore (tX12_isCore_72 hG (la := x_l X) (h := e_up h []) hnx h72 h79 hq11) rfl rfl rfl (e_le rfl) (e_le rfl) (e_le rfl) h72 (ci := 12) e_cl12.1 rfl (e_le rfl) (e_lt hnx rfl) (Nat.zero_le _) (Nat.zero_le _) (e_k ?_)
          refine r_wr0 ?_
          obtain ⟨q12, hq13, hz⟩ := e_bd hz
          have Jq12 : eRun G X 40 [some (.ref 72), some (.int p0), none, some (.int p2), some (.int p3), none, some (.int v3.2), some (.int v7.2)] [.int (e_b q12), .int v7.1] h [] nx 0 0 := by
            refine r_iadd F dX12_coresIn_40 ?_
            refine r_istore F dX12_coresIn_41 (e_le rfl) (L' := [some (.ref 72), some (.int p0), none, some (.int p2), some (.int p3), some (.int (v7.1 + (e_b q12))), some (.int v3.2), some (.int v7.2)]) rfl ?_
            refine r_inc F dX12_coresIn_43 (k9 := 1) (by decide) rfl (L' := [some (.ref 72), some (.int p0), none, some (.int p2), some (.int p3), some (.int (v7.1 + (e_b q12))), some (.int v3.2), some (.int (v7.2 + 1))]) rfl ?_
            refine r_goto F dX12_coresIn_46 (tgt := 16) (by decide) ?_
            obtain rfl := Option.some.inj hz
            exact ih (v7.1 + (e_b q12), v7.2 + 1) rfl
          refine r_z_eq F dX12_coresIn_32 (tgt := 39) (by decide) (fun hc => ?_) (fun hc => ?_)
          · have hq13 := e_t hc hq13
            refine r_iconst F dX12_coresIn_35 (v := 1) (by decide) ?_
            refine r_goto F dX12_coresIn_36 (tgt := 40) (by decide) ?_
            refine r_drop 5 (L' := [some (.ref 72), some (.int p0), none, some (.int p2), some (.int p3), none, some (.int v3.2), some (.int v7.2)]) rfl ?_
            obtain rfl := Option.some.inj hq13
            exact Jq12
          · have hq13 := e_f hc hq13
            refine r_iconst F dX12_coresIn_39 (v := 0) (by decide) ?_
            refine r_drop 5 (L' := [some (.ref 72), some (.int p0), none, some (.int p2), some (.int p3), none, some (.int v3.2), some (.int v7.2)]) rfl ?_
            obtain rfl := Option.some.inj hq13
            exact Jq12
      · show eRun G X 49 [some (.ref 72), some (.int p0), none, some (.int p2), some (.int p3), some (.int x8), some (.int v3.2), none] [] h [] nx 0 0
        refine r_inc F dX12_coresIn_49 (k9 := 1) (by decide) rfl (L' := [some (.ref 72), some (.int p0), none, some (.int p2), some (.int p3), some (.int x8), some (.int (v3.2 + 1)), none]) rfl ?_
        refine r_goto F dX12_coresIn_52 (tgt := 6) (by decide) ?_
        obtain rfl := Option.some.inj hz
        exact ih (x8, v3.2 + 1) rfl
  · show eRun G X 55 [none, none, none, none, none, some (.int x4), none, none] [] h [] nx 0 0
    refine r_iload F dX12_coresIn_55 rfl ?_
    obtain rfl := Option.some.inj hf
    exact r_iret F hq dX12_coresIn_57 rfl rfl (Nat.le_refl _) (Nat.le_refl _) ⟨rfl, rfl⟩

def fX12_sumRound (A79 : Nat → Int32) (p0 : Int32) (p1 : Int32) (p2 : Int32) (p3 : Int32) (p4 : Int32) : Option (Int32) :=
  (e_loop (fun (v3 : Int32 × Int32) => (
      if p2 ≤ v3.2 then
        some (.inr v3.1)
      else
        (fX12_step A79 v3.2 p1 false p4).bind (fun q6 =>
        (fX12_step A79 v3.2 p3 false p4).bind (fun q8 =>
        some (.inl (v3.1 + (q6 - q8), v3.2 + 1)))) : Option ((Int32 × Int32) ⊕ (Int32)))) e_fuel (0, p0)).bind (fun x4 =>
  (e_loop (fun (v11 : Int32 × Int32) => (
      if p3 ≤ v11.2 then
        some (.inr v11.1)
      else
        (fX12_step A79 p2 v11.2 true p4).bind (fun q14 =>
        (fX12_step A79 p0 v11.2 true p4).bind (fun q16 =>
        some (.inl (v11.1 + (q14 - q16), v11.2 + 1)))) : Option ((Int32 × Int32) ⊕ (Int32)))) e_fuel (x4, p1)).bind (fun x12 =>
  some x12))
set_option maxRecDepth 100000 in
theorem tX12_sumRound_72 {G : eG} (hG : e_GS G) {la : Launch} {h : Nat → eO} {nx : Nat} (hnx : 99 ≤ nx) {a72_0 : Int32} {a72_2 : Int32} {a72_3 : Int32} {a72_4 : Int32} {a72_5 : Int32} {a72_6 : Int32} {a72_7 : Int32} {a72_8 : Bool} {a72_9 : Int32} {a72_10 : Int32} {a72_11 : Int32} {a72_17 : Bool} {a72_18 : Bool} {a72_19 : Bool} {a72_21 : Int32} {a72_22 : Int32} {a72_29 : Int32} {a72_31 : Int32} {a72_35 : Int32} {a72_37 : Bool} {a72_38 : Int32} {a72_39 : Int32} {a72_40 : Int32} {a72_41 : Int64} {a72_44 : Int32} {a72_50 : Bool} {A79 : Nat → Int32} {p0 : Int32} {p1 : Int32} {p2 : Int32} {p3 : Int32} {p4 : Int32} (h72 : h 72 = o72 a72_0 a72_2 a72_3 a72_4 a72_5 a72_6 a72_7 a72_8 a72_9 a72_10 a72_11 a72_17 a72_18 a72_19 a72_21 a72_22 a72_29 a72_31 a72_35 a72_37 a72_38 a72_39 a72_40 a72_41 a72_44 a72_50) (h79 : h 79 = o79 A79) {R9 : Int32} (hf : fX12_sumRound A79 p0 p1 p2 p3 p4 = some R9) :
    eSem G la MX12_sumRound [.ref 72, .int p0, .int p1, .int p2, .int p3, .int p4] h nx 0 0 (fun r9 h9 => r9 = some (.int R9) ∧ h9 = h) := by
  refine eSem.of (k := 2) (L := [some (.ref 72), some (.int p0), some (.int p1), some (.int p2), some (.int p3), some (.int p4), none, none]) (by decide +kernel) rfl rfl (fun X F hxl hq hcR hsR => ?_)
  subst hxl
  unfold fX12_sumRound at hf
  refine r_iconst F dX12_sumRound_0 (v := 0) (by decide) ?_
  refine r_istore F dX12_sumRound_1 (e_le rfl) (L' := [some (.ref 72), some (.int p0), some (.int p1), some (.int p2), some (.int p3), some (.int p4), some (.int 0), none]) rfl ?_
  refine r_iload_n F dX12_sumRound_3 rfl ?_
  refine r_istore F dX12_sumRound_4 (e_le rfl) (L' := [some (.ref 72), some (.int p0), some (.int p1), some (.int p2), some (.int p3), some (.int p4), some (.int 0), some (.int p0)]) rfl ?_
  obtain ⟨x4, hx5, hf⟩ := e_bd hf
  refine (e_loop_ok (P := fun (v3 : Int32 × Int32) => eRun G X 6 [some (.ref 72), some (.int p0), some (.int p1), some (.int p2), some (.int p3), some (.int p4), some (.int v3.1), some (.int v3.2)] [] h [] nx 0 0) (K := fun (x4 : Int32) => eRun G X 45 [some (.ref 72), some (.int p0), some (.int p1), some (.int p2), some (.int p3), some (.int p4), some (.int x4), none] [] h [] nx 0 0) ?_ e_fuel (0, p0) x4 hx5 ?_ : _)
  · intro v3 z hz ih hx
    refine r_iload F dX12_sumRound_6 rfl ?_
    refine r_iload_n F dX12_sumRound_8 rfl ?_
    refine r_icmp_ge F dX12_sumRound_9 (tgt := 45) (by decide) (fun hc => ?_) (fun hc => ?_)
    · have hz := e_t hc hz
      refine r_drop 7 (L' := [some (.ref 72), some (.int p0), some (.int p1), some (.int p2), some (.int p3), some (.int p4), some (.int v3.1), none]) rfl ?_
      obtain rfl := Option.some.inj hz
      exact hx v3.1 rfl
    · have hz := e_f hc hz
      refine r_iload F dX12_sumRound_12 rfl ?_
      refine r_aload_n F dX12_sumRound_14 rfl ?_
      refine r_iload F dX12_sumRound_15 rfl ?_
      refine r_iload_n F dX12_sumRound_17 rfl ?_
      refine r_iconst F dX12_sumRound_18 (v := 0) (by decide) ?_
      refine r_iload F dX12_sumRound_19 rfl ?_
      obtain ⟨q6, hq7, hz⟩ := e_bd hz
      refine r_callV F dX12_sumRound_21 (b := 72) (dc := 0) (ds := 0) (As := [.int v3.2, .int p1, .int 0, .int p4]) (S0 := [.int v3.1]) lkX12_218 mX12_step (tX12_step_72 hG (la := x_l X) (h := e_up h []) hnx h72 h79 hq7) rfl rfl rfl (e_le rfl) (e_le rfl) (e_le rfl) h72 (ci := 12) e_cl12.1 rfl (e_le rfl) (e_lt hnx rfl) (Nat.zero_le _) (Nat.zero_le _) (e_k ?_)
      refine r_wr0 ?_
      refine r_aload_n F dX12_sumRound_24 rfl ?_
      refine r_iload F dX12_sumRound_25 rfl ?_
      refine r_iload F dX12_sumRound_27 rfl ?_
      refine r_iconst F dX12_sumRound_29 (v := 0) (by decide) ?_
      refine r_iload F dX12_sumRound_30 rfl ?_
      obtain ⟨q8, hq9, hz⟩ := e_bd hz
      refine r_callV F dX12_sumRound_32 (b := 72) (dc := 0) (ds := 0) (As := [.int v3.2, .int p3, .int 0, .int p4]) (S0 := [.int q6, .int v3.1]) lkX12_218 mX12_step (tX12_step_72 hG (la := x_l X) (h := e_up h []) hnx h72 h79 hq9) rfl rfl rfl (e_le rfl) (e_le rfl) (e_le rfl) h72 (ci := 12) e_cl12.1 rfl (e_le rfl) (e_lt hnx rfl) (Nat.zero_le _) (Nat.zero_le _) (e_k ?_)
      refine r_wr0 ?_
      refine r_isub F dX12_sumRound_35 ?_
      refine r_iadd F dX12_sumRound_36 ?_
      refine r_istore F dX12_sumRound_37 (e_le rfl) (L' := [some (.ref 72), some (.int p0), some (.int p1), some (.int p2), some (.int p3), some (.int p4), some (.int (v3.1 + (q6 - q8))), some (.int v3.2)]) rfl ?_
      refine r_inc F dX12_sumRound_39 (k9 := 1) (by decide) rfl (L' := [some (.ref 72), some (.int p0), some (.int p1), some (.int p2), some (.int p3), some (.int p4), some (.int (v3.1 + (q6 - q8))), some (.int (v3.2 + 1))]) rfl ?_
      refine r_goto F dX12_sumRound_42 (tgt := 6) (by decide) ?_
      obtain rfl := Option.some.inj hz
      exact ih (v3.1 + (q6 - q8), v3.2 + 1) rfl
  · show eRun G X 45 [some (.ref 72), some (.int p0), some (.int p1), some (.int p2), some (.int p3), some (.int p4), some (.int x4), none] [] h [] nx 0 0
    refine r_iload_n F dX12_sumRound_45 rfl ?_
    refine r_istore F dX12_sumRound_46 (e_le rfl) (L' := [some (.ref 72), some (.int p0), some (.int p1), some (.int p2), some (.int p3), some (.int p4), some (.int x4), some (.int p1)]) rfl ?_
    refine r_drop 2 (L' := [some (.ref 72), some (.int p0), none, some (.int p2), some (.int p3), some (.int p4), some (.int x4), some (.int p1)]) rfl ?_
    obtain ⟨x12, hx13, hf⟩ := e_bd hf
    refine (e_loop_ok (P := fun (v11 : Int32 × Int32) => eRun G X 48 [some (.ref 72), some (.int p0), none, some (.int p2), some (.int p3), some (.int p4), some (.int v11.1), some (.int v11.2)] [] h [] nx 0 0) (K := fun (x12 : Int32) => eRun G X 87 [none, none, none, none, none, none, some (.int x12), none] [] h [] nx 0 0) ?_ e_fuel (x4, p1) x12 hx13 ?_ : _)
    · intro v11 z hz ih hx
      refine r_iload F dX12_sumRound_48 rfl ?_
      refine r_iload F dX12_sumRound_50 rfl ?_
      refine r_icmp_ge F dX12_sumRound_52 (tgt := 87) (by decide) (fun hc => ?_) (fun hc => ?_)
      · have hz := e_t hc hz
        refine r_drop 0 (L' := [none, some (.int p0), none, some (.int p2), some (.int p3), some (.int p4), some (.int v11.1), some (.int v11.2)]) rfl ?_
        refine r_drop 1 (L' := [none, none, none, some (.int p2), some (.int p3), some (.int p4), some (.int v11.1), some (.int v11.2)]) rfl ?_
        refine r_drop 3 (L' := [none, none, none, none, some (.int p3), some (.int p4), some (.int v11.1), some (.int v11.2)]) rfl ?_
        refine r_drop 4 (L' := [none, none, none, none, none, some (.int p4), some (.int v11.1), some (.int v11.2)]) rfl ?_
        refine r_drop 5 (L' := [none, none, none, none, none, none, some (.int v11.1), some (.int v11.2)]) rfl ?_
        refine r_drop 7 (L' := [none, none, none, none, none, none, some (.int v11.1), none]) rfl ?_
        obtain rfl := Option.some.inj hz
        exact hx v11.1 rfl
      · have hz := e_f hc hz
        refine r_iload F dX12_sumRound_55 rfl ?_
        refine r_aload_n F dX12_sumRound_57 rfl ?_
        refine r_iload_n F dX12_sumRound_58 rfl ?_
        refine r_iload F dX12_sumRound_59 rfl ?_
        refine r_iconst F dX12_sumRound_61 (v := 1) (by decide) ?_
        refine r_iload F dX12_sumRound_62 rfl ?_
        obtain ⟨q14, hq15, hz⟩ := e_bd hz
        refine r_callV F dX12_sumRound_64 (b := 72) (dc := 0) (ds := 0) (As := [.int p2, .int v11.2, .int 1, .int p4]) (S0 := [.int v11.1]) lkX12_218 mX12_step (tX12_step_72 hG (la := x_l X) (h := e_up h []) hnx h72 h79 hq15) rfl rfl rfl (e_le rfl) (e_le rfl) (e_le rfl) h72 (ci := 12) e_cl12.1 rfl (e_le rfl) (e_lt hnx rfl) (Nat.zero_le _) (Nat.zero_le _) (e_k ?_)
        refine r_wr0 ?_
        refine r_aload_n F dX12_sumRound_67 rfl ?_
        refine r_iload_n F dX12_sumRound_68 rfl ?_
        refine r_iload F dX12_sumRound_69 rfl ?_
        refine r_iconst F dX12_sumRound_71 (v := 1) (by decide) ?_
        refine r_iload F dX12_sumRound_72 rfl ?_
        obtain ⟨q16, hq17, hz⟩ := e_bd hz
        refine r_callV F dX12_sumRound_74 (b := 72) (dc := 0) (ds := 0) (As := [.int p0, .int v11.2, .int 1, .int p4]) (S0 := [.int q14, .int v11.1]) lkX12_218 mX12_step (tX12_step_72 hG (la := x_l X) (h := e_up h []) hnx h72 h79 hq17) rfl rfl rfl (e_le rfl) (e_le rfl) (e_le rfl) h72 (ci := 12) e_cl12.1 rfl (e_le rfl) (e_lt hnx rfl) (Nat.zero_le _) (Nat.zero_le _) (e_k ?_)
        refine r_wr0 ?_
        refine r_isub F dX12_sumRound_77 ?_
        refine r_iadd F dX12_sumRound_78 ?_
        refine r_istore F dX12_sumRound_79 (e_le rfl) (L' := [some (.ref 72), some (.int p0), none, some (.int p2), some (.int p3), some (.int p4), some (.int (v11.1 + (q14 - q16))), some (.int v11.2)]) rfl ?_
        refine r_inc F dX12_sumRound_81 (k9 := 1) (by decide) rfl (L' := [some (.ref 72), some (.int p0), none, some (.int p2), some (.int p3), some (.int p4), some (.int (v11.1 + (q14 - q16))), some (.int (v11.2 + 1))]) rfl ?_
        refine r_goto F dX12_sumRound_84 (tgt := 48) (by decide) ?_
        obtain rfl := Option.some.inj hz
        exact ih (v11.1 + (q14 - q16), v11.2 + 1) rfl
    · show eRun G X 87 [none, none, none, none, none, none, some (.int x12), none] [] h [] nx 0 0
      refine r_iload F dX12_sumRound_87 rfl ?_
      obtain rfl := Option.some.inj hf
      exact r_iret F hq dX12_sumRound_89 rfl rfl (Nat.le_refl _) (Nat.le_refl _) ⟨rfl, rfl⟩

def fX12_box (a72_0 : Int32) (a72_21 : Int32) (a72_22 : Int32) (A79 : Nat → Int32) (p0 : Int32) (p1 : Int32) (p2 : Int32) (p3 : Int32) (p4 : Int32) : Option (Int32 × Int32) :=
  (fX12_isCrystal a72_21).bind (fun q1 =>
  if q1 = true then
    (fX12_isSite a72_21 a72_22 p0 p1).bind (fun q3 =>
    if q3 = true then
      (fX12_isSite a72_21 a72_22 p2 p3).bind (fun q5 =>
      if q5 = true then
        if p2 ≤ p0 then
          some ((-1000000), 0)
        else
          if p3 ≤ p1 then
            some ((-1000000), 0)
          else
            (fX12_in (Int32.toInt64 p4) 0 3).bind (fun q7 =>
            if q7 = true then
              if 2 ≤ p4 then
                if p4 = 2 then
                  (fX12_coresIn A79 p0 p1 p2 p3).bind (fun q9 =>
                  some (q9, 0))
                else
                  some ((2 : Int32) * (((p2 - p0) + p3) - p1), 0)
              else
                (fX12_sumRound A79 p0 p1 p2 p3 p4).bind (fun q11 =>
                some (q11, 0))
            else
              some ((-1000000), 0))
      else
        some ((-1000000), 0))
    else
      some ((-1000000), 0))
  else
    some ((-1000000), 0))
set_option maxRecDepth 100000 in
theorem tX12_box_72 {G : eG} (hG : e_GS G) {la : Launch} {h : Nat → eO} {nx : Nat} (hnx : 99 ≤ nx) {a72_0 : Int32} {a72_2 : Int32} {a72_3 : Int32} {a72_4 : Int32} {a72_5 : Int32} {a72_6 : Int32} {a72_7 : Int32} {a72_8 : Bool} {a72_9 : Int32} {a72_10 : Int32} {a72_11 : Int32} {a72_17 : Bool} {a72_18 : Bool} {a72_19 : Bool} {a72_21 : Int32} {a72_22 : Int32} {a72_29 : Int32} {a72_31 : Int32} {a72_35 : Int32} {a72_37 : Bool} {a72_38 : Int32} {a72_39 : Int32} {a72_40 : Int32} {a72_41 : Int64} {a72_44 : Int32} {a72_50 : Bool} {A79 : Nat → Int32} {p0 : Int32} {p1 : Int32} {p2 : Int32} {p3 : Int32} {p4 : Int32} (h72 : h 72 = o72 a72_0 a72_2 a72_3 a72_4 a72_5 a72_6 a72_7 a72_8 a72_9 a72_10 a72_11 a72_17 a72_18 a72_19 a72_21 a72_22 a72_29 a72_31 a72_35 a72_37 a72_38 a72_39 a72_40 a72_41 a72_44 a72_50) (h79 : h 79 = o79 A79) {R9 : Int32 × Int32} (hf : fX12_box a72_0 a72_21 a72_22 A79 p0 p1 p2 p3 p4 = some R9) :
    eSem G la MX12_box [.ref 72, .int p0, .int p1, .int p2, .int p3, .int p4] h nx 0 0 (fun r9 h9 => r9 = some (.int R9.1) ∧ h9 = e_up h [(72, o72 R9.2 a72_2 a72_3 a72_4 a72_5 a72_6 a72_7 a72_8 a72_9 a72_10 a72_11 a72_17 a72_18 a72_19 a72_21 a72_22 a72_29 a72_31 a72_35 a72_37 a72_38 a72_39 a72_40 a72_41 a72_44 a72_50)]) := by
  refine eSem.of (k := 0) (L := [some (.ref 72), some (.int p0), some (.int p1), some (.int p2), some (.int p3), some (.int p4)]) (by decide +kernel) rfl rfl (fun X F hxl hq hcR hsR => ?_)
  subst hxl
  unfold fX12_box at hf
  refine r_aload_n F dX12_box_0 rfl ?_
  refine r_iconst F dX12_box_1 (v := 0) (by decide) ?_
  refine r_put F dX12_box_2 flX12_86 rfl rfl rfl h72 (e_le rfl) (e_le rfl) (e_lt hnx rfl) (l' := [(72, o72 0 a72_2 a72_3 a72_4 a72_5 a72_6 a72_7 a72_8 a72_9 a72_10 a72_11 a72_17 a72_18 a72_19 a72_21 a72_22 a72_29 a72_31 a72_35 a72_37 a72_38 a72_39 a72_40 a72_41 a72_44 a72_50)]) rfl ?_
  refine r_aload_n F dX12_box_5 rfl ?_
  obtain ⟨q1, hq2, hf⟩ := e_bd hf
  refine r_callV F dX12_box_6 (b := 72) (dc := 0) (ds := 0) (As := []) (S0 := []) lkX12_306 mX12_isCrystal (tX12_isCrystal_72 hG (la := x_l X) (h := e_up h [(72, o72 0 a72_2 a72_3 a72_4 a72_5 a72_6 a72_7 a72_8 a72_9 a72_10 a72_11 a72_17 a72_18 a72_19 a72_21 a72_22 a72_29 a72_31 a72_35 a72_37 a72_38 a72_39 a72_40 a72_41 a72_44 a72_50)]) hnx rfl hq2) rfl rfl rfl (e_le rfl) (e_le rfl) (e_le rfl) rfl (ci := 12) e_cl12.1 rfl (e_le rfl) (e_lt hnx rfl) (Nat.zero_le _) (Nat.zero_le _) (e_k ?_)
  refine r_wr0 ?_
  refine r_z_eq F dX12_box_9 (tgt := 55) (by decide) (fun hc => ?_) (fun hc => ?_)
  · have hf := e_t hc hf
    refine r_aload_n F dX12_box_12 rfl ?_
    refine r_iload_n F dX12_box_13 rfl ?_
    refine r_iload_n F dX12_box_14 rfl ?_
    obtain ⟨q3, hq4, hf⟩ := e_bd hf
    refine r_callV F dX12_box_15 (b := 72) (dc := 0) (ds := 0) (As := [.int p0, .int p1]) (S0 := []) lkX12_215 mX12_isSite (tX12_isSite_72 hG (la := x_l X) (h := e_up h [(72, o72 0 a72_2 a72_3 a72_4 a72_5 a72_6 a72_7 a72_8 a72_9 a72_10 a72_11 a72_17 a72_18 a72_19 a72_21 a72_22 a72_29 a72_31 a72_35 a72_37 a72_38 a72_39 a72_40 a72_41 a72_44 a72_50)]) hnx rfl hq4) rfl rfl rfl (e_le rfl) (e_le rfl) (e_le rfl) rfl (ci := 12) e_cl12.1 rfl (e_le rfl) (e_lt hnx rfl) (Nat.zero_le _) (Nat.zero_le _) (e_k ?_)
    refine r_wr0 ?_
    refine r_z_eq F dX12_box_18 (tgt := 55) (by decide) (fun hc => ?_) (fun hc => ?_)
    · have hf := e_t hc hf
      refine r_aload_n F dX12_box_21 rfl ?_
      refine r_iload_n F dX12_box_22 rfl ?_
      refine r_iload F dX12_box_23 rfl ?_
      obtain ⟨q5, hq6, hf⟩ := e_bd hf
      refine r_callV F dX12_box_25 (b := 72) (dc := 0) (ds := 0) (As := [.int p2, .int p3]) (S0 := []) lkX12_215 mX12_isSite (tX12_isSite_72 hG (la := x_l X) (h := e_up h [(72, o72 0 a72_2 a72_3 a72_4 a72_5 a72_6 a72_7 a72_8 a72_9 a72_10 a72_11 a72_17 a72_18 a72_19 a72_21 a72_22 a72_29 a72_31 a72_35 a72_37 a72_38 a72_39 a72_40 a72_41 a72_44 a72_50)]) hnx rfl hq6) rfl rfl rfl (e_le rfl) (e_le rfl) (e_le rfl) rfl (ci := 12) e_cl12.1 rfl (e_le rfl) (e_lt hnx rfl) (Nat.zero_le _) (Nat.zero_le _) (e_k ?_)
      refine r_wr0 ?_
      refine r_z_eq F dX12_box_28 (tgt := 55) (by decide) (fun hc => ?_) (fun hc => ?_)
      · have hf := e_t hc hf
        refine r_iload_n F dX12_box_31 rfl ?_
        refine r_iload_n F dX12_box_32 rfl ?_
        refine r_icmp_ge F dX12_box_33 (tgt := 55) (by decide) (fun hc => ?_) (fun hc => ?_)
        · have hf := e_t hc hf
          refine r_ldcw F dX12_box_55 kcX12_310 ?_
          obtain rfl := Option.some.inj hf
          exact r_iret F hq dX12_box_58 rfl rfl (Nat.le_refl _) (Nat.le_refl _) ⟨rfl, rfl⟩
        · have hf := e_f hc hf
          refine r_iload_n F dX12_box_36 rfl ?_
          refine r_iload F dX12_box_37 rfl ?_
          refine r_icmp_ge F dX12_box_39 (tgt := 55) (by decide) (fun hc => ?_) (fun hc => ?_)
          · have hf := e_t hc hf
            refine r_ldcw F dX12_box_55 kcX12_310 ?_
            obtain rfl := Option.some.inj hf
            exact r_iret F hq dX12_box_58 rfl rfl (Nat.le_refl _) (Nat.le_refl _) ⟨rfl, rfl⟩
          · have hf := e_f hc hf
            refine r_iload F dX12_box_42 rfl ?_
            refine r_i2l F dX12_box_44 ?_
            refine r_lconst F dX12_box_45 (v := 0) (by decide) ?_
            refine r_ldc2 F dX12_box_46 klX12_291 ?_
            obtain ⟨q7, hq8, hf⟩ := e_bd hf
            refine r_callS F dX12_box_49 (dc := 0) (ds := 0) (As := [.long (Int32.toInt64 p4), .long 0, .long 3]) (S0 := []) lkX12_97 mX12_in (tX12_in hG (la := x_l X) (h := e_up h [(72, o72 0 a72_2 a72_3 a72_4 a72_5 a72_6 a72_7 a72_8 a72_9 a72_10 a72_11 a72_17 a72_18 a72_19 a72_21 a72_22 a72_29 a72_31 a72_35 a72_37 a72_38 a72_39 a72_40 a72_41 a72_44 a72_50)]) hnx  hq8) rfl rfl rfl (e_le rfl) (e_le rfl) (e_le rfl) (Nat.zero_le _) (Nat.zero_le _) (e_k ?_)
            refine r_wr0 ?_
            refine r_z_ne F dX12_box_52 (tgt := 59) (by decide) (fun hc => ?_) (fun hc => ?_)
            · have hf := e_t hc hf
              refine r_iload F dX12_box_59 rfl ?_
              refine r_iconst F dX12_box_61 (v := 2) (by decide) ?_
              refine r_icmp_ge F dX12_box_62 (tgt := 79) (by decide) (fun hc => ?_) (fun hc => ?_)
              · have hf := e_t hc hf
                refine r_iload F dX12_box_79 rfl ?_
                refine r_iconst F dX12_box_81 (v := 2) (by decide) ?_
                refine r_icmp_ne F dX12_box_82 (tgt := 97) (by decide) (fun hc => ?_) (fun hc => ?_)
                · have hf := e_f hc hf
                  refine r_iconst F dX12_box_97 (v := 2) (by decide) ?_
                  refine r_iload_n F dX12_box_98 rfl ?_
                  refine r_iload_n F dX12_box_99 rfl ?_
                  refine r_isub F dX12_box_100 ?_
                  refine r_iload F dX12_box_101 rfl ?_
                  refine r_iadd F dX12_box_103 ?_
                  refine r_iload_n F dX12_box_104 rfl ?_
                  refine r_isub F dX12_box_105 ?_
                  refine r_imul F dX12_box_106 ?_
                  obtain rfl := Option.some.inj hf
                  exact r_iret F hq dX12_box_107 rfl rfl (Nat.le_refl _) (Nat.le_refl _) ⟨rfl, rfl⟩
                · have hf := e_t hc hf
                  refine r_aload_n F dX12_box_85 rfl ?_
                  refine r_iload_n F dX12_box_86 rfl ?_
                  refine r_iload_n F dX12_box_87 rfl ?_
                  refine r_iload_n F dX12_box_88 rfl ?_
                  refine r_iload F dX12_box_89 rfl ?_
                  obtain ⟨q9, hq10, hf⟩ := e_bd hf
                  refine r_callV F dX12_box_91 (b := 72) (dc := 0) (ds := 0) (As := [.int p0, .int p1, .int p2, .int p3]) (S0 := []) lkX12_334 mX12_coresIn (tX12_coresIn_72 hG (la := x_l X) (h := e_up h [(72, o72 0 a72_2 a72_3 a72_4 a72_5 a72_6 a72_7 a72_8 a72_9 a72_10 a72_11 a72_17 a72_18 a72_19 a72_21 a72_22 a72_29 a72_31 a72_35 a72_37 a72_38 a72_39 a72_40 a72_41 a72_44 a72_50)]) hnx rfl h79 hq10) rfl rfl rfl (e_le rfl) (e_le rfl) (e_le rfl) rfl (ci := 12) e_cl12.1 rfl (e_le rfl) (e_lt hnx rfl) (Nat.zero_le _) (Nat.zero_le _) (e_k ?_)
                  refine r_wr0 ?_
                  refine r_goto F dX12_box_94 (tgt := 107) (by decide) ?_
                  obtain rfl := Option.some.inj hf
                  exact r_iret F hq dX12_box_107 rfl rfl (Nat.le_refl _) (Nat.le_refl _) ⟨rfl, rfl⟩
              · have hf := e_f hc hf
                refine r_aload_n F dX12_box_65 rfl ?_
                refine r_iload_n F dX12_box_66 rfl ?_
                refine r_iload_n F dX12_box_67 rfl ?_
                refine r_iload_n F dX12_box_68 rfl ?_
                refine r_iload F dX12_box_69 rfl ?_
                refine r_iload F dX12_box_71 rfl ?_
                obtain ⟨q11, hq12, hf⟩ := e_bd hf
                refine r_callV F dX12_box_73 (b := 72) (dc := 0) (ds := 0) (As := [.int p0, .int p1, .int p2, .int p3, .int p4]) (S0 := []) lkX12_314 mX12_sumRound (tX12_sumRound_72 hG (la := x_l X) (h := e_up h [(72, o72 0 a72_2 a72_3 a72_4 a72_5 a72_6 a72_7 a72_8 a72_9 a72_10 a72_11 a72_17 a72_18 a72_19 a72_21 a72_22 a72_29 a72_31 a72_35 a72_37 a72_38 a72_39 a72_40 a72_41 a72_44 a72_50)]) hnx rfl h79 hq12) rfl rfl rfl (e_le rfl) (e_le rfl) (e_le rfl) rfl (ci := 12) e_cl12.1 rfl (e_le rfl) (e_lt hnx rfl) (Nat.zero_le _) (Nat.zero_le _) (e_k ?_)
                refine r_wr0 ?_
                refine r_goto F dX12_box_76 (tgt := 107) (by decide) ?_
                obtain rfl := Option.some.inj hf
                exact r_iret F hq dX12_box_107 rfl rfl (Nat.le_refl _) (Nat.le_refl _) ⟨rfl, rfl⟩
            · have hf := e_f hc hf
              refine r_ldcw F dX12_box_55 kcX12_310 ?_
              obtain rfl := Option.some.inj hf
              exact r_iret F hq dX12_box_58 rfl rfl (Nat.le_refl _) (Nat.le_refl _) ⟨rfl, rfl⟩
      · have hf := e_f hc hf
        refine r_ldcw F dX12_box_55 kcX12_310 ?_
        obtain rfl := Option.some.inj hf
        exact r_iret F hq dX12_box_58 rfl rfl (Nat.le_refl _) (Nat.le_refl _) ⟨rfl, rfl⟩
    · have hf := e_f hc hf
      refine r_ldcw F dX12_box_55 kcX12_310 ?_
      obtain rfl := Option.some.inj hf
      exact r_iret F hq dX12_box_58 rfl rfl (Nat.le_refl _) (Nat.le_refl _) ⟨rfl, rfl⟩
  · have hf := e_f hc hf
    refine r_ldcw F dX12_box_55 kcX12_310 ?_
    obtain rfl := Option.some.inj hf
    exact r_iret F hq dX12_box_58 rfl rfl (Nat.le_refl _) (Nat.le_refl _) ⟨rfl, rfl⟩

def fX12_boxed (a72_35 : Int32) (A89 : Nat → Int32) (p0 : Int32) (p1 : Int32) (p2 : Int32) (p3 : Int32) : Option (Int32 × (Nat → Int32)) :=
  e_g (e_in ((4 : Int32) * a72_35) 72) (
  e_g (e_in (((4 : Int32) * a72_35) + 1) 72) (
  e_g (e_in (((4 : Int32) * a72_35) + 2) 72) (
  e_g (e_in (((4 : Int32) * a72_35) + 3) 72) (
  some (a72_35 + 1, upd (upd (upd (upd A89 (tn ((4 : Int32) * a72_35)) p0) (tn (((4 : Int32) * a72_35) + 1)) p1) (tn (((4 : Int32) * a72_35) + 2)) p2) (tn (((4 : Int32) * a72_35) + 3)) p3)))))
set_option maxRecDepth 100000 in
theorem tX12_boxed_72 {G : eG} (hG : e_GS G) {la : Launch} {h : Nat → eO} {nx : Nat} (hnx : 99 ≤ nx) {a72_0 : Int32} {a72_2 : Int32} {a72_3 : Int32} {a72_4 : Int32} {a72_5 : Int32} {a72_6 : Int32} {a72_7 : Int32} {a72_8 : Bool} {a72_9 : Int32} {a72_10 : Int32} {a72_11 : Int32} {a72_17 : Bool} {a72_18 : Bool} {a72_19 : Bool} {a72_21 : Int32} {a72_22 : Int32} {a72_29 : Int32} {a72_31 : Int32} {a72_35 : Int32} {a72_37 : Bool} {a72_38 : Int32} {a72_39 : Int32} {a72_40 : Int32} {a72_41 : Int64} {a72_44 : Int32} {a72_50 : Bool} {A89 : Nat → Int32} {p0 : Int32} {p1 : Int32} {p2 : Int32} {p3 : Int32} (h72 : h 72 = o72 a72_0 a72_2 a72_3 a72_4 a72_5 a72_6 a72_7 a72_8 a72_9 a72_10 a72_11 a72_17 a72_18 a72_19 a72_21 a72_22 a72_29 a72_31 a72_35 a72_37 a72_38 a72_39 a72_40 a72_41 a72_44 a72_50) (h89 : h 89 = o89 A89) {R9 : Int32 × (Nat → Int32)} (hf : fX12_boxed a72_35 A89 p0 p1 p2 p3 = some R9) :
    eSem G la MX12_boxed [.ref 72, .int p0, .int p1, .int p2, .int p3] h nx 0 0 (fun r9 h9 => r9 = none ∧ h9 = e_up h [(72, o72 a72_0 a72_2 a72_3 a72_4 a72_5 a72_6 a72_7 a72_8 a72_9 a72_10 a72_11 a72_17 a72_18 a72_19 a72_21 a72_22 a72_29 a72_31 R9.1 a72_37 a72_38 a72_39 a72_40 a72_41 a72_44 a72_50), (89, o89 R9.2)]) := by
  refine eSem.of (k := 0) (L := [some (.ref 72), some (.int p0), some (.int p1), some (.int p2), some (.int p3)]) (by decide +kernel) rfl rfl (fun X F hxl hq hcR hsR => ?_)
  subst hxl
  unfold fX12_boxed at hf
  refine r_aload_n F dX12_boxed_0 rfl ?_
  refine r_get F dX12_boxed_1 flX12_59 h72 rfl (e_le rfl) (e_lt hnx rfl) ?_
  refine r_iconst F dX12_boxed_4 (v := 4) (by decide) ?_
  refine r_aload_n F dX12_boxed_5 rfl ?_
  refine r_get F dX12_boxed_6 flX12_338 h72 rfl (e_le rfl) (e_lt hnx rfl) ?_
  refine r_imul F dX12_boxed_9 ?_
  refine r_iload_n F dX12_boxed_10 rfl ?_
  obtain ⟨hg, hf⟩ := e_gd hf
  refine r_iast F dX12_boxed_11 h89 (e_le rfl) (e_lt hnx rfl) (e_vp hg) (l' := [(89, o89 (upd A89 (tn ((4 : Int32) * a72_35)) p0))]) rfl ?_
  refine r_aload_n F dX12_boxed_12 rfl ?_
  refine r_get F dX12_boxed_13 flX12_59 h72 rfl (e_le rfl) (e_lt hnx rfl) ?_
  refine r_iconst F dX12_boxed_16 (v := 4) (by decide) ?_
  refine r_aload_n F dX12_boxed_17 rfl ?_
  refine r_get F dX12_boxed_18 flX12_338 h72 rfl (e_le rfl) (e_lt hnx rfl) ?_
  refine r_imul F dX12_boxed_21 ?_
  refine r_iconst F dX12_boxed_22 (v := 1) (by decide) ?_
  refine r_iadd F dX12_boxed_23 ?_
  refine r_iload_n F dX12_boxed_24 rfl ?_
  obtain ⟨hg, hf⟩ := e_gd hf
  refine r_iast F dX12_boxed_25 rfl (e_le rfl) (e_lt hnx rfl) (e_vp hg) (l' := [(89, o89 (upd (upd A89 (tn ((4 : Int32) * a72_35)) p0) (tn (((4 : Int32) * a72_35) + 1)) p1))]) rfl ?_
  refine r_aload_n F dX12_boxed_26 rfl ?_
  refine r_get F dX12_boxed_27 flX12_59 h72 rfl (e_le rfl) (e_lt hnx rfl) ?_
  refine r_iconst F dX12_boxed_30 (v := 4) (by decide) ?_
  refine r_aload_n F dX12_boxed_31 rfl ?_
  refine r_get F dX12_boxed_32 flX12_338 h72 rfl (e_le rfl) (e_lt hnx rfl) ?_
  refine r_imul F dX12_boxed_35 ?_
  refine r_iconst F dX12_boxed_36 (v := 2) (by decide) ?_
  refine r_iadd F dX12_boxed_37 ?_
  refine r_iload_n F dX12_boxed_38 rfl ?_
  obtain ⟨hg, hf⟩ := e_gd hf
  refine r_iast F dX12_boxed_39 rfl (e_le rfl) (e_lt hnx rfl) (e_vp hg) (l' := [(89, o89 (upd (upd (upd A89 (tn ((4 : Int32) * a72_35)) p0) (tn (((4 : Int32) * a72_35) + 1)) p1) (tn (((4 : Int32) * a72_35) + 2)) p2))]) rfl ?_
  refine r_aload_n F dX12_boxed_40 rfl ?_
  refine r_get F dX12_boxed_41 flX12_59 h72 rfl (e_le rfl) (e_lt hnx rfl) ?_
  refine r_iconst F dX12_boxed_44 (v := 4) (by decide) ?_
  refine r_aload_n F dX12_boxed_45 rfl ?_
  refine r_get F dX12_boxed_46 flX12_338 h72 rfl (e_le rfl) (e_lt hnx rfl) ?_
  refine r_imul F dX12_boxed_49 ?_
  refine r_iconst F dX12_boxed_50 (v := 3) (by decide) ?_
  refine r_iadd F dX12_boxed_51 ?_
  refine r_iload F dX12_boxed_52 rfl ?_
  obtain ⟨hg, hf⟩ := e_gd hf
  refine r_iast F dX12_boxed_54 rfl (e_le rfl) (e_lt hnx rfl) (e_vp hg) (l' := [(89, o89 (upd (upd (upd (upd A89 (tn ((4 : Int32) * a72_35)) p0) (tn (((4 : Int32) * a72_35) + 1)) p1) (tn (((4 : Int32) * a72_35) + 2)) p2) (tn (((4 : Int32) * a72_35) + 3)) p3))]) rfl ?_
  refine r_aload_n F dX12_boxed_55 rfl ?_
  refine r_dup F dX12_boxed_56 rfl ?_
  refine r_get F dX12_boxed_57 flX12_338 h72 rfl (e_le rfl) (e_lt hnx rfl) ?_
  refine r_iconst F dX12_boxed_60 (v := 1) (by decide) ?_
  refine r_iadd F dX12_boxed_61 ?_
  refine r_put F dX12_boxed_62 flX12_338 rfl rfl rfl h72 (e_le rfl) (e_le rfl) (e_lt hnx rfl) (l' := [(72, o72 a72_0 a72_2 a72_3 a72_4 a72_5 a72_6 a72_7 a72_8 a72_9 a72_10 a72_11 a72_17 a72_18 a72_19 a72_21 a72_22 a72_29 a72_31 (a72_35 + 1) a72_37 a72_38 a72_39 a72_40 a72_41 a72_44 a72_50), (89, o89 (upd (upd (upd (upd A89 (tn ((4 : Int32) * a72_35)) p0) (tn (((4 : Int32) * a72_35) + 1)) p1) (tn (((4 : Int32) * a72_35) + 2)) p2) (tn (((4 : Int32) * a72_35) + 3)) p3))]) rfl ?_
  obtain rfl := Option.some.inj hf
  exact r_vret F hq dX12_boxed_65 rfl rfl (Nat.le_refl _) (Nat.le_refl _) ⟨rfl, rfl⟩

def fX12_byteOf  (p0 : Int32) (p1 : Int32) (p2 : Int32) (p3 : Int32) (p4 : Int32) (p5 : Int32) : Option (Int32) :=
  Option.bind (α := Int32) (
    if 4 ≤ p5 then
      if 8 ≤ p5 then
        if 12 ≤ p5 then
          if 16 ≤ p5 then
            some p4
          else
            some p3
        else
          some p2
      else
        some p1
    else
      some p0) (fun q1 =>
  some ((q1 >>> (((24 : Int32) - ((8 : Int32) * (p5 - p5 / 4 * 4))) &&& 31)) &&& 255))
set_option maxRecDepth 100000 in
theorem tX12_byteOf {G : eG} (hG : e_GS G) {la : Launch} {h : Nat → eO} {nx : Nat} (hnx : 99 ≤ nx)  {p0 : Int32} {p1 : Int32} {p2 : Int32} {p3 : Int32} {p4 : Int32} {p5 : Int32}  {R9 : Int32} (hf : fX12_byteOf  p0 p1 p2 p3 p4 p5 = some R9) :
    eSem G la MX12_byteOf [.int p0, .int p1, .int p2, .int p3, .int p4, .int p5] h nx 0 0 (fun r9 h9 => r9 = some (.int R9) ∧ h9 = h) := by
  refine eSem.of (k := 1) (L := [some (.int p0), some (.int p1), some (.int p2), some (.int p3), some (.int p4), some (.int p5), none]) (by decide +kernel) rfl rfl (fun X F hxl hq hcR hsR => ?_)
  subst hxl
  unfold fX12_byteOf at hf
  refine r_iload F dX12_byteOf_0 rfl ?_
  refine r_iconst F dX12_byteOf_2 (v := 4) (by decide) ?_
  obtain ⟨q1, hq2, hf⟩ := e_bd hf
  have Jq1 : eRun G X 45 [none, none, none, none, none, some (.int p5), none] [.int q1] h [] nx 0 0 := by
    refine r_istore F dX12_byteOf_45 (e_le rfl) (L' := [none, none, none, none, none, some (.int p5), some (.int q1)]) rfl ?_
    refine r_iload F dX12_byteOf_47 rfl ?_
    refine r_bipush F dX12_byteOf_49 (v := 24) (by decide) ?_
    refine r_bipush F dX12_byteOf_51 (v := 8) (by decide) ?_
    refine r_iload F dX12_byteOf_53 rfl ?_
    refine r_iconst F dX12_byteOf_55 (v := 4) (by decide) ?_
    refine r_irem F dX12_byteOf_56 (by decide) ?_
    refine r_imul F dX12_byteOf_57 ?_
    refine r_isub F dX12_byteOf_58 ?_
    refine r_ishr F dX12_byteOf_59 ?_
    refine r_sipush F dX12_byteOf_60 (v := 255) (by decide) ?_
    refine r_iand F dX12_byteOf_63 ?_
    obtain rfl := Option.some.inj hf
    exact r_iret F hq dX12_byteOf_64 rfl rfl (Nat.le_refl _) (Nat.le_refl _) ⟨rfl, rfl⟩
  refine r_icmp_ge F dX12_byteOf_3 (tgt := 10) (by decide) (fun hc => ?_) (fun hc => ?_)
  · have hq2 := e_t hc hq2
    refine r_iload F dX12_byteOf_10 rfl ?_
    refine r_bipush F dX12_byteOf_12 (v := 8) (by decide) ?_
    refine r_icmp_ge F dX12_byteOf_14 (tgt := 21) (by decide) (fun hc => ?_) (fun hc => ?_)
    · have hq2 := e_t hc hq2
      refine r_iload F dX12_byteOf_21 rfl ?_
      refine r_bipush F dX12_byteOf_23 (v := 12) (by decide) ?_
      refine r_icmp_ge F dX12_byteOf_25 (tgt := 32) (by decide) (fun hc => ?_) (fun hc => ?_)
      · have hq2 := e_t hc hq2
        refine r_iload F dX12_byteOf_32 rfl ?_
        refine r_bipush F dX12_byteOf_34 (v := 16) (by decide) ?_
        refine r_icmp_ge F dX12_byteOf_36 (tgt := 43) (by decide) (fun hc => ?_) (fun hc => ?_)
        · have hq2 := e_t hc hq2
          refine r_iload F dX12_byteOf_43 rfl ?_
          refine r_drop 0 (L' := [none, some (.int p1), some (.int p2), some (.int p3), some (.int p4), some (.int p5), none]) rfl ?_
          refine r_drop 1 (L' := [none, none, some (.int p2), some (.int p3), some (.int p4), some (.int p5), none]) rfl ?_
          refine r_drop 2 (L' := [none, none, none, some (.int p3), some (.int p4), some (.int p5), none]) rfl ?_
          refine r_drop 3 (L' := [none, none, none, none, some (.int p4), some (.int p5), none]) rfl ?_
          refine r_drop 4 (L' := [none, none, none, none, none, some (.int p5), none]) rfl ?_
          obtain rfl := Option.some.inj hq2
          exact Jq1
        · have hq2 := e_f hc hq2
          refine r_iload_n F dX12_byteOf_39 rfl ?_
          refine r_goto F dX12_byteOf_40 (tgt := 45) (by decide) ?_
          refine r_drop 0 (L' := [none, some (.int p1), some (.int p2), some (.int p3), some (.int p4), some (.int p5), none]) rfl ?_
          refine r_drop 1 (L' := [none, none, some (.int p2), some (.int p3), some (.int p4), some (.int p5), none]) rfl ?_
          refine r_drop 2 (L' := [none, none, none, some (.int p3), some (.int p4), some (.int p5), none]) rfl ?_
          refine r_drop 3 (L' := [none, none, none, none, some (.int p4), some (.int p5), none]) rfl ?_
          refine r_drop 4 (L' := [none, none, none, none, none, some (.int p5), none]) rfl ?_
          obtain rfl := Option.some.inj hq2
          exact Jq1
      · have hq2 := e_f hc hq2
        refine r_iload_n F dX12_byteOf_28 rfl ?_
        refine r_goto F dX12_byteOf_29 (tgt := 45) (by decide) ?_
        refine r_drop 0 (L' := [none, some (.int p1), some (.int p2), some (.int p3), some (.int p4), some (.int p5), none]) rfl ?_
        refine r_drop 1 (L' := [none, none, some (.int p2), some (.int p3), some (.int p4), some (.int p5), none]) rfl ?_
        refine r_drop 2 (L' := [none, none, none, some (.int p3), some (.int p4), some (.int p5), none]) rfl ?_
        refine r_drop 3 (L' := [none, none, none, none, some (.int p4), some (.int p5), none]) rfl ?_
        refine r_drop 4 (L' := [none, none, none, none, none, some (.int p5), none]) rfl ?_
        obtain rfl := Option.some.inj hq2
        exact Jq1
    · have hq2 := e_f hc hq2
      refine r_iload_n F dX12_byteOf_17 rfl ?_
      refine r_goto F dX12_byteOf_18 (tgt := 45) (by decide) ?_
      refine r_drop 0 (L' := [none, some (.int p1), some (.int p2), some (.int p3), some (.int p4), some (.int p5), none]) rfl ?_
      refine r_drop 1 (L' := [none, none, some (.int p2), some (.int p3), some (.int p4), some (.int p5), none]) rfl ?_
      refine r_drop 2 (L' := [none, none, none, some (.int p3), some (.int p4), some (.int p5), none]) rfl ?_
      refine r_drop 3 (L' := [none, none, none, none, some (.int p4), some (.int p5), none]) rfl ?_
      refine r_drop 4 (L' := [none, none, none, none, none, some (.int p5), none]) rfl ?_
      obtain rfl := Option.some.inj hq2
      exact Jq1
  · have hq2 := e_f hc hq2
    refine r_iload_n F dX12_byteOf_6 rfl ?_
    refine r_goto F dX12_byteOf_7 (tgt := 45) (by decide) ?_
    refine r_drop 0 (L' := [none, some (.int p1), some (.int p2), some (.int p3), some (.int p4), some (.int p5), none]) rfl ?_
    refine r_drop 1 (L' := [none, none, some (.int p2), some (.int p3), some (.int p4), some (.int p5), none]) rfl ?_
    refine r_drop 2 (L' := [none, none, none, some (.int p3), some (.int p4), some (.int p5), none]) rfl ?_
    refine r_drop 3 (L' := [none, none, none, none, some (.int p4), some (.int p5), none]) rfl ?_
    refine r_drop 4 (L' := [none, none, none, none, none, some (.int p5), none]) rfl ?_
    obtain rfl := Option.some.inj hq2
    exact Jq1

def fX12_canBe  (p0 : Int32) (p1 : Int32) : Option (Bool) :=
  if p0 = 2 then
    (fX12_in (Int32.toInt64 p1) 0 99).bind (fun q5 =>
    some q5)
  else
    if p0 = 3 then
      (fX12_in (Int32.toInt64 p1) 0 2).bind (fun q3 =>
      some q3)
    else
      (fX12_in (Int32.toInt64 p1) (-20) 20).bind (fun q1 =>
      some q1)
set_option maxRecDepth 100000 in
theorem tX12_canBe {G : eG} (hG : e_GS G) {la : Launch} {h : Nat → eO} {nx : Nat} (hnx : 99 ≤ nx)  {p0 : Int32} {p1 : Int32}  {R9 : Bool} (hf : fX12_canBe  p0 p1 = some R9) :
    eSem G la MX12_canBe [.int p0, .int p1] h nx 0 0 (fun r9 h9 => r9 = some (.int (e_b R9)) ∧ h9 = h) := by
  refine eSem.of (k := 0) (L := [some (.int p0), some (.int p1)]) (by decide +kernel) rfl rfl (fun X F hxl hq hcR hsR => ?_)
  subst hxl
  unfold fX12_canBe at hf
  refine r_iload_n F dX12_canBe_0 rfl ?_
  refine r_iconst F dX12_canBe_1 (v := 2) (by decide) ?_
  refine r_icmp_ne F dX12_canBe_2 (tgt := 17) (by decide) (fun hc => ?_) (fun hc => ?_)
  · have hf := e_f hc hf
    refine r_iload_n F dX12_canBe_17 rfl ?_
    refine r_iconst F dX12_canBe_18 (v := 3) (by decide) ?_
    refine r_icmp_ne F dX12_canBe_19 (tgt := 34) (by decide) (fun hc => ?_) (fun hc => ?_)
    · have hf := e_f hc hf
      refine r_iload_n F dX12_canBe_34 rfl ?_
      refine r_i2l F dX12_canBe_35 ?_
      refine r_ldc2 F dX12_canBe_36 klX12_414 ?_
      refine r_ldc2 F dX12_canBe_39 klX12_416 ?_
      obtain ⟨q1, hq2, hf⟩ := e_bd hf
      refine r_callS F dX12_canBe_42 (dc := 0) (ds := 0) (As := [.long (Int32.toInt64 p1), .long (-20), .long 20]) (S0 := []) lkX12_97 mX12_in (tX12_in hG (la := x_l X) (h := e_up h []) hnx  hq2) rfl rfl rfl (e_le rfl) (e_le rfl) (e_le rfl) (Nat.zero_le _) (Nat.zero_le _) (e_k ?_)
      refine r_wr0 ?_
      obtain rfl := Option.some.inj hf
      exact r_zret F hq (v := q1) dX12_canBe_45 rfl rfl (Nat.le_refl _) (Nat.le_refl _) ⟨rfl, rfl⟩
    · have hf := e_t hc hf
      refine r_iload_n F dX12_canBe_22 rfl ?_
      refine r_i2l F dX12_canBe_23 ?_
      refine r_lconst F dX12_canBe_24 (v := 0) (by decide) ?_
      refine r_ldc2 F dX12_canBe_25 klX12_329 ?_
      obtain ⟨q3, hq4, hf⟩ := e_bd hf
      refine r_callS F dX12_canBe_28 (dc := 0) (ds := 0) (As := [.long (Int32.toInt64 p1), .long 0, .long 2]) (S0 := []) lkX12_97 mX12_in (tX12_in hG (la := x_l X) (h := e_up h []) hnx  hq4) rfl rfl rfl (e_le rfl) (e_le rfl) (e_le rfl) (Nat.zero_le _) (Nat.zero_le _) (e_k ?_)
      refine r_wr0 ?_
      refine r_goto F dX12_canBe_31 (tgt := 45) (by decide) ?_
      obtain rfl := Option.some.inj hf
      exact r_zret F hq (v := q3) dX12_canBe_45 rfl rfl (Nat.le_refl _) (Nat.le_refl _) ⟨rfl, rfl⟩
  · have hf := e_t hc hf
    refine r_iload_n F dX12_canBe_5 rfl ?_
    refine r_i2l F dX12_canBe_6 ?_
    refine r_lconst F dX12_canBe_7 (v := 0) (by decide) ?_
    refine r_ldc2 F dX12_canBe_8 klX12_412 ?_
    obtain ⟨q5, hq6, hf⟩ := e_bd hf
    refine r_callS F dX12_canBe_11 (dc := 0) (ds := 0) (As := [.long (Int32.toInt64 p1), .long 0, .long 99]) (S0 := []) lkX12_97 mX12_in (tX12_in hG (la := x_l X) (h := e_up h []) hnx  hq6) rfl rfl rfl (e_le rfl) (e_le rfl) (e_le rfl) (Nat.zero_le _) (Nat.zero_le _) (e_k ?_)
    refine r_wr0 ?_
    refine r_goto F dX12_canBe_14 (tgt := 45) (by decide) ?_
    obtain rfl := Option.some.inj hf
    exact r_zret F hq (v := q5) dX12_canBe_45 rfl rfl (Nat.le_refl _) (Nat.le_refl _) ⟨rfl, rfl⟩

def fX12_core (a72_0 : Int32) (a72_21 : Int32) (a72_22 : Int32) (a72_29 : Int32) (A79 : Nat → Int32) (A80 : Nat → Int32) (A81 : Nat → Int32) (A82 : Nat → Int32) (A83 : Nat → Int32) (A84 : Nat → Int32) (A85 : Nat → Int32) (p0 : Int32) (p1 : Int32) : Option (Int32 × Int32 × Int32 × (Nat → Int32) × (Nat → Int32) × (Nat → Int32) × (Nat → Int32) × (Nat → Int32)) :=
  (fX12_laysCores a72_21 a72_22 a72_29 A79 A80 A81 A82 A83 A84 A85).bind (fun q1 =>
  (fX12_isCrystal a72_21).bind (fun q3 =>
  Option.bind (α := Bool) (
    if q3 = true then
      (fX12_in (Int32.toInt64 p0) 0 (Int32.toInt64 (q1.2.1 - 1))).bind (fun q9 =>
      if q9 = true then
        (fX12_in (Int32.toInt64 p1) 0 5).bind (fun q11 =>
        if q11 = true then
          some false
        else
          some true)
      else
        some true)
    else
      some true) (fun q5 =>
  if (e_b q5) = 1 then
    some (0, e_b q5, q1.2.1, q1.2.2.1, q1.2.2.2.1, q1.2.2.2.2.1, q1.2.2.2.2.2.1, q1.2.2.2.2.2.2)
  else
    if p1 = 0 then
      e_g (e_in p0 64) (
      some (q1.2.2.1 (tn p0), e_b q5, q1.2.1, q1.2.2.1, q1.2.2.2.1, q1.2.2.2.2.1, q1.2.2.2.2.2.1, q1.2.2.2.2.2.2))
    else
      if p1 = 1 then
        e_g (e_in p0 64) (
        some (q1.2.2.2.1 (tn p0), e_b q5, q1.2.1, q1.2.2.1, q1.2.2.2.1, q1.2.2.2.2.1, q1.2.2.2.2.2.1, q1.2.2.2.2.2.2))
      else
        if p1 = 2 then
          e_g (e_in p0 64) (
          some (q1.2.2.2.2.1 (tn p0), e_b q5, q1.2.1, q1.2.2.1, q1.2.2.2.1, q1.2.2.2.2.1, q1.2.2.2.2.2.1, q1.2.2.2.2.2.2))
        else
          if p1 = 3 then
            e_g (e_in p0 64) (
            some (q1.2.2.2.2.2.1 (tn p0), e_b q5, q1.2.1, q1.2.2.1, q1.2.2.2.1, q1.2.2.2.2.1, q1.2.2.2.2.2.1, q1.2.2.2.2.2.2))
          else
            if p1 = 4 then
              (fX12_way q1.2.2.2.2.1 q1.2.2.2.2.2.1 p0).bind (fun q7 =>
              some (q7, e_b q5, q1.2.1, q1.2.2.1, q1.2.2.2.1, q1.2.2.2.2.1, q1.2.2.2.2.2.1, q1.2.2.2.2.2.2))
            else
              e_g (e_in p0 64) (
              some (q1.2.2.2.2.2.2 (tn p0), e_b q5, q1.2.1, q1.2.2.1, q1.2.2.2.1, q1.2.2.2.2.1, q1.2.2.2.2.2.1, q1.2.2.2.2.2.2)))))
set_option maxRecDepth 100000 in
theorem tX12_core_72 {G : eG} (hG : e_GS G) {la : Launch} {h : Nat → eO} {nx : Nat} (hnx : 99 ≤ nx) {a72_0 : Int32} {a72_2 : Int32} {a72_3 : Int32} {a72_4 : Int32} {a72_5 : Int32} {a72_6 : Int32} {a72_7 : Int32} {a72_8 : Bool} {a72_9 : Int32} {a72_10 : Int32} {a72_11 : Int32} {a72_17 : Bool} {a72_18 : Bool} {a72_19 : Bool} {a72_21 : Int32} {a72_22 : Int32} {a72_29 : Int32} {a72_31 : Int32} {a72_35 : Int32} {a72_37 : Bool} {a72_38 : Int32} {a72_39 : Int32} {a72_40 : Int32} {a72_41 : Int64} {a72_44 : Int32} {a72_50 : Bool} {A79 : Nat → Int32} {A80 : Nat → Int32} {A81 : Nat → Int32} {A82 : Nat → Int32} {A83 : Nat → Int32} {A84 : Nat → Int32} {A85 : Nat → Int32} {p0 : Int32} {p1 : Int32} (h72 : h 72 = o72 a72_0 a72_2 a72_3 a72_4 a72_5 a72_6 a72_7 a72_8 a72_9 a72_10 a72_11 a72_17 a72_18 a72_19 a72_21 a72_22 a72_29 a72_31 a72_35 a72_37 a72_38 a72_39 a72_40 a72_41 a72_44 a72_50) (h79 : h 79 = o79 A79) (h80 : h 80 = o80 A80) (h81 : h 81 = o81 A81) (h82 : h 82 = o82 A82) (h83 : h 83 = o83 A83) (h84 : h 84 = o84 A84) (h85 : h 85 = o85 A85) {R9 : Int32 × Int32 × Int32 × (Nat → Int32) × (Nat → Int32) × (Nat → Int32) × (Nat → Int32) × (Nat → Int32)} (hf : fX12_core a72_0 a72_21 a72_22 a72_29 A79 A80 A81 A82 A83 A84 A85 p0 p1 = some R9) :
    eSem G la MX12_core [.ref 72, .int p0, .int p1] h nx 0 0 (fun r9 h9 => r9 = some (.int R9.1) ∧ h9 = e_up h [(72, o72 R9.2.1 a72_2 a72_3 a72_4 a72_5 a72_6 a72_7 a72_8 a72_9 a72_10 a72_11 a72_17 a72_18 a72_19 a72_21 a72_22 R9.2.2.1 a72_31 a72_35 a72_37 a72_38 a72_39 a72_40 a72_41 a72_44 a72_50), (81, o81 R9.2.2.2.1), (82, o82 R9.2.2.2.2.1), (83, o83 R9.2.2.2.2.2.1), (84, o84 R9.2.2.2.2.2.2.1), (85, o85 R9.2.2.2.2.2.2.2)]) := by
  refine eSem.of (k := 0) (L := [some (.ref 72), some (.int p0), some (.int p1)]) (by decide +kernel) rfl rfl (fun X F hxl hq hcR hsR => ?_)
  subst hxl
  unfold fX12_core at hf
  refine r_aload_n F dX12_core_0 rfl ?_
  obtain ⟨q1, hq2, hf⟩ := e_bd hf
  refine r_callV F dX12_core_1 (b := 72) (dc := 0) (ds := 0) (As := []) (S0 := []) lkX12_238 mX12_laysCores (tX12_laysCores_72 hG (la := x_l X) (h := e_up h []) hnx h72 h79 h80 h81 h82 h83 h84 h85 hq2) rfl rfl rfl (e_le rfl) (e_le rfl) (e_le rfl) h72 (ci := 12) e_cl12.1 rfl (e_le rfl) (e_lt hnx rfl) (Nat.zero_le _) (Nat.zero_le _) (e_k ?_)
  refine r_wr (l' := [(72, o72 a72_0 a72_2 a72_3 a72_4 a72_5 a72_6 a72_7 a72_8 a72_9 a72_10 a72_11 a72_17 a72_18 a72_19 a72_21 a72_22 q1.2.1 a72_31 a72_35 a72_37 a72_38 a72_39 a72_40 a72_41 a72_44 a72_50), (81, o81 q1.2.2.1), (82, o82 q1.2.2.2.1), (83, o83 q1.2.2.2.2.1), (84, o84 q1.2.2.2.2.2.1), (85, o85 q1.2.2.2.2.2.2)]) rfl rfl ?_
  refine r_pop F dX12_core_4 rfl ?_
  refine r_aload_n F dX12_core_5 rfl ?_
  refine r_aload_n F dX12_core_6 rfl ?_
  obtain ⟨q3, hq4, hf⟩ := e_bd hf
  refine r_callV F dX12_core_7 (b := 72) (dc := 0) (ds := 0) (As := []) (S0 := [.ref 72]) lkX12_306 mX12_isCrystal (tX12_isCrystal_72 hG (la := x_l X) (h := e_up h [(72, o72 a72_0 a72_2 a72_3 a72_4 a72_5 a72_6 a72_7 a72_8 a72_9 a72_10 a72_11 a72_17 a72_18 a72_19 a72_21 a72_22 q1.2.1 a72_31 a72_35 a72_37 a72_38 a72_39 a72_40 a72_41 a72_44 a72_50), (81, o81 q1.2.2.1), (82, o82 q1.2.2.2.1), (83, o83 q1.2.2.2.2.1), (84, o84 q1.2.2.2.2.2.1), (85, o85 q1.2.2.2.2.2.2)]) hnx rfl hq4) rfl rfl rfl (e_le rfl) (e_le rfl) (e_le rfl) rfl (ci := 12) e_cl12.1 rfl (e_le rfl) (e_lt hnx rfl) (Nat.zero_le _) (Nat.zero_le _) (e_k ?_)
  refine r_wr0 ?_
  obtain ⟨q5, hq6, hf⟩ := e_bd hf
  have Jq5 : eRun G X 46 [some (.ref 72), some (.int p0), some (.int p1)] [.int (e_b q5), .ref 72] h [(72, o72 a72_0 a72_2 a72_3 a72_4 a72_5 a72_6 a72_7 a72_8 a72_9 a72_10 a72_11 a72_17 a72_18 a72_19 a72_21 a72_22 q1.2.1 a72_31 a72_35 a72_37 a72_38 a72_39 a72_40 a72_41 a72_44 a72_50), (81, o81 q1.2.2.1), (82, o82 q1.2.2.2.1), (83, o83 q1.2.2.2.2.1), (84, o84 q1.2.2.2.2.2.1), (85, o85 q1.2.2.2.2.2.2)] nx 0 0 := by
    refine r_put F dX12_core_46 flX12_86 rfl rfl rfl rfl (e_le rfl) (e_le rfl) (e_lt hnx rfl) (l' := [(72, o72 (e_b q5) a72_2 a72_3 a72_4 a72_5 a72_6 a72_7 a72_8 a72_9 a72_10 a72_11 a72_17 a72_18 a72_19 a72_21 a72_22 q1.2.1 a72_31 a72_35 a72_37 a72_38 a72_39 a72_40 a72_41 a72_44 a72_50), (81, o81 q1.2.2.1), (82, o82 q1.2.2.2.1), (83, o83 q1.2.2.2.2.1), (84, o84 q1.2.2.2.2.2.1), (85, o85 q1.2.2.2.2.2.2)]) rfl ?_
    refine r_aload_n F dX12_core_49 rfl ?_
    refine r_get F dX12_core_50 flX12_86 rfl rfl (e_le rfl) (e_lt hnx rfl) ?_
    refine r_iconst F dX12_core_53 (v := 1) (by decide) ?_
    refine r_icmp_ne F dX12_core_54 (tgt := 59) (by decide) (fun hc => ?_) (fun hc => ?_)
    · have hf := e_f hc hf
      refine r_iload_n F dX12_core_59 rfl ?_
      refine Classical.byCases (p := p1 = 0) (fun hc => ?_) (fun hk0 => ?_)
      · have hf := e_t hc hf
        refine r_tsIn F dX12_core_60 (by rw [hc]; decide) (by rw [hc]; decide) (off := 36) (by rw [hc]; decide) (tgt := 96) (by decide) ?_
        refine r_aload_n F dX12_core_96 rfl ?_
        refine r_get F dX12_core_97 flX12_34 rfl rfl (e_le rfl) (e_lt hnx rfl) ?_
        refine r_iload_n F dX12_core_100 rfl ?_
        obtain ⟨hg, hf⟩ := e_gd hf
        refine r_iald F dX12_core_101 (i := p0) rfl (e_le rfl) (e_lt hnx rfl) (e_vp hg) ?_
        obtain rfl := Option.some.inj hf
        exact r_iret F hq dX12_core_102 rfl rfl (Nat.le_refl _) (Nat.le_refl _) ⟨rfl, rfl⟩
      have hf := e_f hk0 hf
      refine Classical.byCases (p := p1 = 1) (fun hc => ?_) (fun hk1 => ?_)
      · have hf := e_t hc hf
        refine r_tsIn F dX12_core_60 (by rw [hc]; decide) (by rw [hc]; decide) (off := 43) (by rw [hc]; decide) (tgt := 103) (by decide) ?_
        refine r_aload_n F dX12_core_103 rfl ?_
        refine r_get F dX12_core_104 flX12_37 rfl rfl (e_le rfl) (e_lt hnx rfl) ?_
        refine r_iload_n F dX12_core_107 rfl ?_
        obtain ⟨hg, hf⟩ := e_gd hf
        refine r_iald F dX12_core_108 (i := p0) rfl (e_le rfl) (e_lt hnx rfl) (e_vp hg) ?_
        obtain rfl := Option.some.inj hf
        exact r_iret F hq dX12_core_109 rfl rfl (Nat.le_refl _) (Nat.le_refl _) ⟨rfl, rfl⟩
      have hf := e_f hk1 hf
      refine Classical.byCases (p := p1 = 2) (fun hc => ?_) (fun hk2 => ?_)
      · have hf := e_t hc hf
        refine r_tsIn F dX12_core_60 (by rw [hc]; decide) (by rw [hc]; decide) (off := 50) (by rw [hc]; decide) (tgt := 110) (by decide) ?_
        refine r_aload_n F dX12_core_110 rfl ?_
        refine r_get F dX12_core_111 flX12_40 rfl rfl (e_le rfl) (e_lt hnx rfl) ?_
        refine r_iload_n F dX12_core_114 rfl ?_
        obtain ⟨hg, hf⟩ := e_gd hf
        refine r_iald F dX12_core_115 (i := p0) rfl (e_le rfl) (e_lt hnx rfl) (e_vp hg) ?_
        obtain rfl := Option.some.inj hf
        exact r_iret F hq dX12_core_116 rfl rfl (Nat.le_refl _) (Nat.le_refl _) ⟨rfl, rfl⟩
      have hf := e_f hk2 hf
      refine Classical.byCases (p := p1 = 3) (fun hc => ?_) (fun hk3 => ?_)
      · have hf := e_t hc hf
        refine r_tsIn F dX12_core_60 (by rw [hc]; decide) (by rw [hc]; decide) (off := 57) (by rw [hc]; decide) (tgt := 117) (by decide) ?_
        refine r_aload_n F dX12_core_117 rfl ?_
        refine r_get F dX12_core_118 flX12_43 rfl rfl (e_le rfl) (e_lt hnx rfl) ?_
        refine r_iload_n F dX12_core_121 rfl ?_
        obtain ⟨hg, hf⟩ := e_gd hf
        refine r_iald F dX12_core_122 (i := p0) rfl (e_le rfl) (e_lt hnx rfl) (e_vp hg) ?_
        obtain rfl := Option.some.inj hf
        exact r_iret F hq dX12_core_123 rfl rfl (Nat.le_refl _) (Nat.le_refl _) ⟨rfl, rfl⟩
      have hf := e_f hk3 hf
      refine Classical.byCases (p := p1 = 4) (fun hc => ?_) (fun hk4 => ?_)
      · have hf := e_t hc hf
        refine r_tsIn F dX12_core_60 (by rw [hc]; decide) (by rw [hc]; decide) (off := 64) (by rw [hc]; decide) (tgt := 124) (by decide) ?_
        refine r_aload_n F dX12_core_124 rfl ?_
        refine r_iload_n F dX12_core_125 rfl ?_
        obtain ⟨q7, hq8, hf⟩ := e_bd hf
        refine r_callV F dX12_core_126 (b := 72) (dc := 0) (ds := 0) (As := [.int p0]) (S0 := []) lkX12_269 mX12_way (tX12_way_72 hG (la := x_l X) (h := e_up h [(72, o72 (e_b q5) a72_2 a72_3 a72_4 a72_5 a72_6 a72_7 a72_8 a72_9 a72_10 a72_11 a72_17 a72_18 a72_19 a72_21 a72_22 q1.2.1 a72_31 a72_35 a72_37 a72_38 a72_39 a72_40 a72_41 a72_44 a72_50), (81, o81 q1.2.2.1), (82, o82 q1.2.2.2.1), (83, o83 q1.2.2.2.2.1), (84, o84 q1.2.2.2.2.2.1), (85, o85 q1.2.2.2.2.2.2)]) hnx rfl rfl rfl hq8) rfl rfl rfl (e_le rfl) (e_le rfl) (e_le rfl) rfl (ci := 12) e_cl12.1 rfl (e_le rfl) (e_lt hnx rfl) (Nat.zero_le _) (Nat.zero_le _) (e_k ?_)
        refine r_wr0 ?_
        obtain rfl := Option.some.inj hf
        exact r_iret F hq dX12_core_129 rfl rfl (Nat.le_refl _) (Nat.le_refl _) ⟨rfl, rfl⟩
      have hf := e_f hk4 hf
      refine r_tsOut F dX12_core_60 (e_out5 hk0 hk1 hk2 hk3 hk4) (tgt := 130) (by decide) ?_
      refine r_aload_n F dX12_core_130 rfl ?_
      refine r_get F dX12_core_131 flX12_46 rfl rfl (e_le rfl) (e_lt hnx rfl) ?_
      refine r_iload_n F dX12_core_134 rfl ?_
      obtain ⟨hg, hf⟩ := e_gd hf
      refine r_iald F dX12_core_135 (i := p0) rfl (e_le rfl) (e_lt hnx rfl) (e_vp hg) ?_
      obtain rfl := Option.some.inj hf
      exact r_iret F hq dX12_core_136 rfl rfl (Nat.le_refl _) (Nat.le_refl _) ⟨rfl, rfl⟩
    · have hf := e_t hc hf
      refine r_iconst F dX12_core_57 (v := 0) (by decide) ?_
      obtain rfl := Option.some.inj hf
      exact r_iret F hq dX12_core_58 rfl rfl (Nat.le_refl _) (Nat.le_refl _) ⟨rfl, rfl⟩
  refine r_z_eq F dX12_core_10 (tgt := 45) (by decide) (fun hc => ?_) (fun hc => ?_)
  · have hq6 := e_t hc hq6
    refine r_iload_n F dX12_core_13 rfl ?_
    refine r_i2l F dX12_core_14 ?_
    refine r_lconst F dX12_core_15 (v := 0) (by decide) ?_
    refine r_aload_n F dX12_core_16 rfl ?_
    refine r_get F dX12_core_17 flX12_241 rfl rfl (e_le rfl) (e_lt hnx rfl) ?_
    refine r_iconst F dX12_core_20 (v := 1) (by decide) ?_
    refine r_isub F dX12_core_21 ?_
    refine r_i2l F dX12_core_22 ?_
    obtain ⟨q9, hq10, hq6⟩ := e_bd hq6
    refine r_callS F dX12_core_23 (dc := 0) (ds := 0) (As := [.long (Int32.toInt64 p0), .long 0, .long (Int32.toInt64 (q1.2.1 - 1))]) (S0 := [.ref 72]) lkX12_97 mX12_in (tX12_in hG (la := x_l X) (h := e_up h [(72, o72 a72_0 a72_2 a72_3 a72_4 a72_5 a72_6 a72_7 a72_8 a72_9 a72_10 a72_11 a72_17 a72_18 a72_19 a72_21 a72_22 q1.2.1 a72_31 a72_35 a72_37 a72_38 a72_39 a72_40 a72_41 a72_44 a72_50), (81, o81 q1.2.2.1), (82, o82 q1.2.2.2.1), (83, o83 q1.2.2.2.2.1), (84, o84 q1.2.2.2.2.2.1), (85, o85 q1.2.2.2.2.2.2)]) hnx  hq10) rfl rfl rfl (e_le rfl) (e_le rfl) (e_le rfl) (Nat.zero_le _) (Nat.zero_le _) (e_k ?_)
    refine r_wr0 ?_
    refine r_z_eq F dX12_core_26 (tgt := 45) (by decide) (fun hc => ?_) (fun hc => ?_)
    · have hq6 := e_t hc hq6
      refine r_iload_n F dX12_core_29 rfl ?_
      refine r_i2l F dX12_core_30 ?_
      refine r_lconst F dX12_core_31 (v := 0) (by decide) ?_
      refine r_ldc2 F dX12_core_32 klX12_327 ?_
      obtain ⟨q11, hq12, hq6⟩ := e_bd hq6
      refine r_callS F dX12_core_35 (dc := 0) (ds := 0) (As := [.long (Int32.toInt64 p1), .long 0, .long 5]) (S0 := [.ref 72]) lkX12_97 mX12_in (tX12_in hG (la := x_l X) (h := e_up h [(72, o72 a72_0 a72_2 a72_3 a72_4 a72_5 a72_6 a72_7 a72_8 a72_9 a72_10 a72_11 a72_17 a72_18 a72_19 a72_21 a72_22 q1.2.1 a72_31 a72_35 a72_37 a72_38 a72_39 a72_40 a72_41 a72_44 a72_50), (81, o81 q1.2.2.1), (82, o82 q1.2.2.2.1), (83, o83 q1.2.2.2.2.1), (84, o84 q1.2.2.2.2.2.1), (85, o85 q1.2.2.2.2.2.2)]) hnx  hq12) rfl rfl rfl (e_le rfl) (e_le rfl) (e_le rfl) (Nat.zero_le _) (Nat.zero_le _) (e_k ?_)
      refine r_wr0 ?_
      refine r_z_eq F dX12_core_38 (tgt := 45) (by decide) (fun hc => ?_) (fun hc => ?_)
      · have hq6 := e_t hc hq6
        refine r_iconst F dX12_core_41 (v := 0) (by decide) ?_
        refine r_goto F dX12_core_42 (tgt := 46) (by decide) ?_
        obtain rfl := Option.some.inj hq6
        exact Jq5
      · have hq6 := e_f hc hq6
        refine r_iconst F dX12_core_45 (v := 1) (by decide) ?_
        obtain rfl := Option.some.inj hq6
        exact Jq5
    · have hq6 := e_f hc hq6
      refine r_iconst F dX12_core_45 (v := 1) (by decide) ?_
      obtain rfl := Option.some.inj hq6
      exact Jq5
  · have hq6 := e_f hc hq6
    refine r_iconst F dX12_core_45 (v := 1) (by decide) ?_
    obtain rfl := Option.some.inj hq6
    exact Jq5

def fX12_coreOf (a72_29 : Int32) (A81 : Nat → Int32) (A82 : Nat → Int32) (p0 : Int32) (p1 : Int32) : Option (Int32) :=
  (e_loop (fun (v3 : Int32) => (
      if a72_29 ≤ v3 then
        some (.inr (.inl ()))
      else
        e_g (e_in v3 64) (
        if (A81 (tn v3)) = p0 then
          e_g (e_in v3 64) (
          if (A82 (tn v3)) = p1 then
            some (.inr (.inr v3))
          else
            some (.inl (v3 + 1)))
        else
          some (.inl (v3 + 1))) : Option ((Int32) ⊕ ((Unit) ⊕ (Int32))))) e_fuel 0).bind (fun x4 => Sum.elim (fun x4e =>
    some (-1)) (fun r9 => some r9) x4)
set_option maxRecDepth 100000 in
theorem tX12_coreOf_72 {G : eG} (hG : e_GS G) {la : Launch} {h : Nat → eO} {nx : Nat} (hnx : 99 ≤ nx) {a72_0 : Int32} {a72_2 : Int32} {a72_3 : Int32} {a72_4 : Int32} {a72_5 : Int32} {a72_6 : Int32} {a72_7 : Int32} {a72_8 : Bool} {a72_9 : Int32} {a72_10 : Int32} {a72_11 : Int32} {a72_17 : Bool} {a72_18 : Bool} {a72_19 : Bool} {a72_21 : Int32} {a72_22 : Int32} {a72_29 : Int32} {a72_31 : Int32} {a72_35 : Int32} {a72_37 : Bool} {a72_38 : Int32} {a72_39 : Int32} {a72_40 : Int32} {a72_41 : Int64} {a72_44 : Int32} {a72_50 : Bool} {A81 : Nat → Int32} {A82 : Nat → Int32} {p0 : Int32} {p1 : Int32} (h72 : h 72 = o72 a72_0 a72_2 a72_3 a72_4 a72_5 a72_6 a72_7 a72_8 a72_9 a72_10 a72_11 a72_17 a72_18 a72_19 a72_21 a72_22 a72_29 a72_31 a72_35 a72_37 a72_38 a72_39 a72_40 a72_41 a72_44 a72_50) (h81 : h 81 = o81 A81) (h82 : h 82 = o82 A82) {R9 : Int32} (hf : fX12_coreOf a72_29 A81 A82 p0 p1 = some R9) :
    eSem G la MX12_coreOf [.ref 72, .int p0, .int p1] h nx 0 0 (fun r9 h9 => r9 = some (.int R9) ∧ h9 = h) := by
  refine eSem.of (k := 1) (L := [some (.ref 72), some (.int p0), some (.int p1), none]) (by decide +kernel) rfl rfl (fun X F hxl hq hcR hsR => ?_)
  subst hxl
  unfold fX12_coreOf at hf
  refine r_iconst F dX12_coreOf_0 (v := 0) (by decide) ?_
  refine r_istore_n F dX12_coreOf_1 (e_le rfl) (L' := [some (.ref 72), some (.int p0), some (.int p1), some (.int 0)]) rfl ?_
  obtain ⟨x4, hx5, hf⟩ := e_bd hf
  refine (e_loop_ok (P := fun (v3 : Int32) => eRun G X 2 [some (.ref 72), some (.int p0), some (.int p1), some (.int v3)] [] h [] nx 0 0) (K := fun (x4 : (Unit) ⊕ (Int32)) => Sum.elim (fun x4e => eRun G X 38 [none, none, none, none] [] h [] nx 0 0) (fun r9 => r9 = R9) x4) ?_ e_fuel 0 x4 hx5 ?_ : _)
  · intro v3 z hz ih hx
    refine r_iload_n F dX12_coreOf_2 rfl ?_
    refine r_aload_n F dX12_coreOf_3 rfl ?_
    refine r_get F dX12_coreOf_4 flX12_241 h72 rfl (e_le rfl) (e_lt hnx rfl) ?_
    refine r_icmp_ge F dX12_coreOf_7 (tgt := 38) (by decide) (fun hc => ?_) (fun hc => ?_)
    · have hz := e_t hc hz
      refine r_drop 0 (L' := [none, some (.int p0), some (.int p1), some (.int v3)]) rfl ?_
      refine r_drop 1 (L' := [none, none, some (.int p1), some (.int v3)]) rfl ?_
      refine r_drop 2 (L' := [none, none, none, some (.int v3)]) rfl ?_
      refine r_drop 3 (L' := [none, none, none, none]) rfl ?_
      obtain rfl := Option.some.inj hz
      exact hx (.inl ()) rfl
    · have hz := e_f hc hz
      refine r_aload_n F dX12_coreOf_10 rfl ?_
      refine r_get F dX12_coreOf_11 flX12_34 h72 rfl (e_le rfl) (e_lt hnx rfl) ?_
      refine r_iload_n F dX12_coreOf_14 rfl ?_
      obtain ⟨hg, hz⟩ := e_gd hz
      refine r_iald F dX12_coreOf_15 (i := v3) h81 (e_le rfl) (e_lt hnx rfl) (e_vp hg) ?_
      refine r_iload_n F dX12_coreOf_16 rfl ?_
      refine r_icmp_ne F dX12_coreOf_17 (tgt := 32) (by decide) (fun hc => ?_) (fun hc => ?_)
      · have hz := e_f hc hz
        refine r_inc F dX12_coreOf_32 (k9 := 1) (by decide) rfl (L' := [some (.ref 72), some (.int p0), some (.int p1), some (.int (v3 + 1))]) rfl ?_
        refine r_goto F dX12_coreOf_35 (tgt := 2) (by decide) ?_
        obtain rfl := Option.some.inj hz
        exact ih (v3 + 1) rfl
      · have hz := e_t hc hz
        refine r_aload_n F dX12_coreOf_20 rfl ?_
        refine r_get F dX12_coreOf_21 flX12_37 h72 rfl (e_le rfl) (e_lt hnx rfl) ?_
        refine r_iload_n F dX12_coreOf_24 rfl ?_
        obtain ⟨hg, hz⟩ := e_gd hz
        refine r_iald F dX12_coreOf_25 (i := v3) h82 (e_le rfl) (e_lt hnx rfl) (e_vp hg) ?_
        refine r_iload_n F dX12_coreOf_26 rfl ?_
        refine r_icmp_ne F dX12_coreOf_27 (tgt := 32) (by decide) (fun hc => ?_) (fun hc => ?_)
        · have hz := e_f hc hz
          refine r_inc F dX12_coreOf_32 (k9 := 1) (by decide) rfl (L' := [some (.ref 72), some (.int p0), some (.int p1), some (.int (v3 + 1))]) rfl ?_
          refine r_goto F dX12_coreOf_35 (tgt := 2) (by decide) ?_
          obtain rfl := Option.some.inj hz
          exact ih (v3 + 1) rfl
        · have hz := e_t hc hz
          refine r_iload_n F dX12_coreOf_30 rfl ?_
          obtain rfl := Option.some.inj hz
          have e9 := hx (.inr v3) rfl
          subst e9
          exact r_iret F hq dX12_coreOf_31 rfl rfl (Nat.le_refl _) (Nat.le_refl _) ⟨rfl, rfl⟩
  · cases x4 with
    | inr r9 => exact Option.some.inj hf
    | inl x4e =>
      simp only [Sum.elim_inl] at hf
      show eRun G X 38 [none, none, none, none] [] h [] nx 0 0
      refine r_iconst F dX12_coreOf_38 (v := (-1)) (by decide) ?_
      obtain rfl := Option.some.inj hf
      exact r_iret F hq dX12_coreOf_39 rfl rfl (Nat.le_refl _) (Nat.le_refl _) ⟨rfl, rfl⟩

def fX12_coresBehind (a72_21 : Int32) (a72_22 : Int32) (a72_29 : Int32) (A79 : Nat → Int32) (p0 : Int32) (p1 : Int32) (p2 : Int32) (p3 : Int32) (p4 : Int32) : Option (Int32) :=
  (fX12_toX p0 p2).bind (fun q1 =>
  (fX12_toY p1 p2).bind (fun q3 =>
  (fX12_vector A79 p0 p1 0).bind (fun q5 =>
  Option.bind (α := Bool) (
    if q5 = p3 then
      (fX12_vector A79 p0 p1 1).bind (fun q19 =>
      if q19 = p4 then
        some true
      else
        some false)
    else
      some false) (fun q7 =>
  (fX12_isFace a72_21 a72_22 q1 q3).bind (fun q9 =>
  if q9 = true then
    (fX12_isCore A79 q1 q3).bind (fun q11 =>
    (fX12_vector A79 q1 q3 0).bind (fun q13 =>
    Option.bind (α := Bool) (
      if (q13 + p3) = 0 then
        (fX12_vector A79 q1 q3 1).bind (fun q17 =>
        if (q17 + p4) = 0 then
          some false
        else
          some true)
      else
        some true) (fun q15 =>
    if q15 = true then
      if q11 = true then
        if q15 = true then
          some ((a72_29 - (e_b q7)) + 0)
        else
          if q11 = true then
            some ((a72_29 - (e_b q7)) + (-1))
          else
            some ((a72_29 - (e_b q7)) + 0)
      else
        some ((a72_29 - (e_b q7)) + 1)
    else
      if q15 = true then
        some ((a72_29 - (e_b q7)) + 0)
      else
        if q11 = true then
          some ((a72_29 - (e_b q7)) + (-1))
        else
          some ((a72_29 - (e_b q7)) + 0))))
  else
    some (a72_29 - (e_b q7)))))))
set_option maxRecDepth 100000 in
theorem tX12_coresBehind_72 {G : eG} (hG : e_GS G) {la : Launch} {h : Nat → eO} {nx : Nat} (hnx : 99 ≤ nx) {a72_0 : Int32} {a72_2 : Int32} {a72_3 : Int32} {a72_4 : Int32} {a72_5 : Int32} {a72_6 : Int32} {a72_7 : Int32} {a72_8 : Bool} {a72_9 : Int32} {a72_10 : Int32} {a72_11 : Int32} {a72_17 : Bool} {a72_18 : Bool} {a72_19 : Bool} {a72_21 : Int32} {a72_22 : Int32} {a72_29 : Int32} {a72_31 : Int32} {a72_35 : Int32} {a72_37 : Bool} {a72_38 : Int32} {a72_39 : Int32} {a72_40 : Int32} {a72_41 : Int64} {a72_44 : Int32} {a72_50 : Bool} {A79 : Nat → Int32} {p0 : Int32} {p1 : Int32} {p2 : Int32} {p3 : Int32} {p4 : Int32} (h72 : h 72 = o72 a72_0 a72_2 a72_3 a72_4 a72_5 a72_6 a72_7 a72_8 a72_9 a72_10 a72_11 a72_17 a72_18 a72_19 a72_21 a72_22 a72_29 a72_31 a72_35 a72_37 a72_38 a72_39 a72_40 a72_41 a72_44 a72_50) (h79 : h 79 = o79 A79) {R9 : Int32} (hf : fX12_coresBehind a72_21 a72_22 a72_29 A79 p0 p1 p2 p3 p4 = some R9) :
    eSem G la MX12_coresBehind [.ref 72, .int p0, .int p1, .int p2, .int p3, .int p4] h nx 0 0 (fun r9 h9 => r9 = some (.int R9) ∧ h9 = h) := by
  refine eSem.of (k := 5) (L := [some (.ref 72), some (.int p0), some (.int p1), some (.int p2), some (.int p3), some (.int p4), none, none, none, none, none]) (by decide +kernel) rfl rfl (fun X F hxl hq hcR hsR => ?_)
  subst hxl
  unfold fX12_coresBehind at hf
  refine r_iload_n F dX12_coresBehind_0 rfl ?_
  refine r_iload_n F dX12_coresBehind_1 rfl ?_
  obtain ⟨q1, hq2, hf⟩ := e_bd hf
  refine r_callS F dX12_coresBehind_2 (dc := 0) (ds := 0) (As := [.int p0, .int p2]) (S0 := []) lkX12_282 mX12_toX (tX12_toX hG (la := x_l X) (h := e_up h []) hnx  hq2) rfl rfl rfl (e_le rfl) (e_le rfl) (e_le rfl) (Nat.zero_le _) (Nat.zero_le _) (e_k ?_)
  refine r_wr0 ?_
  refine r_istore F dX12_coresBehind_5 (e_le rfl) (L' := [some (.ref 72), some (.int p0), some (.int p1), some (.int p2), some (.int p3), some (.int p4), some (.int q1), none, none, none, none]) rfl ?_
  refine r_iload_n F dX12_coresBehind_7 rfl ?_
  refine r_iload_n F dX12_coresBehind_8 rfl ?_
  obtain ⟨q3, hq4, hf⟩ := e_bd hf
  refine r_callS F dX12_coresBehind_9 (dc := 0) (ds := 0) (As := [.int p1, .int p2]) (S0 := []) lkX12_285 mX12_toY (tX12_toY hG (la := x_l X) (h := e_up h []) hnx  hq4) rfl rfl rfl (e_le rfl) (e_le rfl) (e_le rfl) (Nat.zero_le _) (Nat.zero_le _) (e_k ?_)
  refine r_wr0 ?_
  refine r_istore F dX12_coresBehind_12 (e_le rfl) (L' := [some (.ref 72), some (.int p0), some (.int p1), some (.int p2), some (.int p3), some (.int p4), some (.int q1), some (.int q3), none, none, none]) rfl ?_
  refine r_aload_n F dX12_coresBehind_14 rfl ?_
  refine r_get F dX12_coresBehind_15 flX12_241 h72 rfl (e_le rfl) (e_lt hnx rfl) ?_
  refine r_istore F dX12_coresBehind_18 (e_le rfl) (L' := [some (.ref 72), some (.int p0), some (.int p1), some (.int p2), some (.int p3), some (.int p4), some (.int q1), some (.int q3), some (.int a72_29), none, none]) rfl ?_
  refine r_iload F dX12_coresBehind_20 rfl ?_
  refine r_aload_n F dX12_coresBehind_22 rfl ?_
  refine r_iload_n F dX12_coresBehind_23 rfl ?_
  refine r_iload_n F dX12_coresBehind_24 rfl ?_
  refine r_iconst F dX12_coresBehind_25 (v := 0) (by decide) ?_
  obtain ⟨q5, hq6, hf⟩ := e_bd hf
  refine r_callV F dX12_coresBehind_26 (b := 72) (dc := 0) (ds := 0) (As := [.int p0, .int p1, .int 0]) (S0 := [.int a72_29]) lkX12_221 mX12_vector (tX12_vector_72 hG (la := x_l X) (h := e_up h []) hnx h72 h79 hq6) rfl rfl rfl (e_le rfl) (e_le rfl) (e_le rfl) h72 (ci := 12) e_cl12.1 rfl (e_le rfl) (e_lt hnx rfl) (Nat.zero_le _) (Nat.zero_le _) (e_k ?_)
  refine r_wr0 ?_
  refine r_iload F dX12_coresBehind_29 rfl ?_
  obtain ⟨q7, hq8, hf⟩ := e_bd hf
  have Jq7 : eRun G X 51 [some (.ref 72), none, none, none, some (.int p3), some (.int p4), some (.int q1), some (.int q3), none, none, none] [.int (e_b q7), .int a72_29] h [] nx 0 0 := by
    refine r_isub F dX12_coresBehind_51 ?_
    refine r_istore F dX12_coresBehind_52 (e_le rfl) (L' := [some (.ref 72), none, none, none, some (.int p3), some (.int p4), some (.int q1), some (.int q3), some (.int (a72_29 - (e_b q7))), none, none]) rfl ?_
    refine r_aload_n F dX12_coresBehind_54 rfl ?_
    refine r_iload F dX12_coresBehind_55 rfl ?_
    refine r_iload F dX12_coresBehind_57 rfl ?_
    obtain ⟨q9, hq10, hf⟩ := e_bd hf
    refine r_callV F dX12_coresBehind_59 (b := 72) (dc := 0) (ds := 0) (As := [.int q1, .int q3]) (S0 := []) lkX12_288 mX12_isFace (tX12_isFace_72 hG (la := x_l X) (h := e_up h []) hnx h72 hq10) rfl rfl rfl (e_le rfl) (e_le rfl) (e_le rfl) h72 (ci := 12) e_cl12.1 rfl (e_le rfl) (e_lt hnx rfl) (Nat.zero_le _) (Nat.zero_le _) (e_k ?_)
    refine r_wr0 ?_
    refine r_z_eq F dX12_coresBehind_62 (tgt := 146) (by decide) (fun hc => ?_) (fun hc => ?_)
    · have hf := e_t hc hf
      refine r_aload_n F dX12_coresBehind_65 rfl ?_
      refine r_iload F dX12_coresBehind_66 rfl ?_
      refine r_iload F dX12_coresBehind_68 rfl ?_
      obtain ⟨q11, hq12, hf⟩ := e_bd hf
      refine r_callV F dX12_coresBehind_70 (b := 72) (dc := 0) (ds := 0) (As := [.int q1, .int q3]) (S0 := []) lkX12_244 mX12_isCore (tX12_isCore_72 hG (la := x_l X) (h := e_up h []) hnx h72 h79 hq12) rfl rfl rfl (e_le rfl) (e_le rfl) (e_le rfl) h72 (ci := 12) e_cl12.1 rfl (e_le rfl) (e_lt hnx rfl) (Nat.zero_le _) (Nat.zero_le _) (e_k ?_)
      refine r_wr0 ?_
      refine r_istore F dX12_coresBehind_73 (e_le rfl) (L' := [some (.ref 72), none, none, none, some (.int p3), some (.int p4), some (.int q1), some (.int q3), some (.int (a72_29 - (e_b q7))), some (.int (e_b q11)), none]) rfl ?_
      refine r_aload_n F dX12_coresBehind_75 rfl ?_
      refine r_iload F dX12_coresBehind_76 rfl ?_
      refine r_iload F dX12_coresBehind_78 rfl ?_
      refine r_iconst F dX12_coresBehind_80 (v := 0) (by decide) ?_
      obtain ⟨q13, hq14, hf⟩ := e_bd hf
      refine r_callV F dX12_coresBehind_81 (b := 72) (dc := 0) (ds := 0) (As := [.int q1, .int q3, .int 0]) (S0 := []) lkX12_221 mX12_vector (tX12_vector_72 hG (la := x_l X) (h := e_up h []) hnx h72 h79 hq14) rfl rfl rfl (e_le rfl) (e_le rfl) (e_le rfl) h72 (ci := 12) e_cl12.1 rfl (e_le rfl) (e_lt hnx rfl) (Nat.zero_le _) (Nat.zero_le _) (e_k ?_)
      refine r_wr0 ?_
      refine r_iload F dX12_coresBehind_84 rfl ?_
      refine r_iadd F dX12_coresBehind_86 ?_
      obtain ⟨q15, hq16, hf⟩ := e_bd hf
      have Jq15 : eRun G X 110 [none, none, none, none, none, none, none, none, some (.int (a72_29 - (e_b q7))), some (.int (e_b q11)), none] [.int (e_b q15)] h [] nx 0 0 := by
        refine r_istore F dX12_coresBehind_110 (e_le rfl) (L' := [none, none, none, none, none, none, none, none, some (.int (a72_29 - (e_b q7))), some (.int (e_b q11)), some (.int (e_b q15))]) rfl ?_
        refine r_iload F dX12_coresBehind_112 rfl ?_
        refine r_iload F dX12_coresBehind_114 rfl ?_
        refine r_z_eq F dX12_coresBehind_116 (tgt := 128) (by decide) (fun hc => ?_) (fun hc => ?_)
        · have hf := e_t hc hf
          refine r_iload F dX12_coresBehind_119 rfl ?_
          refine r_z_ne F dX12_coresBehind_121 (tgt := 128) (by decide) (fun hc => ?_) (fun hc => ?_)
          · have hf := e_t hc hf
            refine r_iload F dX12_coresBehind_128 rfl ?_
            refine r_z_ne F dX12_coresBehind_130 (tgt := 142) (by decide) (fun hc => ?_) (fun hc => ?_)
            · have hf := e_t hc hf
              refine r_iconst F dX12_coresBehind_142 (v := 0) (by decide) ?_
              refine r_iadd F dX12_coresBehind_143 ?_
              refine r_istore F dX12_coresBehind_144 (e_le rfl) (L' := [none, none, none, none, none, none, none, none, some (.int ((a72_29 - (e_b q7)) + 0)), some (.int (e_b q11)), some (.int (e_b q15))]) rfl ?_
              refine r_iload F dX12_coresBehind_146 rfl ?_
              obtain rfl := Option.some.inj hf
              exact r_iret F hq dX12_coresBehind_148 rfl rfl (Nat.le_refl _) (Nat.le_refl _) ⟨rfl, rfl⟩
            · have hf := e_f hc hf
              refine r_iload F dX12_coresBehind_133 rfl ?_
              refine r_z_eq F dX12_coresBehind_135 (tgt := 142) (by decide) (fun hc => ?_) (fun hc => ?_)
              · have hf := e_t hc hf
                refine r_iconst F dX12_coresBehind_138 (v := (-1)) (by decide) ?_
                refine r_goto F dX12_coresBehind_139 (tgt := 143) (by decide) ?_
                refine r_iadd F dX12_coresBehind_143 ?_
                refine r_istore F dX12_coresBehind_144 (e_le rfl) (L' := [none, none, none, none, none, none, none, none, some (.int ((a72_29 - (e_b q7)) + (-1))), some (.int (e_b q11)), some (.int (e_b q15))]) rfl ?_
                refine r_iload F dX12_coresBehind_146 rfl ?_
                obtain rfl := Option.some.inj hf
                exact r_iret F hq dX12_coresBehind_148 rfl rfl (Nat.le_refl _) (Nat.le_refl _) ⟨rfl, rfl⟩
              · have hf := e_f hc hf
                refine r_iconst F dX12_coresBehind_142 (v := 0) (by decide) ?_
                refine r_iadd F dX12_coresBehind_143 ?_
                refine r_istore F dX12_coresBehind_144 (e_le rfl) (L' := [none, none, none, none, none, none, none, none, some (.int ((a72_29 - (e_b q7)) + 0)), some (.int (e_b q11)), some (.int (e_b q15))]) rfl ?_
                refine r_iload F dX12_coresBehind_146 rfl ?_
                obtain rfl := Option.some.inj hf
                exact r_iret F hq dX12_coresBehind_148 rfl rfl (Nat.le_refl _) (Nat.le_refl _) ⟨rfl, rfl⟩
          · have hf := e_f hc hf
            refine r_iconst F dX12_coresBehind_124 (v := 1) (by decide) ?_
            refine r_goto F dX12_coresBehind_125 (tgt := 143) (by decide) ?_
            refine r_iadd F dX12_coresBehind_143 ?_
            refine r_istore F dX12_coresBehind_144 (e_le rfl) (L' := [none, none, none, none, none, none, none, none, some (.int ((a72_29 - (e_b q7)) + 1)), some (.int (e_b q11)), some (.int (e_b q15))]) rfl ?_
            refine r_iload F dX12_coresBehind_146 rfl ?_
            obtain rfl := Option.some.inj hf
            exact r_iret F hq dX12_coresBehind_148 rfl rfl (Nat.le_refl _) (Nat.le_refl _) ⟨rfl, rfl⟩
        · have hf := e_f hc hf
          refine r_iload F dX12_coresBehind_128 rfl ?_
          refine r_z_ne F dX12_coresBehind_130 (tgt := 142) (by decide) (fun hc => ?_) (fun hc => ?_)
          · have hf := e_t hc hf
            refine r_iconst F dX12_coresBehind_142 (v := 0) (by decide) ?_
            refine r_iadd F dX12_coresBehind_143 ?_
            refine r_istore F dX12_coresBehind_144 (e_le rfl) (L' := [none, none, none, none, none, none, none, none, some (.int ((a72_29 - (e_b q7)) + 0)), some (.int (e_b q11)), some (.int (e_b q15))]) rfl ?_
            refine r_iload F dX12_coresBehind_146 rfl ?_
            obtain rfl := Option.some.inj hf
            exact r_iret F hq dX12_coresBehind_148 rfl rfl (Nat.le_refl _) (Nat.le_refl _) ⟨rfl, rfl⟩
          · have hf := e_f hc hf
            refine r_iload F dX12_coresBehind_133 rfl ?_
            refine r_z_eq F dX12_coresBehind_135 (tgt := 142) (by decide) (fun hc => ?_) (fun hc => ?_)
            · have hf := e_t hc hf
              refine r_iconst F dX12_coresBehind_138 (v := (-1)) (by decide) ?_
              refine r_goto F dX12_coresBehind_139 (tgt := 143) (by decide) ?_
              refine r_iadd F dX12_coresBehind_143 ?_
              refine r_istore F dX12_coresBehind_144 (e_le rfl) (L' := [none, none, none, none, none, none, none, none, some (.int ((a72_29 - (e_b q7)) + (-1))), some (.int (e_b q11)), some (.int (e_b q15))]) rfl ?_
              refine r_iload F dX12_coresBehind_146 rfl ?_
              obtain rfl := Option.some.inj hf
              exact r_iret F hq dX12_coresBehind_148 rfl rfl (Nat.le_refl _) (Nat.le_refl _) ⟨rfl, rfl⟩
            · have hf := e_f hc hf
              refine r_iconst F dX12_coresBehind_142 (v := 0) (by decide) ?_
              refine r_iadd F dX12_coresBehind_143 ?_
              refine r_istore F dX12_coresBehind_144 (e_le rfl) (L' := [none, none, none, none, none, none, none, none, some (.int ((a72_29 - (e_b q7)) + 0)), some (.int (e_b q11)), some (.int (e_b q15))]) rfl ?_
              refine r_iload F dX12_coresBehind_146 rfl ?_
              obtain rfl := Option.some.inj hf
              exact r_iret F hq dX12_coresBehind_148 rfl rfl (Nat.le_refl _) (Nat.le_refl _) ⟨rfl, rfl⟩
      refine r_if_ne F dX12_coresBehind_87 (tgt := 105) (by decide) (fun hc => ?_) (fun hc => ?_)
      · have hq16 := e_f hc hq16
        refine r_iconst F dX12_coresBehind_105 (v := 1) (by decide) ?_
        refine r_goto F dX12_coresBehind_106 (tgt := 110) (by decide) ?_
        refine r_drop 0 (L' := [none, none, none, none, some (.int p3), some (.int p4), some (.int q1), some (.int q3), some (.int (a72_29 - (e_b q7))), some (.int (e_b q11)), none]) rfl ?_
        refine r_drop 4 (L' := [none, none, none, none, none, some (.int p4), some (.int q1), some (.int q3), some (.int (a72_29 - (e_b q7))), some (.int (e_b q11)), none]) rfl ?_
        refine r_drop 5 (L' := [none, none, none, none, none, none, some (.int q1), some (.int q3), some (.int (a72_29 - (e_b q7))), some (.int (e_b q11)), none]) rfl ?_
        refine r_drop 6 (L' := [none, none, none, none, none, none, none, some (.int q3), some (.int (a72_29 - (e_b q7))), some (.int (e_b q11)), none]) rfl ?_
        refine r_drop 7 (L' := [none, none, none, none, none, none, none, none, some (.int (a72_29 - (e_b q7))), some (.int (e_b q11)), none]) rfl ?_
        obtain rfl := Option.some.inj hq16
        exact Jq15
      · have hq16 := e_t hc hq16
        refine r_aload_n F dX12_coresBehind_90 rfl ?_
        refine r_iload F dX12_coresBehind_91 rfl ?_
        refine r_iload F dX12_coresBehind_93 rfl ?_
        refine r_iconst F dX12_coresBehind_95 (v := 1) (by decide) ?_
        obtain ⟨q17, hq18, hq16⟩ := e_bd hq16
        refine r_callV F dX12_coresBehind_96 (b := 72) (dc := 0) (ds := 0) (As := [.int q1, .int q3, .int 1]) (S0 := []) lkX12_221 mX12_vector (tX12_vector_72 hG (la := x_l X) (h := e_up h []) hnx h72 h79 hq18) rfl rfl rfl (e_le rfl) (e_le rfl) (e_le rfl) h72 (ci := 12) e_cl12.1 rfl (e_le rfl) (e_lt hnx rfl) (Nat.zero_le _) (Nat.zero_le _) (e_k ?_)
        refine r_wr0 ?_
        refine r_iload F dX12_coresBehind_99 rfl ?_
        refine r_iadd F dX12_coresBehind_101 ?_
        refine r_if_eq F dX12_coresBehind_102 (tgt := 109) (by decide) (fun hc => ?_) (fun hc => ?_)
        · have hq16 := e_t hc hq16
          refine r_iconst F dX12_coresBehind_109 (v := 0) (by decide) ?_
          refine r_drop 0 (L' := [none, none, none, none, some (.int p3), some (.int p4), some (.int q1), some (.int q3), some (.int (a72_29 - (e_b q7))), some (.int (e_b q11)), none]) rfl ?_
          refine r_drop 4 (L' := [none, none, none, none, none, some (.int p4), some (.int q1), some (.int q3), some (.int (a72_29 - (e_b q7))), some (.int (e_b q11)), none]) rfl ?_
          refine r_drop 5 (L' := [none, none, none, none, none, none, some (.int q1), some (.int q3), some (.int (a72_29 - (e_b q7))), some (.int (e_b q11)), none]) rfl ?_
          refine r_drop 6 (L' := [none, none, none, none, none, none, none, some (.int q3), some (.int (a72_29 - (e_b q7))), some (.int (e_b q11)), none]) rfl ?_
          refine r_drop 7 (L' := [none, none, none, none, none, none, none, none, some (.int (a72_29 - (e_b q7))), some (.int (e_b q11)), none]) rfl ?_
          obtain rfl := Option.some.inj hq16
          exact Jq15
        · have hq16 := e_f hc hq16
          refine r_iconst F dX12_coresBehind_105 (v := 1) (by decide) ?_
          refine r_goto F dX12_coresBehind_106 (tgt := 110) (by decide) ?_
          refine r_drop 0 (L' := [none, none, none, none, some (.int p3), some (.int p4), some (.int q1), some (.int q3), some (.int (a72_29 - (e_b q7))), some (.int (e_b q11)), none]) rfl ?_
          refine r_drop 4 (L' := [none, none, none, none, none, some (.int p4), some (.int q1), some (.int q3), some (.int (a72_29 - (e_b q7))), some (.int (e_b q11)), none]) rfl ?_
          refine r_drop 5 (L' := [none, none, none, none, none, none, some (.int q1), some (.int q3), some (.int (a72_29 - (e_b q7))), some (.int (e_b q11)), none]) rfl ?_
          refine r_drop 6 (L' := [none, none, none, none, none, none, none, some (.int q3), some (.int (a72_29 - (e_b q7))), some (.int (e_b q11)), none]) rfl ?_
          refine r_drop 7 (L' := [none, none, none, none, none, none, none, none, some (.int (a72_29 - (e_b q7))), some (.int (e_b q11)), none]) rfl ?_
          obtain rfl := Option.some.inj hq16
          exact Jq15
    · have hf := e_f hc hf
      refine r_iload F dX12_coresBehind_146 rfl ?_
      obtain rfl := Option.some.inj hf
      exact r_iret F hq dX12_coresBehind_148 rfl rfl (Nat.le_refl _) (Nat.le_refl _) ⟨rfl, rfl⟩
  refine r_icmp_ne F dX12_coresBehind_31 (tgt := 50) (by decide) (fun hc => ?_) (fun hc => ?_)
  · have hq8 := e_f hc hq8
    refine r_iconst F dX12_coresBehind_50 (v := 0) (by decide) ?_
    refine r_drop 1 (L' := [some (.ref 72), none, some (.int p1), some (.int p2), some (.int p3), some (.int p4), some (.int q1), some (.int q3), some (.int a72_29), none, none]) rfl ?_
    refine r_drop 2 (L' := [some (.ref 72), none, none, some (.int p2), some (.int p3), some (.int p4), some (.int q1), some (.int q3), some (.int a72_29), none, none]) rfl ?_
    refine r_drop 3 (L' := [some (.ref 72), none, none, none, some (.int p3), some (.int p4), some (.int q1), some (.int q3), some (.int a72_29), none, none]) rfl ?_
    refine r_drop 8 (L' := [some (.ref 72), none, none, none, some (.int p3), some (.int p4), some (.int q1), some (.int q3), none, none, none]) rfl ?_
    obtain rfl := Option.some.inj hq8
    exact Jq7
  · have hq8 := e_t hc hq8
    refine r_aload_n F dX12_coresBehind_34 rfl ?_
    refine r_iload_n F dX12_coresBehind_35 rfl ?_
    refine r_iload_n F dX12_coresBehind_36 rfl ?_
    refine r_iconst F dX12_coresBehind_37 (v := 1) (by decide) ?_
    obtain ⟨q19, hq20, hq8⟩ := e_bd hq8
    refine r_callV F dX12_coresBehind_38 (b := 72) (dc := 0) (ds := 0) (As := [.int p0, .int p1, .int 1]) (S0 := [.int a72_29]) lkX12_221 mX12_vector (tX12_vector_72 hG (la := x_l X) (h := e_up h []) hnx h72 h79 hq20) rfl rfl rfl (e_le rfl) (e_le rfl) (e_le rfl) h72 (ci := 12) e_cl12.1 rfl (e_le rfl) (e_lt hnx rfl) (Nat.zero_le _) (Nat.zero_le _) (e_k ?_)
    refine r_wr0 ?_
    refine r_iload F dX12_coresBehind_41 rfl ?_
    refine r_icmp_ne F dX12_coresBehind_43 (tgt := 50) (by decide) (fun hc => ?_) (fun hc => ?_)
    · have hq8 := e_f hc hq8
      refine r_iconst F dX12_coresBehind_50 (v := 0) (by decide) ?_
      refine r_drop 1 (L' := [some (.ref 72), none, some (.int p1), some (.int p2), some (.int p3), some (.int p4), some (.int q1), some (.int q3), some (.int a72_29), none, none]) rfl ?_
      refine r_drop 2 (L' := [some (.ref 72), none, none, some (.int p2), some (.int p3), some (.int p4), some (.int q1), some (.int q3), some (.int a72_29), none, none]) rfl ?_
      refine r_drop 3 (L' := [some (.ref 72), none, none, none, some (.int p3), some (.int p4), some (.int q1), some (.int q3), some (.int a72_29), none, none]) rfl ?_
      refine r_drop 8 (L' := [some (.ref 72), none, none, none, some (.int p3), some (.int p4), some (.int q1), some (.int q3), none, none, none]) rfl ?_
      obtain rfl := Option.some.inj hq8
      exact Jq7
    · have hq8 := e_t hc hq8
      refine r_iconst F dX12_coresBehind_46 (v := 1) (by decide) ?_
      refine r_goto F dX12_coresBehind_47 (tgt := 51) (by decide) ?_
      refine r_drop 1 (L' := [some (.ref 72), none, some (.int p1), some (.int p2), some (.int p3), some (.int p4), some (.int q1), some (.int q3), some (.int a72_29), none, none]) rfl ?_
      refine r_drop 2 (L' := [some (.ref 72), none, none, some (.int p2), some (.int p3), some (.int p4), some (.int q1), some (.int q3), some (.int a72_29), none, none]) rfl ?_
      refine r_drop 3 (L' := [some (.ref 72), none, none, none, some (.int p3), some (.int p4), some (.int q1), some (.int q3), some (.int a72_29), none, none]) rfl ?_
      refine r_drop 8 (L' := [some (.ref 72), none, none, none, some (.int p3), some (.int p4), some (.int q1), some (.int q3), none, none, none]) rfl ?_
      obtain rfl := Option.some.inj hq8
      exact Jq7

def fX12_linkOf  (p0 : Int32) (p1 : Int32) (p2 : Bool) : Option (Int32) :=
  if p2 = true then
    some (((2 : Int32) * (((9 : Int32) * p1) + p0)) + 1)
  else
    some (((2 : Int32) * (((9 : Int32) * p1) + p0)) + 0)
set_option maxRecDepth 100000 in
theorem tX12_linkOf {G : eG} (hG : e_GS G) {la : Launch} {h : Nat → eO} {nx : Nat} (hnx : 99 ≤ nx)  {p0 : Int32} {p1 : Int32} {p2 : Bool}  {R9 : Int32} (hf : fX12_linkOf  p0 p1 p2 = some R9) :
    eSem G la MX12_linkOf [.int p0, .int p1, .int (e_b p2)] h nx 0 0 (fun r9 h9 => r9 = some (.int R9) ∧ h9 = h) := by
  refine eSem.of (k := 0) (L := [some (.int p0), some (.int p1), some (.int (e_b p2))]) (by decide +kernel) rfl rfl (fun X F hxl hq hcR hsR => ?_)
  subst hxl
  unfold fX12_linkOf at hf
  refine r_iconst F dX12_linkOf_0 (v := 2) (by decide) ?_
  refine r_bipush F dX12_linkOf_1 (v := 9) (by decide) ?_
  refine r_iload_n F dX12_linkOf_3 rfl ?_
  refine r_imul F dX12_linkOf_4 ?_
  refine r_iload_n F dX12_linkOf_5 rfl ?_
  refine r_iadd F dX12_linkOf_6 ?_
  refine r_imul F dX12_linkOf_7 ?_
  refine r_iload_n F dX12_linkOf_8 rfl ?_
  refine r_z_eq F dX12_linkOf_9 (tgt := 16) (by decide) (fun hc => ?_) (fun hc => ?_)
  · have hf := e_t hc hf
    refine r_iconst F dX12_linkOf_12 (v := 1) (by decide) ?_
    refine r_goto F dX12_linkOf_13 (tgt := 17) (by decide) ?_
    refine r_iadd F dX12_linkOf_17 ?_
    obtain rfl := Option.some.inj hf
    exact r_iret F hq dX12_linkOf_18 rfl rfl (Nat.le_refl _) (Nat.le_refl _) ⟨rfl, rfl⟩
  · have hf := e_f hc hf
    refine r_iconst F dX12_linkOf_16 (v := 0) (by decide) ?_
    refine r_iadd F dX12_linkOf_17 ?_
    obtain rfl := Option.some.inj hf
    exact r_iret F hq dX12_linkOf_18 rfl rfl (Nat.le_refl _) (Nat.le_refl _) ⟨rfl, rfl⟩

def fX12_ofFace  (p0 : Int32) (p1 : Int32) (p2 : Int32) : Option (Int32) :=
  if p2 = 0 then
    (fX12_linkOf p0 p1 false).bind (fun q7 =>
    some q7)
  else
    if p2 = 1 then
      (fX12_linkOf p0 p1 true).bind (fun q5 =>
      some q5)
    else
      if p2 = 2 then
        (fX12_linkOf (p0 + 1) p1 true).bind (fun q3 =>
        some q3)
      else
        (fX12_linkOf p0 (p1 + 1) false).bind (fun q1 =>
        some q1)
set_option maxRecDepth 100000 in
theorem tX12_ofFace_72 {G : eG} (hG : e_GS G) {la : Launch} {h : Nat → eO} {nx : Nat} (hnx : 99 ≤ nx)  {p0 : Int32} {p1 : Int32} {p2 : Int32}  {R9 : Int32} (hf : fX12_ofFace  p0 p1 p2 = some R9) :
    eSem G la MX12_ofFace [.ref 72, .int p0, .int p1, .int p2] h nx 0 0 (fun r9 h9 => r9 = some (.int R9) ∧ h9 = h) := by
  refine eSem.of (k := 0) (L := [some (.ref 72), some (.int p0), some (.int p1), some (.int p2)]) (by decide +kernel) rfl rfl (fun X F hxl hq hcR hsR => ?_)
  subst hxl
  unfold fX12_ofFace at hf
  refine r_iload_n F dX12_ofFace_0 rfl ?_
  refine r_if_ne F dX12_ofFace_1 (tgt := 13) (by decide) (fun hc => ?_) (fun hc => ?_)
  · have hf := e_f hc hf
    refine r_iload_n F dX12_ofFace_13 rfl ?_
    refine r_iconst F dX12_ofFace_14 (v := 1) (by decide) ?_
    refine r_icmp_ne F dX12_ofFace_15 (tgt := 27) (by decide) (fun hc => ?_) (fun hc => ?_)
    · have hf := e_f hc hf
      refine r_iload_n F dX12_ofFace_27 rfl ?_
      refine r_iconst F dX12_ofFace_28 (v := 2) (by decide) ?_
      refine r_icmp_ne F dX12_ofFace_29 (tgt := 43) (by decide) (fun hc => ?_) (fun hc => ?_)
      · have hf := e_f hc hf
        refine r_iload_n F dX12_ofFace_43 rfl ?_
        refine r_iload_n F dX12_ofFace_44 rfl ?_
        refine r_iconst F dX12_ofFace_45 (v := 1) (by decide) ?_
        refine r_iadd F dX12_ofFace_46 ?_
        refine r_iconst F dX12_ofFace_47 (v := 0) (by decide) ?_
        obtain ⟨q1, hq2, hf⟩ := e_bd hf
        refine r_callS F dX12_ofFace_48 (dc := 0) (ds := 0) (As := [.int p0, .int (p1 + 1), .int 0]) (S0 := []) lkX12_421 mX12_linkOf (tX12_linkOf hG (la := x_l X) (h := e_up h []) hnx  hq2) rfl rfl rfl (e_le rfl) (e_le rfl) (e_le rfl) (Nat.zero_le _) (Nat.zero_le _) (e_k ?_)
        refine r_wr0 ?_
        obtain rfl := Option.some.inj hf
        exact r_iret F hq dX12_ofFace_51 rfl rfl (Nat.le_refl _) (Nat.le_refl _) ⟨rfl, rfl⟩
      · have hf := e_t hc hf
        refine r_iload_n F dX12_ofFace_32 rfl ?_
        refine r_iconst F dX12_ofFace_33 (v := 1) (by decide) ?_
        refine r_iadd F dX12_ofFace_34 ?_
        refine r_iload_n F dX12_ofFace_35 rfl ?_
        refine r_iconst F dX12_ofFace_36 (v := 1) (by decide) ?_
        obtain ⟨q3, hq4, hf⟩ := e_bd hf
        refine r_callS F dX12_ofFace_37 (dc := 0) (ds := 0) (As := [.int (p0 + 1), .int p1, .int 1]) (S0 := []) lkX12_421 mX12_linkOf (tX12_linkOf hG (la := x_l X) (h := e_up h []) hnx  hq4) rfl rfl rfl (e_le rfl) (e_le rfl) (e_le rfl) (Nat.zero_le _) (Nat.zero_le _) (e_k ?_)
        refine r_wr0 ?_
        refine r_goto F dX12_ofFace_40 (tgt := 51) (by decide) ?_
        obtain rfl := Option.some.inj hf
        exact r_iret F hq dX12_ofFace_51 rfl rfl (Nat.le_refl _) (Nat.le_refl _) ⟨rfl, rfl⟩
    · have hf := e_t hc hf
      refine r_iload_n F dX12_ofFace_18 rfl ?_
      refine r_iload_n F dX12_ofFace_19 rfl ?_
      refine r_iconst F dX12_ofFace_20 (v := 1) (by decide) ?_
      obtain ⟨q5, hq6, hf⟩ := e_bd hf
      refine r_callS F dX12_ofFace_21 (dc := 0) (ds := 0) (As := [.int p0, .int p1, .int 1]) (S0 := []) lkX12_421 mX12_linkOf (tX12_linkOf hG (la := x_l X) (h := e_up h []) hnx  hq6) rfl rfl rfl (e_le rfl) (e_le rfl) (e_le rfl) (Nat.zero_le _) (Nat.zero_le _) (e_k ?_)
      refine r_wr0 ?_
      refine r_goto F dX12_ofFace_24 (tgt := 51) (by decide) ?_
      obtain rfl := Option.some.inj hf
      exact r_iret F hq dX12_ofFace_51 rfl rfl (Nat.le_refl _) (Nat.le_refl _) ⟨rfl, rfl⟩
  · have hf := e_t hc hf
    refine r_iload_n F dX12_ofFace_4 rfl ?_
    refine r_iload_n F dX12_ofFace_5 rfl ?_
    refine r_iconst F dX12_ofFace_6 (v := 0) (by decide) ?_
    obtain ⟨q7, hq8, hf⟩ := e_bd hf
    refine r_callS F dX12_ofFace_7 (dc := 0) (ds := 0) (As := [.int p0, .int p1, .int 0]) (S0 := []) lkX12_421 mX12_linkOf (tX12_linkOf hG (la := x_l X) (h := e_up h []) hnx  hq8) rfl rfl rfl (e_le rfl) (e_le rfl) (e_le rfl) (Nat.zero_le _) (Nat.zero_le _) (e_k ?_)
    refine r_wr0 ?_
    refine r_goto F dX12_ofFace_10 (tgt := 51) (by decide) ?_
    obtain rfl := Option.some.inj hf
    exact r_iret F hq dX12_ofFace_51 rfl rfl (Nat.le_refl _) (Nat.le_refl _) ⟨rfl, rfl⟩

def fX12_coresBeside (a72_21 : Int32) (a72_22 : Int32) (A79 : Nat → Int32) (A91 : Nat → Int32) (p0 : Int32) : Option (Int32) :=
  (e_loop (fun (v3 : Int32 × Int32) => (
      if (a72_22 - 1) ≤ v3.2 then
        some (.inr v3.1)
      else
        (e_loop (fun (v8 : Int32 × Int32) => (
            if (a72_21 - 1) ≤ v8.2 then
              some (.inr v8.1)
            else
              (e_loop (fun (v13 : Bool × Int32) => (
                  if 4 ≤ v13.2 then
                    some (.inr v13.1)
                  else
                    (fX12_ofFace v8.2 v3.2 v13.2).bind (fun q16 =>
                    Option.bind (α := Bool) (
                      if v13.1 = true then
                        some true
                      else
                        (fX12_isSlippedAt a72_21 a72_22 A79 q16).bind (fun q20 =>
                        if q20 = true then
                          e_g (e_in q16 162) (
                          if (A91 (tn q16)) = p0 then
                            some true
                          else
                            some false)
                        else
                          some false)) (fun q18 =>
                    some (.inl (q18, v13.2 + 1)))) : Option ((Bool × Int32) ⊕ (Bool)))) e_fuel (false, 0)).bind (fun x14 =>
              Option.bind (α := Bool) (
                if x14 = true then
                  (fX12_isCore A79 v8.2 v3.2).bind (fun q24 =>
                  if q24 = true then
                    some true
                  else
                    some false)
                else
                  some false) (fun q22 =>
              some (.inl (v8.1 + (e_b q22), v8.2 + 1)))) : Option ((Int32 × Int32) ⊕ (Int32)))) e_fuel (v3.1, 0)).bind (fun x9 =>
        some (.inl (x9, v3.2 + 1))) : Option ((Int32 × Int32) ⊕ (Int32)))) e_fuel (0, 0)).bind (fun x4 =>
  some x4)
set_option maxRecDepth 100000 in
theorem tX12_coresBeside_72 {G : eG} (hG : e_GS G) {la : Launch} {h : Nat → eO} {nx : Nat} (hnx : 99 ≤ nx) {a72_0 : Int32} {a72_2 : Int32} {a72_3 : Int32} {a72_4 : Int32} {a72_5 : Int32} {a72_6 : Int32} {a72_7 : Int32} {a72_8 : Bool} {a72_9 : Int32} {a72_10 : Int32} {a72_11 : Int32} {a72_17 : Bool} {a72_18 : Bool} {a72_19 : Bool} {a72_21 : Int32} {a72_22 : Int32} {a72_29 : Int32} {a72_31 : Int32} {a72_35 : Int32} {a72_37 : Bool} {a72_38 : Int32} {a72_39 : Int32} {a72_40 : Int32} {a72_41 : Int64} {a72_44 : Int32} {a72_50 : Bool} {A79 : Nat → Int32} {A91 : Nat → Int32} {p0 : Int32} (h72 : h 72 = o72 a72_0 a72_2 a72_3 a72_4 a72_5 a72_6 a72_7 a72_8 a72_9 a72_10 a72_11 a72_17 a72_18 a72_19 a72_21 a72_22 a72_29 a72_31 a72_35 a72_37 a72_38 a72_39 a72_40 a72_41 a72_44 a72_50) (h79 : h 79 = o79 A79) (h91 : h 91 = o91 A91) {R9 : Int32} (hf : fX12_coresBeside a72_21 a72_22 A79 A91 p0 = some R9) :
    eSem G la MX12_coresBeside [.ref 72, .int p0] h nx 0 0 (fun r9 h9 => r9 = some (.int R9) ∧ h9 = h) := by
  refine eSem.of (k := 6) (L := [some (.ref 72), some (.int p0), none, none, none, none, none, none]) (by decide +kernel) rfl rfl (fun X F hxl hq hcR hsR => ?_)
  subst hxl
  unfold fX12_coresBeside at hf
  refine r_iconst F dX12_coresBeside_0 (v := 0) (by decide) ?_
  refine r_istore_n F dX12_coresBeside_1 (e_le rfl) (L' := [some (.ref 72), some (.int p0), some (.int 0), none, none, none, none, none]) rfl ?_
  refine r_iconst F dX12_coresBeside_2 (v := 0) (by decide) ?_
  refine r_istore_n F dX12_coresBeside_3 (e_le rfl) (L' := [some (.ref 72), some (.int p0), some (.int 0), some (.int 0), none, none, none, none]) rfl ?_
  obtain ⟨x4, hx5, hf⟩ := e_bd hf
  refine (e_loop_ok (P := fun (v3 : Int32 × Int32) => eRun G X 4 [some (.ref 72), some (.int p0), some (.int v3.1), some (.int v3.2), none, none, none, none] [] h [] nx 0 0) (K := fun (x4 : Int32) => eRun G X 124 [none, none, some (.int x4), none, none, none, none, none] [] h [] nx 0 0) ?_ e_fuel (0, 0) x4 hx5 ?_ : _)
  · intro v3 z hz ih hx
    refine r_iload_n F dX12_coresBeside_4 rfl ?_
    refine r_aload_n F dX12_coresBeside_5 rfl ?_
    refine r_get F dX12_coresBeside_6 flX12_208 h72 rfl (e_le rfl) (e_lt hnx rfl) ?_
    refine r_iconst F dX12_coresBeside_9 (v := 1) (by decide) ?_
    refine r_isub F dX12_coresBeside_10 ?_
    refine r_icmp_ge F dX12_coresBeside_11 (tgt := 124) (by decide) (fun hc => ?_) (fun hc => ?_)
    · have hz := e_t hc hz
      refine r_drop 0 (L' := [none, some (.int p0), some (.int v3.1), some (.int v3.2), none, none, none, none]) rfl ?_
      refine r_drop 1 (L' := [none, none, some (.int v3.1), some (.int v3.2), none, none, none, none]) rfl ?_
      refine r_drop 3 (L' := [none, none, some (.int v3.1), none, none, none, none, none]) rfl ?_
      obtain rfl := Option.some.inj hz
      exact hx v3.1 rfl
    · have hz := e_f hc hz
      refine r_iconst F dX12_coresBeside_14 (v := 0) (by decide) ?_
      refine r_istore F dX12_coresBeside_15 (e_le rfl) (L' := [some (.ref 72), some (.int p0), some (.int v3.1), some (.int v3.2), some (.int 0), none, none, none]) rfl ?_
      obtain ⟨x9, hx10, hz⟩ := e_bd hz
      refine (e_loop_ok (P := fun (v8 : Int32 × Int32) => eRun G X 17 [some (.ref 72), some (.int p0), some (.int v8.1), some (.int v3.2), some (.int v8.2), none, none, none] [] h [] nx 0 0) (K := fun (x9 : Int32) => eRun G X 118 [some (.ref 72), some (.int p0), some (.int x9), some (.int v3.2), none, none, none, none] [] h [] nx 0 0) ?_ e_fuel (v3.1, 0) x9 hx10 ?_ : _)
      · intro v8 z hz ih hx
        refine r_iload F dX12_coresBeside_17 rfl ?_
        refine r_aload_n F dX12_coresBeside_19 rfl ?_
        refine r_get F dX12_coresBeside_20 flX12_205 h72 rfl (e_le rfl) (e_lt hnx rfl) ?_
        refine r_iconst F dX12_coresBeside_23 (v := 1) (by decide) ?_
        refine r_isub F dX12_coresBeside_24 ?_
        refine r_icmp_ge F dX12_coresBeside_25 (tgt := 118) (by decide) (fun hc => ?_) (fun hc => ?_)
        · have hz := e_t hc hz
          refine r_drop 4 (L' := [some (.ref 72), some (.int p0), some (.int v8.1), some (.int v3.2), none, none, none, none]) rfl ?_
          obtain rfl := Option.some.inj hz
          exact hx v8.1 rfl
        · have hz := e_f hc hz
          refine r_iconst F dX12_coresBeside_28 (v := 0) (by decide) ?_
          refine r_istore F dX12_coresBeside_29 (e_le rfl) (L' := [some (.ref 72), some (.int p0), some (.int v8.1), some (.int v3.2), some (.int v8.2), some (.int 0), none, none]) rfl ?_
          refine r_iconst F dX12_coresBeside_31 (v := 0) (by decide) ?_
          refine r_istore F dX12_coresBeside_32 (e_le rfl) (L' := [some (.ref 72), some (.int p0), some (.int v8.1), some (.int v3.2), some (.int v8.2), some (.int 0), some (.int 0), none]) rfl ?_
          obtain ⟨x14, hx15, hz⟩ := e_bd hz
          refine (e_loop_ok (P := fun (v13 : Bool × Int32) => eRun G X 34 [some (.ref 72), some (.int p0), some (.int v8.1), some (.int v3.2), some (.int v8.2), some (.int (e_b v13.1)), some (.int v13.2), none] [] h [] nx 0 0) (K := fun (x14 : Bool) => eRun G X 89 [some (.ref 72), some (.int p0), some (.int v8.1), some (.int v3.2), some (.int v8.2), some (.int (e_b x14)), none, none] [] h [] nx 0 0) ?_ e_fuel (false, 0) x14 hx15 ?_ : _)
          · intro v13 z hz ih hx
            refine r_iload F dX12_coresBeside_34 rfl ?_
            refine r_iconst F dX12_coresBeside_36 (v := 4) (by decide) ?_
            refine r_icmp_ge F dX12_coresBeside_37 (tgt := 89) (by decide) (fun hc => ?_) (fun hc => ?_)
            · have hz := e_t hc hz
              refine r_drop 6 (L' := [some (.ref 72), some (.int p0), some (.int v8.1), some (.int v3.2), some (.int v8.2), some (.int (e_b v13.1)), none, none]) rfl ?_
              obtain rfl := Option.some.inj hz
              exact hx v13.1 rfl
            · have hz := e_f hc hz
              refine r_aload_n F dX12_coresBeside_40 rfl ?_
              refine r_iload F dX12_coresBeside_41 rfl ?_
              refine r_iload_n F dX12_coresBeside_43 rfl ?_
              refine r_iload F dX12_coresBeside_44 rfl ?_
              obtain ⟨q16, hq17, hz⟩ := e_bd hz
              refine r_callV F dX12_coresBeside_46 (b := 72) (dc := 0) (ds := 0) (As := [.int v8.2, .int v3.2, .int v13.2]) (S0 := []) lkX12_425 mX12_ofFace (tX12_ofFace_72 hG (la := x_l X) (h := e_up h []) hnx  hq17) rfl rfl rfl (e_le rfl) (e_le rfl) (e_le rfl) h72 (ci := 12) e_cl12.1 rfl (e_le rfl) (e_lt hnx rfl) (Nat.zero_le _) (Nat.zero_le _) (e_k ?_)
              refine r_wr0 ?_
              refine r_istore F dX12_coresBeside_49 (e_le rfl) (L' := [some (.ref 72), some (.int p0), some (.int v8.1), some (.int v3.2), some (.int v8.2), some (.int (e_b v13.1)), some (.int v13.2), some (.int q16)]) rfl ?_
              refine r_iload F dX12_coresBeside_51 rfl ?_
              obtain ⟨q18, hq19, hz⟩ := e_bd hz
              have Jq18 : eRun G X 81 [some (.ref 72), some (.int p0), some (.int v8.1), some (.int v3.2), some (.int v8.2), none, some (.int v13.2), none] [.int (e_b q18)] h [] nx 0 0 := by
                refine r_istore F dX12_coresBeside_81 (e_le rfl) (L' := [some (.ref 72), some (.int p0), some (.int v8.1), some (.int v3.2), some (.int v8.2), some (.int (e_b q18)), some (.int v13.2), none]) rfl ?_
                refine r_inc F dX12_coresBeside_83 (k9 := 1) (by decide) rfl (L' := [some (.ref 72), some (.int p0), some (.int v8.1), some (.int v3.2), some (.int v8.2), some (.int (e_b q18)), some (.int (v13.2 + 1)), none]) rfl ?_
                refine r_goto F dX12_coresBeside_86 (tgt := 34) (by decide) ?_
                obtain rfl := Option.some.inj hz
                exact ih (q18, v13.2 + 1) rfl
              refine r_z_ne F dX12_coresBeside_53 (tgt := 76) (by decide) (fun hc => ?_) (fun hc => ?_)
              · have hq19 := e_t hc hq19
                refine r_iconst F dX12_coresBeside_76 (v := 1) (by decide) ?_
                refine r_goto F dX12_coresBeside_77 (tgt := 81) (by decide) ?_
                refine r_drop 5 (L' := [some (.ref 72), some (.int p0), some (.int v8.1), some (.int v3.2), some (.int v8.2), none, some (.int v13.2), some (.int q16)]) rfl ?_
                refine r_drop 7 (L' := [some (.ref 72), some (.int p0), some (.int v8.1), some (.int v3.2), some (.int v8.2), none, some (.int v13.2), none]) rfl ?_
                obtain rfl := Option.some.inj hq19
                exact Jq18
              · have hq19 := e_f hc hq19
                refine r_aload_n F dX12_coresBeside_56 rfl ?_
                refine r_iload F dX12_coresBeside_57 rfl ?_
                obtain ⟨q20, hq21, hq19⟩ := e_bd hq19
                refine r_callV F dX12_coresBeside_59 (b := 72) (dc := 0) (ds := 0) (As := [.int q16]) (S0 := []) lkX12_293 mX12_isSlippedAt (tX12_isSlippedAt_72 hG (la := x_l X) (h := e_up h []) hnx h72 h79 hq21) rfl rfl rfl (e_le rfl) (e_le rfl) (e_le rfl) h72 (ci := 12) e_cl12.1 rfl (e_le rfl) (e_lt hnx rfl) (Nat.zero_le _) (Nat.zero_le _) (e_k ?_)
                refine r_wr0 ?_
                refine r_z_eq F dX12_coresBeside_62 (tgt := 80) (by decide) (fun hc => ?_) (fun hc => ?_)
                · have hq19 := e_t hc hq19
                  refine r_aload_n F dX12_coresBeside_65 rfl ?_
                  refine r_get F dX12_coresBeside_66 flX12_65 h72 rfl (e_le rfl) (e_lt hnx rfl) ?_
                  refine r_iload F dX12_coresBeside_69 rfl ?_
                  obtain ⟨hg, hq19⟩ := e_gd hq19
                  refine r_iald F dX12_coresBeside_71 (i := q16) h91 (e_le rfl) (e_lt hnx rfl) (e_vp hg) ?_
                  refine r_iload_n F dX12_coresBeside_72 rfl ?_
                  refine r_icmp_ne F dX12_coresBeside_73 (tgt := 80) (by decide) (fun hc => ?_) (fun hc => ?_)
                  · have hq19 := e_f hc hq19
                    refine r_iconst F dX12_coresBeside_80 (v := 0) (by decide) ?_
                    refine r_drop 5 (L' := [some (.ref 72), some (.int p0), some (.int v8.1), some (.int v3.2), some (.int v8.2), none, some (.int v13.2), some (.int q16)]) rfl ?_
                    refine r_drop 7 (L' := [some (.ref 72), some (.int p0), some (.int v8.1), some (.int v3.2), some (.int v8.2), none, some (.int v13.2), none]) rfl ?_
                    obtain rfl := Option.some.inj hq19
                    exact Jq18
                  · have hq19 := e_t hc hq19
                    refine r_iconst F dX12_coresBeside_76 (v := 1) (by decide) ?_
                    refine r_goto F dX12_coresBeside_77 (tgt := 81) (by decide) ?_
                    refine r_drop 5 (L' := [some (.ref 72), some (.int p0), some (.int v8.1), some (.int v3.2), some (.int v8.2), none, some (.int v13.2), some (.int q16)]) rfl ?_
                    refine r_drop 7 (L' := [some (.ref 72), some (.int p0), some (.int v8.1), some (.int v3.2), some (.int v8.2), none, some (.int v13.2), none]) rfl ?_
                    obtain rfl := Option.some.inj hq19
                    exact Jq18
                · have hq19 := e_f hc hq19
                  refine r_iconst F dX12_coresBeside_80 (v := 0) (by decide) ?_
                  refine r_drop 5 (L' := [some (.ref 72), some (.int p0), some (.int v8.1), some (.int v3.2), some (.int v8.2), none, some (.int v13.2), some (.int q16)]) rfl ?_
                  refine r_drop 7 (L' := [some (.ref 72), some (.int p0), some (.int v8.1), some (.int v3.2), some (.int v8.2), none, some (.int v13.2), none]) rfl ?_
                  obtain rfl := Option.some.inj hq19
                  exact Jq18
          · show eRun G X 89 [some (.ref 72), some (.int p0), some (.int v8.1), some (.int v3.2), some (.int v8.2), some (.int (e_b x14)), none, none] [] h [] nx 0 0
            refine r_iload_n F dX12_coresBeside_89 rfl ?_
            refine r_iload F dX12_coresBeside_90 rfl ?_
            obtain ⟨q22, hq23, hz⟩ := e_bd hz
            have Jq22 : eRun G X 110 [some (.ref 72), some (.int p0), none, some (.int v3.2), some (.int v8.2), none, none, none] [.int (e_b q22), .int v8.1] h [] nx 0 0 := by
              refine r_iadd F dX12_coresBeside_110 ?_
              refine r_istore_n F dX12_coresBeside_111 (e_le rfl) (L' := [some (.ref 72), some (.int p0), some (.int (v8.1 + (e_b q22))), some (.int v3.2), some (.int v8.2), none, none, none]) rfl ?_
              refine r_inc F dX12_coresBeside_112 (k9 := 1) (by decide) rfl (L' := [some (.ref 72), some (.int p0), some (.int (v8.1 + (e_b q22))), some (.int v3.2), some (.int (v8.2 + 1)), none, none, none]) rfl ?_
              refine r_goto F dX12_coresBeside_115 (tgt := 17) (by decide) ?_
              obtain rfl := Option.some.inj hz
              exact ih (v8.1 + (e_b q22), v8.2 + 1) rfl
            refine r_z_eq F dX12_coresBeside_92 (tgt := 109) (by decide) (fun hc => ?_) (fun hc => ?_)
            · have hq23 := e_t hc hq23
              refine r_aload_n F dX12_coresBeside_95 rfl ?_
              refine r_iload F dX12_coresBeside_96 rfl ?_
              refine r_iload_n F dX12_coresBeside_98 rfl ?_
              obtain ⟨q24, hq25, hq23⟩ := e_bd hq23
              refine r_callV F dX12_coresBeside_99 (b := 72) (dc := 0) (ds := 0) (As := [.int v8.2, .int v3.2]) (S0 := [.int v8.1]) lkX12_244 mX12_isCore (tX12_isCore_72 hG (la := x_l X) (h := e_up h []) hnx h72 h79 hq25) rfl rfl rfl (e_le rfl) (e_le rfl) (e_le rfl) h72 (ci := 12) e_cl12.1 rfl (e_le rfl) (e_lt hnx rfl) (Nat.zero_le _) (Nat.zero_le _) (e_k ?_)
              refine r_wr0 ?_
              refine r_z_eq F dX12_coresBeside_102 (tgt := 109) (by decide) (fun hc => ?_) (fun hc => ?_)
              · have hq23 := e_t hc hq23
                refine r_iconst F dX12_coresBeside_105 (v := 1) (by decide) ?_
                refine r_goto F dX12_coresBeside_106 (tgt := 110) (by decide) ?_
                refine r_drop 2 (L' := [some (.ref 72), some (.int p0), none, some (.int v3.2), some (.int v8.2), some (.int (e_b x14)), none, none]) rfl ?_
                refine r_drop 5 (L' := [some (.ref 72), some (.int p0), none, some (.int v3.2), some (.int v8.2), none, none, none]) rfl ?_
                obtain rfl := Option.some.inj hq23
                exact Jq22
              · have hq23 := e_f hc hq23
                refine r_iconst F dX12_coresBeside_109 (v := 0) (by decide) ?_
                refine r_drop 2 (L' := [some (.ref 72), some (.int p0), none, some (.int v3.2), some (.int v8.2), some (.int (e_b x14)), none, none]) rfl ?_
                refine r_drop 5 (L' := [some (.ref 72), some (.int p0), none, some (.int v3.2), some (.int v8.2), none, none, none]) rfl ?_
                obtain rfl := Option.some.inj hq23
                exact Jq22
            · have hq23 := e_f hc hq23
              refine r_iconst F dX12_coresBeside_109 (v := 0) (by decide) ?_
              refine r_drop 2 (L' := [some (.ref 72), some (.int p0), none, some (.int v3.2), some (.int v8.2), some (.int (e_b x14)), none, none]) rfl ?_
              refine r_drop 5 (L' := [some (.ref 72), some (.int p0), none, some (.int v3.2), some (.int v8.2), none, none, none]) rfl ?_
              obtain rfl := Option.some.inj hq23
              exact Jq22
      · show eRun G X 118 [some (.ref 72), some (.int p0), some (.int x9), some (.int v3.2), none, none, none, none] [] h [] nx 0 0
        refine r_inc F dX12_coresBeside_118 (k9 := 1) (by decide) rfl (L' := [some (.ref 72), some (.int p0), some (.int x9), some (.int (v3.2 + 1)), none, none, none, none]) rfl ?_
        refine r_goto F dX12_coresBeside_121 (tgt := 4) (by decide) ?_
        obtain rfl := Option.some.inj hz
        exact ih (x9, v3.2 + 1) rfl
  · show eRun G X 124 [none, none, some (.int x4), none, none, none, none, none] [] h [] nx 0 0
    refine r_iload_n F dX12_coresBeside_124 rfl ?_
    obtain rfl := Option.some.inj hf
    exact r_iret F hq dX12_coresBeside_125 rfl rfl (Nat.le_refl _) (Nat.le_refl _) ⟨rfl, rfl⟩

def fX12_costAlong (A83 : Nat → Int32) (A84 : Nat → Int32) (p0 : Int32) (p1 : Int32) (p2 : Int32) : Option (Int32) :=
  (fX12_way A83 A84 p0).bind (fun q1 =>
  if q1 = p1 then
    some 1
  else
    some p2)
set_option maxRecDepth 100000 in
theorem tX12_costAlong_72 {G : eG} (hG : e_GS G) {la : Launch} {h : Nat → eO} {nx : Nat} (hnx : 99 ≤ nx) {a72_0 : Int32} {a72_2 : Int32} {a72_3 : Int32} {a72_4 : Int32} {a72_5 : Int32} {a72_6 : Int32} {a72_7 : Int32} {a72_8 : Bool} {a72_9 : Int32} {a72_10 : Int32} {a72_11 : Int32} {a72_17 : Bool} {a72_18 : Bool} {a72_19 : Bool} {a72_21 : Int32} {a72_22 : Int32} {a72_29 : Int32} {a72_31 : Int32} {a72_35 : Int32} {a72_37 : Bool} {a72_38 : Int32} {a72_39 : Int32} {a72_40 : Int32} {a72_41 : Int64} {a72_44 : Int32} {a72_50 : Bool} {A83 : Nat → Int32} {A84 : Nat → Int32} {p0 : Int32} {p1 : Int32} {p2 : Int32} (h72 : h 72 = o72 a72_0 a72_2 a72_3 a72_4 a72_5 a72_6 a72_7 a72_8 a72_9 a72_10 a72_11 a72_17 a72_18 a72_19 a72_21 a72_22 a72_29 a72_31 a72_35 a72_37 a72_38 a72_39 a72_40 a72_41 a72_44 a72_50) (h83 : h 83 = o83 A83) (h84 : h 84 = o84 A84) {R9 : Int32} (hf : fX12_costAlong A83 A84 p0 p1 p2 = some R9) :
    eSem G la MX12_costAlong [.ref 72, .int p0, .int p1, .int p2] h nx 0 0 (fun r9 h9 => r9 = some (.int R9) ∧ h9 = h) := by
  refine eSem.of (k := 0) (L := [some (.ref 72), some (.int p0), some (.int p1), some (.int p2)]) (by decide +kernel) rfl rfl (fun X F hxl hq hcR hsR => ?_)
  subst hxl
  unfold fX12_costAlong at hf
  refine r_aload_n F dX12_costAlong_0 rfl ?_
  refine r_iload_n F dX12_costAlong_1 rfl ?_
  obtain ⟨q1, hq2, hf⟩ := e_bd hf
  refine r_callV F dX12_costAlong_2 (b := 72) (dc := 0) (ds := 0) (As := [.int p0]) (S0 := []) lkX12_269 mX12_way (tX12_way_72 hG (la := x_l X) (h := e_up h []) hnx h72 h83 h84 hq2) rfl rfl rfl (e_le rfl) (e_le rfl) (e_le rfl) h72 (ci := 12) e_cl12.1 rfl (e_le rfl) (e_lt hnx rfl) (Nat.zero_le _) (Nat.zero_le _) (e_k ?_)
  refine r_wr0 ?_
  refine r_iload_n F dX12_costAlong_5 rfl ?_
  refine r_icmp_ne F dX12_costAlong_6 (tgt := 13) (by decide) (fun hc => ?_) (fun hc => ?_)
  · have hf := e_f hc hf
    refine r_iload_n F dX12_costAlong_13 rfl ?_
    obtain rfl := Option.some.inj hf
    exact r_iret F hq dX12_costAlong_14 rfl rfl (Nat.le_refl _) (Nat.le_refl _) ⟨rfl, rfl⟩
  · have hf := e_t hc hf
    refine r_iconst F dX12_costAlong_9 (v := 1) (by decide) ?_
    refine r_goto F dX12_costAlong_10 (tgt := 14) (by decide) ?_
    obtain rfl := Option.some.inj hf
    exact r_iret F hq dX12_costAlong_14 rfl rfl (Nat.le_refl _) (Nat.le_refl _) ⟨rfl, rfl⟩

def fX12_costMeeting (A81 : Nat → Int32) (A82 : Nat → Int32) (A83 : Nat → Int32) (A84 : Nat → Int32) (p0 : Int32) (p1 : Int32) (p2 : Int32) : Option (Int32) :=
  e_g (e_in p0 64) (
  e_g (e_in p1 64) (
  (fJ9_abs_0f7a4 ((A81 (tn p0)) - (A81 (tn p1)))).bind (fun q1 =>
  (fX12_costAlong A83 A84 p0 0 p2).bind (fun q3 =>
  e_g (e_in p0 64) (
  e_g (e_in p1 64) (
  (fJ9_abs_0f7a4 ((A82 (tn p0)) - (A82 (tn p1)))).bind (fun q5 =>
  (fX12_costAlong A83 A84 p0 1 p2).bind (fun q7 =>
  some ((q1 * q3) + (q5 * q7))))))))))
set_option maxRecDepth 100000 in
theorem tX12_costMeeting_72 {G : eG} (hG : e_GS G) {la : Launch} {h : Nat → eO} {nx : Nat} (hnx : 99 ≤ nx) {a72_0 : Int32} {a72_2 : Int32} {a72_3 : Int32} {a72_4 : Int32} {a72_5 : Int32} {a72_6 : Int32} {a72_7 : Int32} {a72_8 : Bool} {a72_9 : Int32} {a72_10 : Int32} {a72_11 : Int32} {a72_17 : Bool} {a72_18 : Bool} {a72_19 : Bool} {a72_21 : Int32} {a72_22 : Int32} {a72_29 : Int32} {a72_31 : Int32} {a72_35 : Int32} {a72_37 : Bool} {a72_38 : Int32} {a72_39 : Int32} {a72_40 : Int32} {a72_41 : Int64} {a72_44 : Int32} {a72_50 : Bool} {A81 : Nat → Int32} {A82 : Nat → Int32} {A83 : Nat → Int32} {A84 : Nat → Int32} {p0 : Int32} {p1 : Int32} {p2 : Int32} (h72 : h 72 = o72 a72_0 a72_2 a72_3 a72_4 a72_5 a72_6 a72_7 a72_8 a72_9 a72_10 a72_11 a72_17 a72_18 a72_19 a72_21 a72_22 a72_29 a72_31 a72_35 a72_37 a72_38 a72_39 a72_40 a72_41 a72_44 a72_50) (h81 : h 81 = o81 A81) (h82 : h 82 = o82 A82) (h83 : h 83 = o83 A83) (h84 : h 84 = o84 A84) {R9 : Int32} (hf : fX12_costMeeting A81 A82 A83 A84 p0 p1 p2 = some R9) :
    eSem G la MX12_costMeeting [.ref 72, .int p0, .int p1, .int p2] h nx 0 0 (fun r9 h9 => r9 = some (.int R9) ∧ h9 = h) := by
  refine eSem.of (k := 0) (L := [some (.ref 72), some (.int p0), some (.int p1), some (.int p2)]) (by decide +kernel) rfl rfl (fun X F hxl hq hcR hsR => ?_)
  subst hxl
  unfold fX12_costMeeting at hf
  refine r_aload_n F dX12_costMeeting_0 rfl ?_
  refine r_get F dX12_costMeeting_1 flX12_34 h72 rfl (e_le rfl) (e_lt hnx rfl) ?_
  refine r_iload_n F dX12_costMeeting_4 rfl ?_
  obtain ⟨hg, hf⟩ := e_gd hf
  refine r_iald F dX12_costMeeting_5 (i := p0) h81 (e_le rfl) (e_lt hnx rfl) (e_vp hg) ?_
  refine r_aload_n F dX12_costMeeting_6 rfl ?_
  refine r_get F dX12_costMeeting_7 flX12_34 h72 rfl (e_le rfl) (e_lt hnx rfl) ?_
  refine r_iload_n F dX12_costMeeting_10 rfl ?_
  obtain ⟨hg, hf⟩ := e_gd hf
  refine r_iald F dX12_costMeeting_11 (i := p1) h81 (e_le rfl) (e_lt hnx rfl) (e_vp hg) ?_
  refine r_isub F dX12_costMeeting_12 ?_
  obtain ⟨q1, hq2, hf⟩ := e_bd hf
  refine r_callS F dX12_costMeeting_13 (dc := 0) (ds := 0) (As := [.int ((A81 (tn p0)) - (A81 (tn p1)))]) (S0 := []) lkX12_370 mJ9_abs_0f7a4 (tJ9_abs_0f7a4 hG (la := x_l X) (h := e_up h []) hnx  hq2) rfl rfl rfl (e_le rfl) (e_le rfl) (e_le rfl) (Nat.zero_le _) (Nat.zero_le _) (e_k ?_)
  refine r_wr0 ?_
  refine r_aload_n F dX12_costMeeting_16 rfl ?_
  refine r_iload_n F dX12_costMeeting_17 rfl ?_
  refine r_iconst F dX12_costMeeting_18 (v := 0) (by decide) ?_
  refine r_iload_n F dX12_costMeeting_19 rfl ?_
  obtain ⟨q3, hq4, hf⟩ := e_bd hf
  refine r_callV F dX12_costMeeting_20 (b := 72) (dc := 0) (ds := 0) (As := [.int p0, .int 0, .int p2]) (S0 := [.int q1]) lkX12_440 mX12_costAlong (tX12_costAlong_72 hG (la := x_l X) (h := e_up h []) hnx h72 h83 h84 hq4) rfl rfl rfl (e_le rfl) (e_le rfl) (e_le rfl) h72 (ci := 12) e_cl12.1 rfl (e_le rfl) (e_lt hnx rfl) (Nat.zero_le _) (Nat.zero_le _) (e_k ?_)
  refine r_wr0 ?_
  refine r_imul F dX12_costMeeting_23 ?_
  refine r_aload_n F dX12_costMeeting_24 rfl ?_
  refine r_get F dX12_costMeeting_25 flX12_37 h72 rfl (e_le rfl) (e_lt hnx rfl) ?_
  refine r_iload_n F dX12_costMeeting_28 rfl ?_
  obtain ⟨hg, hf⟩ := e_gd hf
  refine r_iald F dX12_costMeeting_29 (i := p0) h82 (e_le rfl) (e_lt hnx rfl) (e_vp hg) ?_
  refine r_aload_n F dX12_costMeeting_30 rfl ?_
  refine r_get F dX12_costMeeting_31 flX12_37 h72 rfl (e_le rfl) (e_lt hnx rfl) ?_
  refine r_iload_n F dX12_costMeeting_34 rfl ?_
  obtain ⟨hg, hf⟩ := e_gd hf
  refine r_iald F dX12_costMeeting_35 (i := p1) h82 (e_le rfl) (e_lt hnx rfl) (e_vp hg) ?_
  refine r_isub F dX12_costMeeting_36 ?_
  obtain ⟨q5, hq6, hf⟩ := e_bd hf
  refine r_callS F dX12_costMeeting_37 (dc := 0) (ds := 0) (As := [.int ((A82 (tn p0)) - (A82 (tn p1)))]) (S0 := [.int (q1 * q3)]) lkX12_370 mJ9_abs_0f7a4 (tJ9_abs_0f7a4 hG (la := x_l X) (h := e_up h []) hnx  hq6) rfl rfl rfl (e_le rfl) (e_le rfl) (e_le rfl) (Nat.zero_le _) (Nat.zero_le _) (e_k ?_)
  refine r_wr0 ?_
  refine r_aload_n F dX12_costMeeting_40 rfl ?_
  refine r_iload_n F dX12_costMeeting_41 rfl ?_
  refine r_iconst F dX12_costMeeting_42 (v := 1) (by decide) ?_
  refine r_iload_n F dX12_costMeeting_43 rfl ?_
  obtain ⟨q7, hq8, hf⟩ := e_bd hf
  refine r_callV F dX12_costMeeting_44 (b := 72) (dc := 0) (ds := 0) (As := [.int p0, .int 1, .int p2]) (S0 := [.int q5, .int (q1 * q3)]) lkX12_440 mX12_costAlong (tX12_costAlong_72 hG (la := x_l X) (h := e_up h []) hnx h72 h83 h84 hq8) rfl rfl rfl (e_le rfl) (e_le rfl) (e_le rfl) h72 (ci := 12) e_cl12.1 rfl (e_le rfl) (e_lt hnx rfl) (Nat.zero_le _) (Nat.zero_le _) (e_k ?_)
  refine r_wr0 ?_
  refine r_imul F dX12_costMeeting_47 ?_
  refine r_iadd F dX12_costMeeting_48 ?_
  obtain rfl := Option.some.inj hf
  exact r_iret F hq dX12_costMeeting_49 rfl rfl (Nat.le_refl _) (Nat.le_refl _) ⟨rfl, rfl⟩

def fX12_costOut (a72_21 : Int32) (a72_22 : Int32) (A81 : Nat → Int32) (A82 : Nat → Int32) (A83 : Nat → Int32) (A84 : Nat → Int32) (p0 : Int32) (p1 : Int32) : Option (Int32) :=
  e_g (e_in p0 64) (
  e_g (e_in p0 64) (
  (fJ9_min_7cf53 ((A81 (tn p0)) + 1) ((a72_21 - 1) - (A81 (tn p0)))).bind (fun q1 =>
  (fX12_costAlong A83 A84 p0 0 p1).bind (fun q3 =>
  e_g (e_in p0 64) (
  e_g (e_in p0 64) (
  (fJ9_min_7cf53 ((A82 (tn p0)) + 1) ((a72_22 - 1) - (A82 (tn p0)))).bind (fun q5 =>
  (fX12_costAlong A83 A84 p0 1 p1).bind (fun q7 =>
  (fJ9_min_7cf53 (q1 * q3) (q5 * q7)).bind (fun q9 =>
  some q9)))))))))
set_option maxRecDepth 100000 in
theorem tX12_costOut_72 {G : eG} (hG : e_GS G) {la : Launch} {h : Nat → eO} {nx : Nat} (hnx : 99 ≤ nx) {a72_0 : Int32} {a72_2 : Int32} {a72_3 : Int32} {a72_4 : Int32} {a72_5 : Int32} {a72_6 : Int32} {a72_7 : Int32} {a72_8 : Bool} {a72_9 : Int32} {a72_10 : Int32} {a72_11 : Int32} {a72_17 : Bool} {a72_18 : Bool} {a72_19 : Bool} {a72_21 : Int32} {a72_22 : Int32} {a72_29 : Int32} {a72_31 : Int32} {a72_35 : Int32} {a72_37 : Bool} {a72_38 : Int32} {a72_39 : Int32} {a72_40 : Int32} {a72_41 : Int64} {a72_44 : Int32} {a72_50 : Bool} {A81 : Nat → Int32} {A82 : Nat → Int32} {A83 : Nat → Int32} {A84 : Nat → Int32} {p0 : Int32} {p1 : Int32} (h72 : h 72 = o72 a72_0 a72_2 a72_3 a72_4 a72_5 a72_6 a72_7 a72_8 a72_9 a72_10 a72_11 a72_17 a72_18 a72_19 a72_21 a72_22 a72_29 a72_31 a72_35 a72_37 a72_38 a72_39 a72_40 a72_41 a72_44 a72_50) (h81 : h 81 = o81 A81) (h82 : h 82 = o82 A82) (h83 : h 83 = o83 A83) (h84 : h 84 = o84 A84) {R9 : Int32} (hf : fX12_costOut a72_21 a72_22 A81 A82 A83 A84 p0 p1 = some R9) :
    eSem G la MX12_costOut [.ref 72, .int p0, .int p1] h nx 0 0 (fun r9 h9 => r9 = some (.int R9) ∧ h9 = h) := by
  refine eSem.of (k := 2) (L := [some (.ref 72), some (.int p0), some (.int p1), none, none]) (by decide +kernel) rfl rfl (fun X F hxl hq hcR hsR => ?_)
  subst hxl
  unfold fX12_costOut at hf
  refine r_aload_n F dX12_costOut_0 rfl ?_
  refine r_get F dX12_costOut_1 flX12_34 h72 rfl (e_le rfl) (e_lt hnx rfl) ?_
  refine r_iload_n F dX12_costOut_4 rfl ?_
  obtain ⟨hg, hf⟩ := e_gd hf
  refine r_iald F dX12_costOut_5 (i := p0) h81 (e_le rfl) (e_lt hnx rfl) (e_vp hg) ?_
  refine r_iconst F dX12_costOut_6 (v := 1) (by decide) ?_
  refine r_iadd F dX12_costOut_7 ?_
  refine r_aload_n F dX12_costOut_8 rfl ?_
  refine r_get F dX12_costOut_9 flX12_205 h72 rfl (e_le rfl) (e_lt hnx rfl) ?_
  refine r_iconst F dX12_costOut_12 (v := 1) (by decide) ?_
  refine r_isub F dX12_costOut_13 ?_
  refine r_aload_n F dX12_costOut_14 rfl ?_
  refine r_get F dX12_costOut_15 flX12_34 h72 rfl (e_le rfl) (e_lt hnx rfl) ?_
  refine r_iload_n F dX12_costOut_18 rfl ?_
  obtain ⟨hg, hf⟩ := e_gd hf
  refine r_iald F dX12_costOut_19 (i := p0) h81 (e_le rfl) (e_lt hnx rfl) (e_vp hg) ?_
  refine r_isub F dX12_costOut_20 ?_
  obtain ⟨q1, hq2, hf⟩ := e_bd hf
  refine r_callS F dX12_costOut_21 (dc := 0) (ds := 0) (As := [.int ((A81 (tn p0)) + 1), .int ((a72_21 - 1) - (A81 (tn p0)))]) (S0 := []) lkX12_128 mJ9_min_7cf53 (tJ9_min_7cf53 hG (la := x_l X) (h := e_up h []) hnx  hq2) rfl rfl rfl (e_le rfl) (e_le rfl) (e_le rfl) (Nat.zero_le _) (Nat.zero_le _) (e_k ?_)
  refine r_wr0 ?_
  refine r_aload_n F dX12_costOut_24 rfl ?_
  refine r_iload_n F dX12_costOut_25 rfl ?_
  refine r_iconst F dX12_costOut_26 (v := 0) (by decide) ?_
  refine r_iload_n F dX12_costOut_27 rfl ?_
  obtain ⟨q3, hq4, hf⟩ := e_bd hf
  refine r_callV F dX12_costOut_28 (b := 72) (dc := 0) (ds := 0) (As := [.int p0, .int 0, .int p1]) (S0 := [.int q1]) lkX12_440 mX12_costAlong (tX12_costAlong_72 hG (la := x_l X) (h := e_up h []) hnx h72 h83 h84 hq4) rfl rfl rfl (e_le rfl) (e_le rfl) (e_le rfl) h72 (ci := 12) e_cl12.1 rfl (e_le rfl) (e_lt hnx rfl) (Nat.zero_le _) (Nat.zero_le _) (e_k ?_)
  refine r_wr0 ?_
  refine r_imul F dX12_costOut_31 ?_
  refine r_istore_n F dX12_costOut_32 (e_le rfl) (L' := [some (.ref 72), some (.int p0), some (.int p1), some (.int (q1 * q3)), none]) rfl ?_
  refine r_aload_n F dX12_costOut_33 rfl ?_
  refine r_get F dX12_costOut_34 flX12_37 h72 rfl (e_le rfl) (e_lt hnx rfl) ?_
  refine r_iload_n F dX12_costOut_37 rfl ?_
  obtain ⟨hg, hf⟩ := e_gd hf
  refine r_iald F dX12_costOut_38 (i := p0) h82 (e_le rfl) (e_lt hnx rfl) (e_vp hg) ?_
  refine r_iconst F dX12_costOut_39 (v := 1) (by decide) ?_
  refine r_iadd F dX12_costOut_40 ?_
  refine r_aload_n F dX12_costOut_41 rfl ?_
  refine r_get F dX12_costOut_42 flX12_208 h72 rfl (e_le rfl) (e_lt hnx rfl) ?_
  refine r_iconst F dX12_costOut_45 (v := 1) (by decide) ?_
  refine r_isub F dX12_costOut_46 ?_
  refine r_aload_n F dX12_costOut_47 rfl ?_
  refine r_get F dX12_costOut_48 flX12_37 h72 rfl (e_le rfl) (e_lt hnx rfl) ?_
  refine r_iload_n F dX12_costOut_51 rfl ?_
  obtain ⟨hg, hf⟩ := e_gd hf
  refine r_iald F dX12_costOut_52 (i := p0) h82 (e_le rfl) (e_lt hnx rfl) (e_vp hg) ?_
  refine r_isub F dX12_costOut_53 ?_
  obtain ⟨q5, hq6, hf⟩ := e_bd hf
  refine r_callS F dX12_costOut_54 (dc := 0) (ds := 0) (As := [.int ((A82 (tn p0)) + 1), .int ((a72_22 - 1) - (A82 (tn p0)))]) (S0 := []) lkX12_128 mJ9_min_7cf53 (tJ9_min_7cf53 hG (la := x_l X) (h := e_up h []) hnx  hq6) rfl rfl rfl (e_le rfl) (e_le rfl) (e_le rfl) (Nat.zero_le _) (Nat.zero_le _) (e_k ?_)
  refine r_wr0 ?_
  refine r_aload_n F dX12_costOut_57 rfl ?_
  refine r_iload_n F dX12_costOut_58 rfl ?_
  refine r_iconst F dX12_costOut_59 (v := 1) (by decide) ?_
  refine r_iload_n F dX12_costOut_60 rfl ?_
  obtain ⟨q7, hq8, hf⟩ := e_bd hf
  refine r_callV F dX12_costOut_61 (b := 72) (dc := 0) (ds := 0) (As := [.int p0, .int 1, .int p1]) (S0 := [.int q5]) lkX12_440 mX12_costAlong (tX12_costAlong_72 hG (la := x_l X) (h := e_up h []) hnx h72 h83 h84 hq8) rfl rfl rfl (e_le rfl) (e_le rfl) (e_le rfl) h72 (ci := 12) e_cl12.1 rfl (e_le rfl) (e_lt hnx rfl) (Nat.zero_le _) (Nat.zero_le _) (e_k ?_)
  refine r_wr0 ?_
  refine r_imul F dX12_costOut_64 ?_
  refine r_istore F dX12_costOut_65 (e_le rfl) (L' := [some (.ref 72), some (.int p0), some (.int p1), some (.int (q1 * q3)), some (.int (q5 * q7))]) rfl ?_
  refine r_iload_n F dX12_costOut_67 rfl ?_
  refine r_iload F dX12_costOut_68 rfl ?_
  obtain ⟨q9, hq10, hf⟩ := e_bd hf
  refine r_callS F dX12_costOut_70 (dc := 0) (ds := 0) (As := [.int (q1 * q3), .int (q5 * q7)]) (S0 := []) lkX12_128 mJ9_min_7cf53 (tJ9_min_7cf53 hG (la := x_l X) (h := e_up h []) hnx  hq10) rfl rfl rfl (e_le rfl) (e_le rfl) (e_le rfl) (Nat.zero_le _) (Nat.zero_le _) (e_k ?_)
  refine r_wr0 ?_
  obtain rfl := Option.some.inj hf
  exact r_iret F hq dX12_costOut_73 rfl rfl (Nat.le_refl _) (Nat.le_refl _) ⟨rfl, rfl⟩

def fX12_count (a72_0 : Int32) (a72_2 : Int32) (a72_31 : Int32) (A79 : Nat → Int32) (p0 : Int32) : Option (Int32 × Int32) :=
  if p0 = 0 then
    some (a72_2, 0)
  else
    if p0 = 1 then
      some (a72_31, 0)
    else
      if p0 = 2 then
        some (A79 (tn 324), 0)
      else
        some ((-1), 0)
set_option maxRecDepth 100000 in
theorem tX12_count_72 {G : eG} (hG : e_GS G) {la : Launch} {h : Nat → eO} {nx : Nat} (hnx : 99 ≤ nx) {a72_0 : Int32} {a72_2 : Int32} {a72_3 : Int32} {a72_4 : Int32} {a72_5 : Int32} {a72_6 : Int32} {a72_7 : Int32} {a72_8 : Bool} {a72_9 : Int32} {a72_10 : Int32} {a72_11 : Int32} {a72_17 : Bool} {a72_18 : Bool} {a72_19 : Bool} {a72_21 : Int32} {a72_22 : Int32} {a72_29 : Int32} {a72_31 : Int32} {a72_35 : Int32} {a72_37 : Bool} {a72_38 : Int32} {a72_39 : Int32} {a72_40 : Int32} {a72_41 : Int64} {a72_44 : Int32} {a72_50 : Bool} {A79 : Nat → Int32} {p0 : Int32} (h72 : h 72 = o72 a72_0 a72_2 a72_3 a72_4 a72_5 a72_6 a72_7 a72_8 a72_9 a72_10 a72_11 a72_17 a72_18 a72_19 a72_21 a72_22 a72_29 a72_31 a72_35 a72_37 a72_38 a72_39 a72_40 a72_41 a72_44 a72_50) (h79 : h 79 = o79 A79) {R9 : Int32 × Int32} (hf : fX12_count a72_0 a72_2 a72_31 A79 p0 = some R9) :
    eSem G la MX12_count [.ref 72, .int p0] h nx 0 0 (fun r9 h9 => r9 = some (.int R9.1) ∧ h9 = e_up h [(72, o72 R9.2 a72_2 a72_3 a72_4 a72_5 a72_6 a72_7 a72_8 a72_9 a72_10 a72_11 a72_17 a72_18 a72_19 a72_21 a72_22 a72_29 a72_31 a72_35 a72_37 a72_38 a72_39 a72_40 a72_41 a72_44 a72_50)]) := by
  refine eSem.of (k := 0) (L := [some (.ref 72), some (.int p0)]) (by decide +kernel) rfl rfl (fun X F hxl hq hcR hsR => ?_)
  subst hxl
  unfold fX12_count at hf
  refine r_aload_n F dX12_count_0 rfl ?_
  refine r_iconst F dX12_count_1 (v := 0) (by decide) ?_
  refine r_put F dX12_count_2 flX12_86 rfl rfl rfl h72 (e_le rfl) (e_le rfl) (e_lt hnx rfl) (l' := [(72, o72 0 a72_2 a72_3 a72_4 a72_5 a72_6 a72_7 a72_8 a72_9 a72_10 a72_11 a72_17 a72_18 a72_19 a72_21 a72_22 a72_29 a72_31 a72_35 a72_37 a72_38 a72_39 a72_40 a72_41 a72_44 a72_50)]) rfl ?_
  refine r_iload_n F dX12_count_5 rfl ?_
  refine r_if_ne F dX12_count_6 (tgt := 16) (by decide) (fun hc => ?_) (fun hc => ?_)
  · have hf := e_f hc hf
    refine r_iload_n F dX12_count_16 rfl ?_
    refine r_iconst F dX12_count_17 (v := 1) (by decide) ?_
    refine r_icmp_ne F dX12_count_18 (tgt := 28) (by decide) (fun hc => ?_) (fun hc => ?_)
    · have hf := e_f hc hf
      refine r_iload_n F dX12_count_28 rfl ?_
      refine r_iconst F dX12_count_29 (v := 2) (by decide) ?_
      refine r_icmp_ne F dX12_count_30 (tgt := 44) (by decide) (fun hc => ?_) (fun hc => ?_)
      · have hf := e_f hc hf
        refine r_iconst F dX12_count_44 (v := (-1)) (by decide) ?_
        obtain rfl := Option.some.inj hf
        exact r_iret F hq dX12_count_45 rfl rfl (Nat.le_refl _) (Nat.le_refl _) ⟨rfl, rfl⟩
      · have hf := e_t hc hf
        refine r_aload_n F dX12_count_33 rfl ?_
        refine r_get F dX12_count_34 flX12_28 rfl rfl (e_le rfl) (e_lt hnx rfl) ?_
        refine r_sipush F dX12_count_37 (v := 324) (by decide) ?_
        refine r_iald F dX12_count_40 (i := 324) h79 (e_le rfl) (e_lt hnx rfl) (e_vp (by decide)) ?_
        refine r_goto F dX12_count_41 (tgt := 45) (by decide) ?_
        obtain rfl := Option.some.inj hf
        exact r_iret F hq dX12_count_45 rfl rfl (Nat.le_refl _) (Nat.le_refl _) ⟨rfl, rfl⟩
    · have hf := e_t hc hf
      refine r_aload_n F dX12_count_21 rfl ?_
      refine r_get F dX12_count_22 flX12_229 rfl rfl (e_le rfl) (e_lt hnx rfl) ?_
      refine r_goto F dX12_count_25 (tgt := 45) (by decide) ?_
      obtain rfl := Option.some.inj hf
      exact r_iret F hq dX12_count_45 rfl rfl (Nat.le_refl _) (Nat.le_refl _) ⟨rfl, rfl⟩
  · have hf := e_t hc hf
    refine r_aload_n F dX12_count_9 rfl ?_
    refine r_get F dX12_count_10 flX12_94 rfl rfl (e_le rfl) (e_lt hnx rfl) ?_
    refine r_goto F dX12_count_13 (tgt := 45) (by decide) ?_
    obtain rfl := Option.some.inj hf
    exact r_iret F hq dX12_count_45 rfl rfl (Nat.le_refl _) (Nat.le_refl _) ⟨rfl, rfl⟩
