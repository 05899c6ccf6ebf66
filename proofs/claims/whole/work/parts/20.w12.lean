def fX12_move (a72_0 : Int32) (a72_21 : Int32) (a72_22 : Int32) (a72_29 : Int32) (a72_31 : Int32) (A79 : Nat → Int32) (A80 : Nat → Int32) (A81 : Nat → Int32) (A82 : Nat → Int32) (A83 : Nat → Int32) (A84 : Nat → Int32) (A85 : Nat → Int32) (A86 : Nat → Int32) (A87 : Nat → Int32) (p0 : Int32) (p1 : Int32) (p2 : Int32) (p3 : Int32) : Option (Int32 × Int32 × Int32 × Int32 × (Nat → Int32) × (Nat → Int32) × (Nat → Int32) × (Nat → Int32) × (Nat → Int32) × (Nat → Int32) × (Nat → Int32) × (Nat → Int32)) :=
  (fX12_isCrystal a72_21).bind (fun q1 =>
  if q1 = true then
    (fX12_isFace a72_21 a72_22 p0 p1).bind (fun q3 =>
    if q3 = true then
      (fX12_isCore A79 p0 p1).bind (fun q5 =>
      if q5 = true then
        (fX12_in (Int32.toInt64 p2) 0 2).bind (fun q7 =>
        if q7 = true then
          (fX12_in (Int32.toInt64 p3) 0 3).bind (fun q9 =>
          if q9 = true then
            (fX12_isPart A79 p0 p1 p2).bind (fun q11 =>
            if q11 = true then
              (fX12_laysCores a72_21 a72_22 a72_29 A79 A80 A81 A82 A83 A84 A85).bind (fun q13 =>
              Option.bind (α := Int32) (
                if p2 = 2 then
                  some 0
                else
                  (fX12_vector A79 p0 p1 0).bind (fun q31 =>
                  some q31)) (fun q15 =>
              Option.bind (α := Int32) (
                if p2 = 1 then
                  some 0
                else
                  (fX12_vector A79 p0 p1 1).bind (fun q29 =>
                  some q29)) (fun q17 =>
              (fX12_coresBehind a72_21 a72_22 q13.2.1 A79 p0 p1 p3 q15 q17).bind (fun q19 =>
              if q19 ≤ 12 then
                (fX12_keeps a72_31 A79 A86).bind (fun q21 =>
                (fX12_wayOf q15 q17).bind (fun q23 =>
                (fX12_moves a72_21 a72_22 A79 p0 p1 p3 q15 q17).bind (fun q25 =>
                if q25.1 = 0 then
                  if q23 = (p3 - p3 / 2 * 2) then
                    some (0, 0, q13.2.1, q21.1, q25.2, q13.2.2.1, q13.2.2.2.1, q13.2.2.2.2.1, q13.2.2.2.2.2.1, q13.2.2.2.2.2.2, q21.2, A87)
                  else
                    some (1, 0, q13.2.1, q21.1, q25.2, q13.2.2.1, q13.2.2.2.1, q13.2.2.2.2.1, q13.2.2.2.2.2.1, q13.2.2.2.2.2.2, q21.2, A87)
                else
                  some (q25.1, 0, q13.2.1, q21.1, q25.2, q13.2.2.1, q13.2.2.2.1, q13.2.2.2.2.1, q13.2.2.2.2.2.1, q13.2.2.2.2.2.2, q21.2, A87))))
              else
                (fX12_refuses A87 3).bind (fun q27 =>
                some (q27.1, 0, q13.2.1, a72_31, A79, q13.2.2.1, q13.2.2.2.1, q13.2.2.2.2.1, q13.2.2.2.2.2.1, q13.2.2.2.2.2.2, A86, q27.2))))))
            else
              (fX12_refuses A87 2).bind (fun q33 =>
              some (q33.1, 0, a72_29, a72_31, A79, A81, A82, A83, A84, A85, A86, q33.2)))
          else
            (fX12_refuses A87 2).bind (fun q35 =>
            some (q35.1, 0, a72_29, a72_31, A79, A81, A82, A83, A84, A85, A86, q35.2)))
        else
          (fX12_refuses A87 2).bind (fun q37 =>
          some (q37.1, 0, a72_29, a72_31, A79, A81, A82, A83, A84, A85, A86, q37.2)))
      else
        (fX12_refuses A87 1).bind (fun q39 =>
        some (q39.1, 0, a72_29, a72_31, A79, A81, A82, A83, A84, A85, A86, q39.2)))
    else
      (fX12_refuses A87 1).bind (fun q41 =>
      some (q41.1, 0, a72_29, a72_31, A79, A81, A82, A83, A84, A85, A86, q41.2)))
  else
    (fX12_refuses A87 0).bind (fun q43 =>
    some (q43.1, 0, a72_29, a72_31, A79, A81, A82, A83, A84, A85, A86, q43.2)))
set_option maxRecDepth 100000 in
theorem tX12_move_72 {G : eG} (hG : e_GS G) {la : Launch} {h : Nat → eO} {nx : Nat} (hnx : 99 ≤ nx) {a72_0 : Int32} {a72_2 : Int32} {a72_3 : Int32} {a72_4 : Int32} {a72_5 : Int32} {a72_6 : Int32} {a72_7 : Int32} {a72_8 : Bool} {a72_9 : Int32} {a72_10 : Int32} {a72_11 : Int32} {a72_17 : Bool} {a72_18 : Bool} {a72_19 : Bool} {a72_21 : Int32} {a72_22 : Int32} {a72_29 : Int32} {a72_31 : Int32} {a72_35 : Int32} {a72_37 : Bool} {a72_38 : Int32} {a72_39 : Int32} {a72_40 : Int32} {a72_41 : Int64} {a72_44 : Int32} {a72_50 : Bool} {A79 : Nat → Int32} {A80 : Nat → Int32} {A81 : Nat → Int32} {A82 : Nat → Int32} {A83 : Nat → Int32} {A84 : Nat → Int32} {A85 : Nat → Int32} {A86 : Nat → Int32} {A87 : Nat → Int32} {p0 : Int32} {p1 : Int32} {p2 : Int32} {p3 : Int32} (h72 : h 72 = o72 a72_0 a72_2 a72_3 a72_4 a72_5 a72_6 a72_7 a72_8 a72_9 a72_10 a72_11 a72_17 a72_18 a72_19 a72_21 a72_22 a72_29 a72_31 a72_35 a72_37 a72_38 a72_39 a72_40 a72_41 a72_44 a72_50) (h79 : h 79 = o79 A79) (h80 : h 80 = o80 A80) (h81 : h 81 = o81 A81) (h82 : h 82 = o82 A82) (h83 : h 83 = o83 A83) (h84 : h 84 = o84 A84) (h85 : h 85 = o85 A85) (h86 : h 86 = o86 A86) (h87 : h 87 = o87 A87) {R9 : Int32 × Int32 × Int32 × Int32 × (Nat → Int32) × (Nat → Int32) × (Nat → Int32) × (Nat → Int32) × (Nat → Int32) × (Nat → Int32) × (Nat → Int32) × (Nat → Int32)} (hf : fX12_move a72_0 a72_21 a72_22 a72_29 a72_31 A79 A80 A81 A82 A83 A84 A85 A86 A87 p0 p1 p2 p3 = some R9) :
    eSem G la MX12_move [.ref 72, .int p0, .int p1, .int p2, .int p3] h nx 0 0 (fun r9 h9 => r9 = some (.int R9.1) ∧ h9 = e_up h [(72, o72 R9.2.1 a72_2 a72_3 a72_4 a72_5 a72_6 a72_7 a72_8 a72_9 a72_10 a72_11 a72_17 a72_18 a72_19 a72_21 a72_22 R9.2.2.1 R9.2.2.2.1 a72_35 a72_37 a72_38 a72_39 a72_40 a72_41 a72_44 a72_50), (79, o79 R9.2.2.2.2.1), (81, o81 R9.2.2.2.2.2.1), (82, o82 R9.2.2.2.2.2.2.1), (83, o83 R9.2.2.2.2.2.2.2.1), (84, o84 R9.2.2.2.2.2.2.2.2.1), (85, o85 R9.2.2.2.2.2.2.2.2.2.1), (86, o86 R9.2.2.2.2.2.2.2.2.2.2.1), (87, o87 R9.2.2.2.2.2.2.2.2.2.2.2)]) := by
  refine eSem.of (k := 4) (L := [some (.ref 72), some (.int p0), some (.int p1), some (.int p2), some (.int p3), none, none, none, none]) (by decide +kernel) rfl rfl (fun X F hxl hq hcR hsR => ?_)
  subst hxl
  unfold fX12_move at hf
  refine r_aload_n F dX12_move_0 rfl ?_
  refine r_iconst F dX12_move_1 (v := 0) (by decide) ?_
  refine r_put F dX12_move_2 flX12_86 rfl rfl rfl h72 (e_le rfl) (e_le rfl) (e_lt hnx rfl) (l' := [(72, o72 0 a72_2 a72_3 a72_4 a72_5 a72_6 a72_7 a72_8 a72_9 a72_10 a72_11 a72_17 a72_18 a72_19 a72_21 a72_22 a72_29 a72_31 a72_35 a72_37 a72_38 a72_39 a72_40 a72_41 a72_44 a72_50)]) rfl ?_
  refine r_aload_n F dX12_move_5 rfl ?_
  obtain ⟨q1, hq2, hf⟩ := e_bd hf
  refine r_callV F dX12_move_6 (b := 72) (dc := 0) (ds := 0) (As := []) (S0 := []) lkX12_306 mX12_isCrystal (tX12_isCrystal_72 hG (la := x_l X) (h := e_up h [(72, o72 0 a72_2 a72_3 a72_4 a72_5 a72_6 a72_7 a72_8 a72_9 a72_10 a72_11 a72_17 a72_18 a72_19 a72_21 a72_22 a72_29 a72_31 a72_35 a72_37 a72_38 a72_39 a72_40 a72_41 a72_44 a72_50)]) hnx rfl hq2) rfl rfl rfl (e_le rfl) (e_le rfl) (e_le rfl) rfl (ci := 12) e_cl12.1 rfl (e_le rfl) (e_lt hnx rfl) (Nat.zero_le _) (Nat.zero_le _) (e_k ?_)
  refine r_wr0 ?_
  refine r_z_ne F dX12_move_9 (tgt := 18) (by decide) (fun hc => ?_) (fun hc => ?_)
  · have hf := e_t hc hf
    refine r_aload_n F dX12_move_18 rfl ?_
    refine r_iload_n F dX12_move_19 rfl ?_
    refine r_iload_n F dX12_move_20 rfl ?_
    obtain ⟨q3, hq4, hf⟩ := e_bd hf
    refine r_callV F dX12_move_21 (b := 72) (dc := 0) (ds := 0) (As := [.int p0, .int p1]) (S0 := []) lkX12_288 mX12_isFace (tX12_isFace_72 hG (la := x_l X) (h := e_up h [(72, o72 0 a72_2 a72_3 a72_4 a72_5 a72_6 a72_7 a72_8 a72_9 a72_10 a72_11 a72_17 a72_18 a72_19 a72_21 a72_22 a72_29 a72_31 a72_35 a72_37 a72_38 a72_39 a72_40 a72_41 a72_44 a72_50)]) hnx rfl hq4) rfl rfl rfl (e_le rfl) (e_le rfl) (e_le rfl) rfl (ci := 12) e_cl12.1 rfl (e_le rfl) (e_lt hnx rfl) (Nat.zero_le _) (Nat.zero_le _) (e_k ?_)
    refine r_wr0 ?_
    refine r_z_eq F dX12_move_24 (tgt := 36) (by decide) (fun hc => ?_) (fun hc => ?_)
    · have hf := e_t hc hf
      refine r_aload_n F dX12_move_27 rfl ?_
      refine r_iload_n F dX12_move_28 rfl ?_
      refine r_iload_n F dX12_move_29 rfl ?_
      obtain ⟨q5, hq6, hf⟩ := e_bd hf
      refine r_callV F dX12_move_30 (b := 72) (dc := 0) (ds := 0) (As := [.int p0, .int p1]) (S0 := []) lkX12_244 mX12_isCore (tX12_isCore_72 hG (la := x_l X) (h := e_up h [(72, o72 0 a72_2 a72_3 a72_4 a72_5 a72_6 a72_7 a72_8 a72_9 a72_10 a72_11 a72_17 a72_18 a72_19 a72_21 a72_22 a72_29 a72_31 a72_35 a72_37 a72_38 a72_39 a72_40 a72_41 a72_44 a72_50)]) hnx rfl h79 hq6) rfl rfl rfl (e_le rfl) (e_le rfl) (e_le rfl) rfl (ci := 12) e_cl12.1 rfl (e_le rfl) (e_lt hnx rfl) (Nat.zero_le _) (Nat.zero_le _) (e_k ?_)
      refine r_wr0 ?_
      refine r_z_ne F dX12_move_33 (tgt := 42) (by decide) (fun hc => ?_) (fun hc => ?_)
      · have hf := e_t hc hf
        refine r_iload_n F dX12_move_42 rfl ?_
        refine r_i2l F dX12_move_43 ?_
        refine r_lconst F dX12_move_44 (v := 0) (by decide) ?_
        refine r_ldc2 F dX12_move_45 klX12_329 ?_
        obtain ⟨q7, hq8, hf⟩ := e_bd hf
        refine r_callS F dX12_move_48 (dc := 0) (ds := 0) (As := [.long (Int32.toInt64 p2), .long 0, .long 2]) (S0 := []) lkX12_97 mX12_in (tX12_in hG (la := x_l X) (h := e_up h [(72, o72 0 a72_2 a72_3 a72_4 a72_5 a72_6 a72_7 a72_8 a72_9 a72_10 a72_11 a72_17 a72_18 a72_19 a72_21 a72_22 a72_29 a72_31 a72_35 a72_37 a72_38 a72_39 a72_40 a72_41 a72_44 a72_50)]) hnx  hq8) rfl rfl rfl (e_le rfl) (e_le rfl) (e_le rfl) (Nat.zero_le _) (Nat.zero_le _) (e_k ?_)
        refine r_wr0 ?_
        refine r_z_eq F dX12_move_51 (tgt := 77) (by decide) (fun hc => ?_) (fun hc => ?_)
        · have hf := e_t hc hf
          refine r_iload F dX12_move_54 rfl ?_
          refine r_i2l F dX12_move_56 ?_
          refine r_lconst F dX12_move_57 (v := 0) (by decide) ?_
          refine r_ldc2 F dX12_move_58 klX12_291 ?_
          obtain ⟨q9, hq10, hf⟩ := e_bd hf
          refine r_callS F dX12_move_61 (dc := 0) (ds := 0) (As := [.long (Int32.toInt64 p3), .long 0, .long 3]) (S0 := []) lkX12_97 mX12_in (tX12_in hG (la := x_l X) (h := e_up h [(72, o72 0 a72_2 a72_3 a72_4 a72_5 a72_6 a72_7 a72_8 a72_9 a72_10 a72_11 a72_17 a72_18 a72_19 a72_21 a72_22 a72_29 a72_31 a72_35 a72_37 a72_38 a72_39 a72_40 a72_41 a72_44 a72_50)]) hnx  hq10) rfl rfl rfl (e_le rfl) (e_le rfl) (e_le rfl) (Nat.zero_le _) (Nat.zero_le _) (e_k ?_)
          refine r_wr0 ?_
          refine r_z_eq F dX12_move_64 (tgt := 77) (by decide) (fun hc => ?_) (fun hc => ?_)
          · have hf := e_t hc hf
            refine r_aload_n F dX12_move_67 rfl ?_
            refine r_iload_n F dX12_move_68 rfl ?_
            refine r_iload_n F dX12_move_69 rfl ?_
            refine r_iload_n F dX12_move_70 rfl ?_
            obtain ⟨q11, hq12, hf⟩ := e_bd hf
            refine r_callV F dX12_move_71 (b := 72) (dc := 0) (ds := 0) (As := [.int p0, .int p1, .int p2]) (S0 := []) lkX12_357 mX12_isPart (tX12_isPart_72 hG (la := x_l X) (h := e_up h [(72, o72 0 a72_2 a72_3 a72_4 a72_5 a72_6 a72_7 a72_8 a72_9 a72_10 a72_11 a72_17 a72_18 a72_19 a72_21 a72_22 a72_29 a72_31 a72_35 a72_37 a72_38 a72_39 a72_40 a72_41 a72_44 a72_50)]) hnx rfl h79 hq12) rfl rfl rfl (e_le rfl) (e_le rfl) (e_le rfl) rfl (ci := 12) e_cl12.1 rfl (e_le rfl) (e_lt hnx rfl) (Nat.zero_le _) (Nat.zero_le _) (e_k ?_)
            refine r_wr0 ?_
            refine r_z_ne F dX12_move_74 (tgt := 83) (by decide) (fun hc => ?_) (fun hc => ?_)
            · have hf := e_t hc hf
              refine r_aload_n F dX12_move_83 rfl ?_
              obtain ⟨q13, hq14, hf⟩ := e_bd hf
              refine r_callV F dX12_move_84 (b := 72) (dc := 0) (ds := 0) (As := []) (S0 := []) lkX12_238 mX12_laysCores (tX12_laysCores_72 hG (la := x_l X) (h := e_up h [(72, o72 0 a72_2 a72_3 a72_4 a72_5 a72_6 a72_7 a72_8 a72_9 a72_10 a72_11 a72_17 a72_18 a72_19 a72_21 a72_22 a72_29 a72_31 a72_35 a72_37 a72_38 a72_39 a72_40 a72_41 a72_44 a72_50)]) hnx rfl h79 h80 h81 h82 h83 h84 h85 hq14) rfl rfl rfl (e_le rfl) (e_le rfl) (e_le rfl) rfl (ci := 12) e_cl12.1 rfl (e_le rfl) (e_lt hnx rfl) (Nat.zero_le _) (Nat.zero_le _) (e_k ?_)
              refine r_wr (l' := [(72, o72 0 a72_2 a72_3 a72_4 a72_5 a72_6 a72_7 a72_8 a72_9 a72_10 a72_11 a72_17 a72_18 a72_19 a72_21 a72_22 q13.2.1 a72_31 a72_35 a72_37 a72_38 a72_39 a72_40 a72_41 a72_44 a72_50), (81, o81 q13.2.2.1), (82, o82 q13.2.2.2.1), (83, o83 q13.2.2.2.2.1), (84, o84 q13.2.2.2.2.2.1), (85, o85 q13.2.2.2.2.2.2)]) rfl rfl ?_
              refine r_pop F dX12_move_87 rfl ?_
              refine r_iload_n F dX12_move_88 rfl ?_
              refine r_iconst F dX12_move_89 (v := 2) (by decide) ?_
              obtain ⟨q15, hq16, hf⟩ := e_bd hf
              have Jq15 : eRun G X 104 [some (.ref 72), some (.int p0), some (.int p1), some (.int p2), some (.int p3), none, none, none, none] [.int q15] h [(72, o72 0 a72_2 a72_3 a72_4 a72_5 a72_6 a72_7 a72_8 a72_9 a72_10 a72_11 a72_17 a72_18 a72_19 a72_21 a72_22 q13.2.1 a72_31 a72_35 a72_37 a72_38 a72_39 a72_40 a72_41 a72_44 a72_50), (81, o81 q13.2.2.1), (82, o82 q13.2.2.2.1), (83, o83 q13.2.2.2.2.1), (84, o84 q13.2.2.2.2.2.1), (85, o85 q13.2.2.2.2.2.2)] nx 0 0 := by
                refine r_istore F dX12_move_104 (e_le rfl) (L' := [some (.ref 72), some (.int p0), some (.int p1), some (.int p2), some (.int p3), some (.int q15), none, none, none]) rfl ?_
                refine r_iload_n F dX12_move_106 rfl ?_
                refine r_iconst F dX12_move_107 (v := 1) (by decide) ?_
                obtain ⟨q17, hq18, hf⟩ := e_bd hf
                have Jq17 : eRun G X 122 [some (.ref 72), some (.int p0), some (.int p1), none, some (.int p3), some (.int q15), none, none, none] [.int q17] h [(72, o72 0 a72_2 a72_3 a72_4 a72_5 a72_6 a72_7 a72_8 a72_9 a72_10 a72_11 a72_17 a72_18 a72_19 a72_21 a72_22 q13.2.1 a72_31 a72_35 a72_37 a72_38 a72_39 a72_40 a72_41 a72_44 a72_50), (81, o81 q13.2.2.1), (82, o82 q13.2.2.2.1), (83, o83 q13.2.2.2.2.1), (84, o84 q13.2.2.2.2.2.1), (85, o85 q13.2.2.2.2.2.2)] nx 0 0 := by
                  refine r_istore F dX12_move_122 (e_le rfl) (L' := [some (.ref 72), some (.int p0), some (.int p1), none, some (.int p3), some (.int q15), some (.int q17), none, none]) rfl ?_
                  refine r_aload_n F dX12_move_124 rfl ?_
                  refine r_iload_n F dX12_move_125 rfl ?_
                  refine r_iload_n F dX12_move_126 rfl ?_
                  refine r_iload F dX12_move_127 rfl ?_
                  refine r_iload F dX12_move_129 rfl ?_
                  refine r_iload F dX12_move_131 rfl ?_
                  obtain ⟨q19, hq20, hf⟩ := e_bd hf
                  refine r_callV F dX12_move_133 (b := 72) (dc := 0) (ds := 0) (As := [.int p0, .int p1, .int p3, .int q15, .int q17]) (S0 := []) lkX12_361 mX12_coresBehind (tX12_coresBehind_72 hG (la := x_l X) (h := e_up h [(72, o72 0 a72_2 a72_3 a72_4 a72_5 a72_6 a72_7 a72_8 a72_9 a72_10 a72_11 a72_17 a72_18 a72_19 a72_21 a72_22 q13.2.1 a72_31 a72_35 a72_37 a72_38 a72_39 a72_40 a72_41 a72_44 a72_50), (81, o81 q13.2.2.1), (82, o82 q13.2.2.2.1), (83, o83 q13.2.2.2.2.1), (84, o84 q13.2.2.2.2.2.1), (85, o85 q13.2.2.2.2.2.2)]) hnx rfl h79 hq20) rfl rfl rfl (e_le rfl) (e_le rfl) (e_le rfl) rfl (ci := 12) e_cl12.1 rfl (e_le rfl) (e_lt hnx rfl) (Nat.zero_le _) (Nat.zero_le _) (e_k ?_)
                  refine r_wr0 ?_
                  refine r_bipush F dX12_move_136 (v := 12) (by decide) ?_
                  refine r_icmp_le F dX12_move_138 (tgt := 147) (by decide) (fun hc => ?_) (fun hc => ?_)
                  · have hf := e_t hc hf
                    refine r_aload_n F dX12_move_147 rfl ?_
                    obtain ⟨q21, hq22, hf⟩ := e_bd hf
                    refine r_callV F dX12_move_148 (b := 72) (dc := 0) (ds := 0) (As := []) (S0 := []) lkX12_364 mX12_keeps (tX12_keeps_72 hG (la := x_l X) (h := e_up h [(72, o72 0 a72_2 a72_3 a72_4 a72_5 a72_6 a72_7 a72_8 a72_9 a72_10 a72_11 a72_17 a72_18 a72_19 a72_21 a72_22 q13.2.1 a72_31 a72_35 a72_37 a72_38 a72_39 a72_40 a72_41 a72_44 a72_50), (81, o81 q13.2.2.1), (82, o82 q13.2.2.2.1), (83, o83 q13.2.2.2.2.1), (84, o84 q13.2.2.2.2.2.1), (85, o85 q13.2.2.2.2.2.2)]) hnx rfl h79 h86 hq22) rfl rfl rfl (e_le rfl) (e_le rfl) (e_le rfl) rfl (ci := 12) e_cl12.1 rfl (e_le rfl) (e_lt hnx rfl) (Nat.zero_le _) (Nat.zero_le _) (e_k ?_)
                    refine r_wr (l' := [(72, o72 0 a72_2 a72_3 a72_4 a72_5 a72_6 a72_7 a72_8 a72_9 a72_10 a72_11 a72_17 a72_18 a72_19 a72_21 a72_22 q13.2.1 q21.1 a72_35 a72_37 a72_38 a72_39 a72_40 a72_41 a72_44 a72_50), (81, o81 q13.2.2.1), (82, o82 q13.2.2.2.1), (83, o83 q13.2.2.2.2.1), (84, o84 q13.2.2.2.2.2.1), (85, o85 q13.2.2.2.2.2.2), (86, o86 q21.2)]) rfl rfl ?_
                    refine r_iload F dX12_move_151 rfl ?_
                    refine r_iload F dX12_move_153 rfl ?_
                    obtain ⟨q23, hq24, hf⟩ := e_bd hf
                    refine r_callS F dX12_move_155 (dc := 0) (ds := 0) (As := [.int q15, .int q17]) (S0 := []) lkX12_250 mX12_wayOf (tX12_wayOf hG (la := x_l X) (h := e_up h [(72, o72 0 a72_2 a72_3 a72_4 a72_5 a72_6 a72_7 a72_8 a72_9 a72_10 a72_11 a72_17 a72_18 a72_19 a72_21 a72_22 q13.2.1 q21.1 a72_35 a72_37 a72_38 a72_39 a72_40 a72_41 a72_44 a72_50), (81, o81 q13.2.2.1), (82, o82 q13.2.2.2.1), (83, o83 q13.2.2.2.2.1), (84, o84 q13.2.2.2.2.2.1), (85, o85 q13.2.2.2.2.2.2), (86, o86 q21.2)]) hnx  hq24) rfl rfl rfl (e_le rfl) (e_le rfl) (e_le rfl) (Nat.zero_le _) (Nat.zero_le _) (e_k ?_)
                    refine r_wr0 ?_
                    refine r_istore F dX12_move_158 (e_le rfl) (L' := [some (.ref 72), some (.int p0), some (.int p1), none, some (.int p3), some (.int q15), some (.int q17), some (.int q23), none]) rfl ?_
                    refine r_aload_n F dX12_move_160 rfl ?_
                    refine r_iload_n F dX12_move_161 rfl ?_
                    refine r_iload_n F dX12_move_162 rfl ?_
                    refine r_iload F dX12_move_163 rfl ?_
                    refine r_iload F dX12_move_165 rfl ?_
                    refine r_iload F dX12_move_167 rfl ?_
                    obtain ⟨q25, hq26, hf⟩ := e_bd hf
                    refine r_callV F dX12_move_169 (b := 72) (dc := 0) (ds := 0) (As := [.int p0, .int p1, .int p3, .int q15, .int q17]) (S0 := []) lkX12_367 mX12_moves (tX12_moves_72 hG (la := x_l X) (h := e_up h [(72, o72 0 a72_2 a72_3 a72_4 a72_5 a72_6 a72_7 a72_8 a72_9 a72_10 a72_11 a72_17 a72_18 a72_19 a72_21 a72_22 q13.2.1 q21.1 a72_35 a72_37 a72_38 a72_39 a72_40 a72_41 a72_44 a72_50), (81, o81 q13.2.2.1), (82, o82 q13.2.2.2.1), (83, o83 q13.2.2.2.2.1), (84, o84 q13.2.2.2.2.2.1), (85, o85 q13.2.2.2.2.2.2), (86, o86 q21.2)]) hnx rfl h79 hq26) rfl rfl rfl (e_le rfl) (e_le rfl) (e_le rfl) rfl (ci := 12) e_cl12.1 rfl (e_le rfl) (e_lt hnx rfl) (Nat.zero_le _) (Nat.zero_le _) (e_k ?_)
                    refine r_wr (l' := [(72, o72 0 a72_2 a72_3 a72_4 a72_5 a72_6 a72_7 a72_8 a72_9 a72_10 a72_11 a72_17 a72_18 a72_19 a72_21 a72_22 q13.2.1 q21.1 a72_35 a72_37 a72_38 a72_39 a72_40 a72_41 a72_44 a72_50), (79, o79 q25.2), (81, o81 q13.2.2.1), (82, o82 q13.2.2.2.1), (83, o83 q13.2.2.2.2.1), (84, o84 q13.2.2.2.2.2.1), (85, o85 q13.2.2.2.2.2.2), (86, o86 q21.2)]) rfl rfl ?_
                    refine r_istore F dX12_move_172 (e_le rfl) (L' := [some (.ref 72), some (.int p0), some (.int p1), none, some (.int p3), some (.int q15), some (.int q17), some (.int q23), some (.int q25.1)]) rfl ?_
                    refine r_iload F dX12_move_174 rfl ?_
                    refine r_if_eq F dX12_move_176 (tgt := 184) (by decide) (fun hc => ?_) (fun hc => ?_)
                    · have hf := e_t hc hf
                      refine r_iload F dX12_move_184 rfl ?_
                      refine r_iload F dX12_move_186 rfl ?_
                      refine r_iconst F dX12_move_188 (v := 2) (by decide) ?_
                      refine r_irem F dX12_move_189 (by decide) ?_
                      refine r_icmp_ne F dX12_move_190 (tgt := 197) (by decide) (fun hc => ?_) (fun hc => ?_)
                      · have hf := e_f hc hf
                        refine r_iconst F dX12_move_197 (v := 1) (by decide) ?_
                        refine r_mat (k := 87) h87 (l' := [(72, o72 0 a72_2 a72_3 a72_4 a72_5 a72_6 a72_7 a72_8 a72_9 a72_10 a72_11 a72_17 a72_18 a72_19 a72_21 a72_22 q13.2.1 q21.1 a72_35 a72_37 a72_38 a72_39 a72_40 a72_41 a72_44 a72_50), (79, o79 q25.2), (81, o81 q13.2.2.1), (82, o82 q13.2.2.2.1), (83, o83 q13.2.2.2.2.1), (84, o84 q13.2.2.2.2.2.1), (85, o85 q13.2.2.2.2.2.2), (86, o86 q21.2), (87, o87 A87)]) rfl ?_
                        obtain rfl := Option.some.inj hf
                        exact r_iret F hq dX12_move_198 rfl rfl (Nat.le_refl _) (Nat.le_refl _) ⟨rfl, rfl⟩
                      · have hf := e_t hc hf
                        refine r_iconst F dX12_move_193 (v := 0) (by decide) ?_
                        refine r_goto F dX12_move_194 (tgt := 198) (by decide) ?_
                        refine r_mat (k := 87) h87 (l' := [(72, o72 0 a72_2 a72_3 a72_4 a72_5 a72_6 a72_7 a72_8 a72_9 a72_10 a72_11 a72_17 a72_18 a72_19 a72_21 a72_22 q13.2.1 q21.1 a72_35 a72_37 a72_38 a72_39 a72_40 a72_41 a72_44 a72_50), (79, o79 q25.2), (81, o81 q13.2.2.1), (82, o82 q13.2.2.2.1), (83, o83 q13.2.2.2.2.1), (84, o84 q13.2.2.2.2.2.1), (85, o85 q13.2.2.2.2.2.2), (86, o86 q21.2), (87, o87 A87)]) rfl ?_
                        obtain rfl := Option.some.inj hf
                        exact r_iret F hq dX12_move_198 rfl rfl (Nat.le_refl _) (Nat.le_refl _) ⟨rfl, rfl⟩
                    · have hf := e_f hc hf
                      refine r_iload F dX12_move_179 rfl ?_
                      refine r_goto F dX12_move_181 (tgt := 198) (by decide) ?_
                      refine r_mat (k := 87) h87 (l' := [(72, o72 0 a72_2 a72_3 a72_4 a72_5 a72_6 a72_7 a72_8 a72_9 a72_10 a72_11 a72_17 a72_18 a72_19 a72_21 a72_22 q13.2.1 q21.1 a72_35 a72_37 a72_38 a72_39 a72_40 a72_41 a72_44 a72_50), (79, o79 q25.2), (81, o81 q13.2.2.1), (82, o82 q13.2.2.2.1), (83, o83 q13.2.2.2.2.1), (84, o84 q13.2.2.2.2.2.1), (85, o85 q13.2.2.2.2.2.2), (86, o86 q21.2), (87, o87 A87)]) rfl ?_
                      obtain rfl := Option.some.inj hf
                      exact r_iret F hq dX12_move_198 rfl rfl (Nat.le_refl _) (Nat.le_refl _) ⟨rfl, rfl⟩
                  · have hf := e_f hc hf
                    refine r_aload_n F dX12_move_141 rfl ?_
                    refine r_iconst F dX12_move_142 (v := 3) (by decide) ?_
                    obtain ⟨q27, hq28, hf⟩ := e_bd hf
                    refine r_callV F dX12_move_143 (b := 72) (dc := 0) (ds := 0) (As := [.int 3]) (S0 := []) lkX12_354 mX12_refuses (tX12_refuses_72 hG (la := x_l X) (h := e_up h [(72, o72 0 a72_2 a72_3 a72_4 a72_5 a72_6 a72_7 a72_8 a72_9 a72_10 a72_11 a72_17 a72_18 a72_19 a72_21 a72_22 q13.2.1 a72_31 a72_35 a72_37 a72_38 a72_39 a72_40 a72_41 a72_44 a72_50), (81, o81 q13.2.2.1), (82, o82 q13.2.2.2.1), (83, o83 q13.2.2.2.2.1), (84, o84 q13.2.2.2.2.2.1), (85, o85 q13.2.2.2.2.2.2)]) hnx rfl h87 hq28) rfl rfl rfl (e_le rfl) (e_le rfl) (e_le rfl) rfl (ci := 12) e_cl12.1 rfl (e_le rfl) (e_lt hnx rfl) (Nat.zero_le _) (Nat.zero_le _) (e_k ?_)
                    refine r_wr (l' := [(72, o72 0 a72_2 a72_3 a72_4 a72_5 a72_6 a72_7 a72_8 a72_9 a72_10 a72_11 a72_17 a72_18 a72_19 a72_21 a72_22 q13.2.1 a72_31 a72_35 a72_37 a72_38 a72_39 a72_40 a72_41 a72_44 a72_50), (81, o81 q13.2.2.1), (82, o82 q13.2.2.2.1), (83, o83 q13.2.2.2.2.1), (84, o84 q13.2.2.2.2.2.1), (85, o85 q13.2.2.2.2.2.2), (87, o87 q27.2)]) rfl rfl ?_
                    refine r_mat (k := 79) h79 (l' := [(72, o72 0 a72_2 a72_3 a72_4 a72_5 a72_6 a72_7 a72_8 a72_9 a72_10 a72_11 a72_17 a72_18 a72_19 a72_21 a72_22 q13.2.1 a72_31 a72_35 a72_37 a72_38 a72_39 a72_40 a72_41 a72_44 a72_50), (79, o79 A79), (81, o81 q13.2.2.1), (82, o82 q13.2.2.2.1), (83, o83 q13.2.2.2.2.1), (84, o84 q13.2.2.2.2.2.1), (85, o85 q13.2.2.2.2.2.2), (87, o87 q27.2)]) rfl ?_
                    refine r_mat (k := 86) h86 (l' := [(72, o72 0 a72_2 a72_3 a72_4 a72_5 a72_6 a72_7 a72_8 a72_9 a72_10 a72_11 a72_17 a72_18 a72_19 a72_21 a72_22 q13.2.1 a72_31 a72_35 a72_37 a72_38 a72_39 a72_40 a72_41 a72_44 a72_50), (79, o79 A79), (81, o81 q13.2.2.1), (82, o82 q13.2.2.2.1), (83, o83 q13.2.2.2.2.1), (84, o84 q13.2.2.2.2.2.1), (85, o85 q13.2.2.2.2.2.2), (86, o86 A86), (87, o87 q27.2)]) rfl ?_
                    obtain rfl := Option.some.inj hf
                    exact r_iret F hq dX12_move_146 rfl rfl (Nat.le_refl _) (Nat.le_refl _) ⟨rfl, rfl⟩
                refine r_icmp_ne F dX12_move_108 (tgt := 115) (by decide) (fun hc => ?_) (fun hc => ?_)
                · have hq18 := e_f hc hq18
                  refine r_aload_n F dX12_move_115 rfl ?_
                  refine r_iload_n F dX12_move_116 rfl ?_
                  refine r_iload_n F dX12_move_117 rfl ?_
                  refine r_iconst F dX12_move_118 (v := 1) (by decide) ?_
                  obtain ⟨q29, hq30, hq18⟩ := e_bd hq18
                  refine r_callV F dX12_move_119 (b := 72) (dc := 0) (ds := 0) (As := [.int p0, .int p1, .int 1]) (S0 := []) lkX12_221 mX12_vector (tX12_vector_72 hG (la := x_l X) (h := e_up h [(72, o72 0 a72_2 a72_3 a72_4 a72_5 a72_6 a72_7 a72_8 a72_9 a72_10 a72_11 a72_17 a72_18 a72_19 a72_21 a72_22 q13.2.1 a72_31 a72_35 a72_37 a72_38 a72_39 a72_40 a72_41 a72_44 a72_50), (81, o81 q13.2.2.1), (82, o82 q13.2.2.2.1), (83, o83 q13.2.2.2.2.1), (84, o84 q13.2.2.2.2.2.1), (85, o85 q13.2.2.2.2.2.2)]) hnx rfl h79 hq30) rfl rfl rfl (e_le rfl) (e_le rfl) (e_le rfl) rfl (ci := 12) e_cl12.1 rfl (e_le rfl) (e_lt hnx rfl) (Nat.zero_le _) (Nat.zero_le _) (e_k ?_)
                  refine r_wr0 ?_
                  refine r_drop 3 (L' := [some (.ref 72), some (.int p0), some (.int p1), none, some (.int p3), some (.int q15), none, none, none]) rfl ?_
                  obtain rfl := Option.some.inj hq18
                  exact Jq17
                · have hq18 := e_t hc hq18
                  refine r_iconst F dX12_move_111 (v := 0) (by decide) ?_
                  refine r_goto F dX12_move_112 (tgt := 122) (by decide) ?_
                  refine r_drop 3 (L' := [some (.ref 72), some (.int p0), some (.int p1), none, some (.int p3), some (.int q15), none, none, none]) rfl ?_
                  obtain rfl := Option.some.inj hq18
                  exact Jq17
              refine r_icmp_ne F dX12_move_90 (tgt := 97) (by decide) (fun hc => ?_) (fun hc => ?_)
              · have hq16 := e_f hc hq16
                refine r_aload_n F dX12_move_97 rfl ?_
                refine r_iload_n F dX12_move_98 rfl ?_
                refine r_iload_n F dX12_move_99 rfl ?_
                refine r_iconst F dX12_move_100 (v := 0) (by decide) ?_
                obtain ⟨q31, hq32, hq16⟩ := e_bd hq16
                refine r_callV F dX12_move_101 (b := 72) (dc := 0) (ds := 0) (As := [.int p0, .int p1, .int 0]) (S0 := []) lkX12_221 mX12_vector (tX12_vector_72 hG (la := x_l X) (h := e_up h [(72, o72 0 a72_2 a72_3 a72_4 a72_5 a72_6 a72_7 a72_8 a72_9 a72_10 a72_11 a72_17 a72_18 a72_19 a72_21 a72_22 q13.2.1 a72_31 a72_35 a72_37 a72_38 a72_39 a72_40 a72_41 a72_44 a72_50), (81, o81 q13.2.2.1), (82, o82 q13.2.2.2.1), (83, o83 q13.2.2.2.2.1), (84, o84 q13.2.2.2.2.2.1), (85, o85 q13.2.2.2.2.2.2)]) hnx rfl h79 hq32) rfl rfl rfl (e_le rfl) (e_le rfl) (e_le rfl) rfl (ci := 12) e_cl12.1 rfl (e_le rfl) (e_lt hnx rfl) (Nat.zero_le _) (Nat.zero_le _) (e_k ?_)
                refine r_wr0 ?_
                obtain rfl := Option.some.inj hq16
                exact Jq15
              · have hq16 := e_t hc hq16
                refine r_iconst F dX12_move_93 (v := 0) (by decide) ?_
                refine r_goto F dX12_move_94 (tgt := 104) (by decide) ?_
                obtain rfl := Option.some.inj hq16
                exact Jq15
            · have hf := e_f hc hf
              refine r_aload_n F dX12_move_77 rfl ?_
              refine r_iconst F dX12_move_78 (v := 2) (by decide) ?_
              obtain ⟨q33, hq34, hf⟩ := e_bd hf
              refine r_callV F dX12_move_79 (b := 72) (dc := 0) (ds := 0) (As := [.int 2]) (S0 := []) lkX12_354 mX12_refuses (tX12_refuses_72 hG (la := x_l X) (h := e_up h [(72, o72 0 a72_2 a72_3 a72_4 a72_5 a72_6 a72_7 a72_8 a72_9 a72_10 a72_11 a72_17 a72_18 a72_19 a72_21 a72_22 a72_29 a72_31 a72_35 a72_37 a72_38 a72_39 a72_40 a72_41 a72_44 a72_50)]) hnx rfl h87 hq34) rfl rfl rfl (e_le rfl) (e_le rfl) (e_le rfl) rfl (ci := 12) e_cl12.1 rfl (e_le rfl) (e_lt hnx rfl) (Nat.zero_le _) (Nat.zero_le _) (e_k ?_)
              refine r_wr (l' := [(72, o72 0 a72_2 a72_3 a72_4 a72_5 a72_6 a72_7 a72_8 a72_9 a72_10 a72_11 a72_17 a72_18 a72_19 a72_21 a72_22 a72_29 a72_31 a72_35 a72_37 a72_38 a72_39 a72_40 a72_41 a72_44 a72_50), (87, o87 q33.2)]) rfl rfl ?_
              refine r_mat (k := 79) h79 (l' := [(72, o72 0 a72_2 a72_3 a72_4 a72_5 a72_6 a72_7 a72_8 a72_9 a72_10 a72_11 a72_17 a72_18 a72_19 a72_21 a72_22 a72_29 a72_31 a72_35 a72_37 a72_38 a72_39 a72_40 a72_41 a72_44 a72_50), (79, o79 A79), (87, o87 q33.2)]) rfl ?_
              refine r_mat (k := 81) h81 (l' := [(72, o72 0 a72_2 a72_3 a72_4 a72_5 a72_6 a72_7 a72_8 a72_9 a72_10 a72_11 a72_17 a72_18 a72_19 a72_21 a72_22 a72_29 a72_31 a72_35 a72_37 a72_38 a72_39 a72_40 a72_41 a72_44 a72_50), (79, o79 A79), (81, o81 A81), (87, o87 q33.2)]) rfl ?_
              refine r_mat (k := 82) h82 (l' := [(72, o72 0 a72_2 a72_3 a72_4 a72_5 a72_6 a72_7 a72_8 a72_9 a72_10 a72_11 a72_17 a72_18 a72_19 a72_21 a72_22 a72_29 a72_31 a72_35 a72_37 a72_38 a72_39 a72_40 a72_41 a72_44 a72_50), (79, o79 A79), (81, o81 A81), (82, o82 A82), (87, o87 q33.2)]) rfl ?_
              refine r_mat (k := 83) h83 (l' := [(72, o72 0 a72_2 a72_3 a72_4 a72_5 a72_6 a72_7 a72_8 a72_9 a72_10 a72_11 a72_17 a72_18 a72_19 a72_21 a72_22 a72_29 a72_31 a72_35 a72_37 a72_38 a72_39 a72_40 a72_41 a72_44 a72_50), (79, o79 A79), (81, o81 A81), (82, o82 A82), (83, o83 A83), (87, o87 q33.2)]) rfl ?_
              refine r_mat (k := 84) h84 (l' := [(72, o72 0 a72_2 a72_3 a72_4 a72_5 a72_6 a72_7 a72_8 a72_9 a72_10 a72_11 a72_17 a72_18 a72_19 a72_21 a72_22 a72_29 a72_31 a72_35 a72_37 a72_38 a72_39 a72_40 a72_41 a72_44 a72_50), (79, o79 A79), (81, o81 A81), (82, o82 A82), (83, o83 A83), (84, o84 A84), (87, o87 q33.2)]) rfl ?_
              refine r_mat (k := 85) h85 (l' := [(72, o72 0 a72_2 a72_3 a72_4 a72_5 a72_6 a72_7 a72_8 a72_9 a72_10 a72_11 a72_17 a72_18 a72_19 a72_21 a72_22 a72_29 a72_31 a72_35 a72_37 a72_38 a72_39 a72_40 a72_41 a72_44 a72_50), (79, o79 A79), (81, o81 A81), (82, o82 A82), (83, o83 A83), (84, o84 A84), (85, o85 A85), (87, o87 q33.2)]) rfl ?_
              refine r_mat (k := 86) h86 (l' := [(72, o72 0 a72_2 a72_3 a72_4 a72_5 a72_6 a72_7 a72_8 a72_9 a72_10 a72_11 a72_17 a72_18 a72_19 a72_21 a72_22 a72_29 a72_31 a72_35 a72_37 a72_38 a72_39 a72_40 a72_41 a72_44 a72_50), (79, o79 A79), (81, o81 A81), (82, o82 A82), (83, o83 A83), (84, o84 A84), (85, o85 A85), (86, o86 A86), (87, o87 q33.2)]) rfl ?_
              obtain rfl := Option.some.inj hf
              exact r_iret F hq dX12_move_82 rfl rfl (Nat.le_refl _) (Nat.le_refl _) ⟨rfl, rfl⟩
          · have hf := e_f hc hf
            refine r_aload_n F dX12_move_77 rfl ?_
            refine r_iconst F dX12_move_78 (v := 2) (by decide) ?_
            obtain ⟨q35, hq36, hf⟩ := e_bd hf
            refine r_callV F dX12_move_79 (b := 72) (dc := 0) (ds := 0) (As := [.int 2]) (S0 := []) lkX12_354 mX12_refuses (tX12_refuses_72 hG (la := x_l X) (h := e_up h [(72, o72 0 a72_2 a72_3 a72_4 a72_5 a72_6 a72_7 a72_8 a72_9 a72_10 a72_11 a72_17 a72_18 a72_19 a72_21 a72_22 a72_29 a72_31 a72_35 a72_37 a72_38 a72_39 a72_40 a72_41 a72_44 a72_50)]) hnx rfl h87 hq36) rfl rfl rfl (e_le rfl) (e_le rfl) (e_le rfl) rfl (ci := 12) e_cl12.1 rfl (e_le rfl) (e_lt hnx rfl) (Nat.zero_le _) (Nat.zero_le _) (e_k ?_)
            refine r_wr (l' := [(72, o72 0 a72_2 a72_3 a72_4 a72_5 a72_6 a72_7 a72_8 a72_9 a72_10 a72_11 a72_17 a72_18 a72_19 a72_21 a72_22 a72_29 a72_31 a72_35 a72_37 a72_38 a72_39 a72_40 a72_41 a72_44 a72_50), (87, o87 q35.2)]) rfl rfl ?_
            refine r_mat (k := 79) h79 (l' := [(72, o72 0 a72_2 a72_3 a72_4 a72_5 a72_6 a72_7 a72_8 a72_9 a72_10 a72_11 a72_17 a72_18 a72_19 a72_21 a72_22 a72_29 a72_31 a72_35 a72_37 a72_38 a72_39 a72_40 a72_41 a72_44 a72_50), (79, o79 A79), (87, o87 q35.2)]) rfl ?_
            refine r_mat (k := 81) h81 (l' := [(72, o72 0 a72_2 a72_3 a72_4 a72_5 a72_6 a72_7 a72_8 a72_9 a72_10 a72_11 a72_17 a72_18 a72_19 a72_21 a72_22 a72_29 a72_31 a72_35 a72_37 a72_38 a72_39 a72_40 a72_41 a72_44 a72_50), (79, o79 A79), (81, o81 A81), (87, o87 q35.2)]) rfl ?_
            refine r_mat (k := 82) h82 (l' := [(72, o72 0 a72_2 a72_3 a72_4 a72_5 a72_6 a72_7 a72_8 a72_9 a72_10 a72_11 a72_17 a72_18 a72_19 a72_21 a72_22 a72_29 a72_31 a72_35 a72_37 a72_38 a72_39 a72_40 a72_41 a72_44 a72_50), (79, o79 A79), (81, o81 A81), (82, o82 A82), (87, o87 q35.2)]) rfl ?_
            refine r_mat (k := 83) h83 (l' := [(72, o72 0 a72_2 a72_3 a72_4 a72_5 a72_6 a72_7 a72_8 a72_9 a72_10 a72_11 a72_17 a72_18 a72_19 a72_21 a72_22 a72_29 a72_31 a72_35 a72_37 a72_38 a72_39 a72_40 a72_41 a72_44 a72_50), (79, o79 A79), (81, o81 A81), (82, o82 A82), (83, o83 A83), (87, o87 q35.2)]) rfl ?_
            refine r_mat (k := 84) h84 (l' := [(72, o72 0 a72_2 a72_3 a72_4 a72_5 a72_6 a72_7 a72_8 a72_9 a72_10 a72_11 a72_17 a72_18 a72_19 a72_21 a72_22 a72_29 a72_31 a72_35 a72_37 a72_38 a72_39 a72_40 a72_41 a72_44 a72_50), (79, o79 A79), (81, o81 A81), (82, o82 A82), (83, o83 A83), (84, o84 A84), (87, o87 q35.2)]) rfl ?_
            refine r_mat (k := 85) h85 (l' := [(72, o72 0 a72_2 a72_3 a72_4 a72_5 a72_6 a72_7 a72_8 a72_9 a72_10 a72_11 a72_17 a72_18 a72_19 a72_21 a72_22 a72_29 a72_31 a72_35 a72_37 a72_38 a72_39 a72_40 a72_41 a72_44 a72_50), (79, o79 A79), (81, o81 A81), (82, o82 A82), (83, o83 A83), (84, o84 A84), (85, o85 A85), (87, o87 q35.2)]) rfl ?_
            refine r_mat (k := 86) h86 (l' := [(72, o72 0 a72_2 a72_3 a72_4 a72_5 a72_6 a72_7 a72_8 a72_9 a72_10 a72_11 a72_17 a72_18 a72_19 a72_21 a72_22 a72_29 a72_31 a72_35 a72_37 a72_38 a72_39 a72_40 a72_41 a72_44 a72_50), (79, o79 A79), (81, o81 A81), (82, o82 A82), (83, o83 A83), (84, o84 A84), (85, o85 A85), (86, o86 A86), (87, o87 q35.2)]) rfl ?_
            obtain rfl := Option.some.inj hf
            exact r_iret F hq dX12_move_82 rfl rfl (Nat.le_refl _) (Nat.le_refl _) ⟨rfl, rfl⟩
        · have hf := e_f hc hf
          refine r_aload_n F dX12_move_77 rfl ?_
          refine r_iconst F dX12_move_78 (v := 2) (by decide) ?_
          obtain ⟨q37, hq38, hf⟩ := e_bd hf
          refine r_callV F dX12_move_79 (b := 72) (dc := 0) (ds := 0) (As := [.int 2]) (S0 := []) lkX12_354 mX12_refuses (tX12_refuses_72 hG (la := x_l X) (h := e_up h [(72, o72 0 a72_2 a72_3 a72_4 a72_5 a72_6 a72_7 a72_8 a72_9 a72_10 a72_11 a72_17 a72_18 a72_19 a72_21 a72_22 a72_29 a72_31 a72_35 a72_37 a72_38 a72_39 a72_40 a72_41 a72_44 a72_50)]) hnx rfl h87 hq38) rfl rfl rfl (e_le rfl) (e_le rfl) (e_le rfl) rfl (ci := 12) e_cl12.1 rfl (e_le rfl) (e_lt hnx rfl) (Nat.zero_le _) (Nat.zero_le _) (e_k ?_)
          refine r_wr (l' := [(72, o72 0 a72_2 a72_3 a72_4 a72_5 a72_6 a72_7 a72_8 a72_9 a72_10 a72_11 a72_17 a72_18 a72_19 a72_21 a72_22 a72_29 a72_31 a72_35 a72_37 a72_38 a72_39 a72_40 a72_41 a72_44 a72_50), (87, o87 q37.2)]) rfl rfl ?_
          refine r_mat (k := 79) h79 (l' := [(72, o72 0 a72_2 a72_3 a72_4 a72_5 a72_6 a72_7 a72_8 a72_9 a72_10 a72_11 a72_17 a72_18 a72_19 a72_21 a72_22 a72_29 a72_31 a72_35 a72_37 a72_38 a72_39 a72_40 a72_41 a72_44 a72_50), (79, o79 A79), (87, o87 q37.2)]) rfl ?_
          refine r_mat (k := 81) h81 (l' := [(72, o72 0 a72_2 a72_3 a72_4 a72_5 a72_6 a72_7 a72_8 a72_9 a72_10 a72_11 a72_17 a72_18 a72_19 a72_21 a72_22 a72_29 a72_31 a72_35 a72_37 a72_38 a72_39 a72_40 a72_41 a72_44 a72_50), (79, o79 A79), (81, o81 A81), (87, o87 q37.2)]) rfl ?_
          refine r_mat (k := 82) h82 (l' := [(72, o72 0 a72_2 a72_3 a72_4 a72_5 a72_6 a72_7 a72_8 a72_9 a72_10 a72_11 a72_17 a72_18 a72_19 a72_21 a72_22 a72_29 a72_31 a72_35 a72_37 a72_38 a72_39 a72_40 a72_41 a72_44 a72_50), (79, o79 A79), (81, o81 A81), (82, o82 A82), (87, o87 q37.2)]) rfl ?_
          refine r_mat (k := 83) h83 (l' := [(72, o72 0 a72_2 a72_3 a72_4 a72_5 a72_6 a72_7 a72_8 a72_9 a72_10 a72_11 a72_17 a72_18 a72_19 a72_21 a72_22 a72_29 a72_31 a72_35 a72_37 a72_38 a72_39 a72_40 a72_41 a72_44 a72_50), (79, o79 A79), (81, o81 A81), (82, o82 A82), (83, o83 A83), (87, o87 q37.2)]) rfl ?_
          refine r_mat (k := 84) h84 (l' := [(72, o72 0 a72_2 a72_3 a72_4 a72_5 a72_6 a72_7 a72_8 a72_9 a72_10 a72_11 a72_17 a72_18 a72_19 a72_21 a72_22 a72_29 a72_31 a72_35 a72_37 a72_38 a72_39 a72_40 a72_41 a72_44 a72_50), (79, o79 A79), (81, o81 A81), (82, o82 A82), (83, o83 A83), (84, o84 A84), (87, o87 q37.2)]) rfl ?_
          refine r_mat (k := 85) h85 (l' := [(72, o72 0 a72_2 a72_3 a72_4 a72_5 a72_6 a72_7 a72_8 a72_9 a72_10 a72_11 a72_17 a72_18 a72_19 a72_21 a72_22 a72_29 a72_31 a72_35 a72_37 a72_38 a72_39 a72_40 a72_41 a72_44 a72_50), (79, o79 A79), (81, o81 A81), (82, o82 A82), (83, o83 A83), (84, o84 A84), (85, o85 A85), (87, o87 q37.2)]) rfl ?_
          refine r_mat (k := 86) h86 (l' := [(72, o72 0 a72_2 a72_3 a72_4 a72_5 a72_6 a72_7 a72_8 a72_9 a72_10 a72_11 a72_17 a72_18 a72_19 a72_21 a72_22 a72_29 a72_31 a72_35 a72_37 a72_38 a72_39 a72_40 a72_41 a72_44 a72_50), (79, o79 A79), (81, o81 A81), (82, o82 A82), (83, o83 A83), (84, o84 A84), (85, o85 A85), (86, o86 A86), (87, o87 q37.2)]) rfl ?_
          obtain rfl := Option.some.inj hf
          exact r_iret F hq dX12_move_82 rfl rfl (Nat.le_refl _) (Nat.le_refl _) ⟨rfl, rfl⟩
      · have hf := e_f hc hf
        refine r_aload_n F dX12_move_36 rfl ?_
        refine r_iconst F dX12_move_37 (v := 1) (by decide) ?_
        obtain ⟨q39, hq40, hf⟩ := e_bd hf
        refine r_callV F dX12_move_38 (b := 72) (dc := 0) (ds := 0) (As := [.int 1]) (S0 := []) lkX12_354 mX12_refuses (tX12_refuses_72 hG (la := x_l X) (h := e_up h [(72, o72 0 a72_2 a72_3 a72_4 a72_5 a72_6 a72_7 a72_8 a72_9 a72_10 a72_11 a72_17 a72_18 a72_19 a72_21 a72_22 a72_29 a72_31 a72_35 a72_37 a72_38 a72_39 a72_40 a72_41 a72_44 a72_50)]) hnx rfl h87 hq40) rfl rfl rfl (e_le rfl) (e_le rfl) (e_le rfl) rfl (ci := 12) e_cl12.1 rfl (e_le rfl) (e_lt hnx rfl) (Nat.zero_le _) (Nat.zero_le _) (e_k ?_)
        refine r_wr (l' := [(72, o72 0 a72_2 a72_3 a72_4 a72_5 a72_6 a72_7 a72_8 a72_9 a72_10 a72_11 a72_17 a72_18 a72_19 a72_21 a72_22 a72_29 a72_31 a72_35 a72_37 a72_38 a72_39 a72_40 a72_41 a72_44 a72_50), (87, o87 q39.2)]) rfl rfl ?_
        refine r_mat (k := 79) h79 (l' := [(72, o72 0 a72_2 a72_3 a72_4 a72_5 a72_6 a72_7 a72_8 a72_9 a72_10 a72_11 a72_17 a72_18 a72_19 a72_21 a72_22 a72_29 a72_31 a72_35 a72_37 a72_38 a72_39 a72_40 a72_41 a72_44 a72_50), (79, o79 A79), (87, o87 q39.2)]) rfl ?_
        refine r_mat (k := 81) h81 (l' := [(72, o72 0 a72_2 a72_3 a72_4 a72_5 a72_6 a72_7 a72_8 a72_9 a72_10 a72_11 a72_17 a72_18 a72_19 a72_21 a72_22 a72_29 a72_31 a72_35 a72_37 a72_38 a72_39 a72_40 a72_41 a72_44 a72_50), (79, o79 A79), (81, o81 A81), (87, o87 q39.2)]) rfl ?_
        refine r_mat (k := 82) h82 (l' := [(72, o72 0 a72_2 a72_3 a72_4 a72_5 a72_6 a72_7 a72_8 a72_9 a72_10 a72_11 a72_17 a72_18 a72_19 a72_21 a72_22 a72_29 a72_31 a72_35 a72_37 a72_38 a72_39 a72_40 a72_41 a72_44 a72_50), (79, o79 A79), (81, o81 A81), (82, o82 A82), (87, o87 q39.2)]) rfl ?_
        refine r_mat (k := 83) h83 (l' := [(72, o72 0 a72_2 a72_3 a72_4 a72_5 a72_6 a72_7 a72_8 a72_9 a72_10 a72_11 a72_17 a72_18 a72_19 a72_21 a72_22 a72_29 a72_31 a72_35 a72_37 a72_38 a72_39 a72_40 a72_41 a72_44 a72_50), (79, o79 A79), (81, o81 A81), (82, o82 A82), (83, o83 A83), (87, o87 q39.2)]) rfl ?_
        refine r_mat (k := 84) h84 (l' := [(72, o72 0 a72_2 a72_3 a72_4 a72_5 a72_6 a72_7 a72_8 a72_9 a72_10 a72_11 a72_17 a72_18 a72_19 a72_21 a72_22 a72_29 a72_31 a72_35 a72_37 a72_38 a72_39 a72_40 a72_41 a72_44 a72_50), (79, o79 A79), (81, o81 A81), (82, o82 A82), (83, o83 A83), (84, o84 A84), (87, o87 q39.2)]) rfl ?_
        refine r_mat (k := 85) h85 (l' := [(72, o72 0 a72_2 a72_3 a72_4 a72_5 a72_6 a72_7 a72_8 a72_9 a72_10 a72_11 a72_17 a72_18 a72_19 a72_21 a72_22 a72_29 a72_31 a72_35 a72_37 a72_38 a72_39 a72_40 a72_41 a72_44 a72_50), (79, o79 A79), (81, o81 A81), (82, o82 A82), (83, o83 A83), (84, o84 A84), (85, o85 A85), (87, o87 q39.2)]) rfl ?_
        refine r_mat (k := 86) h86 (l' := [(72, o72 0 a72_2 a72_3 a72_4 a72_5 a72_6 a72_7 a72_8 a72_9 a72_10 a72_11 a72_17 a72_18 a72_19 a72_21 a72_22 a72_29 a72_31 a72_35 a72_37 a72_38 a72_39 a72_40 a72_41 a72_44 a72_50), (79, o79 A79), (81, o81 A81), (82, o82 A82), (83, o83 A83), (84, o84 A84), (85, o85 A85), (86, o86 A86), (87, o87 q39.2)]) rfl ?_
        obtain rfl := Option.some.inj hf
        exact r_iret F hq dX12_move_41 rfl rfl (Nat.le_refl _) (Nat.le_refl _) ⟨rfl, rfl⟩
    · have hf := e_f hc hf
      refine r_aload_n F dX12_move_36 rfl ?_
      refine r_iconst F dX12_move_37 (v := 1) (by decide) ?_
      obtain ⟨q41, hq42, hf⟩ := e_bd hf
      refine r_callV F dX12_move_38 (b := 72) (dc := 0) (ds := 0) (As := [.int 1]) (S0 := []) lkX12_354 mX12_refuses (tX12_refuses_72 hG (la := x_l X) (h := e_up h [(72, o72 0 a72_2 a72_3 a72_4 a72_5 a72_6 a72_7 a72_8 a72_9 a72_10 a72_11 a72_17 a72_18 a72_19 a72_21 a72_22 a72_29 a72_31 a72_35 a72_37 a72_38 a72_39 a72_40 a72_41 a72_44 a72_50)]) hnx rfl h87 hq42) rfl rfl rfl (e_le rfl) (e_le rfl) (e_le rfl) rfl (ci := 12) e_cl12.1 rfl (e_le rfl) (e_lt hnx rfl) (Nat.zero_le _) (Nat.zero_le _) (e_k ?_)
      refine r_wr (l' := [(72, o72 0 a72_2 a72_3 a72_4 a72_5 a72_6 a72_7 a72_8 a72_9 a72_10 a72_11 a72_17 a72_18 a72_19 a72_21 a72_22 a72_29 a72_31 a72_35 a72_37 a72_38 a72_39 a72_40 a72_41 a72_44 a72_50), (87, o87 q41.2)]) rfl rfl ?_
      refine r_mat (k := 79) h79 (l' := [(72, o72 0 a72_2 a72_3 a72_4 a72_5 a72_6 a72_7 a72_8 a72_9 a72_10 a72_11 a72_17 a72_18 a72_19 a72_21 a72_22 a72_29 a72_31 a72_35 a72_37 a72_38 a72_39 a72_40 a72_41 a72_44 a72_50), (79, o79 A79), (87, o87 q41.2)]) rfl ?_
      refine r_mat (k := 81) h81 (l' := [(72, o72 0 a72_2 a72_3 a72_4 a72_5 a72_6 a72_7 a72_8 a72_9 a72_10 a72_11 a72_17 a72_18 a72_19 a72_21 a72_22 a72_29 a72_31 a72_35 a72_37 a72_38 a72_39 a72_40 a72_41 a72_44 a72_50), (79, o79 A79), (81, o81 A81), (87, o87 q41.2)]) rfl ?_
      refine r_mat (k := 82) h82 (l' := [(72, o72 0 a72_2 a72_3 a72_4 a72_5 a72_6 a72_7 a72_8 a72_9 a72_10 a72_11 a72_17 a72_18 a72_19 a72_21 a72_22 a72_29 a72_31 a72_35 a72_37 a72_38 a72_39 a72_40 a72_41 a72_44 a72_50), (79, o79 A79), (81, o81 A81), (82, o82 A82), (87, o87 q41.2)]) rfl ?_
      refine r_mat (k := 83) h83 (l' := [(72, o72 0 a72_2 a72_3 a72_4 a72_5 a72_6 a72_7 a72_8 a72_9 a72_10 a72_11 a72_17 a72_18 a72_19 a72_21 a72_22 a72_29 a72_31 a72_35 a72_37 a72_38 a72_39 a72_40 a72_41 a72_44 a72_50), (79, o79 A79), (81, o81 A81), (82, o82 A82), (83, o83 A83), (87, o87 q41.2)]) rfl ?_
      refine r_mat (k := 84) h84 (l' := [(72, o72 0 a72_2 a72_3 a72_4 a72_5 a72_6 a72_7 a72_8 a72_9 a72_10 a72_11 a72_17 a72_18 a72_19 a72_21 a72_22 a72_29 a72_31 a72_35 a72_37 a72_38 a72_39 a72_40 a72_41 a72_44 a72_50), (79, o79 A79), (81, o81 A81), (82, o82 A82), (83, o83 A83), (84, o84 A84), (87, o87 q41.2)]) rfl ?_
      refine r_mat (k := 85) h85 (l' := [(72, o72 0 a72_2 a72_3 a72_4 a72_5 a72_6 a72_7 a72_8 a72_9 a72_10 a72_11 a72_17 a72_18 a72_19 a72_21 a72_22 a72_29 a72_31 a72_35 a72_37 a72_38 a72_39 a72_40 a72_41 a72_44 a72_50), (79, o79 A79), (81, o81 A81), (82, o82 A82), (83, o83 A83), (84, o84 A84), (85, o85 A85), (87, o87 q41.2)]) rfl ?_
      refine r_mat (k := 86) h86 (l' := [(72, o72 0 a72_2 a72_3 a72_4 a72_5 a72_6 a72_7 a72_8 a72_9 a72_10 a72_11 a72_17 a72_18 a72_19 a72_21 a72_22 a72_29 a72_31 a72_35 a72_37 a72_38 a72_39 a72_40 a72_41 a72_44 a72_50), (79, o79 A79), (81, o81 A81), (82, o82 A82), (83, o83 A83), (84, o84 A84), (85, o85 A85), (86, o86 A86), (87, o87 q41.2)]) rfl ?_
      obtain rfl := Option.some.inj hf
      exact r_iret F hq dX12_move_41 rfl rfl (Nat.le_refl _) (Nat.le_refl _) ⟨rfl, rfl⟩
  · have hf := e_f hc hf
    refine r_aload_n F dX12_move_12 rfl ?_
    refine r_iconst F dX12_move_13 (v := 0) (by decide) ?_
    obtain ⟨q43, hq44, hf⟩ := e_bd hf
    refine r_callV F dX12_move_14 (b := 72) (dc := 0) (ds := 0) (As := [.int 0]) (S0 := []) lkX12_354 mX12_refuses (tX12_refuses_72 hG (la := x_l X) (h := e_up h [(72, o72 0 a72_2 a72_3 a72_4 a72_5 a72_6 a72_7 a72_8 a72_9 a72_10 a72_11 a72_17 a72_18 a72_19 a72_21 a72_22 a72_29 a72_31 a72_35 a72_37 a72_38 a72_39 a72_40 a72_41 a72_44 a72_50)]) hnx rfl h87 hq44) rfl rfl rfl (e_le rfl) (e_le rfl) (e_le rfl) rfl (ci := 12) e_cl12.1 rfl (e_le rfl) (e_lt hnx rfl) (Nat.zero_le _) (Nat.zero_le _) (e_k ?_)
    refine r_wr (l' := [(72, o72 0 a72_2 a72_3 a72_4 a72_5 a72_6 a72_7 a72_8 a72_9 a72_10 a72_11 a72_17 a72_18 a72_19 a72_21 a72_22 a72_29 a72_31 a72_35 a72_37 a72_38 a72_39 a72_40 a72_41 a72_44 a72_50), (87, o87 q43.2)]) rfl rfl ?_
    refine r_mat (k := 79) h79 (l' := [(72, o72 0 a72_2 a72_3 a72_4 a72_5 a72_6 a72_7 a72_8 a72_9 a72_10 a72_11 a72_17 a72_18 a72_19 a72_21 a72_22 a72_29 a72_31 a72_35 a72_37 a72_38 a72_39 a72_40 a72_41 a72_44 a72_50), (79, o79 A79), (87, o87 q43.2)]) rfl ?_
    refine r_mat (k := 81) h81 (l' := [(72, o72 0 a72_2 a72_3 a72_4 a72_5 a72_6 a72_7 a72_8 a72_9 a72_10 a72_11 a72_17 a72_18 a72_19 a72_21 a72_22 a72_29 a72_31 a72_35 a72_37 a72_38 a72_39 a72_40 a72_41 a72_44 a72_50), (79, o79 A79), (81, o81 A81), (87, o87 q43.2)]) rfl ?_
    refine r_mat (k := 82) h82 (l' := [(72, o72 0 a72_2 a72_3 a72_4 a72_5 a72_6 a72_7 a72_8 a72_9 a72_10 a72_11 a72_17 a72_18 a72_19 a72_21 a72_22 a72_29 a72_31 a72_35 a72_37 a72_38 a72_39 a72_40 a72_41 a72_44 a72_50), (79, o79 A79), (81, o81 A81), (82, o82 A82), (87, o87 q43.2)]) rfl ?_
    refine r_mat (k := 83) h83 (l' := [(72, o72 0 a72_2 a72_3 a72_4 a72_5 a72_6 a72_7 a72_8 a72_9 a72_10 a72_11 a72_17 a72_18 a72_19 a72_21 a72_22 a72_29 a72_31 a72_35 a72_37 a72_38 a72_39 a72_40 a72_41 a72_44 a72_50), (79, o79 A79), (81, o81 A81), (82, o82 A82), (83, o83 A83), (87, o87 q43.2)]) rfl ?_
    refine r_mat (k := 84) h84 (l' := [(72, o72 0 a72_2 a72_3 a72_4 a72_5 a72_6 a72_7 a72_8 a72_9 a72_10 a72_11 a72_17 a72_18 a72_19 a72_21 a72_22 a72_29 a72_31 a72_35 a72_37 a72_38 a72_39 a72_40 a72_41 a72_44 a72_50), (79, o79 A79), (81, o81 A81), (82, o82 A82), (83, o83 A83), (84, o84 A84), (87, o87 q43.2)]) rfl ?_
    refine r_mat (k := 85) h85 (l' := [(72, o72 0 a72_2 a72_3 a72_4 a72_5 a72_6 a72_7 a72_8 a72_9 a72_10 a72_11 a72_17 a72_18 a72_19 a72_21 a72_22 a72_29 a72_31 a72_35 a72_37 a72_38 a72_39 a72_40 a72_41 a72_44 a72_50), (79, o79 A79), (81, o81 A81), (82, o82 A82), (83, o83 A83), (84, o84 A84), (85, o85 A85), (87, o87 q43.2)]) rfl ?_
    refine r_mat (k := 86) h86 (l' := [(72, o72 0 a72_2 a72_3 a72_4 a72_5 a72_6 a72_7 a72_8 a72_9 a72_10 a72_11 a72_17 a72_18 a72_19 a72_21 a72_22 a72_29 a72_31 a72_35 a72_37 a72_38 a72_39 a72_40 a72_41 a72_44 a72_50), (79, o79 A79), (81, o81 A81), (82, o82 A82), (83, o83 A83), (84, o84 A84), (85, o85 A85), (86, o86 A86), (87, o87 q43.2)]) rfl ?_
    obtain rfl := Option.some.inj hf
    exact r_iret F hq dX12_move_17 rfl rfl (Nat.le_refl _) (Nat.le_refl _) ⟨rfl, rfl⟩

def fX12_path (a72_0 : Int32) (a72_2 : Int32) (a72_21 : Int32) (a72_22 : Int32) (a72_37 : Bool) (A73 : Nat → Int32) (A79 : Nat → Int32) (A90 : Nat → Int32) (p0 : Int32) (p1 : Int32) : Option (Int32 × Int32 × Int32 × Bool × (Nat → Int32)) :=
  (fX12_isCrystal a72_21).bind (fun q1 =>
  if q1 = true then
    (fX12_isSite a72_21 a72_22 p0 p1).bind (fun q3 =>
    if q3 = true then
      (e_loop (fun (v7 : Int32 × Int32 × Int32 × Int32 × Int32) => (
          if a72_2 ≤ v7.2.2.2.2 then
            some (.inr (.inl (v7.1, v7.2.1, v7.2.2.1, v7.2.2.2.1)))
          else
            e_g (e_in v7.2.2.2.2 300) (
            Option.bind (α := Int32) (
              if (A73 (tn v7.2.2.2.2)) = 114 then
                some 0
              else
                if (A73 (tn v7.2.2.2.2)) = 117 then
                  some 1
                else
                  if (A73 (tn v7.2.2.2.2)) = 108 then
                    some 2
                  else
                    if (A73 (tn v7.2.2.2.2)) = 100 then
                      some 3
                    else
                      some (-1)) (fun q10 =>
            if q10 = (-1) then
              some (.inr (.inr (((-2) : Int32) - v7.2.2.2.2, 0, a72_2, a72_37, A90)))
            else
              if v7.2.2.2.2 = 120 then
                some (.inr (.inr (((-2) : Int32) - v7.2.2.2.2, 0, a72_2, a72_37, A90)))
              else
                (fX12_toX v7.1 q10).bind (fun q12 =>
                (fX12_toY v7.2.1 q10).bind (fun q14 =>
                (fX12_isSite a72_21 a72_22 q12 q14).bind (fun q16 =>
                if q16 = true then
                  (fX12_toX v7.1 q10).bind (fun q18 =>
                  (fJ9_min_7cf53 v7.1 q18).bind (fun q20 =>
                  (fX12_toY v7.2.1 q10).bind (fun q22 =>
                  (fJ9_min_7cf53 v7.2.1 q22).bind (fun q24 =>
                  Option.bind (α := Int32) (
                    if 2 ≤ q10 then
                      some (-1)
                    else
                      some 1) (fun q26 =>
                  Option.bind (α := Bool) (
                    if (q10 - q10 / 2 * 2) = 1 then
                      some true
                    else
                      some false) (fun q28 =>
                  (fX12_step A79 q20 q24 q28 0).bind (fun q30 =>
                  Option.bind (α := Bool) (
                    if (q10 - q10 / 2 * 2) = 1 then
                      some true
                    else
                      some false) (fun q32 =>
                  (fX12_step A79 q20 q24 q32 1).bind (fun q34 =>
                  (fX12_toX v7.1 q10).bind (fun q36 =>
                  (fX12_toY v7.2.1 q10).bind (fun q38 =>
                  some (.inl (q36, q38, v7.2.2.1 + (q26 * q30), v7.2.2.2.1 + (q26 * q34), v7.2.2.2.2 + 1)))))))))))))
                else
                  some (.inr (.inr (((-2) : Int32) - v7.2.2.2.2, 0, a72_2, a72_37, A90)))))))) : Option ((Int32 × Int32 × Int32 × Int32 × Int32) ⊕ ((Int32 × Int32 × Int32 × Int32) ⊕ (Int32 × Int32 × Int32 × Bool × (Nat → Int32)))))) e_fuel (p0, p1, 0, 0, 0)).bind (fun x8 => Sum.elim (fun x8e =>
        if x8e.1 = p0 then
          if x8e.2.1 = p1 then
            some (1, 0, 0, true, upd (upd (upd (upd (upd A90 (tn 0) x8e.2.2.1) (tn 1) x8e.2.2.2) (tn 2) a72_2) (tn 3) x8e.1) (tn 4) x8e.2.1)
          else
            some (0, 0, 0, true, upd (upd (upd (upd (upd A90 (tn 0) x8e.2.2.1) (tn 1) x8e.2.2.2) (tn 2) a72_2) (tn 3) x8e.1) (tn 4) x8e.2.1)
        else
          some (0, 0, 0, true, upd (upd (upd (upd (upd A90 (tn 0) x8e.2.2.1) (tn 1) x8e.2.2.2) (tn 2) a72_2) (tn 3) x8e.1) (tn 4) x8e.2.1)) (fun r9 => some r9) x8)
    else
      some ((-1), 0, a72_2, a72_37, A90))
  else
    some ((-1), 0, a72_2, a72_37, A90))
set_option maxRecDepth 100000 in
theorem tX12_path_72 {G : eG} (hG : e_GS G) {la : Launch} {h : Nat → eO} {nx : Nat} (hnx : 99 ≤ nx) {a72_0 : Int32} {a72_2 : Int32} {a72_3 : Int32} {a72_4 : Int32} {a72_5 : Int32} {a72_6 : Int32} {a72_7 : Int32} {a72_8 : Bool} {a72_9 : Int32} {a72_10 : Int32} {a72_11 : Int32} {a72_17 : Bool} {a72_18 : Bool} {a72_19 : Bool} {a72_21 : Int32} {a72_22 : Int32} {a72_29 : Int32} {a72_31 : Int32} {a72_35 : Int32} {a72_37 : Bool} {a72_38 : Int32} {a72_39 : Int32} {a72_40 : Int32} {a72_41 : Int64} {a72_44 : Int32} {a72_50 : Bool} {A73 : Nat → Int32} {A79 : Nat → Int32} {A90 : Nat → Int32} {p0 : Int32} {p1 : Int32} (h72 : h 72 = o72 a72_0 a72_2 a72_3 a72_4 a72_5 a72_6 a72_7 a72_8 a72_9 a72_10 a72_11 a72_17 a72_18 a72_19 a72_21 a72_22 a72_29 a72_31 a72_35 a72_37 a72_38 a72_39 a72_40 a72_41 a72_44 a72_50) (h73 : h 73 = o73 A73) (h79 : h 79 = o79 A79) (h90 : h 90 = o90 A90) {R9 : Int32 × Int32 × Int32 × Bool × (Nat → Int32)} (hf : fX12_path a72_0 a72_2 a72_21 a72_22 a72_37 A73 A79 A90 p0 p1 = some R9) :
    eSem G la MX12_path [.ref 72, .int p0, .int p1] h nx 0 0 (fun r9 h9 => r9 = some (.int R9.1) ∧ h9 = e_up h [(72, o72 R9.2.1 R9.2.2.1 a72_3 a72_4 a72_5 a72_6 a72_7 a72_8 a72_9 a72_10 a72_11 a72_17 a72_18 a72_19 a72_21 a72_22 a72_29 a72_31 a72_35 R9.2.2.2.1 a72_38 a72_39 a72_40 a72_41 a72_44 a72_50), (90, o90 R9.2.2.2.2)]) := by
  refine eSem.of (k := 11) (L := [some (.ref 72), some (.int p0), some (.int p1), none, none, none, none, none, none, none, none, none, none, none]) (by decide +kernel) rfl rfl (fun X F hxl hq hcR hsR => ?_)
  subst hxl
  unfold fX12_path at hf
  refine r_aload_n F dX12_path_0 rfl ?_
  refine r_iconst F dX12_path_1 (v := 0) (by decide) ?_
  refine r_put F dX12_path_2 flX12_86 rfl rfl rfl h72 (e_le rfl) (e_le rfl) (e_lt hnx rfl) (l' := [(72, o72 0 a72_2 a72_3 a72_4 a72_5 a72_6 a72_7 a72_8 a72_9 a72_10 a72_11 a72_17 a72_18 a72_19 a72_21 a72_22 a72_29 a72_31 a72_35 a72_37 a72_38 a72_39 a72_40 a72_41 a72_44 a72_50)]) rfl ?_
  refine r_aload_n F dX12_path_5 rfl ?_
  obtain ⟨q1, hq2, hf⟩ := e_bd hf
  refine r_callV F dX12_path_6 (b := 72) (dc := 0) (ds := 0) (As := []) (S0 := []) lkX12_306 mX12_isCrystal (tX12_isCrystal_72 hG (la := x_l X) (h := e_up h [(72, o72 0 a72_2 a72_3 a72_4 a72_5 a72_6 a72_7 a72_8 a72_9 a72_10 a72_11 a72_17 a72_18 a72_19 a72_21 a72_22 a72_29 a72_31 a72_35 a72_37 a72_38 a72_39 a72_40 a72_41 a72_44 a72_50)]) hnx rfl hq2) rfl rfl rfl (e_le rfl) (e_le rfl) (e_le rfl) rfl (ci := 12) e_cl12.1 rfl (e_le rfl) (e_lt hnx rfl) (Nat.zero_le _) (Nat.zero_le _) (e_k ?_)
  refine r_wr0 ?_
  refine r_z_eq F dX12_path_9 (tgt := 21) (by decide) (fun hc => ?_) (fun hc => ?_)
  · have hf := e_t hc hf
    refine r_aload_n F dX12_path_12 rfl ?_
    refine r_iload_n F dX12_path_13 rfl ?_
    refine r_iload_n F dX12_path_14 rfl ?_
    obtain ⟨q3, hq4, hf⟩ := e_bd hf
    refine r_callV F dX12_path_15 (b := 72) (dc := 0) (ds := 0) (As := [.int p0, .int p1]) (S0 := []) lkX12_215 mX12_isSite (tX12_isSite_72 hG (la := x_l X) (h := e_up h [(72, o72 0 a72_2 a72_3 a72_4 a72_5 a72_6 a72_7 a72_8 a72_9 a72_10 a72_11 a72_17 a72_18 a72_19 a72_21 a72_22 a72_29 a72_31 a72_35 a72_37 a72_38 a72_39 a72_40 a72_41 a72_44 a72_50)]) hnx rfl hq4) rfl rfl rfl (e_le rfl) (e_le rfl) (e_le rfl) rfl (ci := 12) e_cl12.1 rfl (e_le rfl) (e_lt hnx rfl) (Nat.zero_le _) (Nat.zero_le _) (e_k ?_)
    refine r_wr0 ?_
    refine r_z_ne F dX12_path_18 (tgt := 23) (by decide) (fun hc => ?_) (fun hc => ?_)
    · have hf := e_t hc hf
      refine r_iload_n F dX12_path_23 rfl ?_
      refine r_istore_n F dX12_path_24 (e_le rfl) (L' := [some (.ref 72), some (.int p0), some (.int p1), some (.int p0), none, none, none, none, none, none, none, none, none, none]) rfl ?_
      refine r_iload_n F dX12_path_25 rfl ?_
      refine r_istore F dX12_path_26 (e_le rfl) (L' := [some (.ref 72), some (.int p0), some (.int p1), some (.int p0), some (.int p1), none, none, none, none, none, none, none, none, none]) rfl ?_
      refine r_iconst F dX12_path_28 (v := 0) (by decide) ?_
      refine r_istore F dX12_path_29 (e_le rfl) (L' := [some (.ref 72), some (.int p0), some (.int p1), some (.int p0), some (.int p1), some (.int 0), none, none, none, none, none, none, none, none]) rfl ?_
      refine r_iconst F dX12_path_31 (v := 0) (by decide) ?_
      refine r_istore F dX12_path_32 (e_le rfl) (L' := [some (.ref 72), some (.int p0), some (.int p1), some (.int p0), some (.int p1), some (.int 0), some (.int 0), none, none, none, none, none, none, none]) rfl ?_
      refine r_iconst F dX12_path_34 (v := 0) (by decide) ?_
      refine r_istore F dX12_path_35 (e_le rfl) (L' := [some (.ref 72), some (.int p0), some (.int p1), some (.int p0), some (.int p1), some (.int 0), some (.int 0), some (.int 0), none, none, none, none, none, none]) rfl ?_
      obtain ⟨x8, hx9, hf⟩ := e_bd hf
      refine (e_loop_ok (P := fun (v7 : Int32 × Int32 × Int32 × Int32 × Int32) => eRun G X 37 [some (.ref 72), some (.int p0), some (.int p1), some (.int v7.1), some (.int v7.2.1), some (.int v7.2.2.1), some (.int v7.2.2.2.1), some (.int v7.2.2.2.2), none, none, none, none, none, none] [] h [(72, o72 0 a72_2 a72_3 a72_4 a72_5 a72_6 a72_7 a72_8 a72_9 a72_10 a72_11 a72_17 a72_18 a72_19 a72_21 a72_22 a72_29 a72_31 a72_35 a72_37 a72_38 a72_39 a72_40 a72_41 a72_44 a72_50)] nx 0 0) (K := fun (x8 : (Int32 × Int32 × Int32 × Int32) ⊕ (Int32 × Int32 × Int32 × Bool × (Nat → Int32))) => Sum.elim (fun x8e => eRun G X 266 [some (.ref 72), some (.int p0), some (.int p1), some (.int x8e.1), some (.int x8e.2.1), some (.int x8e.2.2.1), some (.int x8e.2.2.2), none, none, none, none, none, none, none] [] h [(72, o72 0 a72_2 a72_3 a72_4 a72_5 a72_6 a72_7 a72_8 a72_9 a72_10 a72_11 a72_17 a72_18 a72_19 a72_21 a72_22 a72_29 a72_31 a72_35 a72_37 a72_38 a72_39 a72_40 a72_41 a72_44 a72_50)] nx 0 0) (fun r9 => r9 = R9) x8) ?_ e_fuel (p0, p1, 0, 0, 0) x8 hx9 ?_ : _)
      · intro v7 z hz ih hx
        refine r_iload F dX12_path_37 rfl ?_
        refine r_aload_n F dX12_path_39 rfl ?_
        refine r_get F dX12_path_40 flX12_94 rfl rfl (e_le rfl) (e_lt hnx rfl) ?_
        refine r_icmp_ge F dX12_path_43 (tgt := 266) (by decide) (fun hc => ?_) (fun hc => ?_)
        · have hz := e_t hc hz
          refine r_drop 7 (L' := [some (.ref 72), some (.int p0), some (.int p1), some (.int v7.1), some (.int v7.2.1), some (.int v7.2.2.1), some (.int v7.2.2.2.1), none, none, none, none, none, none, none]) rfl ?_
          obtain rfl := Option.some.inj hz
          exact hx (.inl (v7.1, v7.2.1, v7.2.2.1, v7.2.2.2.1)) rfl
        · have hz := e_f hc hz
          refine r_aload_n F dX12_path_46 rfl ?_
          refine r_get F dX12_path_47 flX12_9 rfl rfl (e_le rfl) (e_lt hnx rfl) ?_
          refine r_iload F dX12_path_50 rfl ?_
          obtain ⟨hg, hz⟩ := e_gd hz
          refine r_iald F dX12_path_52 (i := v7.2.2.2.2) h73 (e_le rfl) (e_lt hnx rfl) (e_vp hg) ?_
          refine r_istore F dX12_path_53 (e_le rfl) (L' := [some (.ref 72), some (.int p0), some (.int p1), some (.int v7.1), some (.int v7.2.1), some (.int v7.2.2.1), some (.int v7.2.2.2.1), some (.int v7.2.2.2.2), some (.int (A73 (tn v7.2.2.2.2))), none, none, none, none, none]) rfl ?_
          refine r_iload F dX12_path_55 rfl ?_
          refine r_bipush F dX12_path_57 (v := 114) (by decide) ?_
          obtain ⟨q10, hq11, hz⟩ := e_bd hz
          have Jq10 : eRun G X 100 [some (.ref 72), some (.int p0), some (.int p1), some (.int v7.1), some (.int v7.2.1), some (.int v7.2.2.1), some (.int v7.2.2.2.1), some (.int v7.2.2.2.2), none, none, none, none, none, none] [.int q10] h [(72, o72 0 a72_2 a72_3 a72_4 a72_5 a72_6 a72_7 a72_8 a72_9 a72_10 a72_11 a72_17 a72_18 a72_19 a72_21 a72_22 a72_29 a72_31 a72_35 a72_37 a72_38 a72_39 a72_40 a72_41 a72_44 a72_50)] nx 0 0 := by
            refine r_istore F dX12_path_100 (e_le rfl) (L' := [some (.ref 72), some (.int p0), some (.int p1), some (.int v7.1), some (.int v7.2.1), some (.int v7.2.2.1), some (.int v7.2.2.2.1), some (.int v7.2.2.2.2), none, some (.int q10), none, none, none, none]) rfl ?_
            refine r_iload F dX12_path_102 rfl ?_
            refine r_iconst F dX12_path_104 (v := (-1)) (by decide) ?_
            refine r_icmp_eq F dX12_path_105 (tgt := 135) (by decide) (fun hc => ?_) (fun hc => ?_)
            · have hz := e_t hc hz
              refine r_bipush F dX12_path_135 (v := (-2)) (by decide) ?_
              refine r_iload F dX12_path_137 rfl ?_
              refine r_isub F dX12_path_139 ?_
              refine r_mat (k := 90) h90 (l' := [(72, o72 0 a72_2 a72_3 a72_4 a72_5 a72_6 a72_7 a72_8 a72_9 a72_10 a72_11 a72_17 a72_18 a72_19 a72_21 a72_22 a72_29 a72_31 a72_35 a72_37 a72_38 a72_39 a72_40 a72_41 a72_44 a72_50), (90, o90 A90)]) rfl ?_
              obtain rfl := Option.some.inj hz
              have e9 := hx (.inr (((-2) : Int32) - v7.2.2.2.2, 0, a72_2, a72_37, A90)) rfl
              subst e9
              exact r_iret F hq dX12_path_140 rfl rfl (Nat.le_refl _) (Nat.le_refl _) ⟨rfl, rfl⟩
            · have hz := e_f hc hz
              refine r_iload F dX12_path_108 rfl ?_
              refine r_bipush F dX12_path_110 (v := 120) (by decide) ?_
              refine r_icmp_eq F dX12_path_112 (tgt := 135) (by decide) (fun hc => ?_) (fun hc => ?_)
              · have hz := e_t hc hz
                refine r_bipush F dX12_path_135 (v := (-2)) (by decide) ?_
                refine r_iload F dX12_path_137 rfl ?_
                refine r_isub F dX12_path_139 ?_
                refine r_mat (k := 90) h90 (l' := [(72, o72 0 a72_2 a72_3 a72_4 a72_5 a72_6 a72_7 a72_8 a72_9 a72_10 a72_11 a72_17 a72_18 a72_19 a72_21 a72_22 a72_29 a72_31 a72_35 a72_37 a72_38 a72_39 a72_40 a72_41 a72_44 a72_50), (90, o90 A90)]) rfl ?_
                obtain rfl := Option.some.inj hz
                have e9 := hx (.inr (((-2) : Int32) - v7.2.2.2.2, 0, a72_2, a72_37, A90)) rfl
                subst e9
                exact r_iret F hq dX12_path_140 rfl rfl (Nat.le_refl _) (Nat.le_refl _) ⟨rfl, rfl⟩
              · have hz := e_f hc hz
                refine r_aload_n F dX12_path_115 rfl ?_
                refine r_iload_n F dX12_path_116 rfl ?_
                refine r_iload F dX12_path_117 rfl ?_
                obtain ⟨q12, hq13, hz⟩ := e_bd hz
                refine r_callS F dX12_path_119 (dc := 0) (ds := 0) (As := [.int v7.1, .int q10]) (S0 := [.ref 72]) lkX12_282 mX12_toX (tX12_toX hG (la := x_l X) (h := e_up h [(72, o72 0 a72_2 a72_3 a72_4 a72_5 a72_6 a72_7 a72_8 a72_9 a72_10 a72_11 a72_17 a72_18 a72_19 a72_21 a72_22 a72_29 a72_31 a72_35 a72_37 a72_38 a72_39 a72_40 a72_41 a72_44 a72_50)]) hnx  hq13) rfl rfl rfl (e_le rfl) (e_le rfl) (e_le rfl) (Nat.zero_le _) (Nat.zero_le _) (e_k ?_)
                refine r_wr0 ?_
                refine r_iload F dX12_path_122 rfl ?_
                refine r_iload F dX12_path_124 rfl ?_
                obtain ⟨q14, hq15, hz⟩ := e_bd hz
                refine r_callS F dX12_path_126 (dc := 0) (ds := 0) (As := [.int v7.2.1, .int q10]) (S0 := [.int q12, .ref 72]) lkX12_285 mX12_toY (tX12_toY hG (la := x_l X) (h := e_up h [(72, o72 0 a72_2 a72_3 a72_4 a72_5 a72_6 a72_7 a72_8 a72_9 a72_10 a72_11 a72_17 a72_18 a72_19 a72_21 a72_22 a72_29 a72_31 a72_35 a72_37 a72_38 a72_39 a72_40 a72_41 a72_44 a72_50)]) hnx  hq15) rfl rfl rfl (e_le rfl) (e_le rfl) (e_le rfl) (Nat.zero_le _) (Nat.zero_le _) (e_k ?_)
                refine r_wr0 ?_
                obtain ⟨q16, hq17, hz⟩ := e_bd hz
                refine r_callV F dX12_path_129 (b := 72) (dc := 0) (ds := 0) (As := [.int q12, .int q14]) (S0 := []) lkX12_215 mX12_isSite (tX12_isSite_72 hG (la := x_l X) (h := e_up h [(72, o72 0 a72_2 a72_3 a72_4 a72_5 a72_6 a72_7 a72_8 a72_9 a72_10 a72_11 a72_17 a72_18 a72_19 a72_21 a72_22 a72_29 a72_31 a72_35 a72_37 a72_38 a72_39 a72_40 a72_41 a72_44 a72_50)]) hnx rfl hq17) rfl rfl rfl (e_le rfl) (e_le rfl) (e_le rfl) rfl (ci := 12) e_cl12.1 rfl (e_le rfl) (e_lt hnx rfl) (Nat.zero_le _) (Nat.zero_le _) (e_k ?_)
                refine r_wr0 ?_
                refine r_z_ne F dX12_path_132 (tgt := 141) (by decide) (fun hc => ?_) (fun hc => ?_)
                · have hz := e_t hc hz
                  refine r_iload_n F dX12_path_141 rfl ?_
                  refine r_iload_n F dX12_path_142 rfl ?_
                  refine r_iload F dX12_path_143 rfl ?_
                  obtain ⟨q18, hq19, hz⟩ := e_bd hz
                  refine r_callS F dX12_path_145 (dc := 0) (ds := 0) (As := [.int v7.1, .int q10]) (S0 := [.int v7.1]) lkX12_282 mX12_toX (tX12_toX hG (la := x_l X) (h := e_up h [(72, o72 0 a72_2 a72_3 a72_4 a72_5 a72_6 a72_7 a72_8 a72_9 a72_10 a72_11 a72_17 a72_18 a72_19 a72_21 a72_22 a72_29 a72_31 a72_35 a72_37 a72_38 a72_39 a72_40 a72_41 a72_44 a72_50)]) hnx  hq19) rfl rfl rfl (e_le rfl) (e_le rfl) (e_le rfl) (Nat.zero_le _) (Nat.zero_le _) (e_k ?_)
                  refine r_wr0 ?_
                  obtain ⟨q20, hq21, hz⟩ := e_bd hz
                  refine r_callS F dX12_path_148 (dc := 0) (ds := 0) (As := [.int v7.1, .int q18]) (S0 := []) lkX12_128 mJ9_min_7cf53 (tJ9_min_7cf53 hG (la := x_l X) (h := e_up h [(72, o72 0 a72_2 a72_3 a72_4 a72_5 a72_6 a72_7 a72_8 a72_9 a72_10 a72_11 a72_17 a72_18 a72_19 a72_21 a72_22 a72_29 a72_31 a72_35 a72_37 a72_38 a72_39 a72_40 a72_41 a72_44 a72_50)]) hnx  hq21) rfl rfl rfl (e_le rfl) (e_le rfl) (e_le rfl) (Nat.zero_le _) (Nat.zero_le _) (e_k ?_)
                  refine r_wr0 ?_
                  refine r_istore F dX12_path_151 (e_le rfl) (L' := [some (.ref 72), some (.int p0), some (.int p1), some (.int v7.1), some (.int v7.2.1), some (.int v7.2.2.1), some (.int v7.2.2.2.1), some (.int v7.2.2.2.2), none, some (.int q10), some (.int q20), none, none, none]) rfl ?_
                  refine r_iload F dX12_path_153 rfl ?_
                  refine r_iload F dX12_path_155 rfl ?_
                  refine r_iload F dX12_path_157 rfl ?_
                  obtain ⟨q22, hq23, hz⟩ := e_bd hz
                  refine r_callS F dX12_path_159 (dc := 0) (ds := 0) (As := [.int v7.2.1, .int q10]) (S0 := [.int v7.2.1]) lkX12_285 mX12_toY (tX12_toY hG (la := x_l X) (h := e_up h [(72, o72 0 a72_2 a72_3 a72_4 a72_5 a72_6 a72_7 a72_8 a72_9 a72_10 a72_11 a72_17 a72_18 a72_19 a72_21 a72_22 a72_29 a72_31 a72_35 a72_37 a72_38 a72_39 a72_40 a72_41 a72_44 a72_50)]) hnx  hq23) rfl rfl rfl (e_le rfl) (e_le rfl) (e_le rfl) (Nat.zero_le _) (Nat.zero_le _) (e_k ?_)
                  refine r_wr0 ?_
                  obtain ⟨q24, hq25, hz⟩ := e_bd hz
                  refine r_callS F dX12_path_162 (dc := 0) (ds := 0) (As := [.int v7.2.1, .int q22]) (S0 := []) lkX12_128 mJ9_min_7cf53 (tJ9_min_7cf53 hG (la := x_l X) (h := e_up h [(72, o72 0 a72_2 a72_3 a72_4 a72_5 a72_6 a72_7 a72_8 a72_9 a72_10 a72_11 a72_17 a72_18 a72_19 a72_21 a72_22 a72_29 a72_31 a72_35 a72_37 a72_38 a72_39 a72_40 a72_41 a72_44 a72_50)]) hnx  hq25) rfl rfl rfl (e_le rfl) (e_le rfl) (e_le rfl) (Nat.zero_le _) (Nat.zero_le _) (e_k ?_)
                  refine r_wr0 ?_
                  refine r_istore F dX12_path_165 (e_le rfl) (L' := [some (.ref 72), some (.int p0), some (.int p1), some (.int v7.1), some (.int v7.2.1), some (.int v7.2.2.1), some (.int v7.2.2.2.1), some (.int v7.2.2.2.2), none, some (.int q10), some (.int q20), some (.int q24), none, none]) rfl ?_
                  refine r_iload F dX12_path_167 rfl ?_
                  refine r_iconst F dX12_path_169 (v := 2) (by decide) ?_
                  obtain ⟨q26, hq27, hz⟩ := e_bd hz
                  have Jq26 : eRun G X 178 [some (.ref 72), some (.int p0), some (.int p1), some (.int v7.1), some (.int v7.2.1), some (.int v7.2.2.1), some (.int v7.2.2.2.1), some (.int v7.2.2.2.2), none, some (.int q10), some (.int q20), some (.int q24), none, none] [.int q26] h [(72, o72 0 a72_2 a72_3 a72_4 a72_5 a72_6 a72_7 a72_8 a72_9 a72_10 a72_11 a72_17 a72_18 a72_19 a72_21 a72_22 a72_29 a72_31 a72_35 a72_37 a72_38 a72_39 a72_40 a72_41 a72_44 a72_50)] nx 0 0 := by
                    refine r_istore F dX12_path_178 (e_le rfl) (L' := [some (.ref 72), some (.int p0), some (.int p1), some (.int v7.1), some (.int v7.2.1), some (.int v7.2.2.1), some (.int v7.2.2.2.1), some (.int v7.2.2.2.2), none, some (.int q10), some (.int q20), some (.int q24), some (.int q26), none]) rfl ?_
                    refine r_iload F dX12_path_180 rfl ?_
                    refine r_iload F dX12_path_182 rfl ?_
                    refine r_aload_n F dX12_path_184 rfl ?_
                    refine r_iload F dX12_path_185 rfl ?_
                    refine r_iload F dX12_path_187 rfl ?_
                    refine r_iload F dX12_path_189 rfl ?_
                    refine r_iconst F dX12_path_191 (v := 2) (by decide) ?_
                    refine r_irem F dX12_path_192 (by decide) ?_
                    refine r_iconst F dX12_path_193 (v := 1) (by decide) ?_
                    obtain ⟨q28, hq29, hz⟩ := e_bd hz
                    have Jq28 : eRun G X 202 [some (.ref 72), some (.int p0), some (.int p1), some (.int v7.1), some (.int v7.2.1), none, some (.int v7.2.2.2.1), some (.int v7.2.2.2.2), none, some (.int q10), some (.int q20), some (.int q24), some (.int q26), none] [.int (e_b q28), .int q24, .int q20, .ref 72, .int q26, .int v7.2.2.1] h [(72, o72 0 a72_2 a72_3 a72_4 a72_5 a72_6 a72_7 a72_8 a72_9 a72_10 a72_11 a72_17 a72_18 a72_19 a72_21 a72_22 a72_29 a72_31 a72_35 a72_37 a72_38 a72_39 a72_40 a72_41 a72_44 a72_50)] nx 0 0 := by
                      refine r_iconst F dX12_path_202 (v := 0) (by decide) ?_
                      obtain ⟨q30, hq31, hz⟩ := e_bd hz
                      refine r_callV F dX12_path_203 (b := 72) (dc := 0) (ds := 0) (As := [.int q20, .int q24, .int (e_b q28), .int 0]) (S0 := [.int q26, .int v7.2.2.1]) lkX12_218 mX12_step (tX12_step_72 hG (la := x_l X) (h := e_up h [(72, o72 0 a72_2 a72_3 a72_4 a72_5 a72_6 a72_7 a72_8 a72_9 a72_10 a72_11 a72_17 a72_18 a72_19 a72_21 a72_22 a72_29 a72_31 a72_35 a72_37 a72_38 a72_39 a72_40 a72_41 a72_44 a72_50)]) hnx rfl h79 hq31) rfl rfl rfl (e_le rfl) (e_le rfl) (e_le rfl) rfl (ci := 12) e_cl12.1 rfl (e_le rfl) (e_lt hnx rfl) (Nat.zero_le _) (Nat.zero_le _) (e_k ?_)
                      refine r_wr0 ?_
                      refine r_imul F dX12_path_206 ?_
                      refine r_iadd F dX12_path_207 ?_
                      refine r_istore F dX12_path_208 (e_le rfl) (L' := [some (.ref 72), some (.int p0), some (.int p1), some (.int v7.1), some (.int v7.2.1), some (.int (v7.2.2.1 + (q26 * q30))), some (.int v7.2.2.2.1), some (.int v7.2.2.2.2), none, some (.int q10), some (.int q20), some (.int q24), some (.int q26), none]) rfl ?_
                      refine r_iload F dX12_path_210 rfl ?_
                      refine r_iload F dX12_path_212 rfl ?_
                      refine r_aload_n F dX12_path_214 rfl ?_
                      refine r_iload F dX12_path_215 rfl ?_
                      refine r_iload F dX12_path_217 rfl ?_
                      refine r_iload F dX12_path_219 rfl ?_
                      refine r_iconst F dX12_path_221 (v := 2) (by decide) ?_
                      refine r_irem F dX12_path_222 (by decide) ?_
                      refine r_iconst F dX12_path_223 (v := 1) (by decide) ?_
                      obtain ⟨q32, hq33, hz⟩ := e_bd hz
                      have Jq32 : eRun G X 232 [some (.ref 72), some (.int p0), some (.int p1), some (.int v7.1), some (.int v7.2.1), some (.int (v7.2.2.1 + (q26 * q30))), none, some (.int v7.2.2.2.2), none, some (.int q10), none, none, none, none] [.int (e_b q32), .int q24, .int q20, .ref 72, .int q26, .int v7.2.2.2.1] h [(72, o72 0 a72_2 a72_3 a72_4 a72_5 a72_6 a72_7 a72_8 a72_9 a72_10 a72_11 a72_17 a72_18 a72_19 a72_21 a72_22 a72_29 a72_31 a72_35 a72_37 a72_38 a72_39 a72_40 a72_41 a72_44 a72_50)] nx 0 0 := by
                        refine r_iconst F dX12_path_232 (v := 1) (by decide) ?_
                        obtain ⟨q34, hq35, hz⟩ := e_bd hz
                        refine r_callV F dX12_path_233 (b := 72) (dc := 0) (ds := 0) (As := [.int q20, .int q24, .int (e_b q32), .int 1]) (S0 := [.int q26, .int v7.2.2.2.1]) lkX12_218 mX12_step (tX12_step_72 hG (la := x_l X) (h := e_up h [(72, o72 0 a72_2 a72_3 a72_4 a72_5 a72_6 a72_7 a72_8 a72_9 a72_10 a72_11 a72_17 a72_18 a72_19 a72_21 a72_22 a72_29 a72_31 a72_35 a72_37 a72_38 a72_39 a72_40 a72_41 a72_44 a72_50)]) hnx rfl h79 hq35) rfl rfl rfl (e_le rfl) (e_le rfl) (e_le rfl) rfl (ci := 12) e_cl12.1 rfl (e_le rfl) (e_lt hnx rfl) (Nat.zero_le _) (Nat.zero_le _) (e_k ?_)
                        refine r_wr0 ?_
                        refine r_imul F dX12_path_236 ?_
                        refine r_iadd F dX12_path_237 ?_
                        refine r_istore F dX12_path_238 (e_le rfl) (L' := [some (.ref 72), some (.int p0), some (.int p1), some (.int v7.1), some (.int v7.2.1), some (.int (v7.2.2.1 + (q26 * q30))), some (.int (v7.2.2.2.1 + (q26 * q34))), some (.int v7.2.2.2.2), none, some (.int q10), none, none, none, none]) rfl ?_
                        refine r_iload_n F dX12_path_240 rfl ?_
                        refine r_iload F dX12_path_241 rfl ?_
                        obtain ⟨q36, hq37, hz⟩ := e_bd hz
                        refine r_callS F dX12_path_243 (dc := 0) (ds := 0) (As := [.int v7.1, .int q10]) (S0 := []) lkX12_282 mX12_toX (tX12_toX hG (la := x_l X) (h := e_up h [(72, o72 0 a72_2 a72_3 a72_4 a72_5 a72_6 a72_7 a72_8 a72_9 a72_10 a72_11 a72_17 a72_18 a72_19 a72_21 a72_22 a72_29 a72_31 a72_35 a72_37 a72_38 a72_39 a72_40 a72_41 a72_44 a72_50)]) hnx  hq37) rfl rfl rfl (e_le rfl) (e_le rfl) (e_le rfl) (Nat.zero_le _) (Nat.zero_le _) (e_k ?_)
                        refine r_wr0 ?_
                        refine r_istore F dX12_path_246 (e_le rfl) (L' := [some (.ref 72), some (.int p0), some (.int p1), some (.int v7.1), some (.int v7.2.1), some (.int (v7.2.2.1 + (q26 * q30))), some (.int (v7.2.2.2.1 + (q26 * q34))), some (.int v7.2.2.2.2), none, some (.int q10), none, none, none, some (.int q36)]) rfl ?_
                        refine r_iload F dX12_path_248 rfl ?_
                        refine r_iload F dX12_path_250 rfl ?_
                        obtain ⟨q38, hq39, hz⟩ := e_bd hz
                        refine r_callS F dX12_path_252 (dc := 0) (ds := 0) (As := [.int v7.2.1, .int q10]) (S0 := []) lkX12_285 mX12_toY (tX12_toY hG (la := x_l X) (h := e_up h [(72, o72 0 a72_2 a72_3 a72_4 a72_5 a72_6 a72_7 a72_8 a72_9 a72_10 a72_11 a72_17 a72_18 a72_19 a72_21 a72_22 a72_29 a72_31 a72_35 a72_37 a72_38 a72_39 a72_40 a72_41 a72_44 a72_50)]) hnx  hq39) rfl rfl rfl (e_le rfl) (e_le rfl) (e_le rfl) (Nat.zero_le _) (Nat.zero_le _) (e_k ?_)
                        refine r_wr0 ?_
                        refine r_istore F dX12_path_255 (e_le rfl) (L' := [some (.ref 72), some (.int p0), some (.int p1), some (.int v7.1), some (.int q38), some (.int (v7.2.2.1 + (q26 * q30))), some (.int (v7.2.2.2.1 + (q26 * q34))), some (.int v7.2.2.2.2), none, some (.int q10), none, none, none, some (.int q36)]) rfl ?_
                        refine r_iload F dX12_path_257 rfl ?_
                        refine r_istore_n F dX12_path_259 (e_le rfl) (L' := [some (.ref 72), some (.int p0), some (.int p1), some (.int q36), some (.int q38), some (.int (v7.2.2.1 + (q26 * q30))), some (.int (v7.2.2.2.1 + (q26 * q34))), some (.int v7.2.2.2.2), none, some (.int q10), none, none, none, some (.int q36)]) rfl ?_
                        refine r_inc F dX12_path_260 (k9 := 1) (by decide) rfl (L' := [some (.ref 72), some (.int p0), some (.int p1), some (.int q36), some (.int q38), some (.int (v7.2.2.1 + (q26 * q30))), some (.int (v7.2.2.2.1 + (q26 * q34))), some (.int (v7.2.2.2.2 + 1)), none, some (.int q10), none, none, none, some (.int q36)]) rfl ?_
                        refine r_goto F dX12_path_263 (tgt := 37) (by decide) ?_
                        refine r_drop 9 (L' := [some (.ref 72), some (.int p0), some (.int p1), some (.int q36), some (.int q38), some (.int (v7.2.2.1 + (q26 * q30))), some (.int (v7.2.2.2.1 + (q26 * q34))), some (.int (v7.2.2.2.2 + 1)), none, none, none, none, none, some (.int q36)]) rfl ?_
                        refine r_drop 13 (L' := [some (.ref 72), some (.int p0), some (.int p1), some (.int q36), some (.int q38), some (.int (v7.2.2.1 + (q26 * q30))), some (.int (v7.2.2.2.1 + (q26 * q34))), some (.int (v7.2.2.2.2 + 1)), none, none, none, none, none, none]) rfl ?_
                        obtain rfl := Option.some.inj hz
                        exact ih (q36, q38, v7.2.2.1 + (q26 * q30), v7.2.2.2.1 + (q26 * q34), v7.2.2.2.2 + 1) rfl
                      refine r_icmp_ne F dX12_path_224 (tgt := 231) (by decide) (fun hc => ?_) (fun hc => ?_)
                      · have hq33 := e_f hc hq33
                        refine r_iconst F dX12_path_231 (v := 0) (by decide) ?_
                        refine r_drop 6 (L' := [some (.ref 72), some (.int p0), some (.int p1), some (.int v7.1), some (.int v7.2.1), some (.int (v7.2.2.1 + (q26 * q30))), none, some (.int v7.2.2.2.2), none, some (.int q10), some (.int q20), some (.int q24), some (.int q26), none]) rfl ?_
                        refine r_drop 10 (L' := [some (.ref 72), some (.int p0), some (.int p1), some (.int v7.1), some (.int v7.2.1), some (.int (v7.2.2.1 + (q26 * q30))), none, some (.int v7.2.2.2.2), none, some (.int q10), none, some (.int q24), some (.int q26), none]) rfl ?_
                        refine r_drop 11 (L' := [some (.ref 72), some (.int p0), some (.int p1), some (.int v7.1), some (.int v7.2.1), some (.int (v7.2.2.1 + (q26 * q30))), none, some (.int v7.2.2.2.2), none, some (.int q10), none, none, some (.int q26), none]) rfl ?_
                        refine r_drop 12 (L' := [some (.ref 72), some (.int p0), some (.int p1), some (.int v7.1), some (.int v7.2.1), some (.int (v7.2.2.1 + (q26 * q30))), none, some (.int v7.2.2.2.2), none, some (.int q10), none, none, none, none]) rfl ?_
                        obtain rfl := Option.some.inj hq33
                        exact Jq32
                      · have hq33 := e_t hc hq33
                        refine r_iconst F dX12_path_227 (v := 1) (by decide) ?_
                        refine r_goto F dX12_path_228 (tgt := 232) (by decide) ?_
                        refine r_drop 6 (L' := [some (.ref 72), some (.int p0), some (.int p1), some (.int v7.1), some (.int v7.2.1), some (.int (v7.2.2.1 + (q26 * q30))), none, some (.int v7.2.2.2.2), none, some (.int q10), some (.int q20), some (.int q24), some (.int q26), none]) rfl ?_
                        refine r_drop 10 (L' := [some (.ref 72), some (.int p0), some (.int p1), some (.int v7.1), some (.int v7.2.1), some (.int (v7.2.2.1 + (q26 * q30))), none, some (.int v7.2.2.2.2), none, some (.int q10), none, some (.int q24), some (.int q26), none]) rfl ?_
                        refine r_drop 11 (L' := [some (.ref 72), some (.int p0), some (.int p1), some (.int v7.1), some (.int v7.2.1), some (.int (v7.2.2.1 + (q26 * q30))), none, some (.int v7.2.2.2.2), none, some (.int q10), none, none, some (.int q26), none]) rfl ?_
                        refine r_drop 12 (L' := [some (.ref 72), some (.int p0), some (.int p1), some (.int v7.1), some (.int v7.2.1), some (.int (v7.2.2.1 + (q26 * q30))), none, some (.int v7.2.2.2.2), none, some (.int q10), none, none, none, none]) rfl ?_
                        obtain rfl := Option.some.inj hq33
                        exact Jq32
                    refine r_icmp_ne F dX12_path_194 (tgt := 201) (by decide) (fun hc => ?_) (fun hc => ?_)
                    · have hq29 := e_f hc hq29
                      refine r_iconst F dX12_path_201 (v := 0) (by decide) ?_
                      refine r_drop 5 (L' := [some (.ref 72), some (.int p0), some (.int p1), some (.int v7.1), some (.int v7.2.1), none, some (.int v7.2.2.2.1), some (.int v7.2.2.2.2), none, some (.int q10), some (.int q20), some (.int q24), some (.int q26), none]) rfl ?_
                      obtain rfl := Option.some.inj hq29
                      exact Jq28
                    · have hq29 := e_t hc hq29
                      refine r_iconst F dX12_path_197 (v := 1) (by decide) ?_
                      refine r_goto F dX12_path_198 (tgt := 202) (by decide) ?_
                      refine r_drop 5 (L' := [some (.ref 72), some (.int p0), some (.int p1), some (.int v7.1), some (.int v7.2.1), none, some (.int v7.2.2.2.1), some (.int v7.2.2.2.2), none, some (.int q10), some (.int q20), some (.int q24), some (.int q26), none]) rfl ?_
                      obtain rfl := Option.some.inj hq29
                      exact Jq28
                  refine r_icmp_ge F dX12_path_170 (tgt := 177) (by decide) (fun hc => ?_) (fun hc => ?_)
                  · have hq27 := e_t hc hq27
                    refine r_iconst F dX12_path_177 (v := (-1)) (by decide) ?_
                    obtain rfl := Option.some.inj hq27
                    exact Jq26
                  · have hq27 := e_f hc hq27
                    refine r_iconst F dX12_path_173 (v := 1) (by decide) ?_
                    refine r_goto F dX12_path_174 (tgt := 178) (by decide) ?_
                    obtain rfl := Option.some.inj hq27
                    exact Jq26
                · have hz := e_f hc hz
                  refine r_bipush F dX12_path_135 (v := (-2)) (by decide) ?_
                  refine r_iload F dX12_path_137 rfl ?_
                  refine r_isub F dX12_path_139 ?_
                  refine r_mat (k := 90) h90 (l' := [(72, o72 0 a72_2 a72_3 a72_4 a72_5 a72_6 a72_7 a72_8 a72_9 a72_10 a72_11 a72_17 a72_18 a72_19 a72_21 a72_22 a72_29 a72_31 a72_35 a72_37 a72_38 a72_39 a72_40 a72_41 a72_44 a72_50), (90, o90 A90)]) rfl ?_
                  obtain rfl := Option.some.inj hz
                  have e9 := hx (.inr (((-2) : Int32) - v7.2.2.2.2, 0, a72_2, a72_37, A90)) rfl
                  subst e9
                  exact r_iret F hq dX12_path_140 rfl rfl (Nat.le_refl _) (Nat.le_refl _) ⟨rfl, rfl⟩
          refine r_icmp_ne F dX12_path_59 (tgt := 66) (by decide) (fun hc => ?_) (fun hc => ?_)
          · have hq11 := e_f hc hq11
            refine r_iload F dX12_path_66 rfl ?_
            refine r_bipush F dX12_path_68 (v := 117) (by decide) ?_
            refine r_icmp_ne F dX12_path_70 (tgt := 77) (by decide) (fun hc => ?_) (fun hc => ?_)
            · have hq11 := e_f hc hq11
              refine r_iload F dX12_path_77 rfl ?_
              refine r_bipush F dX12_path_79 (v := 108) (by decide) ?_
              refine r_icmp_ne F dX12_path_81 (tgt := 88) (by decide) (fun hc => ?_) (fun hc => ?_)
              · have hq11 := e_f hc hq11
                refine r_iload F dX12_path_88 rfl ?_
                refine r_bipush F dX12_path_90 (v := 100) (by decide) ?_
                refine r_icmp_ne F dX12_path_92 (tgt := 99) (by decide) (fun hc => ?_) (fun hc => ?_)
                · have hq11 := e_f hc hq11
                  refine r_iconst F dX12_path_99 (v := (-1)) (by decide) ?_
                  refine r_drop 8 (L' := [some (.ref 72), some (.int p0), some (.int p1), some (.int v7.1), some (.int v7.2.1), some (.int v7.2.2.1), some (.int v7.2.2.2.1), some (.int v7.2.2.2.2), none, none, none, none, none, none]) rfl ?_
                  obtain rfl := Option.some.inj hq11
                  exact Jq10
                · have hq11 := e_t hc hq11
                  refine r_iconst F dX12_path_95 (v := 3) (by decide) ?_
                  refine r_goto F dX12_path_96 (tgt := 100) (by decide) ?_
                  refine r_drop 8 (L' := [some (.ref 72), some (.int p0), some (.int p1), some (.int v7.1), some (.int v7.2.1), some (.int v7.2.2.1), some (.int v7.2.2.2.1), some (.int v7.2.2.2.2), none, none, none, none, none, none]) rfl ?_
                  obtain rfl := Option.some.inj hq11
                  exact Jq10
              · have hq11 := e_t hc hq11
                refine r_iconst F dX12_path_84 (v := 2) (by decide) ?_
                refine r_goto F dX12_path_85 (tgt := 100) (by decide) ?_
                refine r_drop 8 (L' := [some (.ref 72), some (.int p0), some (.int p1), some (.int v7.1), some (.int v7.2.1), some (.int v7.2.2.1), some (.int v7.2.2.2.1), some (.int v7.2.2.2.2), none, none, none, none, none, none]) rfl ?_
                obtain rfl := Option.some.inj hq11
                exact Jq10
            · have hq11 := e_t hc hq11
              refine r_iconst F dX12_path_73 (v := 1) (by decide) ?_
              refine r_goto F dX12_path_74 (tgt := 100) (by decide) ?_
              refine r_drop 8 (L' := [some (.ref 72), some (.int p0), some (.int p1), some (.int v7.1), some (.int v7.2.1), some (.int v7.2.2.1), some (.int v7.2.2.2.1), some (.int v7.2.2.2.2), none, none, none, none, none, none]) rfl ?_
              obtain rfl := Option.some.inj hq11
              exact Jq10
          · have hq11 := e_t hc hq11
            refine r_iconst F dX12_path_62 (v := 0) (by decide) ?_
            refine r_goto F dX12_path_63 (tgt := 100) (by decide) ?_
            refine r_drop 8 (L' := [some (.ref 72), some (.int p0), some (.int p1), some (.int v7.1), some (.int v7.2.1), some (.int v7.2.2.1), some (.int v7.2.2.2.1), some (.int v7.2.2.2.2), none, none, none, none, none, none]) rfl ?_
            obtain rfl := Option.some.inj hq11
            exact Jq10
      · cases x8 with
        | inr r9 => exact Option.some.inj hf
        | inl x8e =>
          simp only [Sum.elim_inl] at hf
          show eRun G X 266 [some (.ref 72), some (.int p0), some (.int p1), some (.int x8e.1), some (.int x8e.2.1), some (.int x8e.2.2.1), some (.int x8e.2.2.2), none, none, none, none, none, none, none] [] h [(72, o72 0 a72_2 a72_3 a72_4 a72_5 a72_6 a72_7 a72_8 a72_9 a72_10 a72_11 a72_17 a72_18 a72_19 a72_21 a72_22 a72_29 a72_31 a72_35 a72_37 a72_38 a72_39 a72_40 a72_41 a72_44 a72_50)] nx 0 0
          refine r_aload_n F dX12_path_266 rfl ?_
          refine r_get F dX12_path_267 flX12_62 rfl rfl (e_le rfl) (e_lt hnx rfl) ?_
          refine r_iconst F dX12_path_270 (v := 0) (by decide) ?_
          refine r_iload F dX12_path_271 rfl ?_
          refine r_iast F dX12_path_273 h90 (e_le rfl) (e_lt hnx rfl) (e_vp (by decide)) (l' := [(72, o72 0 a72_2 a72_3 a72_4 a72_5 a72_6 a72_7 a72_8 a72_9 a72_10 a72_11 a72_17 a72_18 a72_19 a72_21 a72_22 a72_29 a72_31 a72_35 a72_37 a72_38 a72_39 a72_40 a72_41 a72_44 a72_50), (90, o90 (upd A90 (tn 0) x8e.2.2.1))]) rfl ?_
          refine r_aload_n F dX12_path_274 rfl ?_
          refine r_get F dX12_path_275 flX12_62 rfl rfl (e_le rfl) (e_lt hnx rfl) ?_
          refine r_iconst F dX12_path_278 (v := 1) (by decide) ?_
          refine r_iload F dX12_path_279 rfl ?_
          refine r_iast F dX12_path_281 rfl (e_le rfl) (e_lt hnx rfl) (e_vp (by decide)) (l' := [(72, o72 0 a72_2 a72_3 a72_4 a72_5 a72_6 a72_7 a72_8 a72_9 a72_10 a72_11 a72_17 a72_18 a72_19 a72_21 a72_22 a72_29 a72_31 a72_35 a72_37 a72_38 a72_39 a72_40 a72_41 a72_44 a72_50), (90, o90 (upd (upd A90 (tn 0) x8e.2.2.1) (tn 1) x8e.2.2.2))]) rfl ?_
          refine r_aload_n F dX12_path_282 rfl ?_
          refine r_get F dX12_path_283 flX12_62 rfl rfl (e_le rfl) (e_lt hnx rfl) ?_
          refine r_iconst F dX12_path_286 (v := 2) (by decide) ?_
          refine r_aload_n F dX12_path_287 rfl ?_
          refine r_get F dX12_path_288 flX12_94 rfl rfl (e_le rfl) (e_lt hnx rfl) ?_
          refine r_iast F dX12_path_291 rfl (e_le rfl) (e_lt hnx rfl) (e_vp (by decide)) (l' := [(72, o72 0 a72_2 a72_3 a72_4 a72_5 a72_6 a72_7 a72_8 a72_9 a72_10 a72_11 a72_17 a72_18 a72_19 a72_21 a72_22 a72_29 a72_31 a72_35 a72_37 a72_38 a72_39 a72_40 a72_41 a72_44 a72_50), (90, o90 (upd (upd (upd A90 (tn 0) x8e.2.2.1) (tn 1) x8e.2.2.2) (tn 2) a72_2))]) rfl ?_
          refine r_aload_n F dX12_path_292 rfl ?_
          refine r_get F dX12_path_293 flX12_62 rfl rfl (e_le rfl) (e_lt hnx rfl) ?_
          refine r_iconst F dX12_path_296 (v := 3) (by decide) ?_
          refine r_iload_n F dX12_path_297 rfl ?_
          refine r_iast F dX12_path_298 rfl (e_le rfl) (e_lt hnx rfl) (e_vp (by decide)) (l' := [(72, o72 0 a72_2 a72_3 a72_4 a72_5 a72_6 a72_7 a72_8 a72_9 a72_10 a72_11 a72_17 a72_18 a72_19 a72_21 a72_22 a72_29 a72_31 a72_35 a72_37 a72_38 a72_39 a72_40 a72_41 a72_44 a72_50), (90, o90 (upd (upd (upd (upd A90 (tn 0) x8e.2.2.1) (tn 1) x8e.2.2.2) (tn 2) a72_2) (tn 3) x8e.1))]) rfl ?_
          refine r_aload_n F dX12_path_299 rfl ?_
          refine r_get F dX12_path_300 flX12_62 rfl rfl (e_le rfl) (e_lt hnx rfl) ?_
          refine r_iconst F dX12_path_303 (v := 4) (by decide) ?_
          refine r_iload F dX12_path_304 rfl ?_
          refine r_iast F dX12_path_306 rfl (e_le rfl) (e_lt hnx rfl) (e_vp (by decide)) (l' := [(72, o72 0 a72_2 a72_3 a72_4 a72_5 a72_6 a72_7 a72_8 a72_9 a72_10 a72_11 a72_17 a72_18 a72_19 a72_21 a72_22 a72_29 a72_31 a72_35 a72_37 a72_38 a72_39 a72_40 a72_41 a72_44 a72_50), (90, o90 (upd (upd (upd (upd (upd A90 (tn 0) x8e.2.2.1) (tn 1) x8e.2.2.2) (tn 2) a72_2) (tn 3) x8e.1) (tn 4) x8e.2.1))]) rfl ?_
          refine r_aload_n F dX12_path_307 rfl ?_
          refine r_iconst F dX12_path_308 (v := 1) (by decide) ?_
          refine r_put F dX12_path_309 (v := .int (e_b true)) flX12_235 rfl (e_b_nar _) (e_b_fit _) rfl (e_le rfl) (e_le rfl) (e_lt hnx rfl) (l' := [(72, o72 0 a72_2 a72_3 a72_4 a72_5 a72_6 a72_7 a72_8 a72_9 a72_10 a72_11 a72_17 a72_18 a72_19 a72_21 a72_22 a72_29 a72_31 a72_35 true a72_38 a72_39 a72_40 a72_41 a72_44 a72_50), (90, o90 (upd (upd (upd (upd (upd A90 (tn 0) x8e.2.2.1) (tn 1) x8e.2.2.2) (tn 2) a72_2) (tn 3) x8e.1) (tn 4) x8e.2.1))]) rfl ?_
          refine r_aload_n F dX12_path_312 rfl ?_
          refine r_iconst F dX12_path_313 (v := 0) (by decide) ?_
          refine r_put F dX12_path_314 flX12_94 rfl rfl rfl rfl (e_le rfl) (e_le rfl) (e_lt hnx rfl) (l' := [(72, o72 0 0 a72_3 a72_4 a72_5 a72_6 a72_7 a72_8 a72_9 a72_10 a72_11 a72_17 a72_18 a72_19 a72_21 a72_22 a72_29 a72_31 a72_35 true a72_38 a72_39 a72_40 a72_41 a72_44 a72_50), (90, o90 (upd (upd (upd (upd (upd A90 (tn 0) x8e.2.2.1) (tn 1) x8e.2.2.2) (tn 2) a72_2) (tn 3) x8e.1) (tn 4) x8e.2.1))]) rfl ?_
          refine r_iload_n F dX12_path_317 rfl ?_
          refine r_iload_n F dX12_path_318 rfl ?_
          refine r_icmp_ne F dX12_path_319 (tgt := 332) (by decide) (fun hc => ?_) (fun hc => ?_)
          · have hf := e_f hc hf
            refine r_iconst F dX12_path_332 (v := 0) (by decide) ?_
            obtain rfl := Option.some.inj hf
            exact r_iret F hq dX12_path_333 rfl rfl (Nat.le_refl _) (Nat.le_refl _) ⟨rfl, rfl⟩
          · have hf := e_t hc hf
            refine r_iload F dX12_path_322 rfl ?_
            refine r_iload_n F dX12_path_324 rfl ?_
            refine r_icmp_ne F dX12_path_325 (tgt := 332) (by decide) (fun hc => ?_) (fun hc => ?_)
            · have hf := e_f hc hf
              refine r_iconst F dX12_path_332 (v := 0) (by decide) ?_
              obtain rfl := Option.some.inj hf
              exact r_iret F hq dX12_path_333 rfl rfl (Nat.le_refl _) (Nat.le_refl _) ⟨rfl, rfl⟩
            · have hf := e_t hc hf
              refine r_iconst F dX12_path_328 (v := 1) (by decide) ?_
              refine r_goto F dX12_path_329 (tgt := 333) (by decide) ?_
              obtain rfl := Option.some.inj hf
              exact r_iret F hq dX12_path_333 rfl rfl (Nat.le_refl _) (Nat.le_refl _) ⟨rfl, rfl⟩
    · have hf := e_f hc hf
      refine r_iconst F dX12_path_21 (v := (-1)) (by decide) ?_
      refine r_mat (k := 90) h90 (l' := [(72, o72 0 a72_2 a72_3 a72_4 a72_5 a72_6 a72_7 a72_8 a72_9 a72_10 a72_11 a72_17 a72_18 a72_19 a72_21 a72_22 a72_29 a72_31 a72_35 a72_37 a72_38 a72_39 a72_40 a72_41 a72_44 a72_50), (90, o90 A90)]) rfl ?_
      obtain rfl := Option.some.inj hf
      exact r_iret F hq dX12_path_22 rfl rfl (Nat.le_refl _) (Nat.le_refl _) ⟨rfl, rfl⟩
  · have hf := e_f hc hf
    refine r_iconst F dX12_path_21 (v := (-1)) (by decide) ?_
    refine r_mat (k := 90) h90 (l' := [(72, o72 0 a72_2 a72_3 a72_4 a72_5 a72_6 a72_7 a72_8 a72_9 a72_10 a72_11 a72_17 a72_18 a72_19 a72_21 a72_22 a72_29 a72_31 a72_35 a72_37 a72_38 a72_39 a72_40 a72_41 a72_44 a72_50), (90, o90 A90)]) rfl ?_
    obtain rfl := Option.some.inj hf
    exact r_iret F hq dX12_path_22 rfl rfl (Nat.le_refl _) (Nat.le_refl _) ⟨rfl, rfl⟩

def fX12_rests (a72_0 : Int32) (a72_21 : Int32) (a72_22 : Int32) (a72_29 : Int32) (a72_38 : Int32) (a72_39 : Int32) (a72_40 : Int32) (A79 : Nat → Int32) (A80 : Nat → Int32) (A81 : Nat → Int32) (A82 : Nat → Int32) (A83 : Nat → Int32) (A84 : Nat → Int32) (A85 : Nat → Int32) (A96 : Nat → Int32)  : Option (Int32 × Int32 × Int32 × Int32 × Int32 × Int32 × (Nat → Int32) × (Nat → Int32) × (Nat → Int32) × (Nat → Int32) × (Nat → Int32) × (Nat → Int32) × (Nat → Int32)) :=
  (fX12_isCrystal a72_21).bind (fun q1 =>
  if q1 = true then
    (fX12_putAside A79 A96).bind (fun q3 =>
    (e_loop (fun (v7 : Int32 × Int32 × Int32 × Int32 × Int32 × (Nat → Int32) × (Nat → Int32) × (Nat → Int32) × (Nat → Int32) × (Nat → Int32) × (Nat → Int32)) => (
        if 40 < v7.1 then
          some (.inr (v7.1, v7.2.1, v7.2.2.1, v7.2.2.2.1, v7.2.2.2.2.1, v7.2.2.2.2.2.1, v7.2.2.2.2.2.2.1, v7.2.2.2.2.2.2.2.1, v7.2.2.2.2.2.2.2.2.1, v7.2.2.2.2.2.2.2.2.2.1, v7.2.2.2.2.2.2.2.2.2.2))
        else
          (fX12_greatestForce a72_21 a72_22 v7.2.1 v7.2.2.2.2.2.1 A80 v7.2.2.2.2.2.2.1 v7.2.2.2.2.2.2.2.1 v7.2.2.2.2.2.2.2.2.1 v7.2.2.2.2.2.2.2.2.2.1 v7.2.2.2.2.2.2.2.2.2.2).bind (fun q10 =>
          if q10.1 ≤ (A80 (tn 2)) then
            some (.inr (v7.1, q10.2.1, v7.2.2.1, v7.2.2.2.1, v7.2.2.2.2.1, v7.2.2.2.2.2.1, q10.2.2.1, q10.2.2.2.1, q10.2.2.2.2.1, q10.2.2.2.2.2.1, q10.2.2.2.2.2.2))
          else
            (fX12_round a72_21 a72_22 q10.2.1 v7.2.2.1 v7.2.2.2.1 v7.2.2.2.2.1 v7.2.2.2.2.2.1 A80 q10.2.2.1 q10.2.2.2.1 q10.2.2.2.2.1 q10.2.2.2.2.2.1 q10.2.2.2.2.2.2).bind (fun q12 =>
            some (.inl (v7.1 + 1, q12.1, q12.2.1, q12.2.2.1, q12.2.2.2.1, q12.2.2.2.2.1, q12.2.2.2.2.2.1, q12.2.2.2.2.2.2.1, q12.2.2.2.2.2.2.2.1, q12.2.2.2.2.2.2.2.2.1, q12.2.2.2.2.2.2.2.2.2)))) : Option ((Int32 × Int32 × Int32 × Int32 × Int32 × (Nat → Int32) × (Nat → Int32) × (Nat → Int32) × (Nat → Int32) × (Nat → Int32) × (Nat → Int32)) ⊕ (Int32 × Int32 × Int32 × Int32 × Int32 × (Nat → Int32) × (Nat → Int32) × (Nat → Int32) × (Nat → Int32) × (Nat → Int32) × (Nat → Int32))))) e_fuel (0, a72_29, a72_38, a72_39, a72_40, A79, A81, A82, A83, A84, A85)).bind (fun x8 =>
    (fX12_takeBack x8.2.2.2.2.2.1 q3).bind (fun q14 =>
    if x8.1 ≤ 40 then
      some (x8.1, 0, x8.2.1, x8.2.2.1, x8.2.2.2.1, x8.2.2.2.2.1, q14, x8.2.2.2.2.2.2.1, x8.2.2.2.2.2.2.2.1, x8.2.2.2.2.2.2.2.2.1, x8.2.2.2.2.2.2.2.2.2.1, x8.2.2.2.2.2.2.2.2.2.2, q3)
    else
      some ((-1), 0, x8.2.1, x8.2.2.1, x8.2.2.2.1, x8.2.2.2.2.1, q14, x8.2.2.2.2.2.2.1, x8.2.2.2.2.2.2.2.1, x8.2.2.2.2.2.2.2.2.1, x8.2.2.2.2.2.2.2.2.2.1, x8.2.2.2.2.2.2.2.2.2.2, q3))))
  else
    some ((-1), 0, a72_29, a72_38, a72_39, a72_40, A79, A81, A82, A83, A84, A85, A96))
set_option maxRecDepth 100000 in
theorem tX12_rests_72 {G : eG} (hG : e_GS G) {la : Launch} {h : Nat → eO} {nx : Nat} (hnx : 99 ≤ nx) {a72_0 : Int32} {a72_2 : Int32} {a72_3 : Int32} {a72_4 : Int32} {a72_5 : Int32} {a72_6 : Int32} {a72_7 : Int32} {a72_8 : Bool} {a72_9 : Int32} {a72_10 : Int32} {a72_11 : Int32} {a72_17 : Bool} {a72_18 : Bool} {a72_19 : Bool} {a72_21 : Int32} {a72_22 : Int32} {a72_29 : Int32} {a72_31 : Int32} {a72_35 : Int32} {a72_37 : Bool} {a72_38 : Int32} {a72_39 : Int32} {a72_40 : Int32} {a72_41 : Int64} {a72_44 : Int32} {a72_50 : Bool} {A79 : Nat → Int32} {A80 : Nat → Int32} {A81 : Nat → Int32} {A82 : Nat → Int32} {A83 : Nat → Int32} {A84 : Nat → Int32} {A85 : Nat → Int32} {A96 : Nat → Int32}  (h72 : h 72 = o72 a72_0 a72_2 a72_3 a72_4 a72_5 a72_6 a72_7 a72_8 a72_9 a72_10 a72_11 a72_17 a72_18 a72_19 a72_21 a72_22 a72_29 a72_31 a72_35 a72_37 a72_38 a72_39 a72_40 a72_41 a72_44 a72_50) (h79 : h 79 = o79 A79) (h80 : h 80 = o80 A80) (h81 : h 81 = o81 A81) (h82 : h 82 = o82 A82) (h83 : h 83 = o83 A83) (h84 : h 84 = o84 A84) (h85 : h 85 = o85 A85) (h96 : h 96 = o96 A96) {R9 : Int32 × Int32 × Int32 × Int32 × Int32 × Int32 × (Nat → Int32) × (Nat → Int32) × (Nat → Int32) × (Nat → Int32) × (Nat → Int32) × (Nat → Int32) × (Nat → Int32)} (hf : fX12_rests a72_0 a72_21 a72_22 a72_29 a72_38 a72_39 a72_40 A79 A80 A81 A82 A83 A84 A85 A96  = some R9) :
    eSem G la MX12_rests [.ref 72] h nx 0 0 (fun r9 h9 => r9 = some (.int R9.1) ∧ h9 = e_up h [(72, o72 R9.2.1 a72_2 a72_3 a72_4 a72_5 a72_6 a72_7 a72_8 a72_9 a72_10 a72_11 a72_17 a72_18 a72_19 a72_21 a72_22 R9.2.2.1 a72_31 a72_35 a72_37 R9.2.2.2.1 R9.2.2.2.2.1 R9.2.2.2.2.2.1 a72_41 a72_44 a72_50), (79, o79 R9.2.2.2.2.2.2.1), (81, o81 R9.2.2.2.2.2.2.2.1), (82, o82 R9.2.2.2.2.2.2.2.2.1), (83, o83 R9.2.2.2.2.2.2.2.2.2.1), (84, o84 R9.2.2.2.2.2.2.2.2.2.2.1), (85, o85 R9.2.2.2.2.2.2.2.2.2.2.2.1), (96, o96 R9.2.2.2.2.2.2.2.2.2.2.2.2)]) := by
  refine eSem.of (k := 1) (L := [some (.ref 72), none]) (by decide +kernel) rfl rfl (fun X F hxl hq hcR hsR => ?_)
  subst hxl
  unfold fX12_rests at hf
  refine r_aload_n F dX12_rests_0 rfl ?_
  refine r_iconst F dX12_rests_1 (v := 0) (by decide) ?_
  refine r_put F dX12_rests_2 flX12_86 rfl rfl rfl h72 (e_le rfl) (e_le rfl) (e_lt hnx rfl) (l' := [(72, o72 0 a72_2 a72_3 a72_4 a72_5 a72_6 a72_7 a72_8 a72_9 a72_10 a72_11 a72_17 a72_18 a72_19 a72_21 a72_22 a72_29 a72_31 a72_35 a72_37 a72_38 a72_39 a72_40 a72_41 a72_44 a72_50)]) rfl ?_
  refine r_aload_n F dX12_rests_5 rfl ?_
  obtain ⟨q1, hq2, hf⟩ := e_bd hf
  refine r_callV F dX12_rests_6 (b := 72) (dc := 0) (ds := 0) (As := []) (S0 := []) lkX12_306 mX12_isCrystal (tX12_isCrystal_72 hG (la := x_l X) (h := e_up h [(72, o72 0 a72_2 a72_3 a72_4 a72_5 a72_6 a72_7 a72_8 a72_9 a72_10 a72_11 a72_17 a72_18 a72_19 a72_21 a72_22 a72_29 a72_31 a72_35 a72_37 a72_38 a72_39 a72_40 a72_41 a72_44 a72_50)]) hnx rfl hq2) rfl rfl rfl (e_le rfl) (e_le rfl) (e_le rfl) rfl (ci := 12) e_cl12.1 rfl (e_le rfl) (e_lt hnx rfl) (Nat.zero_le _) (Nat.zero_le _) (e_k ?_)
  refine r_wr0 ?_
  refine r_z_ne F dX12_rests_9 (tgt := 14) (by decide) (fun hc => ?_) (fun hc => ?_)
  · have hf := e_t hc hf
    refine r_aload_n F dX12_rests_14 rfl ?_
    obtain ⟨q3, hq4, hf⟩ := e_bd hf
    refine r_callV F dX12_rests_15 (b := 72) (dc := 0) (ds := 0) (As := []) (S0 := []) lkX12_455 mX12_putAside (tX12_putAside_72 hG (la := x_l X) (h := e_up h [(72, o72 0 a72_2 a72_3 a72_4 a72_5 a72_6 a72_7 a72_8 a72_9 a72_10 a72_11 a72_17 a72_18 a72_19 a72_21 a72_22 a72_29 a72_31 a72_35 a72_37 a72_38 a72_39 a72_40 a72_41 a72_44 a72_50)]) hnx rfl h79 h96 hq4) rfl rfl rfl (e_le rfl) (e_le rfl) (e_le rfl) rfl (ci := 12) e_cl12.1 rfl (e_le rfl) (e_lt hnx rfl) (Nat.zero_le _) (Nat.zero_le _) (e_k ?_)
    refine r_wr (l' := [(72, o72 0 a72_2 a72_3 a72_4 a72_5 a72_6 a72_7 a72_8 a72_9 a72_10 a72_11 a72_17 a72_18 a72_19 a72_21 a72_22 a72_29 a72_31 a72_35 a72_37 a72_38 a72_39 a72_40 a72_41 a72_44 a72_50), (96, o96 q3)]) rfl rfl ?_
    refine r_iconst F dX12_rests_18 (v := 0) (by decide) ?_
    refine r_istore_n F dX12_rests_19 (e_le rfl) (L' := [some (.ref 72), some (.int 0)]) rfl ?_
    refine r_mat (k := 79) h79 (l' := [(72, o72 0 a72_2 a72_3 a72_4 a72_5 a72_6 a72_7 a72_8 a72_9 a72_10 a72_11 a72_17 a72_18 a72_19 a72_21 a72_22 a72_29 a72_31 a72_35 a72_37 a72_38 a72_39 a72_40 a72_41 a72_44 a72_50), (79, o79 A79), (96, o96 q3)]) rfl ?_
    refine r_mat (k := 81) h81 (l' := [(72, o72 0 a72_2 a72_3 a72_4 a72_5 a72_6 a72_7 a72_8 a72_9 a72_10 a72_11 a72_17 a72_18 a72_19 a72_21 a72_22 a72_29 a72_31 a72_35 a72_37 a72_38 a72_39 a72_40 a72_41 a72_44 a72_50), (79, o79 A79), (81, o81 A81), (96, o96 q3)]) rfl ?_
    refine r_mat (k := 82) h82 (l' := [(72, o72 0 a72_2 a72_3 a72_4 a72_5 a72_6 a72_7 a72_8 a72_9 a72_10 a72_11 a72_17 a72_18 a72_19 a72_21 a72_22 a72_29 a72_31 a72_35 a72_37 a72_38 a72_39 a72_40 a72_41 a72_44 a72_50), (79, o79 A79), (81, o81 A81), (82, o82 A82), (96, o96 q3)]) rfl ?_
    refine r_mat (k := 83) h83 (l' := [(72, o72 0 a72_2 a72_3 a72_4 a72_5 a72_6 a72_7 a72_8 a72_9 a72_10 a72_11 a72_17 a72_18 a72_19 a72_21 a72_22 a72_29 a72_31 a72_35 a72_37 a72_38 a72_39 a72_40 a72_41 a72_44 a72_50), (79, o79 A79), (81, o81 A81), (82, o82 A82), (83, o83 A83), (96, o96 q3)]) rfl ?_
    refine r_mat (k := 84) h84 (l' := [(72, o72 0 a72_2 a72_3 a72_4 a72_5 a72_6 a72_7 a72_8 a72_9 a72_10 a72_11 a72_17 a72_18 a72_19 a72_21 a72_22 a72_29 a72_31 a72_35 a72_37 a72_38 a72_39 a72_40 a72_41 a72_44 a72_50), (79, o79 A79), (81, o81 A81), (82, o82 A82), (83, o83 A83), (84, o84 A84), (96, o96 q3)]) rfl ?_
    refine r_mat (k := 85) h85 (l' := [(72, o72 0 a72_2 a72_3 a72_4 a72_5 a72_6 a72_7 a72_8 a72_9 a72_10 a72_11 a72_17 a72_18 a72_19 a72_21 a72_22 a72_29 a72_31 a72_35 a72_37 a72_38 a72_39 a72_40 a72_41 a72_44 a72_50), (79, o79 A79), (81, o81 A81), (82, o82 A82), (83, o83 A83), (84, o84 A84), (85, o85 A85), (96, o96 q3)]) rfl ?_
    obtain ⟨x8, hx9, hf⟩ := e_bd hf
    refine (e_loop_ok (P := fun (v7 : Int32 × Int32 × Int32 × Int32 × Int32 × (Nat → Int32) × (Nat → Int32) × (Nat → Int32) × (Nat → Int32) × (Nat → Int32) × (Nat → Int32)) => eRun G X 20 [some (.ref 72), some (.int v7.1)] [] h [(72, o72 0 a72_2 a72_3 a72_4 a72_5 a72_6 a72_7 a72_8 a72_9 a72_10 a72_11 a72_17 a72_18 a72_19 a72_21 a72_22 v7.2.1 a72_31 a72_35 a72_37 v7.2.2.1 v7.2.2.2.1 v7.2.2.2.2.1 a72_41 a72_44 a72_50), (79, o79 v7.2.2.2.2.2.1), (81, o81 v7.2.2.2.2.2.2.1), (82, o82 v7.2.2.2.2.2.2.2.1), (83, o83 v7.2.2.2.2.2.2.2.2.1), (84, o84 v7.2.2.2.2.2.2.2.2.2.1), (85, o85 v7.2.2.2.2.2.2.2.2.2.2), (96, o96 q3)] nx 0 0) (K := fun (x8 : Int32 × Int32 × Int32 × Int32 × Int32 × (Nat → Int32) × (Nat → Int32) × (Nat → Int32) × (Nat → Int32) × (Nat → Int32) × (Nat → Int32)) => eRun G X 49 [some (.ref 72), some (.int x8.1)] [] h [(72, o72 0 a72_2 a72_3 a72_4 a72_5 a72_6 a72_7 a72_8 a72_9 a72_10 a72_11 a72_17 a72_18 a72_19 a72_21 a72_22 x8.2.1 a72_31 a72_35 a72_37 x8.2.2.1 x8.2.2.2.1 x8.2.2.2.2.1 a72_41 a72_44 a72_50), (79, o79 x8.2.2.2.2.2.1), (81, o81 x8.2.2.2.2.2.2.1), (82, o82 x8.2.2.2.2.2.2.2.1), (83, o83 x8.2.2.2.2.2.2.2.2.1), (84, o84 x8.2.2.2.2.2.2.2.2.2.1), (85, o85 x8.2.2.2.2.2.2.2.2.2.2), (96, o96 q3)] nx 0 0) ?_ e_fuel (0, a72_29, a72_38, a72_39, a72_40, A79, A81, A82, A83, A84, A85) x8 hx9 ?_ : _)
    · intro v7 z hz ih hx
      refine r_iload_n F dX12_rests_20 rfl ?_
      refine r_bipush F dX12_rests_21 (v := 40) (by decide) ?_
      refine r_icmp_gt F dX12_rests_23 (tgt := 49) (by decide) (fun hc => ?_) (fun hc => ?_)
      · have hz := e_t hc hz
        obtain rfl := Option.some.inj hz
        exact hx (v7.1, v7.2.1, v7.2.2.1, v7.2.2.2.1, v7.2.2.2.2.1, v7.2.2.2.2.2.1, v7.2.2.2.2.2.2.1, v7.2.2.2.2.2.2.2.1, v7.2.2.2.2.2.2.2.2.1, v7.2.2.2.2.2.2.2.2.2.1, v7.2.2.2.2.2.2.2.2.2.2) rfl
      · have hz := e_f hc hz
        refine r_aload_n F dX12_rests_26 rfl ?_
        obtain ⟨q10, hq11, hz⟩ := e_bd hz
        refine r_callV F dX12_rests_27 (b := 72) (dc := 0) (ds := 0) (As := []) (S0 := []) lkX12_467 mX12_greatestForce (tX12_greatestForce_72 hG (la := x_l X) (h := e_up h [(72, o72 0 a72_2 a72_3 a72_4 a72_5 a72_6 a72_7 a72_8 a72_9 a72_10 a72_11 a72_17 a72_18 a72_19 a72_21 a72_22 v7.2.1 a72_31 a72_35 a72_37 v7.2.2.1 v7.2.2.2.1 v7.2.2.2.2.1 a72_41 a72_44 a72_50), (79, o79 v7.2.2.2.2.2.1), (81, o81 v7.2.2.2.2.2.2.1), (82, o82 v7.2.2.2.2.2.2.2.1), (83, o83 v7.2.2.2.2.2.2.2.2.1), (84, o84 v7.2.2.2.2.2.2.2.2.2.1), (85, o85 v7.2.2.2.2.2.2.2.2.2.2), (96, o96 q3)]) hnx rfl rfl h80 rfl rfl rfl rfl rfl hq11) rfl rfl rfl (e_le rfl) (e_le rfl) (e_le rfl) rfl (ci := 12) e_cl12.1 rfl (e_le rfl) (e_lt hnx rfl) (Nat.zero_le _) (Nat.zero_le _) (e_k ?_)
        refine r_wr (l' := [(72, o72 0 a72_2 a72_3 a72_4 a72_5 a72_6 a72_7 a72_8 a72_9 a72_10 a72_11 a72_17 a72_18 a72_19 a72_21 a72_22 q10.2.1 a72_31 a72_35 a72_37 v7.2.2.1 v7.2.2.2.1 v7.2.2.2.2.1 a72_41 a72_44 a72_50), (79, o79 v7.2.2.2.2.2.1), (81, o81 q10.2.2.1), (82, o82 q10.2.2.2.1), (83, o83 q10.2.2.2.2.1), (84, o84 q10.2.2.2.2.2.1), (85, o85 q10.2.2.2.2.2.2), (96, o96 q3)]) rfl rfl ?_
        refine r_aload_n F dX12_rests_30 rfl ?_
        refine r_get F dX12_rests_31 flX12_31 rfl rfl (e_le rfl) (e_lt hnx rfl) ?_
        refine r_iconst F dX12_rests_34 (v := 2) (by decide) ?_
        refine r_iald F dX12_rests_35 (i := 2) h80 (e_le rfl) (e_lt hnx rfl) (e_vp (by decide)) ?_
        refine r_icmp_le F dX12_rests_36 (tgt := 49) (by decide) (fun hc => ?_) (fun hc => ?_)
        · have hz := e_t hc hz
          obtain rfl := Option.some.inj hz
          exact hx (v7.1, q10.2.1, v7.2.2.1, v7.2.2.2.1, v7.2.2.2.2.1, v7.2.2.2.2.2.1, q10.2.2.1, q10.2.2.2.1, q10.2.2.2.2.1, q10.2.2.2.2.2.1, q10.2.2.2.2.2.2) rfl
        · have hz := e_f hc hz
          refine r_aload_n F dX12_rests_39 rfl ?_
          obtain ⟨q12, hq13, hz⟩ := e_bd hz
          refine r_callV F dX12_rests_40 (b := 72) (dc := 0) (ds := 0) (As := []) (S0 := []) lkX12_390 mX12_round (tX12_round_72 hG (la := x_l X) (h := e_up h [(72, o72 0 a72_2 a72_3 a72_4 a72_5 a72_6 a72_7 a72_8 a72_9 a72_10 a72_11 a72_17 a72_18 a72_19 a72_21 a72_22 q10.2.1 a72_31 a72_35 a72_37 v7.2.2.1 v7.2.2.2.1 v7.2.2.2.2.1 a72_41 a72_44 a72_50), (79, o79 v7.2.2.2.2.2.1), (81, o81 q10.2.2.1), (82, o82 q10.2.2.2.1), (83, o83 q10.2.2.2.2.1), (84, o84 q10.2.2.2.2.2.1), (85, o85 q10.2.2.2.2.2.2), (96, o96 q3)]) hnx rfl rfl h80 rfl rfl rfl rfl rfl hq13) rfl rfl rfl (e_le rfl) (e_le rfl) (e_le rfl) rfl (ci := 12) e_cl12.1 rfl (e_le rfl) (e_lt hnx rfl) (Nat.zero_le _) (Nat.zero_le _) (e_k ?_)
          refine r_wr (l' := [(72, o72 0 a72_2 a72_3 a72_4 a72_5 a72_6 a72_7 a72_8 a72_9 a72_10 a72_11 a72_17 a72_18 a72_19 a72_21 a72_22 q12.1 a72_31 a72_35 a72_37 q12.2.1 q12.2.2.1 q12.2.2.2.1 a72_41 a72_44 a72_50), (79, o79 q12.2.2.2.2.1), (81, o81 q12.2.2.2.2.2.1), (82, o82 q12.2.2.2.2.2.2.1), (83, o83 q12.2.2.2.2.2.2.2.1), (84, o84 q12.2.2.2.2.2.2.2.2.1), (85, o85 q12.2.2.2.2.2.2.2.2.2), (96, o96 q3)]) rfl rfl ?_
          refine r_inc F dX12_rests_43 (k9 := 1) (by decide) rfl (L' := [some (.ref 72), some (.int (v7.1 + 1))]) rfl ?_
          refine r_goto F dX12_rests_46 (tgt := 20) (by decide) ?_
          obtain rfl := Option.some.inj hz
          exact ih (v7.1 + 1, q12.1, q12.2.1, q12.2.2.1, q12.2.2.2.1, q12.2.2.2.2.1, q12.2.2.2.2.2.1, q12.2.2.2.2.2.2.1, q12.2.2.2.2.2.2.2.1, q12.2.2.2.2.2.2.2.2.1, q12.2.2.2.2.2.2.2.2.2) rfl
    · show eRun G X 49 [some (.ref 72), some (.int x8.1)] [] h [(72, o72 0 a72_2 a72_3 a72_4 a72_5 a72_6 a72_7 a72_8 a72_9 a72_10 a72_11 a72_17 a72_18 a72_19 a72_21 a72_22 x8.2.1 a72_31 a72_35 a72_37 x8.2.2.1 x8.2.2.2.1 x8.2.2.2.2.1 a72_41 a72_44 a72_50), (79, o79 x8.2.2.2.2.2.1), (81, o81 x8.2.2.2.2.2.2.1), (82, o82 x8.2.2.2.2.2.2.2.1), (83, o83 x8.2.2.2.2.2.2.2.2.1), (84, o84 x8.2.2.2.2.2.2.2.2.2.1), (85, o85 x8.2.2.2.2.2.2.2.2.2.2), (96, o96 q3)] nx 0 0
      refine r_aload_n F dX12_rests_49 rfl ?_
      obtain ⟨q14, hq15, hf⟩ := e_bd hf
      refine r_callV F dX12_rests_50 (b := 72) (dc := 0) (ds := 0) (As := []) (S0 := []) lkX12_461 mX12_takeBack (tX12_takeBack_72 hG (la := x_l X) (h := e_up h [(72, o72 0 a72_2 a72_3 a72_4 a72_5 a72_6 a72_7 a72_8 a72_9 a72_10 a72_11 a72_17 a72_18 a72_19 a72_21 a72_22 x8.2.1 a72_31 a72_35 a72_37 x8.2.2.1 x8.2.2.2.1 x8.2.2.2.2.1 a72_41 a72_44 a72_50), (79, o79 x8.2.2.2.2.2.1), (81, o81 x8.2.2.2.2.2.2.1), (82, o82 x8.2.2.2.2.2.2.2.1), (83, o83 x8.2.2.2.2.2.2.2.2.1), (84, o84 x8.2.2.2.2.2.2.2.2.2.1), (85, o85 x8.2.2.2.2.2.2.2.2.2.2), (96, o96 q3)]) hnx rfl rfl rfl hq15) rfl rfl rfl (e_le rfl) (e_le rfl) (e_le rfl) rfl (ci := 12) e_cl12.1 rfl (e_le rfl) (e_lt hnx rfl) (Nat.zero_le _) (Nat.zero_le _) (e_k ?_)
      refine r_wr (l' := [(72, o72 0 a72_2 a72_3 a72_4 a72_5 a72_6 a72_7 a72_8 a72_9 a72_10 a72_11 a72_17 a72_18 a72_19 a72_21 a72_22 x8.2.1 a72_31 a72_35 a72_37 x8.2.2.1 x8.2.2.2.1 x8.2.2.2.2.1 a72_41 a72_44 a72_50), (79, o79 q14), (81, o81 x8.2.2.2.2.2.2.1), (82, o82 x8.2.2.2.2.2.2.2.1), (83, o83 x8.2.2.2.2.2.2.2.2.1), (84, o84 x8.2.2.2.2.2.2.2.2.2.1), (85, o85 x8.2.2.2.2.2.2.2.2.2.2), (96, o96 q3)]) rfl rfl ?_
      refine r_iload_n F dX12_rests_53 rfl ?_
      refine r_bipush F dX12_rests_54 (v := 40) (by decide) ?_
      refine r_icmp_le F dX12_rests_56 (tgt := 63) (by decide) (fun hc => ?_) (fun hc => ?_)
      · have hf := e_t hc hf
        refine r_iload_n F dX12_rests_63 rfl ?_
        obtain rfl := Option.some.inj hf
        exact r_iret F hq dX12_rests_64 rfl rfl (Nat.le_refl _) (Nat.le_refl _) ⟨rfl, rfl⟩
      · have hf := e_f hc hf
        refine r_iconst F dX12_rests_59 (v := (-1)) (by decide) ?_
        refine r_goto F dX12_rests_60 (tgt := 64) (by decide) ?_
        obtain rfl := Option.some.inj hf
        exact r_iret F hq dX12_rests_64 rfl rfl (Nat.le_refl _) (Nat.le_refl _) ⟨rfl, rfl⟩
  · have hf := e_f hc hf
    refine r_iconst F dX12_rests_12 (v := (-1)) (by decide) ?_
    refine r_mat (k := 79) h79 (l' := [(72, o72 0 a72_2 a72_3 a72_4 a72_5 a72_6 a72_7 a72_8 a72_9 a72_10 a72_11 a72_17 a72_18 a72_19 a72_21 a72_22 a72_29 a72_31 a72_35 a72_37 a72_38 a72_39 a72_40 a72_41 a72_44 a72_50), (79, o79 A79)]) rfl ?_
    refine r_mat (k := 81) h81 (l' := [(72, o72 0 a72_2 a72_3 a72_4 a72_5 a72_6 a72_7 a72_8 a72_9 a72_10 a72_11 a72_17 a72_18 a72_19 a72_21 a72_22 a72_29 a72_31 a72_35 a72_37 a72_38 a72_39 a72_40 a72_41 a72_44 a72_50), (79, o79 A79), (81, o81 A81)]) rfl ?_
    refine r_mat (k := 82) h82 (l' := [(72, o72 0 a72_2 a72_3 a72_4 a72_5 a72_6 a72_7 a72_8 a72_9 a72_10 a72_11 a72_17 a72_18 a72_19 a72_21 a72_22 a72_29 a72_31 a72_35 a72_37 a72_38 a72_39 a72_40 a72_41 a72_44 a72_50), (79, o79 A79), (81, o81 A81), (82, o82 A82)]) rfl ?_
    refine r_mat (k := 83) h83 (l' := [(72, o72 0 a72_2 a72_3 a72_4 a72_5 a72_6 a72_7 a72_8 a72_9 a72_10 a72_11 a72_17 a72_18 a72_19 a72_21 a72_22 a72_29 a72_31 a72_35 a72_37 a72_38 a72_39 a72_40 a72_41 a72_44 a72_50), (79, o79 A79), (81, o81 A81), (82, o82 A82), (83, o83 A83)]) rfl ?_
    refine r_mat (k := 84) h84 (l' := [(72, o72 0 a72_2 a72_3 a72_4 a72_5 a72_6 a72_7 a72_8 a72_9 a72_10 a72_11 a72_17 a72_18 a72_19 a72_21 a72_22 a72_29 a72_31 a72_35 a72_37 a72_38 a72_39 a72_40 a72_41 a72_44 a72_50), (79, o79 A79), (81, o81 A81), (82, o82 A82), (83, o83 A83), (84, o84 A84)]) rfl ?_
    refine r_mat (k := 85) h85 (l' := [(72, o72 0 a72_2 a72_3 a72_4 a72_5 a72_6 a72_7 a72_8 a72_9 a72_10 a72_11 a72_17 a72_18 a72_19 a72_21 a72_22 a72_29 a72_31 a72_35 a72_37 a72_38 a72_39 a72_40 a72_41 a72_44 a72_50), (79, o79 A79), (81, o81 A81), (82, o82 A82), (83, o83 A83), (84, o84 A84), (85, o85 A85)]) rfl ?_
    refine r_mat (k := 96) h96 (l' := [(72, o72 0 a72_2 a72_3 a72_4 a72_5 a72_6 a72_7 a72_8 a72_9 a72_10 a72_11 a72_17 a72_18 a72_19 a72_21 a72_22 a72_29 a72_31 a72_35 a72_37 a72_38 a72_39 a72_40 a72_41 a72_44 a72_50), (79, o79 A79), (81, o81 A81), (82, o82 A82), (83, o83 A83), (84, o84 A84), (85, o85 A85), (96, o96 A96)]) rfl ?_
    obtain rfl := Option.some.inj hf
    exact r_iret F hq dX12_rests_13 rfl rfl (Nat.le_refl _) (Nat.le_refl _) ⟨rfl, rfl⟩

def fX12_rid (a72_0 : Int32) (a72_21 : Int32) (a72_22 : Int32) (a72_29 : Int32) (A79 : Nat → Int32) (A80 : Nat → Int32) (A81 : Nat → Int32) (A82 : Nat → Int32) (A83 : Nat → Int32) (A84 : Nat → Int32) (A85 : Nat → Int32) (A93 : Nat → Int32) (A94 : Nat → Int32) (A95 : Nat → Int32) (p0 : Int32) : Option (Int32 × Int32 × Int32 × (Nat → Int32) × (Nat → Int32) × (Nat → Int32) × (Nat → Int32) × (Nat → Int32) × (Nat → Int32) × (Nat → Int32) × (Nat → Int32)) :=
  (fX12_isCrystal a72_21).bind (fun q1 =>
  if q1 = true then
    (fX12_in (Int32.toInt64 p0) 1 9).bind (fun q3 =>
    if q3 = true then
      (fX12_laysRid a72_21 a72_22 a72_29 A79 A80 A81 A82 A83 A84 A85 A93 A94 A95 p0).bind (fun q5 =>
      some (q5.1, 0, q5.2.1, q5.2.2.1, q5.2.2.2.1, q5.2.2.2.2.1, q5.2.2.2.2.2.1, q5.2.2.2.2.2.2.1, q5.2.2.2.2.2.2.2.1, q5.2.2.2.2.2.2.2.2.1, q5.2.2.2.2.2.2.2.2.2))
    else
      some ((-1), 0, a72_29, A81, A82, A83, A84, A85, A93, A94, A95))
  else
    some ((-1), 0, a72_29, A81, A82, A83, A84, A85, A93, A94, A95))
set_option maxRecDepth 100000 in
theorem tX12_rid_72 {G : eG} (hG : e_GS G) {la : Launch} {h : Nat → eO} {nx : Nat} (hnx : 99 ≤ nx) {a72_0 : Int32} {a72_2 : Int32} {a72_3 : Int32} {a72_4 : Int32} {a72_5 : Int32} {a72_6 : Int32} {a72_7 : Int32} {a72_8 : Bool} {a72_9 : Int32} {a72_10 : Int32} {a72_11 : Int32} {a72_17 : Bool} {a72_18 : Bool} {a72_19 : Bool} {a72_21 : Int32} {a72_22 : Int32} {a72_29 : Int32} {a72_31 : Int32} {a72_35 : Int32} {a72_37 : Bool} {a72_38 : Int32} {a72_39 : Int32} {a72_40 : Int32} {a72_41 : Int64} {a72_44 : Int32} {a72_50 : Bool} {A79 : Nat → Int32} {A80 : Nat → Int32} {A81 : Nat → Int32} {A82 : Nat → Int32} {A83 : Nat → Int32} {A84 : Nat → Int32} {A85 : Nat → Int32} {A93 : Nat → Int32} {A94 : Nat → Int32} {A95 : Nat → Int32} {p0 : Int32} (h72 : h 72 = o72 a72_0 a72_2 a72_3 a72_4 a72_5 a72_6 a72_7 a72_8 a72_9 a72_10 a72_11 a72_17 a72_18 a72_19 a72_21 a72_22 a72_29 a72_31 a72_35 a72_37 a72_38 a72_39 a72_40 a72_41 a72_44 a72_50) (h79 : h 79 = o79 A79) (h80 : h 80 = o80 A80) (h81 : h 81 = o81 A81) (h82 : h 82 = o82 A82) (h83 : h 83 = o83 A83) (h84 : h 84 = o84 A84) (h85 : h 85 = o85 A85) (h93 : h 93 = o93 A93) (h94 : h 94 = o94 A94) (h95 : h 95 = o95 A95) {R9 : Int32 × Int32 × Int32 × (Nat → Int32) × (Nat → Int32) × (Nat → Int32) × (Nat → Int32) × (Nat → Int32) × (Nat → Int32) × (Nat → Int32) × (Nat → Int32)} (hf : fX12_rid a72_0 a72_21 a72_22 a72_29 A79 A80 A81 A82 A83 A84 A85 A93 A94 A95 p0 = some R9) :
    eSem G la MX12_rid [.ref 72, .int p0] h nx 0 0 (fun r9 h9 => r9 = some (.int R9.1) ∧ h9 = e_up h [(72, o72 R9.2.1 a72_2 a72_3 a72_4 a72_5 a72_6 a72_7 a72_8 a72_9 a72_10 a72_11 a72_17 a72_18 a72_19 a72_21 a72_22 R9.2.2.1 a72_31 a72_35 a72_37 a72_38 a72_39 a72_40 a72_41 a72_44 a72_50), (81, o81 R9.2.2.2.1), (82, o82 R9.2.2.2.2.1), (83, o83 R9.2.2.2.2.2.1), (84, o84 R9.2.2.2.2.2.2.1), (85, o85 R9.2.2.2.2.2.2.2.1), (93, o93 R9.2.2.2.2.2.2.2.2.1), (94, o94 R9.2.2.2.2.2.2.2.2.2.1), (95, o95 R9.2.2.2.2.2.2.2.2.2.2)]) := by
  refine eSem.of (k := 0) (L := [some (.ref 72), some (.int p0)]) (by decide +kernel) rfl rfl (fun X F hxl hq hcR hsR => ?_)
  subst hxl
  unfold fX12_rid at hf
  refine r_aload_n F dX12_rid_0 rfl ?_
  refine r_iconst F dX12_rid_1 (v := 0) (by decide) ?_
  refine r_put F dX12_rid_2 flX12_86 rfl rfl rfl h72 (e_le rfl) (e_le rfl) (e_lt hnx rfl) (l' := [(72, o72 0 a72_2 a72_3 a72_4 a72_5 a72_6 a72_7 a72_8 a72_9 a72_10 a72_11 a72_17 a72_18 a72_19 a72_21 a72_22 a72_29 a72_31 a72_35 a72_37 a72_38 a72_39 a72_40 a72_41 a72_44 a72_50)]) rfl ?_
  refine r_aload_n F dX12_rid_5 rfl ?_
  obtain ⟨q1, hq2, hf⟩ := e_bd hf
  refine r_callV F dX12_rid_6 (b := 72) (dc := 0) (ds := 0) (As := []) (S0 := []) lkX12_306 mX12_isCrystal (tX12_isCrystal_72 hG (la := x_l X) (h := e_up h [(72, o72 0 a72_2 a72_3 a72_4 a72_5 a72_6 a72_7 a72_8 a72_9 a72_10 a72_11 a72_17 a72_18 a72_19 a72_21 a72_22 a72_29 a72_31 a72_35 a72_37 a72_38 a72_39 a72_40 a72_41 a72_44 a72_50)]) hnx rfl hq2) rfl rfl rfl (e_le rfl) (e_le rfl) (e_le rfl) rfl (ci := 12) e_cl12.1 rfl (e_le rfl) (e_lt hnx rfl) (Nat.zero_le _) (Nat.zero_le _) (e_k ?_)
  refine r_wr0 ?_
  refine r_z_eq F dX12_rid_9 (tgt := 32) (by decide) (fun hc => ?_) (fun hc => ?_)
  · have hf := e_t hc hf
    refine r_iload_n F dX12_rid_12 rfl ?_
    refine r_i2l F dX12_rid_13 ?_
    refine r_lconst F dX12_rid_14 (v := 1) (by decide) ?_
    refine r_ldc2 F dX12_rid_15 klX12_399 ?_
    obtain ⟨q3, hq4, hf⟩ := e_bd hf
    refine r_callS F dX12_rid_18 (dc := 0) (ds := 0) (As := [.long (Int32.toInt64 p0), .long 1, .long 9]) (S0 := []) lkX12_97 mX12_in (tX12_in hG (la := x_l X) (h := e_up h [(72, o72 0 a72_2 a72_3 a72_4 a72_5 a72_6 a72_7 a72_8 a72_9 a72_10 a72_11 a72_17 a72_18 a72_19 a72_21 a72_22 a72_29 a72_31 a72_35 a72_37 a72_38 a72_39 a72_40 a72_41 a72_44 a72_50)]) hnx  hq4) rfl rfl rfl (e_le rfl) (e_le rfl) (e_le rfl) (Nat.zero_le _) (Nat.zero_le _) (e_k ?_)
    refine r_wr0 ?_
    refine r_z_eq F dX12_rid_21 (tgt := 32) (by decide) (fun hc => ?_) (fun hc => ?_)
    · have hf := e_t hc hf
      refine r_aload_n F dX12_rid_24 rfl ?_
      refine r_iload_n F dX12_rid_25 rfl ?_
      obtain ⟨q5, hq6, hf⟩ := e_bd hf
      refine r_callV F dX12_rid_26 (b := 72) (dc := 0) (ds := 0) (As := [.int p0]) (S0 := []) lkX12_452 mX12_laysRid (tX12_laysRid_72 hG (la := x_l X) (h := e_up h [(72, o72 0 a72_2 a72_3 a72_4 a72_5 a72_6 a72_7 a72_8 a72_9 a72_10 a72_11 a72_17 a72_18 a72_19 a72_21 a72_22 a72_29 a72_31 a72_35 a72_37 a72_38 a72_39 a72_40 a72_41 a72_44 a72_50)]) hnx rfl h79 h80 h81 h82 h83 h84 h85 h93 h94 h95 hq6) rfl rfl rfl (e_le rfl) (e_le rfl) (e_le rfl) rfl (ci := 12) e_cl12.1 rfl (e_le rfl) (e_lt hnx rfl) (Nat.zero_le _) (Nat.zero_le _) (e_k ?_)
      refine r_wr (l' := [(72, o72 0 a72_2 a72_3 a72_4 a72_5 a72_6 a72_7 a72_8 a72_9 a72_10 a72_11 a72_17 a72_18 a72_19 a72_21 a72_22 q5.2.1 a72_31 a72_35 a72_37 a72_38 a72_39 a72_40 a72_41 a72_44 a72_50), (81, o81 q5.2.2.1), (82, o82 q5.2.2.2.1), (83, o83 q5.2.2.2.2.1), (84, o84 q5.2.2.2.2.2.1), (85, o85 q5.2.2.2.2.2.2.1), (93, o93 q5.2.2.2.2.2.2.2.1), (94, o94 q5.2.2.2.2.2.2.2.2.1), (95, o95 q5.2.2.2.2.2.2.2.2.2)]) rfl rfl ?_
      refine r_goto F dX12_rid_29 (tgt := 33) (by decide) ?_
      obtain rfl := Option.some.inj hf
      exact r_iret F hq dX12_rid_33 rfl rfl (Nat.le_refl _) (Nat.le_refl _) ⟨rfl, rfl⟩
    · have hf := e_f hc hf
      refine r_iconst F dX12_rid_32 (v := (-1)) (by decide) ?_
      refine r_mat (k := 81) h81 (l' := [(72, o72 0 a72_2 a72_3 a72_4 a72_5 a72_6 a72_7 a72_8 a72_9 a72_10 a72_11 a72_17 a72_18 a72_19 a72_21 a72_22 a72_29 a72_31 a72_35 a72_37 a72_38 a72_39 a72_40 a72_41 a72_44 a72_50), (81, o81 A81)]) rfl ?_
      refine r_mat (k := 82) h82 (l' := [(72, o72 0 a72_2 a72_3 a72_4 a72_5 a72_6 a72_7 a72_8 a72_9 a72_10 a72_11 a72_17 a72_18 a72_19 a72_21 a72_22 a72_29 a72_31 a72_35 a72_37 a72_38 a72_39 a72_40 a72_41 a72_44 a72_50), (81, o81 A81), (82, o82 A82)]) rfl ?_
      refine r_mat (k := 83) h83 (l' := [(72, o72 0 a72_2 a72_3 a72_4 a72_5 a72_6 a72_7 a72_8 a72_9 a72_10 a72_11 a72_17 a72_18 a72_19 a72_21 a72_22 a72_29 a72_31 a72_35 a72_37 a72_38 a72_39 a72_40 a72_41 a72_44 a72_50), (81, o81 A81), (82, o82 A82), (83, o83 A83)]) rfl ?_
      refine r_mat (k := 84) h84 (l' := [(72, o72 0 a72_2 a72_3 a72_4 a72_5 a72_6 a72_7 a72_8 a72_9 a72_10 a72_11 a72_17 a72_18 a72_19 a72_21 a72_22 a72_29 a72_31 a72_35 a72_37 a72_38 a72_39 a72_40 a72_41 a72_44 a72_50), (81, o81 A81), (82, o82 A82), (83, o83 A83), (84, o84 A84)]) rfl ?_
      refine r_mat (k := 85) h85 (l' := [(72, o72 0 a72_2 a72_3 a72_4 a72_5 a72_6 a72_7 a72_8 a72_9 a72_10 a72_11 a72_17 a72_18 a72_19 a72_21 a72_22 a72_29 a72_31 a72_35 a72_37 a72_38 a72_39 a72_40 a72_41 a72_44 a72_50), (81, o81 A81), (82, o82 A82), (83, o83 A83), (84, o84 A84), (85, o85 A85)]) rfl ?_
      refine r_mat (k := 93) h93 (l' := [(72, o72 0 a72_2 a72_3 a72_4 a72_5 a72_6 a72_7 a72_8 a72_9 a72_10 a72_11 a72_17 a72_18 a72_19 a72_21 a72_22 a72_29 a72_31 a72_35 a72_37 a72_38 a72_39 a72_40 a72_41 a72_44 a72_50), (81, o81 A81), (82, o82 A82), (83, o83 A83), (84, o84 A84), (85, o85 A85), (93, o93 A93)]) rfl ?_
      refine r_mat (k := 94) h94 (l' := [(72, o72 0 a72_2 a72_3 a72_4 a72_5 a72_6 a72_7 a72_8 a72_9 a72_10 a72_11 a72_17 a72_18 a72_19 a72_21 a72_22 a72_29 a72_31 a72_35 a72_37 a72_38 a72_39 a72_40 a72_41 a72_44 a72_50), (81, o81 A81), (82, o82 A82), (83, o83 A83), (84, o84 A84), (85, o85 A85), (93, o93 A93), (94, o94 A94)]) rfl ?_
      refine r_mat (k := 95) h95 (l' := [(72, o72 0 a72_2 a72_3 a72_4 a72_5 a72_6 a72_7 a72_8 a72_9 a72_10 a72_11 a72_17 a72_18 a72_19 a72_21 a72_22 a72_29 a72_31 a72_35 a72_37 a72_38 a72_39 a72_40 a72_41 a72_44 a72_50), (81, o81 A81), (82, o82 A82), (83, o83 A83), (84, o84 A84), (85, o85 A85), (93, o93 A93), (94, o94 A94), (95, o95 A95)]) rfl ?_
      obtain rfl := Option.some.inj hf
      exact r_iret F hq dX12_rid_33 rfl rfl (Nat.le_refl _) (Nat.le_refl _) ⟨rfl, rfl⟩
  · have hf := e_f hc hf
    refine r_iconst F dX12_rid_32 (v := (-1)) (by decide) ?_
    refine r_mat (k := 81) h81 (l' := [(72, o72 0 a72_2 a72_3 a72_4 a72_5 a72_6 a72_7 a72_8 a72_9 a72_10 a72_11 a72_17 a72_18 a72_19 a72_21 a72_22 a72_29 a72_31 a72_35 a72_37 a72_38 a72_39 a72_40 a72_41 a72_44 a72_50), (81, o81 A81)]) rfl ?_
    refine r_mat (k := 82) h82 (l' := [(72, o72 0 a72_2 a72_3 a72_4 a72_5 a72_6 a72_7 a72_8 a72_9 a72_10 a72_11 a72_17 a72_18 a72_19 a72_21 a72_22 a72_29 a72_31 a72_35 a72_37 a72_38 a72_39 a72_40 a72_41 a72_44 a72_50), (81, o81 A81), (82, o82 A82)]) rfl ?_
    refine r_mat (k := 83) h83 (l' := [(72, o72 0 a72_2 a72_3 a72_4 a72_5 a72_6 a72_7 a72_8 a72_9 a72_10 a72_11 a72_17 a72_18 a72_19 a72_21 a72_22 a72_29 a72_31 a72_35 a72_37 a72_38 a72_39 a72_40 a72_41 a72_44 a72_50), (81, o81 A81), (82, o82 A82), (83, o83 A83)]) rfl ?_
    refine r_mat (k := 84) h84 (l' := [(72, o72 0 a72_2 a72_3 a72_4 a72_5 a72_6 a72_7 a72_8 a72_9 a72_10 a72_11 a72_17 a72_18 a72_19 a72_21 a72_22 a72_29 a72_31 a72_35 a72_37 a72_38 a72_39 a72_40 a72_41 a72_44 a72_50), (81, o81 A81), (82, o82 A82), (83, o83 A83), (84, o84 A84)]) rfl ?_
    refine r_mat (k := 85) h85 (l' := [(72, o72 0 a72_2 a72_3 a72_4 a72_5 a72_6 a72_7 a72_8 a72_9 a72_10 a72_11 a72_17 a72_18 a72_19 a72_21 a72_22 a72_29 a72_31 a72_35 a72_37 a72_38 a72_39 a72_40 a72_41 a72_44 a72_50), (81, o81 A81), (82, o82 A82), (83, o83 A83), (84, o84 A84), (85, o85 A85)]) rfl ?_
    refine r_mat (k := 93) h93 (l' := [(72, o72 0 a72_2 a72_3 a72_4 a72_5 a72_6 a72_7 a72_8 a72_9 a72_10 a72_11 a72_17 a72_18 a72_19 a72_21 a72_22 a72_29 a72_31 a72_35 a72_37 a72_38 a72_39 a72_40 a72_41 a72_44 a72_50), (81, o81 A81), (82, o82 A82), (83, o83 A83), (84, o84 A84), (85, o85 A85), (93, o93 A93)]) rfl ?_
    refine r_mat (k := 94) h94 (l' := [(72, o72 0 a72_2 a72_3 a72_4 a72_5 a72_6 a72_7 a72_8 a72_9 a72_10 a72_11 a72_17 a72_18 a72_19 a72_21 a72_22 a72_29 a72_31 a72_35 a72_37 a72_38 a72_39 a72_40 a72_41 a72_44 a72_50), (81, o81 A81), (82, o82 A82), (83, o83 A83), (84, o84 A84), (85, o85 A85), (93, o93 A93), (94, o94 A94)]) rfl ?_
    refine r_mat (k := 95) h95 (l' := [(72, o72 0 a72_2 a72_3 a72_4 a72_5 a72_6 a72_7 a72_8 a72_9 a72_10 a72_11 a72_17 a72_18 a72_19 a72_21 a72_22 a72_29 a72_31 a72_35 a72_37 a72_38 a72_39 a72_40 a72_41 a72_44 a72_50), (81, o81 A81), (82, o82 A82), (83, o83 A83), (84, o84 A84), (85, o85 A85), (93, o93 A93), (94, o94 A94), (95, o95 A95)]) rfl ?_
    obtain rfl := Option.some.inj hf
    exact r_iret F hq dX12_rid_33 rfl rfl (Nat.le_refl _) (Nat.le_refl _) ⟨rfl, rfl⟩

def fX12_wayless (a72_29 : Int32) (A83 : Nat → Int32) (A84 : Nat → Int32)  : Option (Int32) :=
  (e_loop (fun (v3 : Int32 × Int32) => (
      if a72_29 ≤ v3.2 then
        some (.inr v3.1)
      else
        (fX12_way A83 A84 v3.2).bind (fun q6 =>
        Option.bind (α := Bool) (
          if q6 = (-1) then
            some true
          else
            some false) (fun q8 =>
        some (.inl (v3.1 + (e_b q8), v3.2 + 1)))) : Option ((Int32 × Int32) ⊕ (Int32)))) e_fuel (0, 0)).bind (fun x4 =>
  some x4)
set_option maxRecDepth 100000 in
theorem tX12_wayless_72 {G : eG} (hG : e_GS G) {la : Launch} {h : Nat → eO} {nx : Nat} (hnx : 99 ≤ nx) {a72_0 : Int32} {a72_2 : Int32} {a72_3 : Int32} {a72_4 : Int32} {a72_5 : Int32} {a72_6 : Int32} {a72_7 : Int32} {a72_8 : Bool} {a72_9 : Int32} {a72_10 : Int32} {a72_11 : Int32} {a72_17 : Bool} {a72_18 : Bool} {a72_19 : Bool} {a72_21 : Int32} {a72_22 : Int32} {a72_29 : Int32} {a72_31 : Int32} {a72_35 : Int32} {a72_37 : Bool} {a72_38 : Int32} {a72_39 : Int32} {a72_40 : Int32} {a72_41 : Int64} {a72_44 : Int32} {a72_50 : Bool} {A83 : Nat → Int32} {A84 : Nat → Int32}  (h72 : h 72 = o72 a72_0 a72_2 a72_3 a72_4 a72_5 a72_6 a72_7 a72_8 a72_9 a72_10 a72_11 a72_17 a72_18 a72_19 a72_21 a72_22 a72_29 a72_31 a72_35 a72_37 a72_38 a72_39 a72_40 a72_41 a72_44 a72_50) (h83 : h 83 = o83 A83) (h84 : h 84 = o84 A84) {R9 : Int32} (hf : fX12_wayless a72_29 A83 A84  = some R9) :
    eSem G la MX12_wayless [.ref 72] h nx 0 0 (fun r9 h9 => r9 = some (.int R9) ∧ h9 = h) := by
  refine eSem.of (k := 2) (L := [some (.ref 72), none, none]) (by decide +kernel) rfl rfl (fun X F hxl hq hcR hsR => ?_)
  subst hxl
  unfold fX12_wayless at hf
  refine r_iconst F dX12_wayless_0 (v := 0) (by decide) ?_
  refine r_istore_n F dX12_wayless_1 (e_le rfl) (L' := [some (.ref 72), some (.int 0), none]) rfl ?_
  refine r_iconst F dX12_wayless_2 (v := 0) (by decide) ?_
  refine r_istore_n F dX12_wayless_3 (e_le rfl) (L' := [some (.ref 72), some (.int 0), some (.int 0)]) rfl ?_
  obtain ⟨x4, hx5, hf⟩ := e_bd hf
  refine (e_loop_ok (P := fun (v3 : Int32 × Int32) => eRun G X 4 [some (.ref 72), some (.int v3.1), some (.int v3.2)] [] h [] nx 0 0) (K := fun (x4 : Int32) => eRun G X 35 [none, some (.int x4), none] [] h [] nx 0 0) ?_ e_fuel (0, 0) x4 hx5 ?_ : _)
  · intro v3 z hz ih hx
    refine r_iload_n F dX12_wayless_4 rfl ?_
    refine r_aload_n F dX12_wayless_5 rfl ?_
    refine r_get F dX12_wayless_6 flX12_241 h72 rfl (e_le rfl) (e_lt hnx rfl) ?_
    refine r_icmp_ge F dX12_wayless_9 (tgt := 35) (by decide) (fun hc => ?_) (fun hc => ?_)
    · have hz := e_t hc hz
      refine r_drop 0 (L' := [none, some (.int v3.1), some (.int v3.2)]) rfl ?_
      refine r_drop 2 (L' := [none, some (.int v3.1), none]) rfl ?_
      obtain rfl := Option.some.inj hz
      exact hx v3.1 rfl
    · have hz := e_f hc hz
      refine r_iload_n F dX12_wayless_12 rfl ?_
      refine r_aload_n F dX12_wayless_13 rfl ?_
      refine r_iload_n F dX12_wayless_14 rfl ?_
      obtain ⟨q6, hq7, hz⟩ := e_bd hz
      refine r_callV F dX12_wayless_15 (b := 72) (dc := 0) (ds := 0) (As := [.int v3.2]) (S0 := [.int v3.1]) lkX12_269 mX12_way (tX12_way_72 hG (la := x_l X) (h := e_up h []) hnx h72 h83 h84 hq7) rfl rfl rfl (e_le rfl) (e_le rfl) (e_le rfl) h72 (ci := 12) e_cl12.1 rfl (e_le rfl) (e_lt hnx rfl) (Nat.zero_le _) (Nat.zero_le _) (e_k ?_)
      refine r_wr0 ?_
      refine r_iconst F dX12_wayless_18 (v := (-1)) (by decide) ?_
      obtain ⟨q8, hq9, hz⟩ := e_bd hz
      have Jq8 : eRun G X 27 [some (.ref 72), none, some (.int v3.2)] [.int (e_b q8), .int v3.1] h [] nx 0 0 := by
        refine r_iadd F dX12_wayless_27 ?_
        refine r_istore_n F dX12_wayless_28 (e_le rfl) (L' := [some (.ref 72), some (.int (v3.1 + (e_b q8))), some (.int v3.2)]) rfl ?_
        refine r_inc F dX12_wayless_29 (k9 := 1) (by decide) rfl (L' := [some (.ref 72), some (.int (v3.1 + (e_b q8))), some (.int (v3.2 + 1))]) rfl ?_
        refine r_goto F dX12_wayless_32 (tgt := 4) (by decide) ?_
        obtain rfl := Option.some.inj hz
        exact ih (v3.1 + (e_b q8), v3.2 + 1) rfl
      refine r_icmp_ne F dX12_wayless_19 (tgt := 26) (by decide) (fun hc => ?_) (fun hc => ?_)
      · have hq9 := e_f hc hq9
        refine r_iconst F dX12_wayless_26 (v := 0) (by decide) ?_
        refine r_drop 1 (L' := [some (.ref 72), none, some (.int v3.2)]) rfl ?_
        obtain rfl := Option.some.inj hq9
        exact Jq8
      · have hq9 := e_t hc hq9
        refine r_iconst F dX12_wayless_22 (v := 1) (by decide) ?_
        refine r_goto F dX12_wayless_23 (tgt := 27) (by decide) ?_
        refine r_drop 1 (L' := [some (.ref 72), none, some (.int v3.2)]) rfl ?_
        obtain rfl := Option.some.inj hq9
        exact Jq8
  · show eRun G X 35 [none, some (.int x4), none] [] h [] nx 0 0
    refine r_iload_n F dX12_wayless_35 rfl ?_
    obtain rfl := Option.some.inj hf
    exact r_iret F hq dX12_wayless_36 rfl rfl (Nat.le_refl _) (Nat.le_refl _) ⟨rfl, rfl⟩

def fX12_rule (a72_0 : Int32) (a72_21 : Int32) (a72_22 : Int32) (a72_29 : Int32) (a72_44 : Int32) (A79 : Nat → Int32) (A80 : Nat → Int32) (A81 : Nat → Int32) (A82 : Nat → Int32) (A83 : Nat → Int32) (A84 : Nat → Int32) (A85 : Nat → Int32) (A91 : Nat → Int32) (A92 : Nat → Int32) (p0 : Int32) : Option (Int32 × Int32 × Int32 × Int32 × (Nat → Int32) × (Nat → Int32) × (Nat → Int32) × (Nat → Int32) × (Nat → Int32) × (Nat → Int32) × (Nat → Int32)) :=
  (fX12_isCrystal a72_21).bind (fun q1 =>
  if q1 = true then
    (fX12_laysCores a72_21 a72_22 a72_29 A79 A80 A81 A82 A83 A84 A85).bind (fun q3 =>
    if p0 = 0 then
      some (a72_21, 0, q3.2.1, a72_44, q3.2.2.1, q3.2.2.2.1, q3.2.2.2.2.1, q3.2.2.2.2.2.1, q3.2.2.2.2.2.2, A91, A92)
    else
      if p0 = 1 then
        some (a72_22, 0, q3.2.1, a72_44, q3.2.2.1, q3.2.2.2.1, q3.2.2.2.2.1, q3.2.2.2.2.2.1, q3.2.2.2.2.2.2, A91, A92)
      else
        if p0 = 2 then
          some (A80 (tn 0), 0, q3.2.1, a72_44, q3.2.2.1, q3.2.2.2.1, q3.2.2.2.2.1, q3.2.2.2.2.2.1, q3.2.2.2.2.2.2, A91, A92)
        else
          if p0 = 3 then
            some (A80 (tn 1), 0, q3.2.1, a72_44, q3.2.2.1, q3.2.2.2.1, q3.2.2.2.2.1, q3.2.2.2.2.2.1, q3.2.2.2.2.2.2, A91, A92)
          else
            if p0 = 4 then
              some (A80 (tn 2), 0, q3.2.1, a72_44, q3.2.2.1, q3.2.2.2.1, q3.2.2.2.2.1, q3.2.2.2.2.2.1, q3.2.2.2.2.2.2, A91, A92)
            else
              if p0 = 5 then
                some (A80 (tn 3), 0, q3.2.1, a72_44, q3.2.2.1, q3.2.2.2.1, q3.2.2.2.2.1, q3.2.2.2.2.2.1, q3.2.2.2.2.2.2, A91, A92)
              else
                if p0 = 6 then
                  some (q3.2.1, 0, q3.2.1, a72_44, q3.2.2.1, q3.2.2.2.1, q3.2.2.2.2.1, q3.2.2.2.2.2.1, q3.2.2.2.2.2.2, A91, A92)
                else
                  if p0 = 7 then
                    (fX12_slipped a72_21 a72_22 A79).bind (fun q5 =>
                    some (q5, 0, q3.2.1, a72_44, q3.2.2.1, q3.2.2.2.1, q3.2.2.2.2.1, q3.2.2.2.2.2.1, q3.2.2.2.2.2.2, A91, A92))
                  else
                    if p0 = 8 then
                      some (A79 (tn 325), 0, q3.2.1, a72_44, q3.2.2.1, q3.2.2.2.1, q3.2.2.2.2.1, q3.2.2.2.2.2.1, q3.2.2.2.2.2.2, A91, A92)
                    else
                      if p0 = 9 then
                        (fX12_sumRound A79 0 0 (a72_21 - 1) (a72_22 - 1) 0).bind (fun q7 =>
                        some (q7, 0, q3.2.1, a72_44, q3.2.2.1, q3.2.2.2.1, q3.2.2.2.2.1, q3.2.2.2.2.2.1, q3.2.2.2.2.2.2, A91, A92))
                      else
                        if p0 = 10 then
                          (fX12_sumRound A79 0 0 (a72_21 - 1) (a72_22 - 1) 1).bind (fun q9 =>
                          some (q9, 0, q3.2.1, a72_44, q3.2.2.1, q3.2.2.2.1, q3.2.2.2.2.1, q3.2.2.2.2.2.1, q3.2.2.2.2.2.2, A91, A92))
                        else
                          if p0 = 11 then
                            (fX12_energy q3.2.1 q3.2.2.1 q3.2.2.2.1 q3.2.2.2.2.1 q3.2.2.2.2.2.1).bind (fun q11 =>
                            some (q11, 0, q3.2.1, a72_44, q3.2.2.1, q3.2.2.2.1, q3.2.2.2.2.1, q3.2.2.2.2.2.1, q3.2.2.2.2.2.2, A91, A92))
                          else
                            if p0 = 12 then
                              (fX12_laysWalls a72_21 a72_22 a72_44 A79 A91 A92).bind (fun q13 =>
                              some (q13.1, 0, q3.2.1, q13.2.1, q3.2.2.1, q3.2.2.2.1, q3.2.2.2.2.1, q3.2.2.2.2.2.1, q3.2.2.2.2.2.2, q13.2.2.1, q13.2.2.2))
                            else
                              if p0 = 13 then
                                (fX12_wayless q3.2.1 q3.2.2.2.2.1 q3.2.2.2.2.2.1).bind (fun q15 =>
                                some (q15, 0, q3.2.1, a72_44, q3.2.2.1, q3.2.2.2.1, q3.2.2.2.2.1, q3.2.2.2.2.2.1, q3.2.2.2.2.2.2, A91, A92))
                              else
                                some ((-1000000), 0, q3.2.1, a72_44, q3.2.2.1, q3.2.2.2.1, q3.2.2.2.2.1, q3.2.2.2.2.2.1, q3.2.2.2.2.2.2, A91, A92))
  else
    some ((-1000000), 0, a72_29, a72_44, A81, A82, A83, A84, A85, A91, A92))
set_option maxRecDepth 100000 in
theorem tX12_rule_72 {G : eG} (hG : e_GS G) {la : Launch} {h : Nat → eO} {nx : Nat} (hnx : 99 ≤ nx) {a72_0 : Int32} {a72_2 : Int32} {a72_3 : Int32} {a72_4 : Int32} {a72_5 : Int32} {a72_6 : Int32} {a72_7 : Int32} {a72_8 : Bool} {a72_9 : Int32} {a72_10 : Int32} {a72_11 : Int32} {a72_17 : Bool} {a72_18 : Bool} {a72_19 : Bool} {a72_21 : Int32} {a72_22 : Int32} {a72_29 : Int32} {a72_31 : Int32} {a72_35 : Int32} {a72_37 : Bool} {a72_38 : Int32} {a72_39 : Int32} {a72_40 : Int32} {a72_41 : Int64} {a72_44 : Int32} {a72_50 : Bool} {A79 : Nat → Int32} {A80 : Nat → Int32} {A81 : Nat → Int32} {A82 : Nat → Int32} {A83 : Nat → Int32} {A84 : Nat → Int32} {A85 : Nat → Int32} {A91 : Nat → Int32} {A92 : Nat → Int32} {p0 : Int32} (h72 : h 72 = o72 a72_0 a72_2 a72_3 a72_4 a72_5 a72_6 a72_7 a72_8 a72_9 a72_10 a72_11 a72_17 a72_18 a72_19 a72_21 a72_22 a72_29 a72_31 a72_35 a72_37 a72_38 a72_39 a72_40 a72_41 a72_44 a72_50) (h79 : h 79 = o79 A79) (h80 : h 80 = o80 A80) (h81 : h 81 = o81 A81) (h82 : h 82 = o82 A82) (h83 : h 83 = o83 A83) (h84 : h 84 = o84 A84) (h85 : h 85 = o85 A85) (h91 : h 91 = o91 A91) (h92 : h 92 = o92 A92) {R9 : Int32 × Int32 × Int32 × Int32 × (Nat → Int32) × (Nat → Int32) × (Nat → Int32) × (Nat → Int32) × (Nat → Int32) × (Nat → Int32) × (Nat → Int32)} (hf : fX12_rule a72_0 a72_21 a72_22 a72_29 a72_44 A79 A80 A81 A82 A83 A84 A85 A91 A92 p0 = some R9) :
    eSem G la MX12_rule [.ref 72, .int p0] h nx 0 0 (fun r9 h9 => r9 = some (.int R9.1) ∧ h9 = e_up h [(72, o72 R9.2.1 a72_2 a72_3 a72_4 a72_5 a72_6 a72_7 a72_8 a72_9 a72_10 a72_11 a72_17 a72_18 a72_19 a72_21 a72_22 R9.2.2.1 a72_31 a72_35 a72_37 a72_38 a72_39 a72_40 a72_41 R9.2.2.2.1 a72_50), (81, o81 R9.2.2.2.2.1), (82, o82 R9.2.2.2.2.2.1), (83, o83 R9.2.2.2.2.2.2.1), (84, o84 R9.2.2.2.2.2.2.2.1), (85, o85 R9.2.2.2.2.2.2.2.2.1), (91, o91 R9.2.2.2.2.2.2.2.2.2.1), (92, o92 R9.2.2.2.2.2.2.2.2.2.2)]) := by
  refine eSem.of (k := 0) (L := [some (.ref 72), some (.int p0)]) (by decide +kernel) rfl rfl (fun X F hxl hq hcR hsR => ?_)
  subst hxl
  unfold fX12_rule at hf
  refine r_aload_n F dX12_rule_0 rfl ?_
  refine r_iconst F dX12_rule_1 (v := 0) (by decide) ?_
  refine r_put F dX12_rule_2 flX12_86 rfl rfl rfl h72 (e_le rfl) (e_le rfl) (e_lt hnx rfl) (l' := [(72, o72 0 a72_2 a72_3 a72_4 a72_5 a72_6 a72_7 a72_8 a72_9 a72_10 a72_11 a72_17 a72_18 a72_19 a72_21 a72_22 a72_29 a72_31 a72_35 a72_37 a72_38 a72_39 a72_40 a72_41 a72_44 a72_50)]) rfl ?_
  refine r_aload_n F dX12_rule_5 rfl ?_
  obtain ⟨q1, hq2, hf⟩ := e_bd hf
  refine r_callV F dX12_rule_6 (b := 72) (dc := 0) (ds := 0) (As := []) (S0 := []) lkX12_306 mX12_isCrystal (tX12_isCrystal_72 hG (la := x_l X) (h := e_up h [(72, o72 0 a72_2 a72_3 a72_4 a72_5 a72_6 a72_7 a72_8 a72_9 a72_10 a72_11 a72_17 a72_18 a72_19 a72_21 a72_22 a72_29 a72_31 a72_35 a72_37 a72_38 a72_39 a72_40 a72_41 a72_44 a72_50)]) hnx rfl hq2) rfl rfl rfl (e_le rfl) (e_le rfl) (e_le rfl) rfl (ci := 12) e_cl12.1 rfl (e_le rfl) (e_lt hnx rfl) (Nat.zero_le _) (Nat.zero_le _) (e_k ?_)
  refine r_wr0 ?_
  refine r_z_ne F dX12_rule_9 (tgt := 16) (by decide) (fun hc => ?_) (fun hc => ?_)
  · have hf := e_t hc hf
    refine r_aload_n F dX12_rule_16 rfl ?_
    obtain ⟨q3, hq4, hf⟩ := e_bd hf
    refine r_callV F dX12_rule_17 (b := 72) (dc := 0) (ds := 0) (As := []) (S0 := []) lkX12_238 mX12_laysCores (tX12_laysCores_72 hG (la := x_l X) (h := e_up h [(72, o72 0 a72_2 a72_3 a72_4 a72_5 a72_6 a72_7 a72_8 a72_9 a72_10 a72_11 a72_17 a72_18 a72_19 a72_21 a72_22 a72_29 a72_31 a72_35 a72_37 a72_38 a72_39 a72_40 a72_41 a72_44 a72_50)]) hnx rfl h79 h80 h81 h82 h83 h84 h85 hq4) rfl rfl rfl (e_le rfl) (e_le rfl) (e_le rfl) rfl (ci := 12) e_cl12.1 rfl (e_le rfl) (e_lt hnx rfl) (Nat.zero_le _) (Nat.zero_le _) (e_k ?_)
    refine r_wr (l' := [(72, o72 0 a72_2 a72_3 a72_4 a72_5 a72_6 a72_7 a72_8 a72_9 a72_10 a72_11 a72_17 a72_18 a72_19 a72_21 a72_22 q3.2.1 a72_31 a72_35 a72_37 a72_38 a72_39 a72_40 a72_41 a72_44 a72_50), (81, o81 q3.2.2.1), (82, o82 q3.2.2.2.1), (83, o83 q3.2.2.2.2.1), (84, o84 q3.2.2.2.2.2.1), (85, o85 q3.2.2.2.2.2.2)]) rfl rfl ?_
    refine r_pop F dX12_rule_20 rfl ?_
    refine r_iload_n F dX12_rule_21 rfl ?_
    refine Classical.byCases (p := p0 = 0) (fun hc => ?_) (fun hk0 => ?_)
    · have hf := e_t hc hf
      refine r_tsIn F dX12_rule_22 (by rw [hc]; decide) (by rw [hc]; decide) (off := 70) (by rw [hc]; decide) (tgt := 92) (by decide) ?_
      refine r_aload_n F dX12_rule_92 rfl ?_
      refine r_get F dX12_rule_93 flX12_205 rfl rfl (e_le rfl) (e_lt hnx rfl) ?_
      refine r_mat (k := 91) h91 (l' := [(72, o72 0 a72_2 a72_3 a72_4 a72_5 a72_6 a72_7 a72_8 a72_9 a72_10 a72_11 a72_17 a72_18 a72_19 a72_21 a72_22 q3.2.1 a72_31 a72_35 a72_37 a72_38 a72_39 a72_40 a72_41 a72_44 a72_50), (81, o81 q3.2.2.1), (82, o82 q3.2.2.2.1), (83, o83 q3.2.2.2.2.1), (84, o84 q3.2.2.2.2.2.1), (85, o85 q3.2.2.2.2.2.2), (91, o91 A91)]) rfl ?_
      refine r_mat (k := 92) h92 (l' := [(72, o72 0 a72_2 a72_3 a72_4 a72_5 a72_6 a72_7 a72_8 a72_9 a72_10 a72_11 a72_17 a72_18 a72_19 a72_21 a72_22 q3.2.1 a72_31 a72_35 a72_37 a72_38 a72_39 a72_40 a72_41 a72_44 a72_50), (81, o81 q3.2.2.1), (82, o82 q3.2.2.2.1), (83, o83 q3.2.2.2.2.1), (84, o84 q3.2.2.2.2.2.1), (85, o85 q3.2.2.2.2.2.2), (91, o91 A91), (92, o92 A92)]) rfl ?_
      obtain rfl := Option.some.inj hf
      exact r_iret F hq dX12_rule_96 rfl rfl (Nat.le_refl _) (Nat.le_refl _) ⟨rfl, rfl⟩
    have hf := e_f hk0 hf
    refine Classical.byCases (p := p0 = 1) (fun hc => ?_) (fun hk1 => ?_)
    · have hf := e_t hc hf
      refine r_tsIn F dX12_rule_22 (by rw [hc]; decide) (by rw [hc]; decide) (off := 75) (by rw [hc]; decide) (tgt := 97) (by decide) ?_
      refine r_aload_n F dX12_rule_97 rfl ?_
      refine r_get F dX12_rule_98 flX12_208 rfl rfl (e_le rfl) (e_lt hnx rfl) ?_
      refine r_mat (k := 91) h91 (l' := [(72, o72 0 a72_2 a72_3 a72_4 a72_5 a72_6 a72_7 a72_8 a72_9 a72_10 a72_11 a72_17 a72_18 a72_19 a72_21 a72_22 q3.2.1 a72_31 a72_35 a72_37 a72_38 a72_39 a72_40 a72_41 a72_44 a72_50), (81, o81 q3.2.2.1), (82, o82 q3.2.2.2.1), (83, o83 q3.2.2.2.2.1), (84, o84 q3.2.2.2.2.2.1), (85, o85 q3.2.2.2.2.2.2), (91, o91 A91)]) rfl ?_
      refine r_mat (k := 92) h92 (l' := [(72, o72 0 a72_2 a72_3 a72_4 a72_5 a72_6 a72_7 a72_8 a72_9 a72_10 a72_11 a72_17 a72_18 a72_19 a72_21 a72_22 q3.2.1 a72_31 a72_35 a72_37 a72_38 a72_39 a72_40 a72_41 a72_44 a72_50), (81, o81 q3.2.2.1), (82, o82 q3.2.2.2.1), (83, o83 q3.2.2.2.2.1), (84, o84 q3.2.2.2.2.2.1), (85, o85 q3.2.2.2.2.2.2), (91, o91 A91), (92, o92 A92)]) rfl ?_
      obtain rfl := Option.some.inj hf
      exact r_iret F hq dX12_rule_101 rfl rfl (Nat.le_refl _) (Nat.le_refl _) ⟨rfl, rfl⟩
    have hf := e_f hk1 hf
    refine Classical.byCases (p := p0 = 2) (fun hc => ?_) (fun hk2 => ?_)
    · have hf := e_t hc hf
      refine r_tsIn F dX12_rule_22 (by rw [hc]; decide) (by rw [hc]; decide) (off := 80) (by rw [hc]; decide) (tgt := 102) (by decide) ?_
      refine r_aload_n F dX12_rule_102 rfl ?_
      refine r_get F dX12_rule_103 flX12_31 rfl rfl (e_le rfl) (e_lt hnx rfl) ?_
      refine r_iconst F dX12_rule_106 (v := 0) (by decide) ?_
      refine r_iald F dX12_rule_107 (i := 0) h80 (e_le rfl) (e_lt hnx rfl) (e_vp (by decide)) ?_
      refine r_mat (k := 91) h91 (l' := [(72, o72 0 a72_2 a72_3 a72_4 a72_5 a72_6 a72_7 a72_8 a72_9 a72_10 a72_11 a72_17 a72_18 a72_19 a72_21 a72_22 q3.2.1 a72_31 a72_35 a72_37 a72_38 a72_39 a72_40 a72_41 a72_44 a72_50), (81, o81 q3.2.2.1), (82, o82 q3.2.2.2.1), (83, o83 q3.2.2.2.2.1), (84, o84 q3.2.2.2.2.2.1), (85, o85 q3.2.2.2.2.2.2), (91, o91 A91)]) rfl ?_
      refine r_mat (k := 92) h92 (l' := [(72, o72 0 a72_2 a72_3 a72_4 a72_5 a72_6 a72_7 a72_8 a72_9 a72_10 a72_11 a72_17 a72_18 a72_19 a72_21 a72_22 q3.2.1 a72_31 a72_35 a72_37 a72_38 a72_39 a72_40 a72_41 a72_44 a72_50), (81, o81 q3.2.2.1), (82, o82 q3.2.2.2.1), (83, o83 q3.2.2.2.2.1), (84, o84 q3.2.2.2.2.2.1), (85, o85 q3.2.2.2.2.2.2), (91, o91 A91), (92, o92 A92)]) rfl ?_
      obtain rfl := Option.some.inj hf
      exact r_iret F hq dX12_rule_108 rfl rfl (Nat.le_refl _) (Nat.le_refl _) ⟨rfl, rfl⟩
    have hf := e_f hk2 hf
    refine Classical.byCases (p := p0 = 3) (fun hc => ?_) (fun hk3 => ?_)
    · have hf := e_t hc hf
      refine r_tsIn F dX12_rule_22 (by rw [hc]; decide) (by rw [hc]; decide) (off := 87) (by rw [hc]; decide) (tgt := 109) (by decide) ?_
      refine r_aload_n F dX12_rule_109 rfl ?_
      refine r_get F dX12_rule_110 flX12_31 rfl rfl (e_le rfl) (e_lt hnx rfl) ?_
      refine r_iconst F dX12_rule_113 (v := 1) (by decide) ?_
      refine r_iald F dX12_rule_114 (i := 1) h80 (e_le rfl) (e_lt hnx rfl) (e_vp (by decide)) ?_
      refine r_mat (k := 91) h91 (l' := [(72, o72 0 a72_2 a72_3 a72_4 a72_5 a72_6 a72_7 a72_8 a72_9 a72_10 a72_11 a72_17 a72_18 a72_19 a72_21 a72_22 q3.2.1 a72_31 a72_35 a72_37 a72_38 a72_39 a72_40 a72_41 a72_44 a72_50), (81, o81 q3.2.2.1), (82, o82 q3.2.2.2.1), (83, o83 q3.2.2.2.2.1), (84, o84 q3.2.2.2.2.2.1), (85, o85 q3.2.2.2.2.2.2), (91, o91 A91)]) rfl ?_
      refine r_mat (k := 92) h92 (l' := [(72, o72 0 a72_2 a72_3 a72_4 a72_5 a72_6 a72_7 a72_8 a72_9 a72_10 a72_11 a72_17 a72_18 a72_19 a72_21 a72_22 q3.2.1 a72_31 a72_35 a72_37 a72_38 a72_39 a72_40 a72_41 a72_44 a72_50), (81, o81 q3.2.2.1), (82, o82 q3.2.2.2.1), (83, o83 q3.2.2.2.2.1), (84, o84 q3.2.2.2.2.2.1), (85, o85 q3.2.2.2.2.2.2), (91, o91 A91), (92, o92 A92)]) rfl ?_
      obtain rfl := Option.some.inj hf
      exact r_iret F hq dX12_rule_115 rfl rfl (Nat.le_refl _) (Nat.le_refl _) ⟨rfl, rfl⟩
    have hf := e_f hk3 hf
    refine Classical.byCases (p := p0 = 4) (fun hc => ?_) (fun hk4 => ?_)
    · have hf := e_t hc hf
      refine r_tsIn F dX12_rule_22 (by rw [hc]; decide) (by rw [hc]; decide) (off := 94) (by rw [hc]; decide) (tgt := 116) (by decide) ?_
      refine r_aload_n F dX12_rule_116 rfl ?_
      refine r_get F dX12_rule_117 flX12_31 rfl rfl (e_le rfl) (e_lt hnx rfl) ?_
      refine r_iconst F dX12_rule_120 (v := 2) (by decide) ?_
      refine r_iald F dX12_rule_121 (i := 2) h80 (e_le rfl) (e_lt hnx rfl) (e_vp (by decide)) ?_
      refine r_mat (k := 91) h91 (l' := [(72, o72 0 a72_2 a72_3 a72_4 a72_5 a72_6 a72_7 a72_8 a72_9 a72_10 a72_11 a72_17 a72_18 a72_19 a72_21 a72_22 q3.2.1 a72_31 a72_35 a72_37 a72_38 a72_39 a72_40 a72_41 a72_44 a72_50), (81, o81 q3.2.2.1), (82, o82 q3.2.2.2.1), (83, o83 q3.2.2.2.2.1), (84, o84 q3.2.2.2.2.2.1), (85, o85 q3.2.2.2.2.2.2), (91, o91 A91)]) rfl ?_
      refine r_mat (k := 92) h92 (l' := [(72, o72 0 a72_2 a72_3 a72_4 a72_5 a72_6 a72_7 a72_8 a72_9 a72_10 a72_11 a72_17 a72_18 a72_19 a72_21 a72_22 q3.2.1 a72_31 a72_35 a72_37 a72_38 a72_39 a72_40 a72_41 a72_44 a72_50), (81, o81 q3.2.2.1), (82, o82 q3.2.2.2.1), (83, o83 q3.2.2.2.2.1), (84, o84 q3.2.2.2.2.2.1), (85, o85 q3.2.2.2.2.2.2), (91, o91 A91), (92, o92 A92)]) rfl ?_
      obtain rfl := Option.some.inj hf
      exact r_iret F hq dX12_rule_122 rfl rfl (Nat.le_refl _) (Nat.le_refl _) ⟨rfl, rfl⟩
    have hf := e_f hk4 hf
    refine Classical.byCases (p := p0 = 5) (fun hc => ?_) (fun hk5 => ?_)
    · have hf := e_t hc hf
      refine r_tsIn F dX12_rule_22 (by rw [hc]; decide) (by rw [hc]; decide) (off := 101) (by rw [hc]; decide) (tgt := 123) (by decide) ?_
      refine r_aload_n F dX12_rule_123 rfl ?_
      refine r_get F dX12_rule_124 flX12_31 rfl rfl (e_le rfl) (e_lt hnx rfl) ?_
      refine r_iconst F dX12_rule_127 (v := 3) (by decide) ?_
      refine r_iald F dX12_rule_128 (i := 3) h80 (e_le rfl) (e_lt hnx rfl) (e_vp (by decide)) ?_
      refine r_mat (k := 91) h91 (l' := [(72, o72 0 a72_2 a72_3 a72_4 a72_5 a72_6 a72_7 a72_8 a72_9 a72_10 a72_11 a72_17 a72_18 a72_19 a72_21 a72_22 q3.2.1 a72_31 a72_35 a72_37 a72_38 a72_39 a72_40 a72_41 a72_44 a72_50), (81, o81 q3.2.2.1), (82, o82 q3.2.2.2.1), (83, o83 q3.2.2.2.2.1), (84, o84 q3.2.2.2.2.2.1), (85, o85 q3.2.2.2.2.2.2), (91, o91 A91)]) rfl ?_
      refine r_mat (k := 92) h92 (l' := [(72, o72 0 a72_2 a72_3 a72_4 a72_5 a72_6 a72_7 a72_8 a72_9 a72_10 a72_11 a72_17 a72_18 a72_19 a72_21 a72_22 q3.2.1 a72_31 a72_35 a72_37 a72_38 a72_39 a72_40 a72_41 a72_44 a72_50), (81, o81 q3.2.2.1), (82, o82 q3.2.2.2.1), (83, o83 q3.2.2.2.2.1), (84, o84 q3.2.2.2.2.2.1), (85, o85 q3.2.2.2.2.2.2), (91, o91 A91), (92, o92 A92)]) rfl ?_
      obtain rfl := Option.some.inj hf
      exact r_iret F hq dX12_rule_129 rfl rfl (Nat.le_refl _) (Nat.le_refl _) ⟨rfl, rfl⟩
    have hf := e_f hk5 hf
    refine Classical.byCases (p := p0 = 6) (fun hc => ?_) (fun hk6 => ?_)
    · have hf := e_t hc hf
      refine r_tsIn F dX12_rule_22 (by rw [hc]; decide) (by rw [hc]; decide) (off := 108) (by rw [hc]; decide) (tgt := 130) (by decide) ?_
      refine r_aload_n F dX12_rule_130 rfl ?_
      refine r_get F dX12_rule_131 flX12_241 rfl rfl (e_le rfl) (e_lt hnx rfl) ?_
      refine r_mat (k := 91) h91 (l' := [(72, o72 0 a72_2 a72_3 a72_4 a72_5 a72_6 a72_7 a72_8 a72_9 a72_10 a72_11 a72_17 a72_18 a72_19 a72_21 a72_22 q3.2.1 a72_31 a72_35 a72_37 a72_38 a72_39 a72_40 a72_41 a72_44 a72_50), (81, o81 q3.2.2.1), (82, o82 q3.2.2.2.1), (83, o83 q3.2.2.2.2.1), (84, o84 q3.2.2.2.2.2.1), (85, o85 q3.2.2.2.2.2.2), (91, o91 A91)]) rfl ?_
      refine r_mat (k := 92) h92 (l' := [(72, o72 0 a72_2 a72_3 a72_4 a72_5 a72_6 a72_7 a72_8 a72_9 a72_10 a72_11 a72_17 a72_18 a72_19 a72_21 a72_22 q3.2.1 a72_31 a72_35 a72_37 a72_38 a72_39 a72_40 a72_41 a72_44 a72_50), (81, o81 q3.2.2.1), (82, o82 q3.2.2.2.1), (83, o83 q3.2.2.2.2.1), (84, o84 q3.2.2.2.2.2.1), (85, o85 q3.2.2.2.2.2.2), (91, o91 A91), (92, o92 A92)]) rfl ?_
      obtain rfl := Option.some.inj hf
      exact r_iret F hq dX12_rule_134 rfl rfl (Nat.le_refl _) (Nat.le_refl _) ⟨rfl, rfl⟩
    have hf := e_f hk6 hf
    refine Classical.byCases (p := p0 = 7) (fun hc => ?_) (fun hk7 => ?_)
    · have hf := e_t hc hf
      refine r_tsIn F dX12_rule_22 (by rw [hc]; decide) (by rw [hc]; decide) (off := 113) (by rw [hc]; decide) (tgt := 135) (by decide) ?_
      refine r_aload_n F dX12_rule_135 rfl ?_
      obtain ⟨q5, hq6, hf⟩ := e_bd hf
      refine r_callV F dX12_rule_136 (b := 72) (dc := 0) (ds := 0) (As := []) (S0 := []) lkX12_311 mX12_slipped (tX12_slipped_72 hG (la := x_l X) (h := e_up h [(72, o72 0 a72_2 a72_3 a72_4 a72_5 a72_6 a72_7 a72_8 a72_9 a72_10 a72_11 a72_17 a72_18 a72_19 a72_21 a72_22 q3.2.1 a72_31 a72_35 a72_37 a72_38 a72_39 a72_40 a72_41 a72_44 a72_50), (81, o81 q3.2.2.1), (82, o82 q3.2.2.2.1), (83, o83 q3.2.2.2.2.1), (84, o84 q3.2.2.2.2.2.1), (85, o85 q3.2.2.2.2.2.2)]) hnx rfl h79 hq6) rfl rfl rfl (e_le rfl) (e_le rfl) (e_le rfl) rfl (ci := 12) e_cl12.1 rfl (e_le rfl) (e_lt hnx rfl) (Nat.zero_le _) (Nat.zero_le _) (e_k ?_)
      refine r_wr0 ?_
      refine r_mat (k := 91) h91 (l' := [(72, o72 0 a72_2 a72_3 a72_4 a72_5 a72_6 a72_7 a72_8 a72_9 a72_10 a72_11 a72_17 a72_18 a72_19 a72_21 a72_22 q3.2.1 a72_31 a72_35 a72_37 a72_38 a72_39 a72_40 a72_41 a72_44 a72_50), (81, o81 q3.2.2.1), (82, o82 q3.2.2.2.1), (83, o83 q3.2.2.2.2.1), (84, o84 q3.2.2.2.2.2.1), (85, o85 q3.2.2.2.2.2.2), (91, o91 A91)]) rfl ?_
      refine r_mat (k := 92) h92 (l' := [(72, o72 0 a72_2 a72_3 a72_4 a72_5 a72_6 a72_7 a72_8 a72_9 a72_10 a72_11 a72_17 a72_18 a72_19 a72_21 a72_22 q3.2.1 a72_31 a72_35 a72_37 a72_38 a72_39 a72_40 a72_41 a72_44 a72_50), (81, o81 q3.2.2.1), (82, o82 q3.2.2.2.1), (83, o83 q3.2.2.2.2.1), (84, o84 q3.2.2.2.2.2.1), (85, o85 q3.2.2.2.2.2.2), (91, o91 A91), (92, o92 A92)]) rfl ?_
      obtain rfl := Option.some.inj hf
      exact r_iret F hq dX12_rule_139 rfl rfl (Nat.le_refl _) (Nat.le_refl _) ⟨rfl, rfl⟩
    have hf := e_f hk7 hf
    refine Classical.byCases (p := p0 = 8) (fun hc => ?_) (fun hk8 => ?_)
    · have hf := e_t hc hf
      refine r_tsIn F dX12_rule_22 (by rw [hc]; decide) (by rw [hc]; decide) (off := 118) (by rw [hc]; decide) (tgt := 140) (by decide) ?_
      refine r_aload_n F dX12_rule_140 rfl ?_
      refine r_get F dX12_rule_141 flX12_28 rfl rfl (e_le rfl) (e_lt hnx rfl) ?_
      refine r_sipush F dX12_rule_144 (v := 325) (by decide) ?_
      refine r_iald F dX12_rule_147 (i := 325) h79 (e_le rfl) (e_lt hnx rfl) (e_vp (by decide)) ?_
      refine r_mat (k := 91) h91 (l' := [(72, o72 0 a72_2 a72_3 a72_4 a72_5 a72_6 a72_7 a72_8 a72_9 a72_10 a72_11 a72_17 a72_18 a72_19 a72_21 a72_22 q3.2.1 a72_31 a72_35 a72_37 a72_38 a72_39 a72_40 a72_41 a72_44 a72_50), (81, o81 q3.2.2.1), (82, o82 q3.2.2.2.1), (83, o83 q3.2.2.2.2.1), (84, o84 q3.2.2.2.2.2.1), (85, o85 q3.2.2.2.2.2.2), (91, o91 A91)]) rfl ?_
      refine r_mat (k := 92) h92 (l' := [(72, o72 0 a72_2 a72_3 a72_4 a72_5 a72_6 a72_7 a72_8 a72_9 a72_10 a72_11 a72_17 a72_18 a72_19 a72_21 a72_22 q3.2.1 a72_31 a72_35 a72_37 a72_38 a72_39 a72_40 a72_41 a72_44 a72_50), (81, o81 q3.2.2.1), (82, o82 q3.2.2.2.1), (83, o83 q3.2.2.2.2.1), (84, o84 q3.2.2.2.2.2.1), (85, o85 q3.2.2.2.2.2.2), (91, o91 A91), (92, o92 A92)]) rfl ?_
      obtain rfl := Option.some.inj hf
      exact r_iret F hq dX12_rule_148 rfl rfl (Nat.le_refl _) (Nat.le_refl _) ⟨rfl, rfl⟩
    have hf := e_f hk8 hf
    refine Classical.byCases (p := p0 = 9) (fun hc => ?_) (fun hk9 => ?_)
    · have hf := e_t hc hf
      refine r_tsIn F dX12_rule_22 (by rw [hc]; decide) (by rw [hc]; decide) (off := 127) (by rw [hc]; decide) (tgt := 149) (by decide) ?_
      refine r_aload_n F dX12_rule_149 rfl ?_
      refine r_iconst F dX12_rule_150 (v := 0) (by decide) ?_
      refine r_iconst F dX12_rule_151 (v := 0) (by decide) ?_
      refine r_aload_n F dX12_rule_152 rfl ?_
      refine r_get F dX12_rule_153 flX12_205 rfl rfl (e_le rfl) (e_lt hnx rfl) ?_
      refine r_iconst F dX12_rule_156 (v := 1) (by decide) ?_
      refine r_isub F dX12_rule_157 ?_
      refine r_aload_n F dX12_rule_158 rfl ?_
      refine r_get F dX12_rule_159 flX12_208 rfl rfl (e_le rfl) (e_lt hnx rfl) ?_
      refine r_iconst F dX12_rule_162 (v := 1) (by decide) ?_
      refine r_isub F dX12_rule_163 ?_
      refine r_iconst F dX12_rule_164 (v := 0) (by decide) ?_
      obtain ⟨q7, hq8, hf⟩ := e_bd hf
      refine r_callV F dX12_rule_165 (b := 72) (dc := 0) (ds := 0) (As := [.int 0, .int 0, .int (a72_21 - 1), .int (a72_22 - 1), .int 0]) (S0 := []) lkX12_314 mX12_sumRound (tX12_sumRound_72 hG (la := x_l X) (h := e_up h [(72, o72 0 a72_2 a72_3 a72_4 a72_5 a72_6 a72_7 a72_8 a72_9 a72_10 a72_11 a72_17 a72_18 a72_19 a72_21 a72_22 q3.2.1 a72_31 a72_35 a72_37 a72_38 a72_39 a72_40 a72_41 a72_44 a72_50), (81, o81 q3.2.2.1), (82, o82 q3.2.2.2.1), (83, o83 q3.2.2.2.2.1), (84, o84 q3.2.2.2.2.2.1), (85, o85 q3.2.2.2.2.2.2)]) hnx rfl h79 hq8) rfl rfl rfl (e_le rfl) (e_le rfl) (e_le rfl) rfl (ci := 12) e_cl12.1 rfl (e_le rfl) (e_lt hnx rfl) (Nat.zero_le _) (Nat.zero_le _) (e_k ?_)
      refine r_wr0 ?_
      refine r_mat (k := 91) h91 (l' := [(72, o72 0 a72_2 a72_3 a72_4 a72_5 a72_6 a72_7 a72_8 a72_9 a72_10 a72_11 a72_17 a72_18 a72_19 a72_21 a72_22 q3.2.1 a72_31 a72_35 a72_37 a72_38 a72_39 a72_40 a72_41 a72_44 a72_50), (81, o81 q3.2.2.1), (82, o82 q3.2.2.2.1), (83, o83 q3.2.2.2.2.1), (84, o84 q3.2.2.2.2.2.1), (85, o85 q3.2.2.2.2.2.2), (91, o91 A91)]) rfl ?_
      refine r_mat (k := 92) h92 (l' := [(72, o72 0 a72_2 a72_3 a72_4 a72_5 a72_6 a72_7 a72_8 a72_9 a72_10 a72_11 a72_17 a72_18 a72_19 a72_21 a72_22 q3.2.1 a72_31 a72_35 a72_37 a72_38 a72_39 a72_40 a72_41 a72_44 a72_50), (81, o81 q3.2.2.1), (82, o82 q3.2.2.2.1), (83, o83 q3.2.2.2.2.1), (84, o84 q3.2.2.2.2.2.1), (85, o85 q3.2.2.2.2.2.2), (91, o91 A91), (92, o92 A92)]) rfl ?_
      obtain rfl := Option.some.inj hf
      exact r_iret F hq dX12_rule_168 rfl rfl (Nat.le_refl _) (Nat.le_refl _) ⟨rfl, rfl⟩
    have hf := e_f hk9 hf
    refine Classical.byCases (p := p0 = 10) (fun hc => ?_) (fun hk10 => ?_)
    · have hf := e_t hc hf
      refine r_tsIn F dX12_rule_22 (by rw [hc]; decide) (by rw [hc]; decide) (off := 147) (by rw [hc]; decide) (tgt := 169) (by decide) ?_
      refine r_aload_n F dX12_rule_169 rfl ?_
      refine r_iconst F dX12_rule_170 (v := 0) (by decide) ?_
      refine r_iconst F dX12_rule_171 (v := 0) (by decide) ?_
      refine r_aload_n F dX12_rule_172 rfl ?_
      refine r_get F dX12_rule_173 flX12_205 rfl rfl (e_le rfl) (e_lt hnx rfl) ?_
      refine r_iconst F dX12_rule_176 (v := 1) (by decide) ?_
      refine r_isub F dX12_rule_177 ?_
      refine r_aload_n F dX12_rule_178 rfl ?_
      refine r_get F dX12_rule_179 flX12_208 rfl rfl (e_le rfl) (e_lt hnx rfl) ?_
      refine r_iconst F dX12_rule_182 (v := 1) (by decide) ?_
      refine r_isub F dX12_rule_183 ?_
      refine r_iconst F dX12_rule_184 (v := 1) (by decide) ?_
      obtain ⟨q9, hq10, hf⟩ := e_bd hf
      refine r_callV F dX12_rule_185 (b := 72) (dc := 0) (ds := 0) (As := [.int 0, .int 0, .int (a72_21 - 1), .int (a72_22 - 1), .int 1]) (S0 := []) lkX12_314 mX12_sumRound (tX12_sumRound_72 hG (la := x_l X) (h := e_up h [(72, o72 0 a72_2 a72_3 a72_4 a72_5 a72_6 a72_7 a72_8 a72_9 a72_10 a72_11 a72_17 a72_18 a72_19 a72_21 a72_22 q3.2.1 a72_31 a72_35 a72_37 a72_38 a72_39 a72_40 a72_41 a72_44 a72_50), (81, o81 q3.2.2.1), (82, o82 q3.2.2.2.1), (83, o83 q3.2.2.2.2.1), (84, o84 q3.2.2.2.2.2.1), (85, o85 q3.2.2.2.2.2.2)]) hnx rfl h79 hq10) rfl rfl rfl (e_le rfl) (e_le rfl) (e_le rfl) rfl (ci := 12) e_cl12.1 rfl (e_le rfl) (e_lt hnx rfl) (Nat.zero_le _) (Nat.zero_le _) (e_k ?_)
      refine r_wr0 ?_
      refine r_mat (k := 91) h91 (l' := [(72, o72 0 a72_2 a72_3 a72_4 a72_5 a72_6 a72_7 a72_8 a72_9 a72_10 a72_11 a72_17 a72_18 a72_19 a72_21 a72_22 q3.2.1 a72_31 a72_35 a72_37 a72_38 a72_39 a72_40 a72_41 a72_44 a72_50), (81, o81 q3.2.2.1), (82, o82 q3.2.2.2.1), (83, o83 q3.2.2.2.2.1), (84, o84 q3.2.2.2.2.2.1), (85, o85 q3.2.2.2.2.2.2), (91, o91 A91)]) rfl ?_
      refine r_mat (k := 92) h92 (l' := [(72, o72 0 a72_2 a72_3 a72_4 a72_5 a72_6 a72_7 a72_8 a72_9 a72_10 a72_11 a72_17 a72_18 a72_19 a72_21 a72_22 q3.2.1 a72_31 a72_35 a72_37 a72_38 a72_39 a72_40 a72_41 a72_44 a72_50), (81, o81 q3.2.2.1), (82, o82 q3.2.2.2.1), (83, o83 q3.2.2.2.2.1), (84, o84 q3.2.2.2.2.2.1), (85, o85 q3.2.2.2.2.2.2), (91, o91 A91), (92, o92 A92)]) rfl ?_
      obtain rfl := Option.some.inj hf
      exact r_iret F hq dX12_rule_188 rfl rfl (Nat.le_refl _) (Nat.le_refl _) ⟨rfl, rfl⟩
    have hf := e_f hk10 hf
    refine Classical.byCases (p := p0 = 11) (fun hc => ?_) (fun hk11 => ?_)
    · have hf := e_t hc hf
      refine r_tsIn F dX12_rule_22 (by rw [hc]; decide) (by rw [hc]; decide) (off := 167) (by rw [hc]; decide) (tgt := 189) (by decide) ?_
      refine r_aload_n F dX12_rule_189 rfl ?_
      obtain ⟨q11, hq12, hf⟩ := e_bd hf
      refine r_callV F dX12_rule_190 (b := 72) (dc := 0) (ds := 0) (As := []) (S0 := []) lkX12_318 mX12_energy (tX12_energy_72 hG (la := x_l X) (h := e_up h [(72, o72 0 a72_2 a72_3 a72_4 a72_5 a72_6 a72_7 a72_8 a72_9 a72_10 a72_11 a72_17 a72_18 a72_19 a72_21 a72_22 q3.2.1 a72_31 a72_35 a72_37 a72_38 a72_39 a72_40 a72_41 a72_44 a72_50), (81, o81 q3.2.2.1), (82, o82 q3.2.2.2.1), (83, o83 q3.2.2.2.2.1), (84, o84 q3.2.2.2.2.2.1), (85, o85 q3.2.2.2.2.2.2)]) hnx rfl rfl rfl rfl rfl hq12) rfl rfl rfl (e_le rfl) (e_le rfl) (e_le rfl) rfl (ci := 12) e_cl12.1 rfl (e_le rfl) (e_lt hnx rfl) (Nat.zero_le _) (Nat.zero_le _) (e_k ?_)
      refine r_wr0 ?_
      refine r_mat (k := 91) h91 (l' := [(72, o72 0 a72_2 a72_3 a72_4 a72_5 a72_6 a72_7 a72_8 a72_9 a72_10 a72_11 a72_17 a72_18 a72_19 a72_21 a72_22 q3.2.1 a72_31 a72_35 a72_37 a72_38 a72_39 a72_40 a72_41 a72_44 a72_50), (81, o81 q3.2.2.1), (82, o82 q3.2.2.2.1), (83, o83 q3.2.2.2.2.1), (84, o84 q3.2.2.2.2.2.1), (85, o85 q3.2.2.2.2.2.2), (91, o91 A91)]) rfl ?_
      refine r_mat (k := 92) h92 (l' := [(72, o72 0 a72_2 a72_3 a72_4 a72_5 a72_6 a72_7 a72_8 a72_9 a72_10 a72_11 a72_17 a72_18 a72_19 a72_21 a72_22 q3.2.1 a72_31 a72_35 a72_37 a72_38 a72_39 a72_40 a72_41 a72_44 a72_50), (81, o81 q3.2.2.1), (82, o82 q3.2.2.2.1), (83, o83 q3.2.2.2.2.1), (84, o84 q3.2.2.2.2.2.1), (85, o85 q3.2.2.2.2.2.2), (91, o91 A91), (92, o92 A92)]) rfl ?_
      obtain rfl := Option.some.inj hf
      exact r_iret F hq dX12_rule_193 rfl rfl (Nat.le_refl _) (Nat.le_refl _) ⟨rfl, rfl⟩
    have hf := e_f hk11 hf
    refine Classical.byCases (p := p0 = 12) (fun hc => ?_) (fun hk12 => ?_)
    · have hf := e_t hc hf
      refine r_tsIn F dX12_rule_22 (by rw [hc]; decide) (by rw [hc]; decide) (off := 172) (by rw [hc]; decide) (tgt := 194) (by decide) ?_
      refine r_aload_n F dX12_rule_194 rfl ?_
      obtain ⟨q13, hq14, hf⟩ := e_bd hf
      refine r_callV F dX12_rule_195 (b := 72) (dc := 0) (ds := 0) (As := []) (S0 := []) lkX12_321 mX12_laysWalls (tX12_laysWalls_72 hG (la := x_l X) (h := e_up h [(72, o72 0 a72_2 a72_3 a72_4 a72_5 a72_6 a72_7 a72_8 a72_9 a72_10 a72_11 a72_17 a72_18 a72_19 a72_21 a72_22 q3.2.1 a72_31 a72_35 a72_37 a72_38 a72_39 a72_40 a72_41 a72_44 a72_50), (81, o81 q3.2.2.1), (82, o82 q3.2.2.2.1), (83, o83 q3.2.2.2.2.1), (84, o84 q3.2.2.2.2.2.1), (85, o85 q3.2.2.2.2.2.2)]) hnx rfl h79 h91 h92 hq14) rfl rfl rfl (e_le rfl) (e_le rfl) (e_le rfl) rfl (ci := 12) e_cl12.1 rfl (e_le rfl) (e_lt hnx rfl) (Nat.zero_le _) (Nat.zero_le _) (e_k ?_)
      refine r_wr (l' := [(72, o72 0 a72_2 a72_3 a72_4 a72_5 a72_6 a72_7 a72_8 a72_9 a72_10 a72_11 a72_17 a72_18 a72_19 a72_21 a72_22 q3.2.1 a72_31 a72_35 a72_37 a72_38 a72_39 a72_40 a72_41 q13.2.1 a72_50), (81, o81 q3.2.2.1), (82, o82 q3.2.2.2.1), (83, o83 q3.2.2.2.2.1), (84, o84 q3.2.2.2.2.2.1), (85, o85 q3.2.2.2.2.2.2), (91, o91 q13.2.2.1), (92, o92 q13.2.2.2)]) rfl rfl ?_
      obtain rfl := Option.some.inj hf
      exact r_iret F hq dX12_rule_198 rfl rfl (Nat.le_refl _) (Nat.le_refl _) ⟨rfl, rfl⟩
    have hf := e_f hk12 hf
    refine Classical.byCases (p := p0 = 13) (fun hc => ?_) (fun hk13 => ?_)
    · have hf := e_t hc hf
      refine r_tsIn F dX12_rule_22 (by rw [hc]; decide) (by rw [hc]; decide) (off := 177) (by rw [hc]; decide) (tgt := 199) (by decide) ?_
      refine r_aload_n F dX12_rule_199 rfl ?_
      obtain ⟨q15, hq16, hf⟩ := e_bd hf
      refine r_callV F dX12_rule_200 (b := 72) (dc := 0) (ds := 0) (As := []) (S0 := []) lkX12_324 mX12_wayless (tX12_wayless_72 hG (la := x_l X) (h := e_up h [(72, o72 0 a72_2 a72_3 a72_4 a72_5 a72_6 a72_7 a72_8 a72_9 a72_10 a72_11 a72_17 a72_18 a72_19 a72_21 a72_22 q3.2.1 a72_31 a72_35 a72_37 a72_38 a72_39 a72_40 a72_41 a72_44 a72_50), (81, o81 q3.2.2.1), (82, o82 q3.2.2.2.1), (83, o83 q3.2.2.2.2.1), (84, o84 q3.2.2.2.2.2.1), (85, o85 q3.2.2.2.2.2.2)]) hnx rfl rfl rfl hq16) rfl rfl rfl (e_le rfl) (e_le rfl) (e_le rfl) rfl (ci := 12) e_cl12.1 rfl (e_le rfl) (e_lt hnx rfl) (Nat.zero_le _) (Nat.zero_le _) (e_k ?_)
      refine r_wr0 ?_
      refine r_mat (k := 91) h91 (l' := [(72, o72 0 a72_2 a72_3 a72_4 a72_5 a72_6 a72_7 a72_8 a72_9 a72_10 a72_11 a72_17 a72_18 a72_19 a72_21 a72_22 q3.2.1 a72_31 a72_35 a72_37 a72_38 a72_39 a72_40 a72_41 a72_44 a72_50), (81, o81 q3.2.2.1), (82, o82 q3.2.2.2.1), (83, o83 q3.2.2.2.2.1), (84, o84 q3.2.2.2.2.2.1), (85, o85 q3.2.2.2.2.2.2), (91, o91 A91)]) rfl ?_
      refine r_mat (k := 92) h92 (l' := [(72, o72 0 a72_2 a72_3 a72_4 a72_5 a72_6 a72_7 a72_8 a72_9 a72_10 a72_11 a72_17 a72_18 a72_19 a72_21 a72_22 q3.2.1 a72_31 a72_35 a72_37 a72_38 a72_39 a72_40 a72_41 a72_44 a72_50), (81, o81 q3.2.2.1), (82, o82 q3.2.2.2.1), (83, o83 q3.2.2.2.2.1), (84, o84 q3.2.2.2.2.2.1), (85, o85 q3.2.2.2.2.2.2), (91, o91 A91), (92, o92 A92)]) rfl ?_
      obtain rfl := Option.some.inj hf
      exact r_iret F hq dX12_rule_203 rfl rfl (Nat.le_refl _) (Nat.le_refl _) ⟨rfl, rfl⟩
    have hf := e_f hk13 hf
    refine r_tsOut F dX12_rule_22 (e_out14 hk0 hk1 hk2 hk3 hk4 hk5 hk6 hk7 hk8 hk9 hk10 hk11 hk12 hk13) (tgt := 204) (by decide) ?_
    refine r_ldcw F dX12_rule_204 kcX12_310 ?_
    refine r_mat (k := 91) h91 (l' := [(72, o72 0 a72_2 a72_3 a72_4 a72_5 a72_6 a72_7 a72_8 a72_9 a72_10 a72_11 a72_17 a72_18 a72_19 a72_21 a72_22 q3.2.1 a72_31 a72_35 a72_37 a72_38 a72_39 a72_40 a72_41 a72_44 a72_50), (81, o81 q3.2.2.1), (82, o82 q3.2.2.2.1), (83, o83 q3.2.2.2.2.1), (84, o84 q3.2.2.2.2.2.1), (85, o85 q3.2.2.2.2.2.2), (91, o91 A91)]) rfl ?_
    refine r_mat (k := 92) h92 (l' := [(72, o72 0 a72_2 a72_3 a72_4 a72_5 a72_6 a72_7 a72_8 a72_9 a72_10 a72_11 a72_17 a72_18 a72_19 a72_21 a72_22 q3.2.1 a72_31 a72_35 a72_37 a72_38 a72_39 a72_40 a72_41 a72_44 a72_50), (81, o81 q3.2.2.1), (82, o82 q3.2.2.2.1), (83, o83 q3.2.2.2.2.1), (84, o84 q3.2.2.2.2.2.1), (85, o85 q3.2.2.2.2.2.2), (91, o91 A91), (92, o92 A92)]) rfl ?_
    obtain rfl := Option.some.inj hf
    exact r_iret F hq dX12_rule_207 rfl rfl (Nat.le_refl _) (Nat.le_refl _) ⟨rfl, rfl⟩
  · have hf := e_f hc hf
    refine r_ldcw F dX12_rule_12 kcX12_310 ?_
    refine r_mat (k := 81) h81 (l' := [(72, o72 0 a72_2 a72_3 a72_4 a72_5 a72_6 a72_7 a72_8 a72_9 a72_10 a72_11 a72_17 a72_18 a72_19 a72_21 a72_22 a72_29 a72_31 a72_35 a72_37 a72_38 a72_39 a72_40 a72_41 a72_44 a72_50), (81, o81 A81)]) rfl ?_
    refine r_mat (k := 82) h82 (l' := [(72, o72 0 a72_2 a72_3 a72_4 a72_5 a72_6 a72_7 a72_8 a72_9 a72_10 a72_11 a72_17 a72_18 a72_19 a72_21 a72_22 a72_29 a72_31 a72_35 a72_37 a72_38 a72_39 a72_40 a72_41 a72_44 a72_50), (81, o81 A81), (82, o82 A82)]) rfl ?_
    refine r_mat (k := 83) h83 (l' := [(72, o72 0 a72_2 a72_3 a72_4 a72_5 a72_6 a72_7 a72_8 a72_9 a72_10 a72_11 a72_17 a72_18 a72_19 a72_21 a72_22 a72_29 a72_31 a72_35 a72_37 a72_38 a72_39 a72_40 a72_41 a72_44 a72_50), (81, o81 A81), (82, o82 A82), (83, o83 A83)]) rfl ?_
    refine r_mat (k := 84) h84 (l' := [(72, o72 0 a72_2 a72_3 a72_4 a72_5 a72_6 a72_7 a72_8 a72_9 a72_10 a72_11 a72_17 a72_18 a72_19 a72_21 a72_22 a72_29 a72_31 a72_35 a72_37 a72_38 a72_39 a72_40 a72_41 a72_44 a72_50), (81, o81 A81), (82, o82 A82), (83, o83 A83), (84, o84 A84)]) rfl ?_
    refine r_mat (k := 85) h85 (l' := [(72, o72 0 a72_2 a72_3 a72_4 a72_5 a72_6 a72_7 a72_8 a72_9 a72_10 a72_11 a72_17 a72_18 a72_19 a72_21 a72_22 a72_29 a72_31 a72_35 a72_37 a72_38 a72_39 a72_40 a72_41 a72_44 a72_50), (81, o81 A81), (82, o82 A82), (83, o83 A83), (84, o84 A84), (85, o85 A85)]) rfl ?_
    refine r_mat (k := 91) h91 (l' := [(72, o72 0 a72_2 a72_3 a72_4 a72_5 a72_6 a72_7 a72_8 a72_9 a72_10 a72_11 a72_17 a72_18 a72_19 a72_21 a72_22 a72_29 a72_31 a72_35 a72_37 a72_38 a72_39 a72_40 a72_41 a72_44 a72_50), (81, o81 A81), (82, o82 A82), (83, o83 A83), (84, o84 A84), (85, o85 A85), (91, o91 A91)]) rfl ?_
    refine r_mat (k := 92) h92 (l' := [(72, o72 0 a72_2 a72_3 a72_4 a72_5 a72_6 a72_7 a72_8 a72_9 a72_10 a72_11 a72_17 a72_18 a72_19 a72_21 a72_22 a72_29 a72_31 a72_35 a72_37 a72_38 a72_39 a72_40 a72_41 a72_44 a72_50), (81, o81 A81), (82, o82 A82), (83, o83 A83), (84, o84 A84), (85, o85 A85), (91, o91 A91), (92, o92 A92)]) rfl ?_
    obtain rfl := Option.some.inj hf
    exact r_iret F hq dX12_rule_15 rfl rfl (Nat.le_refl _) (Nat.le_refl _) ⟨rfl, rfl⟩

def fX12_set (a72_0 : Int32) (a72_21 : Int32) (A80 : Nat → Int32) (A87 : Nat → Int32) (p0 : Int32) (p1 : Int32) : Option (Int32 × Int32 × (Nat → Int32) × (Nat → Int32)) :=
  (fX12_isCrystal a72_21).bind (fun q1 =>
  if q1 = true then
    (fX12_in (Int32.toInt64 p0) 0 3).bind (fun q3 =>
    if q3 = true then
      (fX12_canBe p0 p1).bind (fun q5 =>
      if q5 = true then
        e_g (e_in p0 4) (
        e_g (e_in p0 4) (
        some (A80 (tn p0), 0, upd A80 (tn p0) p1, A87)))
      else
        (fX12_refuses A87 2).bind (fun q7 =>
        some ((-1000000), 0, A80, q7.2)))
    else
      (fX12_refuses A87 2).bind (fun q9 =>
      some ((-1000000), 0, A80, q9.2)))
  else
    (fX12_refuses A87 0).bind (fun q11 =>
    some ((-1000000), 0, A80, q11.2)))
set_option maxRecDepth 100000 in
theorem tX12_set_72 {G : eG} (hG : e_GS G) {la : Launch} {h : Nat → eO} {nx : Nat} (hnx : 99 ≤ nx) {a72_0 : Int32} {a72_2 : Int32} {a72_3 : Int32} {a72_4 : Int32} {a72_5 : Int32} {a72_6 : Int32} {a72_7 : Int32} {a72_8 : Bool} {a72_9 : Int32} {a72_10 : Int32} {a72_11 : Int32} {a72_17 : Bool} {a72_18 : Bool} {a72_19 : Bool} {a72_21 : Int32} {a72_22 : Int32} {a72_29 : Int32} {a72_31 : Int32} {a72_35 : Int32} {a72_37 : Bool} {a72_38 : Int32} {a72_39 : Int32} {a72_40 : Int32} {a72_41 : Int64} {a72_44 : Int32} {a72_50 : Bool} {A80 : Nat → Int32} {A87 : Nat → Int32} {p0 : Int32} {p1 : Int32} (h72 : h 72 = o72 a72_0 a72_2 a72_3 a72_4 a72_5 a72_6 a72_7 a72_8 a72_9 a72_10 a72_11 a72_17 a72_18 a72_19 a72_21 a72_22 a72_29 a72_31 a72_35 a72_37 a72_38 a72_39 a72_40 a72_41 a72_44 a72_50) (h80 : h 80 = o80 A80) (h87 : h 87 = o87 A87) {R9 : Int32 × Int32 × (Nat → Int32) × (Nat → Int32)} (hf : fX12_set a72_0 a72_21 A80 A87 p0 p1 = some R9) :
    eSem G la MX12_set [.ref 72, .int p0, .int p1] h nx 0 0 (fun r9 h9 => r9 = some (.int R9.1) ∧ h9 = e_up h [(72, o72 R9.2.1 a72_2 a72_3 a72_4 a72_5 a72_6 a72_7 a72_8 a72_9 a72_10 a72_11 a72_17 a72_18 a72_19 a72_21 a72_22 a72_29 a72_31 a72_35 a72_37 a72_38 a72_39 a72_40 a72_41 a72_44 a72_50), (80, o80 R9.2.2.1), (87, o87 R9.2.2.2)]) := by
  refine eSem.of (k := 1) (L := [some (.ref 72), some (.int p0), some (.int p1), none]) (by decide +kernel) rfl rfl (fun X F hxl hq hcR hsR => ?_)
  subst hxl
  unfold fX12_set at hf
  refine r_aload_n F dX12_set_0 rfl ?_
  refine r_iconst F dX12_set_1 (v := 0) (by decide) ?_
  refine r_put F dX12_set_2 flX12_86 rfl rfl rfl h72 (e_le rfl) (e_le rfl) (e_lt hnx rfl) (l' := [(72, o72 0 a72_2 a72_3 a72_4 a72_5 a72_6 a72_7 a72_8 a72_9 a72_10 a72_11 a72_17 a72_18 a72_19 a72_21 a72_22 a72_29 a72_31 a72_35 a72_37 a72_38 a72_39 a72_40 a72_41 a72_44 a72_50)]) rfl ?_
  refine r_aload_n F dX12_set_5 rfl ?_
  obtain ⟨q1, hq2, hf⟩ := e_bd hf
  refine r_callV F dX12_set_6 (b := 72) (dc := 0) (ds := 0) (As := []) (S0 := []) lkX12_306 mX12_isCrystal (tX12_isCrystal_72 hG (la := x_l X) (h := e_up h [(72, o72 0 a72_2 a72_3 a72_4 a72_5 a72_6 a72_7 a72_8 a72_9 a72_10 a72_11 a72_17 a72_18 a72_19 a72_21 a72_22 a72_29 a72_31 a72_35 a72_37 a72_38 a72_39 a72_40 a72_41 a72_44 a72_50)]) hnx rfl hq2) rfl rfl rfl (e_le rfl) (e_le rfl) (e_le rfl) rfl (ci := 12) e_cl12.1 rfl (e_le rfl) (e_lt hnx rfl) (Nat.zero_le _) (Nat.zero_le _) (e_k ?_)
  refine r_wr0 ?_
  refine r_z_ne F dX12_set_9 (tgt := 22) (by decide) (fun hc => ?_) (fun hc => ?_)
  · have hf := e_t hc hf
    refine r_iload_n F dX12_set_22 rfl ?_
    refine r_i2l F dX12_set_23 ?_
    refine r_lconst F dX12_set_24 (v := 0) (by decide) ?_
    refine r_ldc2 F dX12_set_25 klX12_291 ?_
    obtain ⟨q3, hq4, hf⟩ := e_bd hf
    refine r_callS F dX12_set_28 (dc := 0) (ds := 0) (As := [.long (Int32.toInt64 p0), .long 0, .long 3]) (S0 := []) lkX12_97 mX12_in (tX12_in hG (la := x_l X) (h := e_up h [(72, o72 0 a72_2 a72_3 a72_4 a72_5 a72_6 a72_7 a72_8 a72_9 a72_10 a72_11 a72_17 a72_18 a72_19 a72_21 a72_22 a72_29 a72_31 a72_35 a72_37 a72_38 a72_39 a72_40 a72_41 a72_44 a72_50)]) hnx  hq4) rfl rfl rfl (e_le rfl) (e_le rfl) (e_le rfl) (Nat.zero_le _) (Nat.zero_le _) (e_k ?_)
    refine r_wr0 ?_
    refine r_z_eq F dX12_set_31 (tgt := 42) (by decide) (fun hc => ?_) (fun hc => ?_)
    · have hf := e_t hc hf
      refine r_iload_n F dX12_set_34 rfl ?_
      refine r_iload_n F dX12_set_35 rfl ?_
      obtain ⟨q5, hq6, hf⟩ := e_bd hf
      refine r_callS F dX12_set_36 (dc := 0) (ds := 0) (As := [.int p0, .int p1]) (S0 := []) lkX12_418 mX12_canBe (tX12_canBe hG (la := x_l X) (h := e_up h [(72, o72 0 a72_2 a72_3 a72_4 a72_5 a72_6 a72_7 a72_8 a72_9 a72_10 a72_11 a72_17 a72_18 a72_19 a72_21 a72_22 a72_29 a72_31 a72_35 a72_37 a72_38 a72_39 a72_40 a72_41 a72_44 a72_50)]) hnx  hq6) rfl rfl rfl (e_le rfl) (e_le rfl) (e_le rfl) (Nat.zero_le _) (Nat.zero_le _) (e_k ?_)
      refine r_wr0 ?_
      refine r_z_ne F dX12_set_39 (tgt := 52) (by decide) (fun hc => ?_) (fun hc => ?_)
      · have hf := e_t hc hf
        refine r_aload_n F dX12_set_52 rfl ?_
        refine r_get F dX12_set_53 flX12_31 rfl rfl (e_le rfl) (e_lt hnx rfl) ?_
        refine r_iload_n F dX12_set_56 rfl ?_
        obtain ⟨hg, hf⟩ := e_gd hf
        refine r_iald F dX12_set_57 (i := p0) h80 (e_le rfl) (e_lt hnx rfl) (e_vp hg) ?_
        refine r_istore_n F dX12_set_58 (e_le rfl) (L' := [some (.ref 72), some (.int p0), some (.int p1), some (.int (A80 (tn p0)))]) rfl ?_
        refine r_aload_n F dX12_set_59 rfl ?_
        refine r_get F dX12_set_60 flX12_31 rfl rfl (e_le rfl) (e_lt hnx rfl) ?_
        refine r_iload_n F dX12_set_63 rfl ?_
        refine r_iload_n F dX12_set_64 rfl ?_
        obtain ⟨hg, hf⟩ := e_gd hf
        refine r_iast F dX12_set_65 h80 (e_le rfl) (e_lt hnx rfl) (e_vp hg) (l' := [(72, o72 0 a72_2 a72_3 a72_4 a72_5 a72_6 a72_7 a72_8 a72_9 a72_10 a72_11 a72_17 a72_18 a72_19 a72_21 a72_22 a72_29 a72_31 a72_35 a72_37 a72_38 a72_39 a72_40 a72_41 a72_44 a72_50), (80, o80 (upd A80 (tn p0) p1))]) rfl ?_
        refine r_iload_n F dX12_set_66 rfl ?_
        refine r_mat (k := 87) h87 (l' := [(72, o72 0 a72_2 a72_3 a72_4 a72_5 a72_6 a72_7 a72_8 a72_9 a72_10 a72_11 a72_17 a72_18 a72_19 a72_21 a72_22 a72_29 a72_31 a72_35 a72_37 a72_38 a72_39 a72_40 a72_41 a72_44 a72_50), (80, o80 (upd A80 (tn p0) p1)), (87, o87 A87)]) rfl ?_
        obtain rfl := Option.some.inj hf
        exact r_iret F hq dX12_set_67 rfl rfl (Nat.le_refl _) (Nat.le_refl _) ⟨rfl, rfl⟩
      · have hf := e_f hc hf
        refine r_aload_n F dX12_set_42 rfl ?_
        refine r_iconst F dX12_set_43 (v := 2) (by decide) ?_
        obtain ⟨q7, hq8, hf⟩ := e_bd hf
        refine r_callV F dX12_set_44 (b := 72) (dc := 0) (ds := 0) (As := [.int 2]) (S0 := []) lkX12_354 mX12_refuses (tX12_refuses_72 hG (la := x_l X) (h := e_up h [(72, o72 0 a72_2 a72_3 a72_4 a72_5 a72_6 a72_7 a72_8 a72_9 a72_10 a72_11 a72_17 a72_18 a72_19 a72_21 a72_22 a72_29 a72_31 a72_35 a72_37 a72_38 a72_39 a72_40 a72_41 a72_44 a72_50)]) hnx rfl h87 hq8) rfl rfl rfl (e_le rfl) (e_le rfl) (e_le rfl) rfl (ci := 12) e_cl12.1 rfl (e_le rfl) (e_lt hnx rfl) (Nat.zero_le _) (Nat.zero_le _) (e_k ?_)
        refine r_wr (l' := [(72, o72 0 a72_2 a72_3 a72_4 a72_5 a72_6 a72_7 a72_8 a72_9 a72_10 a72_11 a72_17 a72_18 a72_19 a72_21 a72_22 a72_29 a72_31 a72_35 a72_37 a72_38 a72_39 a72_40 a72_41 a72_44 a72_50), (87, o87 q7.2)]) rfl rfl ?_
        refine r_pop F dX12_set_47 rfl ?_
        refine r_ldcw F dX12_set_48 kcX12_310 ?_
        refine r_mat (k := 80) h80 (l' := [(72, o72 0 a72_2 a72_3 a72_4 a72_5 a72_6 a72_7 a72_8 a72_9 a72_10 a72_11 a72_17 a72_18 a72_19 a72_21 a72_22 a72_29 a72_31 a72_35 a72_37 a72_38 a72_39 a72_40 a72_41 a72_44 a72_50), (80, o80 A80), (87, o87 q7.2)]) rfl ?_
        obtain rfl := Option.some.inj hf
        exact r_iret F hq dX12_set_51 rfl rfl (Nat.le_refl _) (Nat.le_refl _) ⟨rfl, rfl⟩
    · have hf := e_f hc hf
      refine r_aload_n F dX12_set_42 rfl ?_
      refine r_iconst F dX12_set_43 (v := 2) (by decide) ?_
      obtain ⟨q9, hq10, hf⟩ := e_bd hf
      refine r_callV F dX12_set_44 (b := 72) (dc := 0) (ds := 0) (As := [.int 2]) (S0 := []) lkX12_354 mX12_refuses (tX12_refuses_72 hG (la := x_l X) (h := e_up h [(72, o72 0 a72_2 a72_3 a72_4 a72_5 a72_6 a72_7 a72_8 a72_9 a72_10 a72_11 a72_17 a72_18 a72_19 a72_21 a72_22 a72_29 a72_31 a72_35 a72_37 a72_38 a72_39 a72_40 a72_41 a72_44 a72_50)]) hnx rfl h87 hq10) rfl rfl rfl (e_le rfl) (e_le rfl) (e_le rfl) rfl (ci := 12) e_cl12.1 rfl (e_le rfl) (e_lt hnx rfl) (Nat.zero_le _) (Nat.zero_le _) (e_k ?_)
      refine r_wr (l' := [(72, o72 0 a72_2 a72_3 a72_4 a72_5 a72_6 a72_7 a72_8 a72_9 a72_10 a72_11 a72_17 a72_18 a72_19 a72_21 a72_22 a72_29 a72_31 a72_35 a72_37 a72_38 a72_39 a72_40 a72_41 a72_44 a72_50), (87, o87 q9.2)]) rfl rfl ?_
      refine r_pop F dX12_set_47 rfl ?_
      refine r_ldcw F dX12_set_48 kcX12_310 ?_
      refine r_mat (k := 80) h80 (l' := [(72, o72 0 a72_2 a72_3 a72_4 a72_5 a72_6 a72_7 a72_8 a72_9 a72_10 a72_11 a72_17 a72_18 a72_19 a72_21 a72_22 a72_29 a72_31 a72_35 a72_37 a72_38 a72_39 a72_40 a72_41 a72_44 a72_50), (80, o80 A80), (87, o87 q9.2)]) rfl ?_
      obtain rfl := Option.some.inj hf
      exact r_iret F hq dX12_set_51 rfl rfl (Nat.le_refl _) (Nat.le_refl _) ⟨rfl, rfl⟩
  · have hf := e_f hc hf
    refine r_aload_n F dX12_set_12 rfl ?_
    refine r_iconst F dX12_set_13 (v := 0) (by decide) ?_
    obtain ⟨q11, hq12, hf⟩ := e_bd hf
    refine r_callV F dX12_set_14 (b := 72) (dc := 0) (ds := 0) (As := [.int 0]) (S0 := []) lkX12_354 mX12_refuses (tX12_refuses_72 hG (la := x_l X) (h := e_up h [(72, o72 0 a72_2 a72_3 a72_4 a72_5 a72_6 a72_7 a72_8 a72_9 a72_10 a72_11 a72_17 a72_18 a72_19 a72_21 a72_22 a72_29 a72_31 a72_35 a72_37 a72_38 a72_39 a72_40 a72_41 a72_44 a72_50)]) hnx rfl h87 hq12) rfl rfl rfl (e_le rfl) (e_le rfl) (e_le rfl) rfl (ci := 12) e_cl12.1 rfl (e_le rfl) (e_lt hnx rfl) (Nat.zero_le _) (Nat.zero_le _) (e_k ?_)
    refine r_wr (l' := [(72, o72 0 a72_2 a72_3 a72_4 a72_5 a72_6 a72_7 a72_8 a72_9 a72_10 a72_11 a72_17 a72_18 a72_19 a72_21 a72_22 a72_29 a72_31 a72_35 a72_37 a72_38 a72_39 a72_40 a72_41 a72_44 a72_50), (87, o87 q11.2)]) rfl rfl ?_
    refine r_pop F dX12_set_17 rfl ?_
    refine r_ldcw F dX12_set_18 kcX12_310 ?_
    refine r_mat (k := 80) h80 (l' := [(72, o72 0 a72_2 a72_3 a72_4 a72_5 a72_6 a72_7 a72_8 a72_9 a72_10 a72_11 a72_17 a72_18 a72_19 a72_21 a72_22 a72_29 a72_31 a72_35 a72_37 a72_38 a72_39 a72_40 a72_41 a72_44 a72_50), (80, o80 A80), (87, o87 q11.2)]) rfl ?_
    obtain rfl := Option.some.inj hf
    exact r_iret F hq dX12_set_21 rfl rfl (Nat.le_refl _) (Nat.le_refl _) ⟨rfl, rfl⟩

def fX12_shake (a72_0 : Int32) (a72_21 : Int32) (a72_22 : Int32) (a72_29 : Int32) (a72_31 : Int32) (a72_41 : Int64) (A79 : Nat → Int32) (A80 : Nat → Int32) (A81 : Nat → Int32) (A82 : Nat → Int32) (A83 : Nat → Int32) (A84 : Nat → Int32) (A85 : Nat → Int32) (A86 : Nat → Int32) (A87 : Nat → Int32) (p0 : Int32) (p1 : Int64) : Option (Int32 × Int32 × Int32 × Int32 × Int64 × (Nat → Int32) × (Nat → Int32) × (Nat → Int32) × (Nat → Int32) × (Nat → Int32) × (Nat → Int32) × (Nat → Int32) × (Nat → Int32)) :=
  (fX12_isCrystal a72_21).bind (fun q1 =>
  if q1 = true then
    (fX12_in (Int32.toInt64 p0) 1 60).bind (fun q3 =>
    if q3 = true then
      (fX12_keeps a72_31 A79 A86).bind (fun q5 =>
      (e_loop (fun (v9 : Int32 × Int32 × Int32 × Int64 × (Nat → Int32) × (Nat → Int32) × (Nat → Int32) × (Nat → Int32) × (Nat → Int32) × (Nat → Int32)) => (
          if p0 ≤ v9.2.1 then
            some (.inr (v9.1, v9.2.2.1, v9.2.2.2.1, v9.2.2.2.2.1, v9.2.2.2.2.2.1, v9.2.2.2.2.2.2.1, v9.2.2.2.2.2.2.2.1, v9.2.2.2.2.2.2.2.2.1, v9.2.2.2.2.2.2.2.2.2))
          else
            (fX12_laysCores a72_21 a72_22 v9.2.2.1 v9.2.2.2.2.1 A80 v9.2.2.2.2.2.1 v9.2.2.2.2.2.2.1 v9.2.2.2.2.2.2.2.1 v9.2.2.2.2.2.2.2.2.1 v9.2.2.2.2.2.2.2.2.2).bind (fun q12 =>
            Option.bind (α := Int32 × Int64 × (Nat → Int32)) (
              if q12.2.1 ≤ 0 then
                some (v9.1, v9.2.2.2.1, v9.2.2.2.2.1)
              else
                (fX12_draw v9.2.2.2.1 q12.2.1).bind (fun q16 =>
                (fX12_draw q16.2 2).bind (fun q18 =>
                Option.bind (α := Bool) (
                  if q18.1 = 1 then
                    some true
                  else
                    some false) (fun q20 =>
                (fX12_way q12.2.2.2.2.1 q12.2.2.2.2.2.1 q16.1).bind (fun q22 =>
                if q22 = (-1) then
                  some (v9.1, q18.2, v9.2.2.2.2.1)
                else
                  e_g (e_in q16.1 64) (
                  e_g (e_in q16.1 64) (
                  (fX12_way q12.2.2.2.2.1 q12.2.2.2.2.2.1 q16.1).bind (fun q24 =>
                  (fX12_directionOf q24 q20).bind (fun q26 =>
                  e_g (e_in q16.1 64) (
                  e_g (e_in q16.1 64) (
                  (fX12_moves a72_21 a72_22 v9.2.2.2.2.1 (q12.2.2.1 (tn q16.1)) (q12.2.2.2.1 (tn q16.1)) q26 (q12.2.2.2.2.1 (tn q16.1)) (q12.2.2.2.2.2.1 (tn q16.1))).bind (fun q28 =>
                  some (v9.1 + 1, q18.2, q28.2))))))))))))) (fun q14 =>
            some (.inl (q14.1, v9.2.1 + 1, q12.2.1, q14.2.1, q14.2.2, q12.2.2.1, q12.2.2.2.1, q12.2.2.2.2.1, q12.2.2.2.2.2.1, q12.2.2.2.2.2.2)))) : Option ((Int32 × Int32 × Int32 × Int64 × (Nat → Int32) × (Nat → Int32) × (Nat → Int32) × (Nat → Int32) × (Nat → Int32) × (Nat → Int32)) ⊕ (Int32 × Int32 × Int64 × (Nat → Int32) × (Nat → Int32) × (Nat → Int32) × (Nat → Int32) × (Nat → Int32) × (Nat → Int32))))) e_fuel (0, 0, a72_29, p1, A79, A81, A82, A83, A84, A85)).bind (fun x10 =>
      some (x10.1, 0, x10.2.1, q5.1, x10.2.2.1, x10.2.2.2.1, x10.2.2.2.2.1, x10.2.2.2.2.2.1, x10.2.2.2.2.2.2.1, x10.2.2.2.2.2.2.2.1, x10.2.2.2.2.2.2.2.2, q5.2, A87)))
    else
      (fX12_refuses A87 2).bind (fun q30 =>
      some (q30.1, 0, a72_29, a72_31, a72_41, A79, A81, A82, A83, A84, A85, A86, q30.2)))
  else
    (fX12_refuses A87 0).bind (fun q32 =>
    some (q32.1, 0, a72_29, a72_31, a72_41, A79, A81, A82, A83, A84, A85, A86, q32.2)))
set_option maxRecDepth 100000 in
theorem tX12_shake_72 {G : eG} (hG : e_GS G) {la : Launch} {h : Nat → eO} {nx : Nat} (hnx : 99 ≤ nx) {a72_0 : Int32} {a72_2 : Int32} {a72_3 : Int32} {a72_4 : Int32} {a72_5 : Int32} {a72_6 : Int32} {a72_7 : Int32} {a72_8 : Bool} {a72_9 : Int32} {a72_10 : Int32} {a72_11 : Int32} {a72_17 : Bool} {a72_18 : Bool} {a72_19 : Bool} {a72_21 : Int32} {a72_22 : Int32} {a72_29 : Int32} {a72_31 : Int32} {a72_35 : Int32} {a72_37 : Bool} {a72_38 : Int32} {a72_39 : Int32} {a72_40 : Int32} {a72_41 : Int64} {a72_44 : Int32} {a72_50 : Bool} {A79 : Nat → Int32} {A80 : Nat → Int32} {A81 : Nat → Int32} {A82 : Nat → Int32} {A83 : Nat → Int32} {A84 : Nat → Int32} {A85 : Nat → Int32} {A86 : Nat → Int32} {A87 : Nat → Int32} {p0 : Int32} {p1 : Int64} (h72 : h 72 = o72 a72_0 a72_2 a72_3 a72_4 a72_5 a72_6 a72_7 a72_8 a72_9 a72_10 a72_11 a72_17 a72_18 a72_19 a72_21 a72_22 a72_29 a72_31 a72_35 a72_37 a72_38 a72_39 a72_40 a72_41 a72_44 a72_50) (h79 : h 79 = o79 A79) (h80 : h 80 = o80 A80) (h81 : h 81 = o81 A81) (h82 : h 82 = o82 A82) (h83 : h 83 = o83 A83) (h84 : h 84 = o84 A84) (h85 : h 85 = o85 A85) (h86 : h 86 = o86 A86) (h87 : h 87 = o87 A87) {R9 : Int32 × Int32 × Int32 × Int32 × Int64 × (Nat → Int32) × (Nat → Int32) × (Nat → Int32) × (Nat → Int32) × (Nat → Int32) × (Nat → Int32) × (Nat → Int32) × (Nat → Int32)} (hf : fX12_shake a72_0 a72_21 a72_22 a72_29 a72_31 a72_41 A79 A80 A81 A82 A83 A84 A85 A86 A87 p0 p1 = some R9) :
    eSem G la MX12_shake [.ref 72, .int p0, .long p1] h nx 0 0 (fun r9 h9 => r9 = some (.int R9.1) ∧ h9 = e_up h [(72, o72 R9.2.1 a72_2 a72_3 a72_4 a72_5 a72_6 a72_7 a72_8 a72_9 a72_10 a72_11 a72_17 a72_18 a72_19 a72_21 a72_22 R9.2.2.1 R9.2.2.2.1 a72_35 a72_37 a72_38 a72_39 a72_40 R9.2.2.2.2.1 a72_44 a72_50), (79, o79 R9.2.2.2.2.2.1), (81, o81 R9.2.2.2.2.2.2.1), (82, o82 R9.2.2.2.2.2.2.2.1), (83, o83 R9.2.2.2.2.2.2.2.2.1), (84, o84 R9.2.2.2.2.2.2.2.2.2.1), (85, o85 R9.2.2.2.2.2.2.2.2.2.2.1), (86, o86 R9.2.2.2.2.2.2.2.2.2.2.2.1), (87, o87 R9.2.2.2.2.2.2.2.2.2.2.2.2)]) := by
  refine eSem.of (k := 4) (L := [some (.ref 72), some (.int p0), some (.long p1), none, none, none, none, none]) (by decide +kernel) rfl rfl (fun X F hxl hq hcR hsR => ?_)
  subst hxl
  unfold fX12_shake at hf
  refine r_aload_n F dX12_shake_0 rfl ?_
  refine r_iconst F dX12_shake_1 (v := 0) (by decide) ?_
  refine r_put F dX12_shake_2 flX12_86 rfl rfl rfl h72 (e_le rfl) (e_le rfl) (e_lt hnx rfl) (l' := [(72, o72 0 a72_2 a72_3 a72_4 a72_5 a72_6 a72_7 a72_8 a72_9 a72_10 a72_11 a72_17 a72_18 a72_19 a72_21 a72_22 a72_29 a72_31 a72_35 a72_37 a72_38 a72_39 a72_40 a72_41 a72_44 a72_50)]) rfl ?_
  refine r_aload_n F dX12_shake_5 rfl ?_
  obtain ⟨q1, hq2, hf⟩ := e_bd hf
  refine r_callV F dX12_shake_6 (b := 72) (dc := 0) (ds := 0) (As := []) (S0 := []) lkX12_306 mX12_isCrystal (tX12_isCrystal_72 hG (la := x_l X) (h := e_up h [(72, o72 0 a72_2 a72_3 a72_4 a72_5 a72_6 a72_7 a72_8 a72_9 a72_10 a72_11 a72_17 a72_18 a72_19 a72_21 a72_22 a72_29 a72_31 a72_35 a72_37 a72_38 a72_39 a72_40 a72_41 a72_44 a72_50)]) hnx rfl hq2) rfl rfl rfl (e_le rfl) (e_le rfl) (e_le rfl) rfl (ci := 12) e_cl12.1 rfl (e_le rfl) (e_lt hnx rfl) (Nat.zero_le _) (Nat.zero_le _) (e_k ?_)
  refine r_wr0 ?_
  refine r_z_ne F dX12_shake_9 (tgt := 18) (by decide) (fun hc => ?_) (fun hc => ?_)
  · have hf := e_t hc hf
    refine r_iload_n F dX12_shake_18 rfl ?_
    refine r_i2l F dX12_shake_19 ?_
    refine r_lconst F dX12_shake_20 (v := 1) (by decide) ?_
    refine r_ldc2 F dX12_shake_21 klX12_267 ?_
    obtain ⟨q3, hq4, hf⟩ := e_bd hf
    refine r_callS F dX12_shake_24 (dc := 0) (ds := 0) (As := [.long (Int32.toInt64 p0), .long 1, .long 60]) (S0 := []) lkX12_97 mX12_in (tX12_in hG (la := x_l X) (h := e_up h [(72, o72 0 a72_2 a72_3 a72_4 a72_5 a72_6 a72_7 a72_8 a72_9 a72_10 a72_11 a72_17 a72_18 a72_19 a72_21 a72_22 a72_29 a72_31 a72_35 a72_37 a72_38 a72_39 a72_40 a72_41 a72_44 a72_50)]) hnx  hq4) rfl rfl rfl (e_le rfl) (e_le rfl) (e_le rfl) (Nat.zero_le _) (Nat.zero_le _) (e_k ?_)
    refine r_wr0 ?_
    refine r_z_ne F dX12_shake_27 (tgt := 36) (by decide) (fun hc => ?_) (fun hc => ?_)
    · have hf := e_t hc hf
      refine r_aload_n F dX12_shake_36 rfl ?_
      obtain ⟨q5, hq6, hf⟩ := e_bd hf
      refine r_callV F dX12_shake_37 (b := 72) (dc := 0) (ds := 0) (As := []) (S0 := []) lkX12_364 mX12_keeps (tX12_keeps_72 hG (la := x_l X) (h := e_up h [(72, o72 0 a72_2 a72_3 a72_4 a72_5 a72_6 a72_7 a72_8 a72_9 a72_10 a72_11 a72_17 a72_18 a72_19 a72_21 a72_22 a72_29 a72_31 a72_35 a72_37 a72_38 a72_39 a72_40 a72_41 a72_44 a72_50)]) hnx rfl h79 h86 hq6) rfl rfl rfl (e_le rfl) (e_le rfl) (e_le rfl) rfl (ci := 12) e_cl12.1 rfl (e_le rfl) (e_lt hnx rfl) (Nat.zero_le _) (Nat.zero_le _) (e_k ?_)
      refine r_wr (l' := [(72, o72 0 a72_2 a72_3 a72_4 a72_5 a72_6 a72_7 a72_8 a72_9 a72_10 a72_11 a72_17 a72_18 a72_19 a72_21 a72_22 a72_29 q5.1 a72_35 a72_37 a72_38 a72_39 a72_40 a72_41 a72_44 a72_50), (86, o86 q5.2)]) rfl rfl ?_
      refine r_aload_n F dX12_shake_40 rfl ?_
      refine r_lload_n F dX12_shake_41 rfl ?_
      refine r_put F dX12_shake_42 flX12_401 rfl rfl rfl rfl (e_le rfl) (e_le rfl) (e_lt hnx rfl) (l' := [(72, o72 0 a72_2 a72_3 a72_4 a72_5 a72_6 a72_7 a72_8 a72_9 a72_10 a72_11 a72_17 a72_18 a72_19 a72_21 a72_22 a72_29 q5.1 a72_35 a72_37 a72_38 a72_39 a72_40 p1 a72_44 a72_50), (86, o86 q5.2)]) rfl ?_
      refine r_iconst F dX12_shake_45 (v := 0) (by decide) ?_
      refine r_istore F dX12_shake_46 (e_le rfl) (L' := [some (.ref 72), some (.int p0), some (.long p1), none, some (.int 0), none, none, none]) rfl ?_
      refine r_iconst F dX12_shake_48 (v := 0) (by decide) ?_
      refine r_istore F dX12_shake_49 (e_le rfl) (L' := [some (.ref 72), some (.int p0), some (.long p1), none, some (.int 0), some (.int 0), none, none]) rfl ?_
      refine r_drop 2 (L' := [some (.ref 72), some (.int p0), none, none, some (.int 0), some (.int 0), none, none]) rfl ?_
      refine r_mat (k := 79) h79 (l' := [(72, o72 0 a72_2 a72_3 a72_4 a72_5 a72_6 a72_7 a72_8 a72_9 a72_10 a72_11 a72_17 a72_18 a72_19 a72_21 a72_22 a72_29 q5.1 a72_35 a72_37 a72_38 a72_39 a72_40 p1 a72_44 a72_50), (79, o79 A79), (86, o86 q5.2)]) rfl ?_
      refine r_mat (k := 81) h81 (l' := [(72, o72 0 a72_2 a72_3 a72_4 a72_5 a72_6 a72_7 a72_8 a72_9 a72_10 a72_11 a72_17 a72_18 a72_19 a72_21 a72_22 a72_29 q5.1 a72_35 a72_37 a72_38 a72_39 a72_40 p1 a72_44 a72_50), (79, o79 A79), (81, o81 A81), (86, o86 q5.2)]) rfl ?_
      refine r_mat (k := 82) h82 (l' := [(72, o72 0 a72_2 a72_3 a72_4 a72_5 a72_6 a72_7 a72_8 a72_9 a72_10 a72_11 a72_17 a72_18 a72_19 a72_21 a72_22 a72_29 q5.1 a72_35 a72_37 a72_38 a72_39 a72_40 p1 a72_44 a72_50), (79, o79 A79), (81, o81 A81), (82, o82 A82), (86, o86 q5.2)]) rfl ?_
      refine r_mat (k := 83) h83 (l' := [(72, o72 0 a72_2 a72_3 a72_4 a72_5 a72_6 a72_7 a72_8 a72_9 a72_10 a72_11 a72_17 a72_18 a72_19 a72_21 a72_22 a72_29 q5.1 a72_35 a72_37 a72_38 a72_39 a72_40 p1 a72_44 a72_50), (79, o79 A79), (81, o81 A81), (82, o82 A82), (83, o83 A83), (86, o86 q5.2)]) rfl ?_
      refine r_mat (k := 84) h84 (l' := [(72, o72 0 a72_2 a72_3 a72_4 a72_5 a72_6 a72_7 a72_8 a72_9 a72_10 a72_11 a72_17 a72_18 a72_19 a72_21 a72_22 a72_29 q5.1 a72_35 a72_37 a72_38 a72_39 a72_40 p1 a72_44 a72_50), (79, o79 A79), (81, o81 A81), (82, o82 A82), (83, o83 A83), (84, o84 A84), (86, o86 q5.2)]) rfl ?_
      refine r_mat (k := 85) h85 (l' := [(72, o72 0 a72_2 a72_3 a72_4 a72_5 a72_6 a72_7 a72_8 a72_9 a72_10 a72_11 a72_17 a72_18 a72_19 a72_21 a72_22 a72_29 q5.1 a72_35 a72_37 a72_38 a72_39 a72_40 p1 a72_44 a72_50), (79, o79 A79), (81, o81 A81), (82, o82 A82), (83, o83 A83), (84, o84 A84), (85, o85 A85), (86, o86 q5.2)]) rfl ?_
      obtain ⟨x10, hx11, hf⟩ := e_bd hf
      refine (e_loop_ok (P := fun (v9 : Int32 × Int32 × Int32 × Int64 × (Nat → Int32) × (Nat → Int32) × (Nat → Int32) × (Nat → Int32) × (Nat → Int32) × (Nat → Int32)) => eRun G X 51 [some (.ref 72), some (.int p0), none, none, some (.int v9.1), some (.int v9.2.1), none, none] [] h [(72, o72 0 a72_2 a72_3 a72_4 a72_5 a72_6 a72_7 a72_8 a72_9 a72_10 a72_11 a72_17 a72_18 a72_19 a72_21 a72_22 v9.2.2.1 q5.1 a72_35 a72_37 a72_38 a72_39 a72_40 v9.2.2.2.1 a72_44 a72_50), (79, o79 v9.2.2.2.2.1), (81, o81 v9.2.2.2.2.2.1), (82, o82 v9.2.2.2.2.2.2.1), (83, o83 v9.2.2.2.2.2.2.2.1), (84, o84 v9.2.2.2.2.2.2.2.2.1), (85, o85 v9.2.2.2.2.2.2.2.2.2), (86, o86 q5.2)] nx 0 0) (K := fun (x10 : Int32 × Int32 × Int64 × (Nat → Int32) × (Nat → Int32) × (Nat → Int32) × (Nat → Int32) × (Nat → Int32) × (Nat → Int32)) => eRun G X 158 [none, none, none, none, some (.int x10.1), none, none, none] [] h [(72, o72 0 a72_2 a72_3 a72_4 a72_5 a72_6 a72_7 a72_8 a72_9 a72_10 a72_11 a72_17 a72_18 a72_19 a72_21 a72_22 x10.2.1 q5.1 a72_35 a72_37 a72_38 a72_39 a72_40 x10.2.2.1 a72_44 a72_50), (79, o79 x10.2.2.2.1), (81, o81 x10.2.2.2.2.1), (82, o82 x10.2.2.2.2.2.1), (83, o83 x10.2.2.2.2.2.2.1), (84, o84 x10.2.2.2.2.2.2.2.1), (85, o85 x10.2.2.2.2.2.2.2.2), (86, o86 q5.2)] nx 0 0) ?_ e_fuel (0, 0, a72_29, p1, A79, A81, A82, A83, A84, A85) x10 hx11 ?_ : _)
      · intro v9 z hz ih hx
        refine r_iload F dX12_shake_51 rfl ?_
        refine r_iload_n F dX12_shake_53 rfl ?_
        refine r_icmp_ge F dX12_shake_54 (tgt := 158) (by decide) (fun hc => ?_) (fun hc => ?_)
        · have hz := e_t hc hz
          refine r_drop 0 (L' := [none, some (.int p0), none, none, some (.int v9.1), some (.int v9.2.1), none, none]) rfl ?_
          refine r_drop 1 (L' := [none, none, none, none, some (.int v9.1), some (.int v9.2.1), none, none]) rfl ?_
          refine r_drop 5 (L' := [none, none, none, none, some (.int v9.1), none, none, none]) rfl ?_
          obtain rfl := Option.some.inj hz
          exact hx (v9.1, v9.2.2.1, v9.2.2.2.1, v9.2.2.2.2.1, v9.2.2.2.2.2.1, v9.2.2.2.2.2.2.1, v9.2.2.2.2.2.2.2.1, v9.2.2.2.2.2.2.2.2.1, v9.2.2.2.2.2.2.2.2.2) rfl
        · have hz := e_f hc hz
          refine r_aload_n F dX12_shake_57 rfl ?_
          obtain ⟨q12, hq13, hz⟩ := e_bd hz
          refine r_callV F dX12_shake_58 (b := 72) (dc := 0) (ds := 0) (As := []) (S0 := []) lkX12_238 mX12_laysCores (tX12_laysCores_72 hG (la := x_l X) (h := e_up h [(72, o72 0 a72_2 a72_3 a72_4 a72_5 a72_6 a72_7 a72_8 a72_9 a72_10 a72_11 a72_17 a72_18 a72_19 a72_21 a72_22 v9.2.2.1 q5.1 a72_35 a72_37 a72_38 a72_39 a72_40 v9.2.2.2.1 a72_44 a72_50), (79, o79 v9.2.2.2.2.1), (81, o81 v9.2.2.2.2.2.1), (82, o82 v9.2.2.2.2.2.2.1), (83, o83 v9.2.2.2.2.2.2.2.1), (84, o84 v9.2.2.2.2.2.2.2.2.1), (85, o85 v9.2.2.2.2.2.2.2.2.2), (86, o86 q5.2)]) hnx rfl rfl h80 rfl rfl rfl rfl rfl hq13) rfl rfl rfl (e_le rfl) (e_le rfl) (e_le rfl) rfl (ci := 12) e_cl12.1 rfl (e_le rfl) (e_lt hnx rfl) (Nat.zero_le _) (Nat.zero_le _) (e_k ?_)
          refine r_wr (l' := [(72, o72 0 a72_2 a72_3 a72_4 a72_5 a72_6 a72_7 a72_8 a72_9 a72_10 a72_11 a72_17 a72_18 a72_19 a72_21 a72_22 q12.2.1 q5.1 a72_35 a72_37 a72_38 a72_39 a72_40 v9.2.2.2.1 a72_44 a72_50), (79, o79 v9.2.2.2.2.1), (81, o81 q12.2.2.1), (82, o82 q12.2.2.2.1), (83, o83 q12.2.2.2.2.1), (84, o84 q12.2.2.2.2.2.1), (85, o85 q12.2.2.2.2.2.2), (86, o86 q5.2)]) rfl rfl ?_
          refine r_pop F dX12_shake_61 rfl ?_
          refine r_aload_n F dX12_shake_62 rfl ?_
          refine r_get F dX12_shake_63 flX12_241 rfl rfl (e_le rfl) (e_lt hnx rfl) ?_
          obtain ⟨q14, hq15, hz⟩ := e_bd hz
          have Jq14 : eRun G X 152 [some (.ref 72), some (.int p0), none, none, some (.int q14.1), some (.int v9.2.1), none, none] [] h [(72, o72 0 a72_2 a72_3 a72_4 a72_5 a72_6 a72_7 a72_8 a72_9 a72_10 a72_11 a72_17 a72_18 a72_19 a72_21 a72_22 q12.2.1 q5.1 a72_35 a72_37 a72_38 a72_39 a72_40 q14.2.1 a72_44 a72_50), (79, o79 q14.2.2), (81, o81 q12.2.2.1), (82, o82 q12.2.2.2.1), (83, o83 q12.2.2.2.2.1), (84, o84 q12.2.2.2.2.2.1), (85, o85 q12.2.2.2.2.2.2), (86, o86 q5.2)] nx 0 0 := by
            refine r_inc F dX12_shake_152 (k9 := 1) (by decide) rfl (L' := [some (.ref 72), some (.int p0), none, none, some (.int q14.1), some (.int (v9.2.1 + 1)), none, none]) rfl ?_
            refine r_goto F dX12_shake_155 (tgt := 51) (by decide) ?_
            obtain rfl := Option.some.inj hz
            exact ih (q14.1, v9.2.1 + 1, q12.2.1, q14.2.1, q14.2.2, q12.2.2.1, q12.2.2.2.1, q12.2.2.2.2.1, q12.2.2.2.2.2.1, q12.2.2.2.2.2.2) rfl
          refine r_if_le F dX12_shake_66 (tgt := 152) (by decide) (fun hc => ?_) (fun hc => ?_)
          · have hq15 := e_t hc hq15
            obtain rfl := Option.some.inj hq15
            exact Jq14
          · have hq15 := e_f hc hq15
            refine r_aload_n F dX12_shake_69 rfl ?_
            refine r_aload_n F dX12_shake_70 rfl ?_
            refine r_get F dX12_shake_71 flX12_241 rfl rfl (e_le rfl) (e_lt hnx rfl) ?_
            obtain ⟨q16, hq17, hq15⟩ := e_bd hq15
            refine r_callV F dX12_shake_74 (b := 72) (dc := 0) (ds := 0) (As := [.int q12.2.1]) (S0 := []) lkX12_409 mX12_draw (tX12_draw_72 hG (la := x_l X) (h := e_up h [(72, o72 0 a72_2 a72_3 a72_4 a72_5 a72_6 a72_7 a72_8 a72_9 a72_10 a72_11 a72_17 a72_18 a72_19 a72_21 a72_22 q12.2.1 q5.1 a72_35 a72_37 a72_38 a72_39 a72_40 v9.2.2.2.1 a72_44 a72_50), (79, o79 v9.2.2.2.2.1), (81, o81 q12.2.2.1), (82, o82 q12.2.2.2.1), (83, o83 q12.2.2.2.2.1), (84, o84 q12.2.2.2.2.2.1), (85, o85 q12.2.2.2.2.2.2), (86, o86 q5.2)]) hnx rfl hq17) rfl rfl rfl (e_le rfl) (e_le rfl) (e_le rfl) rfl (ci := 12) e_cl12.1 rfl (e_le rfl) (e_lt hnx rfl) (Nat.zero_le _) (Nat.zero_le _) (e_k ?_)
            refine r_wr (l' := [(72, o72 0 a72_2 a72_3 a72_4 a72_5 a72_6 a72_7 a72_8 a72_9 a72_10 a72_11 a72_17 a72_18 a72_19 a72_21 a72_22 q12.2.1 q5.1 a72_35 a72_37 a72_38 a72_39 a72_40 q16.2 a72_44 a72_50), (79, o79 v9.2.2.2.2.1), (81, o81 q12.2.2.1), (82, o82 q12.2.2.2.1), (83, o83 q12.2.2.2.2.1), (84, o84 q12.2.2.2.2.2.1), (85, o85 q12.2.2.2.2.2.2), (86, o86 q5.2)]) rfl rfl ?_
            refine r_istore F dX12_shake_77 (e_le rfl) (L' := [some (.ref 72), some (.int p0), none, none, some (.int v9.1), some (.int v9.2.1), some (.int q16.1), none]) rfl ?_
            refine r_aload_n F dX12_shake_79 rfl ?_
            refine r_iconst F dX12_shake_80 (v := 2) (by decide) ?_
            obtain ⟨q18, hq19, hq15⟩ := e_bd hq15
            refine r_callV F dX12_shake_81 (b := 72) (dc := 0) (ds := 0) (As := [.int 2]) (S0 := []) lkX12_409 mX12_draw (tX12_draw_72 hG (la := x_l X) (h := e_up h [(72, o72 0 a72_2 a72_3 a72_4 a72_5 a72_6 a72_7 a72_8 a72_9 a72_10 a72_11 a72_17 a72_18 a72_19 a72_21 a72_22 q12.2.1 q5.1 a72_35 a72_37 a72_38 a72_39 a72_40 q16.2 a72_44 a72_50), (79, o79 v9.2.2.2.2.1), (81, o81 q12.2.2.1), (82, o82 q12.2.2.2.1), (83, o83 q12.2.2.2.2.1), (84, o84 q12.2.2.2.2.2.1), (85, o85 q12.2.2.2.2.2.2), (86, o86 q5.2)]) hnx rfl hq19) rfl rfl rfl (e_le rfl) (e_le rfl) (e_le rfl) rfl (ci := 12) e_cl12.1 rfl (e_le rfl) (e_lt hnx rfl) (Nat.zero_le _) (Nat.zero_le _) (e_k ?_)
            refine r_wr (l' := [(72, o72 0 a72_2 a72_3 a72_4 a72_5 a72_6 a72_7 a72_8 a72_9 a72_10 a72_11 a72_17 a72_18 a72_19 a72_21 a72_22 q12.2.1 q5.1 a72_35 a72_37 a72_38 a72_39 a72_40 q18.2 a72_44 a72_50), (79, o79 v9.2.2.2.2.1), (81, o81 q12.2.2.1), (82, o82 q12.2.2.2.1), (83, o83 q12.2.2.2.2.1), (84, o84 q12.2.2.2.2.2.1), (85, o85 q12.2.2.2.2.2.2), (86, o86 q5.2)]) rfl rfl ?_
            refine r_iconst F dX12_shake_84 (v := 1) (by decide) ?_
            obtain ⟨q20, hq21, hq15⟩ := e_bd hq15
            have Jq20 : eRun G X 93 [some (.ref 72), some (.int p0), none, none, some (.int v9.1), some (.int v9.2.1), some (.int q16.1), none] [.int (e_b q20)] h [(72, o72 0 a72_2 a72_3 a72_4 a72_5 a72_6 a72_7 a72_8 a72_9 a72_10 a72_11 a72_17 a72_18 a72_19 a72_21 a72_22 q12.2.1 q5.1 a72_35 a72_37 a72_38 a72_39 a72_40 q18.2 a72_44 a72_50), (79, o79 v9.2.2.2.2.1), (81, o81 q12.2.2.1), (82, o82 q12.2.2.2.1), (83, o83 q12.2.2.2.2.1), (84, o84 q12.2.2.2.2.2.1), (85, o85 q12.2.2.2.2.2.2), (86, o86 q5.2)] nx 0 0 := by
              refine r_istore F dX12_shake_93 (e_le rfl) (L' := [some (.ref 72), some (.int p0), none, none, some (.int v9.1), some (.int v9.2.1), some (.int q16.1), some (.int (e_b q20))]) rfl ?_
              refine r_aload_n F dX12_shake_95 rfl ?_
              refine r_iload F dX12_shake_96 rfl ?_
              obtain ⟨q22, hq23, hq15⟩ := e_bd hq15
              refine r_callV F dX12_shake_98 (b := 72) (dc := 0) (ds := 0) (As := [.int q16.1]) (S0 := []) lkX12_269 mX12_way (tX12_way_72 hG (la := x_l X) (h := e_up h [(72, o72 0 a72_2 a72_3 a72_4 a72_5 a72_6 a72_7 a72_8 a72_9 a72_10 a72_11 a72_17 a72_18 a72_19 a72_21 a72_22 q12.2.1 q5.1 a72_35 a72_37 a72_38 a72_39 a72_40 q18.2 a72_44 a72_50), (79, o79 v9.2.2.2.2.1), (81, o81 q12.2.2.1), (82, o82 q12.2.2.2.1), (83, o83 q12.2.2.2.2.1), (84, o84 q12.2.2.2.2.2.1), (85, o85 q12.2.2.2.2.2.2), (86, o86 q5.2)]) hnx rfl rfl rfl hq23) rfl rfl rfl (e_le rfl) (e_le rfl) (e_le rfl) rfl (ci := 12) e_cl12.1 rfl (e_le rfl) (e_lt hnx rfl) (Nat.zero_le _) (Nat.zero_le _) (e_k ?_)
              refine r_wr0 ?_
              refine r_iconst F dX12_shake_101 (v := (-1)) (by decide) ?_
              refine r_icmp_eq F dX12_shake_102 (tgt := 152) (by decide) (fun hc => ?_) (fun hc => ?_)
              · have hq15 := e_t hc hq15
                refine r_drop 6 (L' := [some (.ref 72), some (.int p0), none, none, some (.int v9.1), some (.int v9.2.1), none, some (.int (e_b q20))]) rfl ?_
                refine r_drop 7 (L' := [some (.ref 72), some (.int p0), none, none, some (.int v9.1), some (.int v9.2.1), none, none]) rfl ?_
                obtain rfl := Option.some.inj hq15
                exact Jq14
              · have hq15 := e_f hc hq15
                refine r_aload_n F dX12_shake_105 rfl ?_
                refine r_aload_n F dX12_shake_106 rfl ?_
                refine r_get F dX12_shake_107 flX12_34 rfl rfl (e_le rfl) (e_lt hnx rfl) ?_
                refine r_iload F dX12_shake_110 rfl ?_
                obtain ⟨hg, hq15⟩ := e_gd hq15
                refine r_iald F dX12_shake_112 (i := q16.1) rfl (e_le rfl) (e_lt hnx rfl) (e_vp hg) ?_
                refine r_aload_n F dX12_shake_113 rfl ?_
                refine r_get F dX12_shake_114 flX12_37 rfl rfl (e_le rfl) (e_lt hnx rfl) ?_
                refine r_iload F dX12_shake_117 rfl ?_
                obtain ⟨hg, hq15⟩ := e_gd hq15
                refine r_iald F dX12_shake_119 (i := q16.1) rfl (e_le rfl) (e_lt hnx rfl) (e_vp hg) ?_
                refine r_aload_n F dX12_shake_120 rfl ?_
                refine r_iload F dX12_shake_121 rfl ?_
                obtain ⟨q24, hq25, hq15⟩ := e_bd hq15
                refine r_callV F dX12_shake_123 (b := 72) (dc := 0) (ds := 0) (As := [.int q16.1]) (S0 := [.int (q12.2.2.2.1 (tn q16.1)), .int (q12.2.2.1 (tn q16.1)), .ref 72]) lkX12_269 mX12_way (tX12_way_72 hG (la := x_l X) (h := e_up h [(72, o72 0 a72_2 a72_3 a72_4 a72_5 a72_6 a72_7 a72_8 a72_9 a72_10 a72_11 a72_17 a72_18 a72_19 a72_21 a72_22 q12.2.1 q5.1 a72_35 a72_37 a72_38 a72_39 a72_40 q18.2 a72_44 a72_50), (79, o79 v9.2.2.2.2.1), (81, o81 q12.2.2.1), (82, o82 q12.2.2.2.1), (83, o83 q12.2.2.2.2.1), (84, o84 q12.2.2.2.2.2.1), (85, o85 q12.2.2.2.2.2.2), (86, o86 q5.2)]) hnx rfl rfl rfl hq25) rfl rfl rfl (e_le rfl) (e_le rfl) (e_le rfl) rfl (ci := 12) e_cl12.1 rfl (e_le rfl) (e_lt hnx rfl) (Nat.zero_le _) (Nat.zero_le _) (e_k ?_)
                refine r_wr0 ?_
                refine r_iload F dX12_shake_126 rfl ?_
                obtain ⟨q26, hq27, hq15⟩ := e_bd hq15
                refine r_callS F dX12_shake_128 (dc := 0) (ds := 0) (As := [.int q24, .int (e_b q20)]) (S0 := [.int (q12.2.2.2.1 (tn q16.1)), .int (q12.2.2.1 (tn q16.1)), .ref 72]) lkX12_372 mX12_directionOf (tX12_directionOf hG (la := x_l X) (h := e_up h [(72, o72 0 a72_2 a72_3 a72_4 a72_5 a72_6 a72_7 a72_8 a72_9 a72_10 a72_11 a72_17 a72_18 a72_19 a72_21 a72_22 q12.2.1 q5.1 a72_35 a72_37 a72_38 a72_39 a72_40 q18.2 a72_44 a72_50), (79, o79 v9.2.2.2.2.1), (81, o81 q12.2.2.1), (82, o82 q12.2.2.2.1), (83, o83 q12.2.2.2.2.1), (84, o84 q12.2.2.2.2.2.1), (85, o85 q12.2.2.2.2.2.2), (86, o86 q5.2)]) hnx  hq27) rfl rfl rfl (e_le rfl) (e_le rfl) (e_le rfl) (Nat.zero_le _) (Nat.zero_le _) (e_k ?_)
                refine r_wr0 ?_
                refine r_aload_n F dX12_shake_131 rfl ?_
                refine r_get F dX12_shake_132 flX12_40 rfl rfl (e_le rfl) (e_lt hnx rfl) ?_
                refine r_iload F dX12_shake_135 rfl ?_
                obtain ⟨hg, hq15⟩ := e_gd hq15
                refine r_iald F dX12_shake_137 (i := q16.1) rfl (e_le rfl) (e_lt hnx rfl) (e_vp hg) ?_
                refine r_aload_n F dX12_shake_138 rfl ?_
                refine r_get F dX12_shake_139 flX12_43 rfl rfl (e_le rfl) (e_lt hnx rfl) ?_
                refine r_iload F dX12_shake_142 rfl ?_
                obtain ⟨hg, hq15⟩ := e_gd hq15
                refine r_iald F dX12_shake_144 (i := q16.1) rfl (e_le rfl) (e_lt hnx rfl) (e_vp hg) ?_
                obtain ⟨q28, hq29, hq15⟩ := e_bd hq15
                refine r_callV F dX12_shake_145 (b := 72) (dc := 0) (ds := 0) (As := [.int (q12.2.2.1 (tn q16.1)), .int (q12.2.2.2.1 (tn q16.1)), .int q26, .int (q12.2.2.2.2.1 (tn q16.1)), .int (q12.2.2.2.2.2.1 (tn q16.1))]) (S0 := []) lkX12_367 mX12_moves (tX12_moves_72 hG (la := x_l X) (h := e_up h [(72, o72 0 a72_2 a72_3 a72_4 a72_5 a72_6 a72_7 a72_8 a72_9 a72_10 a72_11 a72_17 a72_18 a72_19 a72_21 a72_22 q12.2.1 q5.1 a72_35 a72_37 a72_38 a72_39 a72_40 q18.2 a72_44 a72_50), (79, o79 v9.2.2.2.2.1), (81, o81 q12.2.2.1), (82, o82 q12.2.2.2.1), (83, o83 q12.2.2.2.2.1), (84, o84 q12.2.2.2.2.2.1), (85, o85 q12.2.2.2.2.2.2), (86, o86 q5.2)]) hnx rfl rfl hq29) rfl rfl rfl (e_le rfl) (e_le rfl) (e_le rfl) rfl (ci := 12) e_cl12.1 rfl (e_le rfl) (e_lt hnx rfl) (Nat.zero_le _) (Nat.zero_le _) (e_k ?_)
                refine r_wr (l' := [(72, o72 0 a72_2 a72_3 a72_4 a72_5 a72_6 a72_7 a72_8 a72_9 a72_10 a72_11 a72_17 a72_18 a72_19 a72_21 a72_22 q12.2.1 q5.1 a72_35 a72_37 a72_38 a72_39 a72_40 q18.2 a72_44 a72_50), (79, o79 q28.2), (81, o81 q12.2.2.1), (82, o82 q12.2.2.2.1), (83, o83 q12.2.2.2.2.1), (84, o84 q12.2.2.2.2.2.1), (85, o85 q12.2.2.2.2.2.2), (86, o86 q5.2)]) rfl rfl ?_
                refine r_pop F dX12_shake_148 rfl ?_
                refine r_inc F dX12_shake_149 (k9 := 1) (by decide) rfl (L' := [some (.ref 72), some (.int p0), none, none, some (.int (v9.1 + 1)), some (.int v9.2.1), some (.int q16.1), some (.int (e_b q20))]) rfl ?_
                refine r_drop 6 (L' := [some (.ref 72), some (.int p0), none, none, some (.int (v9.1 + 1)), some (.int v9.2.1), none, some (.int (e_b q20))]) rfl ?_
                refine r_drop 7 (L' := [some (.ref 72), some (.int p0), none, none, some (.int (v9.1 + 1)), some (.int v9.2.1), none, none]) rfl ?_
                obtain rfl := Option.some.inj hq15
                exact Jq14
            refine r_icmp_ne F dX12_shake_85 (tgt := 92) (by decide) (fun hc => ?_) (fun hc => ?_)
            · have hq21 := e_f hc hq21
              refine r_iconst F dX12_shake_92 (v := 0) (by decide) ?_
              obtain rfl := Option.some.inj hq21
              exact Jq20
            · have hq21 := e_t hc hq21
              refine r_iconst F dX12_shake_88 (v := 1) (by decide) ?_
              refine r_goto F dX12_shake_89 (tgt := 93) (by decide) ?_
              obtain rfl := Option.some.inj hq21
              exact Jq20
      · show eRun G X 158 [none, none, none, none, some (.int x10.1), none, none, none] [] h [(72, o72 0 a72_2 a72_3 a72_4 a72_5 a72_6 a72_7 a72_8 a72_9 a72_10 a72_11 a72_17 a72_18 a72_19 a72_21 a72_22 x10.2.1 q5.1 a72_35 a72_37 a72_38 a72_39 a72_40 x10.2.2.1 a72_44 a72_50), (79, o79 x10.2.2.2.1), (81, o81 x10.2.2.2.2.1), (82, o82 x10.2.2.2.2.2.1), (83, o83 x10.2.2.2.2.2.2.1), (84, o84 x10.2.2.2.2.2.2.2.1), (85, o85 x10.2.2.2.2.2.2.2.2), (86, o86 q5.2)] nx 0 0
        refine r_iload F dX12_shake_158 rfl ?_
        refine r_mat (k := 87) h87 (l' := [(72, o72 0 a72_2 a72_3 a72_4 a72_5 a72_6 a72_7 a72_8 a72_9 a72_10 a72_11 a72_17 a72_18 a72_19 a72_21 a72_22 x10.2.1 q5.1 a72_35 a72_37 a72_38 a72_39 a72_40 x10.2.2.1 a72_44 a72_50), (79, o79 x10.2.2.2.1), (81, o81 x10.2.2.2.2.1), (82, o82 x10.2.2.2.2.2.1), (83, o83 x10.2.2.2.2.2.2.1), (84, o84 x10.2.2.2.2.2.2.2.1), (85, o85 x10.2.2.2.2.2.2.2.2), (86, o86 q5.2), (87, o87 A87)]) rfl ?_
        obtain rfl := Option.some.inj hf
        exact r_iret F hq dX12_shake_160 rfl rfl (Nat.le_refl _) (Nat.le_refl _) ⟨rfl, rfl⟩
    · have hf := e_f hc hf
      refine r_aload_n F dX12_shake_30 rfl ?_
      refine r_iconst F dX12_shake_31 (v := 2) (by decide) ?_
      obtain ⟨q30, hq31, hf⟩ := e_bd hf
      refine r_callV F dX12_shake_32 (b := 72) (dc := 0) (ds := 0) (As := [.int 2]) (S0 := []) lkX12_354 mX12_refuses (tX12_refuses_72 hG (la := x_l X) (h := e_up h [(72, o72 0 a72_2 a72_3 a72_4 a72_5 a72_6 a72_7 a72_8 a72_9 a72_10 a72_11 a72_17 a72_18 a72_19 a72_21 a72_22 a72_29 a72_31 a72_35 a72_37 a72_38 a72_39 a72_40 a72_41 a72_44 a72_50)]) hnx rfl h87 hq31) rfl rfl rfl (e_le rfl) (e_le rfl) (e_le rfl) rfl (ci := 12) e_cl12.1 rfl (e_le rfl) (e_lt hnx rfl) (Nat.zero_le _) (Nat.zero_le _) (e_k ?_)
      refine r_wr (l' := [(72, o72 0 a72_2 a72_3 a72_4 a72_5 a72_6 a72_7 a72_8 a72_9 a72_10 a72_11 a72_17 a72_18 a72_19 a72_21 a72_22 a72_29 a72_31 a72_35 a72_37 a72_38 a72_39 a72_40 a72_41 a72_44 a72_50), (87, o87 q30.2)]) rfl rfl ?_
      refine r_mat (k := 79) h79 (l' := [(72, o72 0 a72_2 a72_3 a72_4 a72_5 a72_6 a72_7 a72_8 a72_9 a72_10 a72_11 a72_17 a72_18 a72_19 a72_21 a72_22 a72_29 a72_31 a72_35 a72_37 a72_38 a72_39 a72_40 a72_41 a72_44 a72_50), (79, o79 A79), (87, o87 q30.2)]) rfl ?_
      refine r_mat (k := 81) h81 (l' := [(72, o72 0 a72_2 a72_3 a72_4 a72_5 a72_6 a72_7 a72_8 a72_9 a72_10 a72_11 a72_17 a72_18 a72_19 a72_21 a72_22 a72_29 a72_31 a72_35 a72_37 a72_38 a72_39 a72_40 a72_41 a72_44 a72_50), (79, o79 A79), (81, o81 A81), (87, o87 q30.2)]) rfl ?_
      refine r_mat (k := 82) h82 (l' := [(72, o72 0 a72_2 a72_3 a72_4 a72_5 a72_6 a72_7 a72_8 a72_9 a72_10 a72_11 a72_17 a72_18 a72_19 a72_21 a72_22 a72_29 a72_31 a72_35 a72_37 a72_38 a72_39 a72_40 a72_41 a72_44 a72_50), (79, o79 A79), (81, o81 A81), (82, o82 A82), (87, o87 q30.2)]) rfl ?_
      refine r_mat (k := 83) h83 (l' := [(72, o72 0 a72_2 a72_3 a72_4 a72_5 a72_6 a72_7 a72_8 a72_9 a72_10 a72_11 a72_17 a72_18 a72_19 a72_21 a72_22 a72_29 a72_31 a72_35 a72_37 a72_38 a72_39 a72_40 a72_41 a72_44 a72_50), (79, o79 A79), (81, o81 A81), (82, o82 A82), (83, o83 A83), (87, o87 q30.2)]) rfl ?_
      refine r_mat (k := 84) h84 (l' := [(72, o72 0 a72_2 a72_3 a72_4 a72_5 a72_6 a72_7 a72_8 a72_9 a72_10 a72_11 a72_17 a72_18 a72_19 a72_21 a72_22 a72_29 a72_31 a72_35 a72_37 a72_38 a72_39 a72_40 a72_41 a72_44 a72_50), (79, o79 A79), (81, o81 A81), (82, o82 A82), (83, o83 A83), (84, o84 A84), (87, o87 q30.2)]) rfl ?_
      refine r_mat (k := 85) h85 (l' := [(72, o72 0 a72_2 a72_3 a72_4 a72_5 a72_6 a72_7 a72_8 a72_9 a72_10 a72_11 a72_17 a72_18 a72_19 a72_21 a72_22 a72_29 a72_31 a72_35 a72_37 a72_38 a72_39 a72_40 a72_41 a72_44 a72_50), (79, o79 A79), (81, o81 A81), (82, o82 A82), (83, o83 A83), (84, o84 A84), (85, o85 A85), (87, o87 q30.2)]) rfl ?_
      refine r_mat (k := 86) h86 (l' := [(72, o72 0 a72_2 a72_3 a72_4 a72_5 a72_6 a72_7 a72_8 a72_9 a72_10 a72_11 a72_17 a72_18 a72_19 a72_21 a72_22 a72_29 a72_31 a72_35 a72_37 a72_38 a72_39 a72_40 a72_41 a72_44 a72_50), (79, o79 A79), (81, o81 A81), (82, o82 A82), (83, o83 A83), (84, o84 A84), (85, o85 A85), (86, o86 A86), (87, o87 q30.2)]) rfl ?_
      obtain rfl := Option.some.inj hf
      exact r_iret F hq dX12_shake_35 rfl rfl (Nat.le_refl _) (Nat.le_refl _) ⟨rfl, rfl⟩
  · have hf := e_f hc hf
    refine r_aload_n F dX12_shake_12 rfl ?_
    refine r_iconst F dX12_shake_13 (v := 0) (by decide) ?_
    obtain ⟨q32, hq33, hf⟩ := e_bd hf
    refine r_callV F dX12_shake_14 (b := 72) (dc := 0) (ds := 0) (As := [.int 0]) (S0 := []) lkX12_354 mX12_refuses (tX12_refuses_72 hG (la := x_l X) (h := e_up h [(72, o72 0 a72_2 a72_3 a72_4 a72_5 a72_6 a72_7 a72_8 a72_9 a72_10 a72_11 a72_17 a72_18 a72_19 a72_21 a72_22 a72_29 a72_31 a72_35 a72_37 a72_38 a72_39 a72_40 a72_41 a72_44 a72_50)]) hnx rfl h87 hq33) rfl rfl rfl (e_le rfl) (e_le rfl) (e_le rfl) rfl (ci := 12) e_cl12.1 rfl (e_le rfl) (e_lt hnx rfl) (Nat.zero_le _) (Nat.zero_le _) (e_k ?_)
    refine r_wr (l' := [(72, o72 0 a72_2 a72_3 a72_4 a72_5 a72_6 a72_7 a72_8 a72_9 a72_10 a72_11 a72_17 a72_18 a72_19 a72_21 a72_22 a72_29 a72_31 a72_35 a72_37 a72_38 a72_39 a72_40 a72_41 a72_44 a72_50), (87, o87 q32.2)]) rfl rfl ?_
    refine r_mat (k := 79) h79 (l' := [(72, o72 0 a72_2 a72_3 a72_4 a72_5 a72_6 a72_7 a72_8 a72_9 a72_10 a72_11 a72_17 a72_18 a72_19 a72_21 a72_22 a72_29 a72_31 a72_35 a72_37 a72_38 a72_39 a72_40 a72_41 a72_44 a72_50), (79, o79 A79), (87, o87 q32.2)]) rfl ?_
    refine r_mat (k := 81) h81 (l' := [(72, o72 0 a72_2 a72_3 a72_4 a72_5 a72_6 a72_7 a72_8 a72_9 a72_10 a72_11 a72_17 a72_18 a72_19 a72_21 a72_22 a72_29 a72_31 a72_35 a72_37 a72_38 a72_39 a72_40 a72_41 a72_44 a72_50), (79, o79 A79), (81, o81 A81), (87, o87 q32.2)]) rfl ?_
    refine r_mat (k := 82) h82 (l' := [(72, o72 0 a72_2 a72_3 a72_4 a72_5 a72_6 a72_7 a72_8 a72_9 a72_10 a72_11 a72_17 a72_18 a72_19 a72_21 a72_22 a72_29 a72_31 a72_35 a72_37 a72_38 a72_39 a72_40 a72_41 a72_44 a72_50), (79, o79 A79), (81, o81 A81), (82, o82 A82), (87, o87 q32.2)]) rfl ?_
    refine r_mat (k := 83) h83 (l' := [(72, o72 0 a72_2 a72_3 a72_4 a72_5 a72_6 a72_7 a72_8 a72_9 a72_10 a72_11 a72_17 a72_18 a72_19 a72_21 a72_22 a72_29 a72_31 a72_35 a72_37 a72_38 a72_39 a72_40 a72_41 a72_44 a72_50), (79, o79 A79), (81, o81 A81), (82, o82 A82), (83, o83 A83), (87, o87 q32.2)]) rfl ?_
    refine r_mat (k := 84) h84 (l' := [(72, o72 0 a72_2 a72_3 a72_4 a72_5 a72_6 a72_7 a72_8 a72_9 a72_10 a72_11 a72_17 a72_18 a72_19 a72_21 a72_22 a72_29 a72_31 a72_35 a72_37 a72_38 a72_39 a72_40 a72_41 a72_44 a72_50), (79, o79 A79), (81, o81 A81), (82, o82 A82), (83, o83 A83), (84, o84 A84), (87, o87 q32.2)]) rfl ?_
    refine r_mat (k := 85) h85 (l' := [(72, o72 0 a72_2 a72_3 a72_4 a72_5 a72_6 a72_7 a72_8 a72_9 a72_10 a72_11 a72_17 a72_18 a72_19 a72_21 a72_22 a72_29 a72_31 a72_35 a72_37 a72_38 a72_39 a72_40 a72_41 a72_44 a72_50), (79, o79 A79), (81, o81 A81), (82, o82 A82), (83, o83 A83), (84, o84 A84), (85, o85 A85), (87, o87 q32.2)]) rfl ?_
    refine r_mat (k := 86) h86 (l' := [(72, o72 0 a72_2 a72_3 a72_4 a72_5 a72_6 a72_7 a72_8 a72_9 a72_10 a72_11 a72_17 a72_18 a72_19 a72_21 a72_22 a72_29 a72_31 a72_35 a72_37 a72_38 a72_39 a72_40 a72_41 a72_44 a72_50), (79, o79 A79), (81, o81 A81), (82, o82 A82), (83, o83 A83), (84, o84 A84), (85, o85 A85), (86, o86 A86), (87, o87 q32.2)]) rfl ?_
    obtain rfl := Option.some.inj hf
    exact r_iret F hq dX12_shake_17 rfl rfl (Nat.le_refl _) (Nat.le_refl _) ⟨rfl, rfl⟩

def fX12_shift (a72_0 : Int32) (a72_21 : Int32) (a72_22 : Int32) (a72_31 : Int32) (A79 : Nat → Int32) (A86 : Nat → Int32) (A87 : Nat → Int32) (p0 : Int32) (p1 : Int32) (p2 : Int32) (p3 : Int32) : Option (Int32 × Int32 × Int32 × (Nat → Int32) × (Nat → Int32) × (Nat → Int32)) :=
  (fX12_isCrystal a72_21).bind (fun q1 =>
  if q1 = true then
    (fX12_isSite a72_21 a72_22 p0 p1).bind (fun q3 =>
    if q3 = true then
      (fX12_in (Int32.toInt64 p2) (-9) 9).bind (fun q5 =>
      if q5 = true then
        (fX12_in (Int32.toInt64 p3) (-9) 9).bind (fun q7 =>
        if q7 = true then
          if p2 = 0 then
            if p3 = 0 then
              (fX12_refuses A87 2).bind (fun q57 =>
              some (q57.1, 0, a72_31, A79, A86, q57.2))
            else
              (fX12_keeps a72_31 A79 A86).bind (fun q33 =>
              (fX12_isLink a72_21 a72_22 p0 p1 false).bind (fun q35 =>
              Option.bind (α := (Nat → Int32)) (
                if q35 = true then
                  (fX12_changes A79 p0 p1 false ((0 : Int32) - p2) ((0 : Int32) - p3)).bind (fun q55 =>
                  some q55)
                else
                  some A79) (fun q37 =>
              (fX12_isLink a72_21 a72_22 p0 p1 true).bind (fun q39 =>
              Option.bind (α := (Nat → Int32)) (
                if q39 = true then
                  (fX12_changes q37 p0 p1 true ((0 : Int32) - p2) ((0 : Int32) - p3)).bind (fun q53 =>
                  some q53)
                else
                  some q37) (fun q41 =>
              Option.bind (α := (Nat → Int32)) (
                if p0 ≤ 0 then
                  some q41
                else
                  (fX12_changes q41 (p0 - 1) p1 false p2 p3).bind (fun q51 =>
                  some q51)) (fun q43 =>
              Option.bind (α := (Nat → Int32)) (
                if p1 ≤ 0 then
                  some q43
                else
                  (fX12_changes q43 p0 (p1 - 1) true p2 p3).bind (fun q49 =>
                  some q49)) (fun q45 =>
              (fX12_slipped a72_21 a72_22 q45).bind (fun q47 =>
              some (q47, 0, q33.1, q45, q33.2, A87)))))))))
          else
            (fX12_keeps a72_31 A79 A86).bind (fun q9 =>
            (fX12_isLink a72_21 a72_22 p0 p1 false).bind (fun q11 =>
            Option.bind (α := (Nat → Int32)) (
              if q11 = true then
                (fX12_changes A79 p0 p1 false ((0 : Int32) - p2) ((0 : Int32) - p3)).bind (fun q31 =>
                some q31)
              else
                some A79) (fun q13 =>
            (fX12_isLink a72_21 a72_22 p0 p1 true).bind (fun q15 =>
            Option.bind (α := (Nat → Int32)) (
              if q15 = true then
                (fX12_changes q13 p0 p1 true ((0 : Int32) - p2) ((0 : Int32) - p3)).bind (fun q29 =>
                some q29)
              else
                some q13) (fun q17 =>
            Option.bind (α := (Nat → Int32)) (
              if p0 ≤ 0 then
                some q17
              else
                (fX12_changes q17 (p0 - 1) p1 false p2 p3).bind (fun q27 =>
                some q27)) (fun q19 =>
            Option.bind (α := (Nat → Int32)) (
              if p1 ≤ 0 then
                some q19
              else
                (fX12_changes q19 p0 (p1 - 1) true p2 p3).bind (fun q25 =>
                some q25)) (fun q21 =>
            (fX12_slipped a72_21 a72_22 q21).bind (fun q23 =>
            some (q23, 0, q9.1, q21, q9.2, A87)))))))))
        else
          (fX12_refuses A87 2).bind (fun q59 =>
          some (q59.1, 0, a72_31, A79, A86, q59.2)))
      else
        (fX12_refuses A87 2).bind (fun q61 =>
        some (q61.1, 0, a72_31, A79, A86, q61.2)))
    else
      (fX12_refuses A87 1).bind (fun q63 =>
      some (q63.1, 0, a72_31, A79, A86, q63.2)))
  else
    (fX12_refuses A87 0).bind (fun q65 =>
    some (q65.1, 0, a72_31, A79, A86, q65.2)))
set_option maxRecDepth 100000 in
theorem tX12_shift_72 {G : eG} (hG : e_GS G) {la : Launch} {h : Nat → eO} {nx : Nat} (hnx : 99 ≤ nx) {a72_0 : Int32} {a72_2 : Int32} {a72_3 : Int32} {a72_4 : Int32} {a72_5 : Int32} {a72_6 : Int32} {a72_7 : Int32} {a72_8 : Bool} {a72_9 : Int32} {a72_10 : Int32} {a72_11 : Int32} {a72_17 : Bool} {a72_18 : Bool} {a72_19 : Bool} {a72_21 : Int32} {a72_22 : Int32} {a72_29 : Int32} {a72_31 : Int32} {a72_35 : Int32} {a72_37 : Bool} {a72_38 : Int32} {a72_39 : Int32} {a72_40 : Int32} {a72_41 : Int64} {a72_44 : Int32} {a72_50 : Bool} {A79 : Nat → Int32} {A86 : Nat → Int32} {A87 : Nat → Int32} {p0 : Int32} {p1 : Int32} {p2 : Int32} {p3 : Int32} (h72 : h 72 = o72 a72_0 a72_2 a72_3 a72_4 a72_5 a72_6 a72_7 a72_8 a72_9 a72_10 a72_11 a72_17 a72_18 a72_19 a72_21 a72_22 a72_29 a72_31 a72_35 a72_37 a72_38 a72_39 a72_40 a72_41 a72_44 a72_50) (h79 : h 79 = o79 A79) (h86 : h 86 = o86 A86) (h87 : h 87 = o87 A87) {R9 : Int32 × Int32 × Int32 × (Nat → Int32) × (Nat → Int32) × (Nat → Int32)} (hf : fX12_shift a72_0 a72_21 a72_22 a72_31 A79 A86 A87 p0 p1 p2 p3 = some R9) :
    eSem G la MX12_shift [.ref 72, .int p0, .int p1, .int p2, .int p3] h nx 0 0 (fun r9 h9 => r9 = some (.int R9.1) ∧ h9 = e_up h [(72, o72 R9.2.1 a72_2 a72_3 a72_4 a72_5 a72_6 a72_7 a72_8 a72_9 a72_10 a72_11 a72_17 a72_18 a72_19 a72_21 a72_22 a72_29 R9.2.2.1 a72_35 a72_37 a72_38 a72_39 a72_40 a72_41 a72_44 a72_50), (79, o79 R9.2.2.2.1), (86, o86 R9.2.2.2.2.1), (87, o87 R9.2.2.2.2.2)]) := by
  refine eSem.of (k := 0) (L := [some (.ref 72), some (.int p0), some (.int p1), some (.int p2), some (.int p3)]) (by decide +kernel) rfl rfl (fun X F hxl hq hcR hsR => ?_)
  subst hxl
  unfold fX12_shift at hf
  refine r_aload_n F dX12_shift_0 rfl ?_
  refine r_iconst F dX12_shift_1 (v := 0) (by decide) ?_
  refine r_put F dX12_shift_2 flX12_86 rfl rfl rfl h72 (e_le rfl) (e_le rfl) (e_lt hnx rfl) (l' := [(72, o72 0 a72_2 a72_3 a72_4 a72_5 a72_6 a72_7 a72_8 a72_9 a72_10 a72_11 a72_17 a72_18 a72_19 a72_21 a72_22 a72_29 a72_31 a72_35 a72_37 a72_38 a72_39 a72_40 a72_41 a72_44 a72_50)]) rfl ?_
  refine r_aload_n F dX12_shift_5 rfl ?_
  obtain ⟨q1, hq2, hf⟩ := e_bd hf
  refine r_callV F dX12_shift_6 (b := 72) (dc := 0) (ds := 0) (As := []) (S0 := []) lkX12_306 mX12_isCrystal (tX12_isCrystal_72 hG (la := x_l X) (h := e_up h [(72, o72 0 a72_2 a72_3 a72_4 a72_5 a72_6 a72_7 a72_8 a72_9 a72_10 a72_11 a72_17 a72_18 a72_19 a72_21 a72_22 a72_29 a72_31 a72_35 a72_37 a72_38 a72_39 a72_40 a72_41 a72_44 a72_50)]) hnx rfl hq2) rfl rfl rfl (e_le rfl) (e_le rfl) (e_le rfl) rfl (ci := 12) e_cl12.1 rfl (e_le rfl) (e_lt hnx rfl) (Nat.zero_le _) (Nat.zero_le _) (e_k ?_)
  refine r_wr0 ?_
  refine r_z_ne F dX12_shift_9 (tgt := 18) (by decide) (fun hc => ?_) (fun hc => ?_)
  · have hf := e_t hc hf
    refine r_aload_n F dX12_shift_18 rfl ?_
    refine r_iload_n F dX12_shift_19 rfl ?_
    refine r_iload_n F dX12_shift_20 rfl ?_
    obtain ⟨q3, hq4, hf⟩ := e_bd hf
    refine r_callV F dX12_shift_21 (b := 72) (dc := 0) (ds := 0) (As := [.int p0, .int p1]) (S0 := []) lkX12_215 mX12_isSite (tX12_isSite_72 hG (la := x_l X) (h := e_up h [(72, o72 0 a72_2 a72_3 a72_4 a72_5 a72_6 a72_7 a72_8 a72_9 a72_10 a72_11 a72_17 a72_18 a72_19 a72_21 a72_22 a72_29 a72_31 a72_35 a72_37 a72_38 a72_39 a72_40 a72_41 a72_44 a72_50)]) hnx rfl hq4) rfl rfl rfl (e_le rfl) (e_le rfl) (e_le rfl) rfl (ci := 12) e_cl12.1 rfl (e_le rfl) (e_lt hnx rfl) (Nat.zero_le _) (Nat.zero_le _) (e_k ?_)
    refine r_wr0 ?_
    refine r_z_ne F dX12_shift_24 (tgt := 33) (by decide) (fun hc => ?_) (fun hc => ?_)
    · have hf := e_t hc hf
      refine r_iload_n F dX12_shift_33 rfl ?_
      refine r_i2l F dX12_shift_34 ?_
      refine r_ldc2 F dX12_shift_35 klX12_397 ?_
      refine r_ldc2 F dX12_shift_38 klX12_399 ?_
      obtain ⟨q5, hq6, hf⟩ := e_bd hf
      refine r_callS F dX12_shift_41 (dc := 0) (ds := 0) (As := [.long (Int32.toInt64 p2), .long (-9), .long 9]) (S0 := []) lkX12_97 mX12_in (tX12_in hG (la := x_l X) (h := e_up h [(72, o72 0 a72_2 a72_3 a72_4 a72_5 a72_6 a72_7 a72_8 a72_9 a72_10 a72_11 a72_17 a72_18 a72_19 a72_21 a72_22 a72_29 a72_31 a72_35 a72_37 a72_38 a72_39 a72_40 a72_41 a72_44 a72_50)]) hnx  hq6) rfl rfl rfl (e_le rfl) (e_le rfl) (e_le rfl) (Nat.zero_le _) (Nat.zero_le _) (e_k ?_)
      refine r_wr0 ?_
      refine r_z_eq F dX12_shift_44 (tgt := 71) (by decide) (fun hc => ?_) (fun hc => ?_)
      · have hf := e_t hc hf
        refine r_iload F dX12_shift_47 rfl ?_
        refine r_i2l F dX12_shift_49 ?_
        refine r_ldc2 F dX12_shift_50 klX12_397 ?_
        refine r_ldc2 F dX12_shift_53 klX12_399 ?_
        obtain ⟨q7, hq8, hf⟩ := e_bd hf
        refine r_callS F dX12_shift_56 (dc := 0) (ds := 0) (As := [.long (Int32.toInt64 p3), .long (-9), .long 9]) (S0 := []) lkX12_97 mX12_in (tX12_in hG (la := x_l X) (h := e_up h [(72, o72 0 a72_2 a72_3 a72_4 a72_5 a72_6 a72_7 a72_8 a72_9 a72_10 a72_11 a72_17 a72_18 a72_19 a72_21 a72_22 a72_29 a72_31 a72_35 a72_37 a72_38 a72_39 a72_40 a72_41 a72_44 a72_50)]) hnx  hq8) rfl rfl rfl (e_le rfl) (e_le rfl) (e_le rfl) (Nat.zero_le _) (Nat.zero_le _) (e_k ?_)
        refine r_wr0 ?_
        refine r_z_eq F dX12_shift_59 (tgt := 71) (by decide) (fun hc => ?_) (fun hc => ?_)
        · have hf := e_t hc hf
          refine r_iload_n F dX12_shift_62 rfl ?_
          refine r_if_ne F dX12_shift_63 (tgt := 77) (by decide) (fun hc => ?_) (fun hc => ?_)
          · have hf := e_f hc hf
            refine r_aload_n F dX12_shift_77 rfl ?_
            obtain ⟨q9, hq10, hf⟩ := e_bd hf
            refine r_callV F dX12_shift_78 (b := 72) (dc := 0) (ds := 0) (As := []) (S0 := []) lkX12_364 mX12_keeps (tX12_keeps_72 hG (la := x_l X) (h := e_up h [(72, o72 0 a72_2 a72_3 a72_4 a72_5 a72_6 a72_7 a72_8 a72_9 a72_10 a72_11 a72_17 a72_18 a72_19 a72_21 a72_22 a72_29 a72_31 a72_35 a72_37 a72_38 a72_39 a72_40 a72_41 a72_44 a72_50)]) hnx rfl h79 h86 hq10) rfl rfl rfl (e_le rfl) (e_le rfl) (e_le rfl) rfl (ci := 12) e_cl12.1 rfl (e_le rfl) (e_lt hnx rfl) (Nat.zero_le _) (Nat.zero_le _) (e_k ?_)
            refine r_wr (l' := [(72, o72 0 a72_2 a72_3 a72_4 a72_5 a72_6 a72_7 a72_8 a72_9 a72_10 a72_11 a72_17 a72_18 a72_19 a72_21 a72_22 a72_29 q9.1 a72_35 a72_37 a72_38 a72_39 a72_40 a72_41 a72_44 a72_50), (86, o86 q9.2)]) rfl rfl ?_
            refine r_aload_n F dX12_shift_81 rfl ?_
            refine r_iload_n F dX12_shift_82 rfl ?_
            refine r_iload_n F dX12_shift_83 rfl ?_
            refine r_iconst F dX12_shift_84 (v := 0) (by decide) ?_
            obtain ⟨q11, hq12, hf⟩ := e_bd hf
            refine r_callV F dX12_shift_85 (b := 72) (dc := 0) (ds := 0) (As := [.int p0, .int p1, .int 0]) (S0 := []) lkX12_296 mX12_isLink (tX12_isLink_72 hG (la := x_l X) (h := e_up h [(72, o72 0 a72_2 a72_3 a72_4 a72_5 a72_6 a72_7 a72_8 a72_9 a72_10 a72_11 a72_17 a72_18 a72_19 a72_21 a72_22 a72_29 q9.1 a72_35 a72_37 a72_38 a72_39 a72_40 a72_41 a72_44 a72_50), (86, o86 q9.2)]) hnx rfl hq12) rfl rfl rfl (e_le rfl) (e_le rfl) (e_le rfl) rfl (ci := 12) e_cl12.1 rfl (e_le rfl) (e_lt hnx rfl) (Nat.zero_le _) (Nat.zero_le _) (e_k ?_)
            refine r_wr0 ?_
            obtain ⟨q13, hq14, hf⟩ := e_bd hf
            have Jq13 : eRun G X 103 [some (.ref 72), some (.int p0), some (.int p1), some (.int p2), some (.int p3)] [] h [(72, o72 0 a72_2 a72_3 a72_4 a72_5 a72_6 a72_7 a72_8 a72_9 a72_10 a72_11 a72_17 a72_18 a72_19 a72_21 a72_22 a72_29 q9.1 a72_35 a72_37 a72_38 a72_39 a72_40 a72_41 a72_44 a72_50), (79, o79 q13), (86, o86 q9.2)] nx 0 0 := by
              refine r_aload_n F dX12_shift_103 rfl ?_
              refine r_iload_n F dX12_shift_104 rfl ?_
              refine r_iload_n F dX12_shift_105 rfl ?_
              refine r_iconst F dX12_shift_106 (v := 1) (by decide) ?_
              obtain ⟨q15, hq16, hf⟩ := e_bd hf
              refine r_callV F dX12_shift_107 (b := 72) (dc := 0) (ds := 0) (As := [.int p0, .int p1, .int 1]) (S0 := []) lkX12_296 mX12_isLink (tX12_isLink_72 hG (la := x_l X) (h := e_up h [(72, o72 0 a72_2 a72_3 a72_4 a72_5 a72_6 a72_7 a72_8 a72_9 a72_10 a72_11 a72_17 a72_18 a72_19 a72_21 a72_22 a72_29 q9.1 a72_35 a72_37 a72_38 a72_39 a72_40 a72_41 a72_44 a72_50), (79, o79 q13), (86, o86 q9.2)]) hnx rfl hq16) rfl rfl rfl (e_le rfl) (e_le rfl) (e_le rfl) rfl (ci := 12) e_cl12.1 rfl (e_le rfl) (e_lt hnx rfl) (Nat.zero_le _) (Nat.zero_le _) (e_k ?_)
              refine r_wr0 ?_
              obtain ⟨q17, hq18, hf⟩ := e_bd hf
              have Jq17 : eRun G X 125 [some (.ref 72), some (.int p0), some (.int p1), some (.int p2), some (.int p3)] [] h [(72, o72 0 a72_2 a72_3 a72_4 a72_5 a72_6 a72_7 a72_8 a72_9 a72_10 a72_11 a72_17 a72_18 a72_19 a72_21 a72_22 a72_29 q9.1 a72_35 a72_37 a72_38 a72_39 a72_40 a72_41 a72_44 a72_50), (79, o79 q17), (86, o86 q9.2)] nx 0 0 := by
                refine r_iload_n F dX12_shift_125 rfl ?_
                obtain ⟨q19, hq20, hf⟩ := e_bd hf
                have Jq19 : eRun G X 141 [some (.ref 72), some (.int p0), some (.int p1), some (.int p2), some (.int p3)] [] h [(72, o72 0 a72_2 a72_3 a72_4 a72_5 a72_6 a72_7 a72_8 a72_9 a72_10 a72_11 a72_17 a72_18 a72_19 a72_21 a72_22 a72_29 q9.1 a72_35 a72_37 a72_38 a72_39 a72_40 a72_41 a72_44 a72_50), (79, o79 q19), (86, o86 q9.2)] nx 0 0 := by
                  refine r_iload_n F dX12_shift_141 rfl ?_
                  obtain ⟨q21, hq22, hf⟩ := e_bd hf
                  have Jq21 : eRun G X 157 [some (.ref 72), none, none, none, none] [] h [(72, o72 0 a72_2 a72_3 a72_4 a72_5 a72_6 a72_7 a72_8 a72_9 a72_10 a72_11 a72_17 a72_18 a72_19 a72_21 a72_22 a72_29 q9.1 a72_35 a72_37 a72_38 a72_39 a72_40 a72_41 a72_44 a72_50), (79, o79 q21), (86, o86 q9.2)] nx 0 0 := by
                    refine r_aload_n F dX12_shift_157 rfl ?_
                    obtain ⟨q23, hq24, hf⟩ := e_bd hf
                    refine r_callV F dX12_shift_158 (b := 72) (dc := 0) (ds := 0) (As := []) (S0 := []) lkX12_311 mX12_slipped (tX12_slipped_72 hG (la := x_l X) (h := e_up h [(72, o72 0 a72_2 a72_3 a72_4 a72_5 a72_6 a72_7 a72_8 a72_9 a72_10 a72_11 a72_17 a72_18 a72_19 a72_21 a72_22 a72_29 q9.1 a72_35 a72_37 a72_38 a72_39 a72_40 a72_41 a72_44 a72_50), (79, o79 q21), (86, o86 q9.2)]) hnx rfl rfl hq24) rfl rfl rfl (e_le rfl) (e_le rfl) (e_le rfl) rfl (ci := 12) e_cl12.1 rfl (e_le rfl) (e_lt hnx rfl) (Nat.zero_le _) (Nat.zero_le _) (e_k ?_)
                    refine r_wr0 ?_
                    refine r_mat (k := 87) h87 (l' := [(72, o72 0 a72_2 a72_3 a72_4 a72_5 a72_6 a72_7 a72_8 a72_9 a72_10 a72_11 a72_17 a72_18 a72_19 a72_21 a72_22 a72_29 q9.1 a72_35 a72_37 a72_38 a72_39 a72_40 a72_41 a72_44 a72_50), (79, o79 q21), (86, o86 q9.2), (87, o87 A87)]) rfl ?_
                    obtain rfl := Option.some.inj hf
                    exact r_iret F hq dX12_shift_161 rfl rfl (Nat.le_refl _) (Nat.le_refl _) ⟨rfl, rfl⟩
                  refine r_if_le F dX12_shift_142 (tgt := 157) (by decide) (fun hc => ?_) (fun hc => ?_)
                  · have hq22 := e_t hc hq22
                    refine r_drop 1 (L' := [some (.ref 72), none, some (.int p1), some (.int p2), some (.int p3)]) rfl ?_
                    refine r_drop 2 (L' := [some (.ref 72), none, none, some (.int p2), some (.int p3)]) rfl ?_
                    refine r_drop 3 (L' := [some (.ref 72), none, none, none, some (.int p3)]) rfl ?_
                    refine r_drop 4 (L' := [some (.ref 72), none, none, none, none]) rfl ?_
                    obtain rfl := Option.some.inj hq22
                    exact Jq21
                  · have hq22 := e_f hc hq22
                    refine r_aload_n F dX12_shift_145 rfl ?_
                    refine r_iload_n F dX12_shift_146 rfl ?_
                    refine r_iload_n F dX12_shift_147 rfl ?_
                    refine r_iconst F dX12_shift_148 (v := 1) (by decide) ?_
                    refine r_isub F dX12_shift_149 ?_
                    refine r_iconst F dX12_shift_150 (v := 1) (by decide) ?_
                    refine r_iload_n F dX12_shift_151 rfl ?_
                    refine r_iload F dX12_shift_152 rfl ?_
                    obtain ⟨q25, hq26, hq22⟩ := e_bd hq22
                    refine r_callV F dX12_shift_154 (b := 72) (dc := 0) (ds := 0) (As := [.int p0, .int (p1 - 1), .int 1, .int p2, .int p3]) (S0 := []) lkX12_225 mX12_changes (tX12_changes_72 hG (la := x_l X) (h := e_up h [(72, o72 0 a72_2 a72_3 a72_4 a72_5 a72_6 a72_7 a72_8 a72_9 a72_10 a72_11 a72_17 a72_18 a72_19 a72_21 a72_22 a72_29 q9.1 a72_35 a72_37 a72_38 a72_39 a72_40 a72_41 a72_44 a72_50), (79, o79 q19), (86, o86 q9.2)]) hnx rfl rfl hq26) rfl rfl rfl (e_le rfl) (e_le rfl) (e_le rfl) rfl (ci := 12) e_cl12.1 rfl (e_le rfl) (e_lt hnx rfl) (Nat.zero_le _) (Nat.zero_le _) (e_k ?_)
                    refine r_wr (l' := [(72, o72 0 a72_2 a72_3 a72_4 a72_5 a72_6 a72_7 a72_8 a72_9 a72_10 a72_11 a72_17 a72_18 a72_19 a72_21 a72_22 a72_29 q9.1 a72_35 a72_37 a72_38 a72_39 a72_40 a72_41 a72_44 a72_50), (79, o79 q25), (86, o86 q9.2)]) rfl rfl ?_
                    refine r_drop 1 (L' := [some (.ref 72), none, some (.int p1), some (.int p2), some (.int p3)]) rfl ?_
                    refine r_drop 2 (L' := [some (.ref 72), none, none, some (.int p2), some (.int p3)]) rfl ?_
                    refine r_drop 3 (L' := [some (.ref 72), none, none, none, some (.int p3)]) rfl ?_
                    refine r_drop 4 (L' := [some (.ref 72), none, none, none, none]) rfl ?_
                    obtain rfl := Option.some.inj hq22
                    exact Jq21
                refine r_if_le F dX12_shift_126 (tgt := 141) (by decide) (fun hc => ?_) (fun hc => ?_)
                · have hq20 := e_t hc hq20
                  obtain rfl := Option.some.inj hq20
                  exact Jq19
                · have hq20 := e_f hc hq20
                  refine r_aload_n F dX12_shift_129 rfl ?_
                  refine r_iload_n F dX12_shift_130 rfl ?_
                  refine r_iconst F dX12_shift_131 (v := 1) (by decide) ?_
                  refine r_isub F dX12_shift_132 ?_
                  refine r_iload_n F dX12_shift_133 rfl ?_
                  refine r_iconst F dX12_shift_134 (v := 0) (by decide) ?_
                  refine r_iload_n F dX12_shift_135 rfl ?_
                  refine r_iload F dX12_shift_136 rfl ?_
                  obtain ⟨q27, hq28, hq20⟩ := e_bd hq20
                  refine r_callV F dX12_shift_138 (b := 72) (dc := 0) (ds := 0) (As := [.int (p0 - 1), .int p1, .int 0, .int p2, .int p3]) (S0 := []) lkX12_225 mX12_changes (tX12_changes_72 hG (la := x_l X) (h := e_up h [(72, o72 0 a72_2 a72_3 a72_4 a72_5 a72_6 a72_7 a72_8 a72_9 a72_10 a72_11 a72_17 a72_18 a72_19 a72_21 a72_22 a72_29 q9.1 a72_35 a72_37 a72_38 a72_39 a72_40 a72_41 a72_44 a72_50), (79, o79 q17), (86, o86 q9.2)]) hnx rfl rfl hq28) rfl rfl rfl (e_le rfl) (e_le rfl) (e_le rfl) rfl (ci := 12) e_cl12.1 rfl (e_le rfl) (e_lt hnx rfl) (Nat.zero_le _) (Nat.zero_le _) (e_k ?_)
                  refine r_wr (l' := [(72, o72 0 a72_2 a72_3 a72_4 a72_5 a72_6 a72_7 a72_8 a72_9 a72_10 a72_11 a72_17 a72_18 a72_19 a72_21 a72_22 a72_29 q9.1 a72_35 a72_37 a72_38 a72_39 a72_40 a72_41 a72_44 a72_50), (79, o79 q27), (86, o86 q9.2)]) rfl rfl ?_
                  obtain rfl := Option.some.inj hq20
                  exact Jq19
              refine r_z_eq F dX12_shift_110 (tgt := 125) (by decide) (fun hc => ?_) (fun hc => ?_)
              · have hq18 := e_t hc hq18
                refine r_aload_n F dX12_shift_113 rfl ?_
                refine r_iload_n F dX12_shift_114 rfl ?_
                refine r_iload_n F dX12_shift_115 rfl ?_
                refine r_iconst F dX12_shift_116 (v := 1) (by decide) ?_
                refine r_iload_n F dX12_shift_117 rfl ?_
                refine r_ineg F dX12_shift_118 ?_
                refine r_iload F dX12_shift_119 rfl ?_
                refine r_ineg F dX12_shift_121 ?_
                obtain ⟨q29, hq30, hq18⟩ := e_bd hq18
                refine r_callV F dX12_shift_122 (b := 72) (dc := 0) (ds := 0) (As := [.int p0, .int p1, .int 1, .int ((0 : Int32) - p2), .int ((0 : Int32) - p3)]) (S0 := []) lkX12_225 mX12_changes (tX12_changes_72 hG (la := x_l X) (h := e_up h [(72, o72 0 a72_2 a72_3 a72_4 a72_5 a72_6 a72_7 a72_8 a72_9 a72_10 a72_11 a72_17 a72_18 a72_19 a72_21 a72_22 a72_29 q9.1 a72_35 a72_37 a72_38 a72_39 a72_40 a72_41 a72_44 a72_50), (79, o79 q13), (86, o86 q9.2)]) hnx rfl rfl hq30) rfl rfl rfl (e_le rfl) (e_le rfl) (e_le rfl) rfl (ci := 12) e_cl12.1 rfl (e_le rfl) (e_lt hnx rfl) (Nat.zero_le _) (Nat.zero_le _) (e_k ?_)
                refine r_wr (l' := [(72, o72 0 a72_2 a72_3 a72_4 a72_5 a72_6 a72_7 a72_8 a72_9 a72_10 a72_11 a72_17 a72_18 a72_19 a72_21 a72_22 a72_29 q9.1 a72_35 a72_37 a72_38 a72_39 a72_40 a72_41 a72_44 a72_50), (79, o79 q29), (86, o86 q9.2)]) rfl rfl ?_
                obtain rfl := Option.some.inj hq18
                exact Jq17
              · have hq18 := e_f hc hq18
                obtain rfl := Option.some.inj hq18
                exact Jq17
            refine r_z_eq F dX12_shift_88 (tgt := 103) (by decide) (fun hc => ?_) (fun hc => ?_)
            · have hq14 := e_t hc hq14
              refine r_aload_n F dX12_shift_91 rfl ?_
              refine r_iload_n F dX12_shift_92 rfl ?_
              refine r_iload_n F dX12_shift_93 rfl ?_
              refine r_iconst F dX12_shift_94 (v := 0) (by decide) ?_
              refine r_iload_n F dX12_shift_95 rfl ?_
              refine r_ineg F dX12_shift_96 ?_
              refine r_iload F dX12_shift_97 rfl ?_
              refine r_ineg F dX12_shift_99 ?_
              obtain ⟨q31, hq32, hq14⟩ := e_bd hq14
              refine r_callV F dX12_shift_100 (b := 72) (dc := 0) (ds := 0) (As := [.int p0, .int p1, .int 0, .int ((0 : Int32) - p2), .int ((0 : Int32) - p3)]) (S0 := []) lkX12_225 mX12_changes (tX12_changes_72 hG (la := x_l X) (h := e_up h [(72, o72 0 a72_2 a72_3 a72_4 a72_5 a72_6 a72_7 a72_8 a72_9 a72_10 a72_11 a72_17 a72_18 a72_19 a72_21 a72_22 a72_29 q9.1 a72_35 a72_37 a72_38 a72_39 a72_40 a72_41 a72_44 a72_50), (86, o86 q9.2)]) hnx rfl h79 hq32) rfl rfl rfl (e_le rfl) (e_le rfl) (e_le rfl) rfl (ci := 12) e_cl12.1 rfl (e_le rfl) (e_lt hnx rfl) (Nat.zero_le _) (Nat.zero_le _) (e_k ?_)
              refine r_wr (l' := [(72, o72 0 a72_2 a72_3 a72_4 a72_5 a72_6 a72_7 a72_8 a72_9 a72_10 a72_11 a72_17 a72_18 a72_19 a72_21 a72_22 a72_29 q9.1 a72_35 a72_37 a72_38 a72_39 a72_40 a72_41 a72_44 a72_50), (79, o79 q31), (86, o86 q9.2)]) rfl rfl ?_
              obtain rfl := Option.some.inj hq14
              exact Jq13
            · have hq14 := e_f hc hq14
              refine r_mat (k := 79) h79 (l' := [(72, o72 0 a72_2 a72_3 a72_4 a72_5 a72_6 a72_7 a72_8 a72_9 a72_10 a72_11 a72_17 a72_18 a72_19 a72_21 a72_22 a72_29 q9.1 a72_35 a72_37 a72_38 a72_39 a72_40 a72_41 a72_44 a72_50), (79, o79 A79), (86, o86 q9.2)]) rfl ?_
              obtain rfl := Option.some.inj hq14
              exact Jq13
          · have hf := e_t hc hf
            refine r_iload F dX12_shift_66 rfl ?_
            refine r_if_ne F dX12_shift_68 (tgt := 77) (by decide) (fun hc => ?_) (fun hc => ?_)
            · have hf := e_f hc hf
              refine r_aload_n F dX12_shift_77 rfl ?_
              obtain ⟨q33, hq34, hf⟩ := e_bd hf
              refine r_callV F dX12_shift_78 (b := 72) (dc := 0) (ds := 0) (As := []) (S0 := []) lkX12_364 mX12_keeps (tX12_keeps_72 hG (la := x_l X) (h := e_up h [(72, o72 0 a72_2 a72_3 a72_4 a72_5 a72_6 a72_7 a72_8 a72_9 a72_10 a72_11 a72_17 a72_18 a72_19 a72_21 a72_22 a72_29 a72_31 a72_35 a72_37 a72_38 a72_39 a72_40 a72_41 a72_44 a72_50)]) hnx rfl h79 h86 hq34) rfl rfl rfl (e_le rfl) (e_le rfl) (e_le rfl) rfl (ci := 12) e_cl12.1 rfl (e_le rfl) (e_lt hnx rfl) (Nat.zero_le _) (Nat.zero_le _) (e_k ?_)
              refine r_wr (l' := [(72, o72 0 a72_2 a72_3 a72_4 a72_5 a72_6 a72_7 a72_8 a72_9 a72_10 a72_11 a72_17 a72_18 a72_19 a72_21 a72_22 a72_29 q33.1 a72_35 a72_37 a72_38 a72_39 a72_40 a72_41 a72_44 a72_50), (86, o86 q33.2)]) rfl rfl ?_
              refine r_aload_n F dX12_shift_81 rfl ?_
              refine r_iload_n F dX12_shift_82 rfl ?_
              refine r_iload_n F dX12_shift_83 rfl ?_
              refine r_iconst F dX12_shift_84 (v := 0) (by decide) ?_
              obtain ⟨q35, hq36, hf⟩ := e_bd hf
              refine r_callV F dX12_shift_85 (b := 72) (dc := 0) (ds := 0) (As := [.int p0, .int p1, .int 0]) (S0 := []) lkX12_296 mX12_isLink (tX12_isLink_72 hG (la := x_l X) (h := e_up h [(72, o72 0 a72_2 a72_3 a72_4 a72_5 a72_6 a72_7 a72_8 a72_9 a72_10 a72_11 a72_17 a72_18 a72_19 a72_21 a72_22 a72_29 q33.1 a72_35 a72_37 a72_38 a72_39 a72_40 a72_41 a72_44 a72_50), (86, o86 q33.2)]) hnx rfl hq36) rfl rfl rfl (e_le rfl) (e_le rfl) (e_le rfl) rfl (ci := 12) e_cl12.1 rfl (e_le rfl) (e_lt hnx rfl) (Nat.zero_le _) (Nat.zero_le _) (e_k ?_)
              refine r_wr0 ?_
              obtain ⟨q37, hq38, hf⟩ := e_bd hf
              have Jq37 : eRun G X 103 [some (.ref 72), some (.int p0), some (.int p1), some (.int p2), some (.int p3)] [] h [(72, o72 0 a72_2 a72_3 a72_4 a72_5 a72_6 a72_7 a72_8 a72_9 a72_10 a72_11 a72_17 a72_18 a72_19 a72_21 a72_22 a72_29 q33.1 a72_35 a72_37 a72_38 a72_39 a72_40 a72_41 a72_44 a72_50), (79, o79 q37), (86, o86 q33.2)] nx 0 0 := by
                refine r_aload_n F dX12_shift_103 rfl ?_
                refine r_iload_n F dX12_shift_104 rfl ?_
                refine r_iload_n F dX12_shift_105 rfl ?_
                refine r_iconst F dX12_shift_106 (v := 1) (by decide) ?_
                obtain ⟨q39, hq40, hf⟩ := e_bd hf
                refine r_callV F dX12_shift_107 (b := 72) (dc := 0) (ds := 0) (As := [.int p0, .int p1, .int 1]) (S0 := []) lkX12_296 mX12_isLink (tX12_isLink_72 hG (la := x_l X) (h := e_up h [(72, o72 0 a72_2 a72_3 a72_4 a72_5 a72_6 a72_7 a72_8 a72_9 a72_10 a72_11 a72_17 a72_18 a72_19 a72_21 a72_22 a72_29 q33.1 a72_35 a72_37 a72_38 a72_39 a72_40 a72_41 a72_44 a72_50), (79, o79 q37), (86, o86 q33.2)]) hnx rfl hq40) rfl rfl rfl (e_le rfl) (e_le rfl) (e_le rfl) rfl (ci := 12) e_cl12.1 rfl (e_le rfl) (e_lt hnx rfl) (Nat.zero_le _) (Nat.zero_le _) (e_k ?_)
                refine r_wr0 ?_
                obtain ⟨q41, hq42, hf⟩ := e_bd hf
                have Jq41 : eRun G X 125 [some (.ref 72), some (.int p0), some (.int p1), some (.int p2), some (.int p3)] [] h [(72, o72 0 a72_2 a72_3 a72_4 a72_5 a72_6 a72_7 a72_8 a72_9 a72_10 a72_11 a72_17 a72_18 a72_19 a72_21 a72_22 a72_29 q33.1 a72_35 a72_37 a72_38 a72_39 a72_40 a72_41 a72_44 a72_50), (79, o79 q41), (86, o86 q33.2)] nx 0 0 := by
                  refine r_iload_n F dX12_shift_125 rfl ?_
                  obtain ⟨q43, hq44, hf⟩ := e_bd hf
                  have Jq43 : eRun G X 141 [some (.ref 72), some (.int p0), some (.int p1), some (.int p2), some (.int p3)] [] h [(72, o72 0 a72_2 a72_3 a72_4 a72_5 a72_6 a72_7 a72_8 a72_9 a72_10 a72_11 a72_17 a72_18 a72_19 a72_21 a72_22 a72_29 q33.1 a72_35 a72_37 a72_38 a72_39 a72_40 a72_41 a72_44 a72_50), (79, o79 q43), (86, o86 q33.2)] nx 0 0 := by
                    refine r_iload_n F dX12_shift_141 rfl ?_
                    obtain ⟨q45, hq46, hf⟩ := e_bd hf
                    have Jq45 : eRun G X 157 [some (.ref 72), none, none, none, none] [] h [(72, o72 0 a72_2 a72_3 a72_4 a72_5 a72_6 a72_7 a72_8 a72_9 a72_10 a72_11 a72_17 a72_18 a72_19 a72_21 a72_22 a72_29 q33.1 a72_35 a72_37 a72_38 a72_39 a72_40 a72_41 a72_44 a72_50), (79, o79 q45), (86, o86 q33.2)] nx 0 0 := by
                      refine r_aload_n F dX12_shift_157 rfl ?_
                      obtain ⟨q47, hq48, hf⟩ := e_bd hf
                      refine r_callV F dX12_shift_158 (b := 72) (dc := 0) (ds := 0) (As := []) (S0 := []) lkX12_311 mX12_slipped (tX12_slipped_72 hG (la := x_l X) (h := e_up h [(72, o72 0 a72_2 a72_3 a72_4 a72_5 a72_6 a72_7 a72_8 a72_9 a72_10 a72_11 a72_17 a72_18 a72_19 a72_21 a72_22 a72_29 q33.1 a72_35 a72_37 a72_38 a72_39 a72_40 a72_41 a72_44 a72_50), (79, o79 q45), (86, o86 q33.2)]) hnx rfl rfl hq48) rfl rfl rfl (e_le rfl) (e_le rfl) (e_le rfl) rfl (ci := 12) e_cl12.1 rfl (e_le rfl) (e_lt hnx rfl) (Nat.zero_le _) (Nat.zero_le _) (e_k ?_)
                      refine r_wr0 ?_
                      refine r_mat (k := 87) h87 (l' := [(72, o72 0 a72_2 a72_3 a72_4 a72_5 a72_6 a72_7 a72_8 a72_9 a72_10 a72_11 a72_17 a72_18 a72_19 a72_21 a72_22 a72_29 q33.1 a72_35 a72_37 a72_38 a72_39 a72_40 a72_41 a72_44 a72_50), (79, o79 q45), (86, o86 q33.2), (87, o87 A87)]) rfl ?_
                      obtain rfl := Option.some.inj hf
                      exact r_iret F hq dX12_shift_161 rfl rfl (Nat.le_refl _) (Nat.le_refl _) ⟨rfl, rfl⟩
                    refine r_if_le F dX12_shift_142 (tgt := 157) (by decide) (fun hc => ?_) (fun hc => ?_)
                    · have hq46 := e_t hc hq46
                      refine r_drop 1 (L' := [some (.ref 72), none, some (.int p1), some (.int p2), some (.int p3)]) rfl ?_
                      refine r_drop 2 (L' := [some (.ref 72), none, none, some (.int p2), some (.int p3)]) rfl ?_
                      refine r_drop 3 (L' := [some (.ref 72), none, none, none, some (.int p3)]) rfl ?_
                      refine r_drop 4 (L' := [some (.ref 72), none, none, none, none]) rfl ?_
                      obtain rfl := Option.some.inj hq46
                      exact Jq45
                    · have hq46 := e_f hc hq46
                      refine r_aload_n F dX12_shift_145 rfl ?_
                      refine r_iload_n F dX12_shift_146 rfl ?_
                      refine r_iload_n F dX12_shift_147 rfl ?_
                      refine r_iconst F dX12_shift_148 (v := 1) (by decide) ?_
                      refine r_isub F dX12_shift_149 ?_
                      refine r_iconst F dX12_shift_150 (v := 1) (by decide) ?_
                      refine r_iload_n F dX12_shift_151 rfl ?_
                      refine r_iload F dX12_shift_152 rfl ?_
                      obtain ⟨q49, hq50, hq46⟩ := e_bd hq46
                      refine r_callV F dX12_shift_154 (b := 72) (dc := 0) (ds := 0) (As := [.int p0, .int (p1 - 1), .int 1, .int p2, .int p3]) (S0 := []) lkX12_225 mX12_changes (tX12_changes_72 hG (la := x_l X) (h := e_up h [(72, o72 0 a72_2 a72_3 a72_4 a72_5 a72_6 a72_7 a72_8 a72_9 a72_10 a72_11 a72_17 a72_18 a72_19 a72_21 a72_22 a72_29 q33.1 a72_35 a72_37 a72_38 a72_39 a72_40 a72_41 a72_44 a72_50), (79, o79 q43), (86, o86 q33.2)]) hnx rfl rfl hq50) rfl rfl rfl (e_le rfl) (e_le rfl) (e_le rfl) rfl (ci := 12) e_cl12.1 rfl (e_le rfl) (e_lt hnx rfl) (Nat.zero_le _) (Nat.zero_le _) (e_k ?_)
                      refine r_wr (l' := [(72, o72 0 a72_2 a72_3 a72_4 a72_5 a72_6 a72_7 a72_8 a72_9 a72_10 a72_11 a72_17 a72_18 a72_19 a72_21 a72_22 a72_29 q33.1 a72_35 a72_37 a72_38 a72_39 a72_40 a72_41 a72_44 a72_50), (79, o79 q49), (86, o86 q33.2)]) rfl rfl ?_
                      refine r_drop 1 (L' := [some (.ref 72), none, some (.int p1), some (.int p2), some (.int p3)]) rfl ?_
                      refine r_drop 2 (L' := [some (.ref 72), none, none, some (.int p2), some (.int p3)]) rfl ?_
                      refine r_drop 3 (L' := [some (.ref 72), none, none, none, some (.int p3)]) rfl ?_
                      refine r_drop 4 (L' := [some (.ref 72), none, none, none, none]) rfl ?_
                      obtain rfl := Option.some.inj hq46
                      exact Jq45
                  refine r_if_le F dX12_shift_126 (tgt := 141) (by decide) (fun hc => ?_) (fun hc => ?_)
                  · have hq44 := e_t hc hq44
                    obtain rfl := Option.some.inj hq44
                    exact Jq43
                  · have hq44 := e_f hc hq44
                    refine r_aload_n F dX12_shift_129 rfl ?_
                    refine r_iload_n F dX12_shift_130 rfl ?_
                    refine r_iconst F dX12_shift_131 (v := 1) (by decide) ?_
                    refine r_isub F dX12_shift_132 ?_
                    refine r_iload_n F dX12_shift_133 rfl ?_
                    refine r_iconst F dX12_shift_134 (v := 0) (by decide) ?_
                    refine r_iload_n F dX12_shift_135 rfl ?_
                    refine r_iload F dX12_shift_136 rfl ?_
                    obtain ⟨q51, hq52, hq44⟩ := e_bd hq44
                    refine r_callV F dX12_shift_138 (b := 72) (dc := 0) (ds := 0) (As := [.int (p0 - 1), .int p1, .int 0, .int p2, .int p3]) (S0 := []) lkX12_225 mX12_changes (tX12_changes_72 hG (la := x_l X) (h := e_up h [(72, o72 0 a72_2 a72_3 a72_4 a72_5 a72_6 a72_7 a72_8 a72_9 a72_10 a72_11 a72_17 a72_18 a72_19 a72_21 a72_22 a72_29 q33.1 a72_35 a72_37 a72_38 a72_39 a72_40 a72_41 a72_44 a72_50), (79, o79 q41), (86, o86 q33.2)]) hnx rfl rfl hq52) rfl rfl rfl (e_le rfl) (e_le rfl) (e_le rfl) rfl (ci := 12) e_cl12.1 rfl (e_le rfl) (e_lt hnx rfl) (Nat.zero_le _) (Nat.zero_le _) (e_k ?_)
                    refine r_wr (l' := [(72, o72 0 a72_2 a72_3 a72_4 a72_5 a72_6 a72_7 a72_8 a72_9 a72_10 a72_11 a72_17 a72_18 a72_19 a72_21 a72_22 a72_29 q33.1 a72_35 a72_37 a72_38 a72_39 a72_40 a72_41 a72_44 a72_50), (79, o79 q51), (86, o86 q33.2)]) rfl rfl ?_
                    obtain rfl := Option.some.inj hq44
                    exact Jq43
                refine r_z_eq F dX12_shift_110 (tgt := 125) (by decide) (fun hc => ?_) (fun hc => ?_)
                · have hq42 := e_t hc hq42
                  refine r_aload_n F dX12_shift_113 rfl ?_
                  refine r_iload_n F dX12_shift_114 rfl ?_
                  refine r_iload_n F dX12_shift_115 rfl ?_
                  refine r_iconst F dX12_shift_116 (v := 1) (by decide) ?_
                  refine r_iload_n F dX12_shift_117 rfl ?_
                  refine r_ineg F dX12_shift_118 ?_
                  refine r_iload F dX12_shift_119 rfl ?_
                  refine r_ineg F dX12_shift_121 ?_
                  obtain ⟨q53, hq54, hq42⟩ := e_bd hq42
                  refine r_callV F dX12_shift_122 (b := 72) (dc := 0) (ds := 0) (As := [.int p0, .int p1, .int 1, .int ((0 : Int32) - p2), .int ((0 : Int32) - p3)]) (S0 := []) lkX12_225 mX12_changes (tX12_changes_72 hG (la := x_l X) (h := e_up h [(72, o72 0 a72_2 a72_3 a72_4 a72_5 a72_6 a72_7 a72_8 a72_9 a72_10 a72_11 a72_17 a72_18 a72_19 a72_21 a72_22 a72_29 q33.1 a72_35 a72_37 a72_38 a72_39 a72_40 a72_41 a72_44 a72_50), (79, o79 q37), (86, o86 q33.2)]) hnx rfl rfl hq54) rfl rfl rfl (e_le rfl) (e_le rfl) (e_le rfl) rfl (ci := 12) e_cl12.1 rfl (e_le rfl) (e_lt hnx rfl) (Nat.zero_le _) (Nat.zero_le _) (e_k ?_)
                  refine r_wr (l' := [(72, o72 0 a72_2 a72_3 a72_4 a72_5 a72_6 a72_7 a72_8 a72_9 a72_10 a72_11 a72_17 a72_18 a72_19 a72_21 a72_22 a72_29 q33.1 a72_35 a72_37 a72_38 a72_39 a72_40 a72_41 a72_44 a72_50), (79, o79 q53), (86, o86 q33.2)]) rfl rfl ?_
                  obtain rfl := Option.some.inj hq42
                  exact Jq41
                · have hq42 := e_f hc hq42
                  obtain rfl := Option.some.inj hq42
                  exact Jq41
              refine r_z_eq F dX12_shift_88 (tgt := 103) (by decide) (fun hc => ?_) (fun hc => ?_)
              · have hq38 := e_t hc hq38
                refine r_aload_n F dX12_shift_91 rfl ?_
                refine r_iload_n F dX12_shift_92 rfl ?_
                refine r_iload_n F dX12_shift_93 rfl ?_
                refine r_iconst F dX12_shift_94 (v := 0) (by decide) ?_
                refine r_iload_n F dX12_shift_95 rfl ?_
                refine r_ineg F dX12_shift_96 ?_
                refine r_iload F dX12_shift_97 rfl ?_
                refine r_ineg F dX12_shift_99 ?_
                obtain ⟨q55, hq56, hq38⟩ := e_bd hq38
                refine r_callV F dX12_shift_100 (b := 72) (dc := 0) (ds := 0) (As := [.int p0, .int p1, .int 0, .int ((0 : Int32) - p2), .int ((0 : Int32) - p3)]) (S0 := []) lkX12_225 mX12_changes (tX12_changes_72 hG (la := x_l X) (h := e_up h [(72, o72 0 a72_2 a72_3 a72_4 a72_5 a72_6 a72_7 a72_8 a72_9 a72_10 a72_11 a72_17 a72_18 a72_19 a72_21 a72_22 a72_29 q33.1 a72_35 a72_37 a72_38 a72_39 a72_40 a72_41 a72_44 a72_50), (86, o86 q33.2)]) hnx rfl h79 hq56) rfl rfl rfl (e_le rfl) (e_le rfl) (e_le rfl) rfl (ci := 12) e_cl12.1 rfl (e_le rfl) (e_lt hnx rfl) (Nat.zero_le _) (Nat.zero_le _) (e_k ?_)
                refine r_wr (l' := [(72, o72 0 a72_2 a72_3 a72_4 a72_5 a72_6 a72_7 a72_8 a72_9 a72_10 a72_11 a72_17 a72_18 a72_19 a72_21 a72_22 a72_29 q33.1 a72_35 a72_37 a72_38 a72_39 a72_40 a72_41 a72_44 a72_50), (79, o79 q55), (86, o86 q33.2)]) rfl rfl ?_
                obtain rfl := Option.some.inj hq38
                exact Jq37
              · have hq38 := e_f hc hq38
                refine r_mat (k := 79) h79 (l' := [(72, o72 0 a72_2 a72_3 a72_4 a72_5 a72_6 a72_7 a72_8 a72_9 a72_10 a72_11 a72_17 a72_18 a72_19 a72_21 a72_22 a72_29 q33.1 a72_35 a72_37 a72_38 a72_39 a72_40 a72_41 a72_44 a72_50), (79, o79 A79), (86, o86 q33.2)]) rfl ?_
                obtain rfl := Option.some.inj hq38
                exact Jq37
            · have hf := e_t hc hf
              refine r_aload_n F dX12_shift_71 rfl ?_
              refine r_iconst F dX12_shift_72 (v := 2) (by decide) ?_
              obtain ⟨q57, hq58, hf⟩ := e_bd hf
              refine r_callV F dX12_shift_73 (b := 72) (dc := 0) (ds := 0) (As := [.int 2]) (S0 := []) lkX12_354 mX12_refuses (tX12_refuses_72 hG (la := x_l X) (h := e_up h [(72, o72 0 a72_2 a72_3 a72_4 a72_5 a72_6 a72_7 a72_8 a72_9 a72_10 a72_11 a72_17 a72_18 a72_19 a72_21 a72_22 a72_29 a72_31 a72_35 a72_37 a72_38 a72_39 a72_40 a72_41 a72_44 a72_50)]) hnx rfl h87 hq58) rfl rfl rfl (e_le rfl) (e_le rfl) (e_le rfl) rfl (ci := 12) e_cl12.1 rfl (e_le rfl) (e_lt hnx rfl) (Nat.zero_le _) (Nat.zero_le _) (e_k ?_)
              refine r_wr (l' := [(72, o72 0 a72_2 a72_3 a72_4 a72_5 a72_6 a72_7 a72_8 a72_9 a72_10 a72_11 a72_17 a72_18 a72_19 a72_21 a72_22 a72_29 a72_31 a72_35 a72_37 a72_38 a72_39 a72_40 a72_41 a72_44 a72_50), (87, o87 q57.2)]) rfl rfl ?_
              refine r_mat (k := 79) h79 (l' := [(72, o72 0 a72_2 a72_3 a72_4 a72_5 a72_6 a72_7 a72_8 a72_9 a72_10 a72_11 a72_17 a72_18 a72_19 a72_21 a72_22 a72_29 a72_31 a72_35 a72_37 a72_38 a72_39 a72_40 a72_41 a72_44 a72_50), (79, o79 A79), (87, o87 q57.2)]) rfl ?_
              refine r_mat (k := 86) h86 (l' := [(72, o72 0 a72_2 a72_3 a72_4 a72_5 a72_6 a72_7 a72_8 a72_9 a72_10 a72_11 a72_17 a72_18 a72_19 a72_21 a72_22 a72_29 a72_31 a72_35 a72_37 a72_38 a72_39 a72_40 a72_41 a72_44 a72_50), (79, o79 A79), (86, o86 A86), (87, o87 q57.2)]) rfl ?_
              obtain rfl := Option.some.inj hf
              exact r_iret F hq dX12_shift_76 rfl rfl (Nat.le_refl _) (Nat.le_refl _) ⟨rfl, rfl⟩
        · have hf := e_f hc hf
          refine r_aload_n F dX12_shift_71 rfl ?_
          refine r_iconst F dX12_shift_72 (v := 2) (by decide) ?_
          obtain ⟨q59, hq60, hf⟩ := e_bd hf
          refine r_callV F dX12_shift_73 (b := 72) (dc := 0) (ds := 0) (As := [.int 2]) (S0 := []) lkX12_354 mX12_refuses (tX12_refuses_72 hG (la := x_l X) (h := e_up h [(72, o72 0 a72_2 a72_3 a72_4 a72_5 a72_6 a72_7 a72_8 a72_9 a72_10 a72_11 a72_17 a72_18 a72_19 a72_21 a72_22 a72_29 a72_31 a72_35 a72_37 a72_38 a72_39 a72_40 a72_41 a72_44 a72_50)]) hnx rfl h87 hq60) rfl rfl rfl (e_le rfl) (e_le rfl) (e_le rfl) rfl (ci := 12) e_cl12.1 rfl (e_le rfl) (e_lt hnx rfl) (Nat.zero_le _) (Nat.zero_le _) (e_k ?_)
          refine r_wr (l' := [(72, o72 0 a72_2 a72_3 a72_4 a72_5 a72_6 a72_7 a72_8 a72_9 a72_10 a72_11 a72_17 a72_18 a72_19 a72_21 a72_22 a72_29 a72_31 a72_35 a72_37 a72_38 a72_39 a72_40 a72_41 a72_44 a72_50), (87, o87 q59.2)]) rfl rfl ?_
          refine r_mat (k := 79) h79 (l' := [(72, o72 0 a72_2 a72_3 a72_4 a72_5 a72_6 a72_7 a72_8 a72_9 a72_10 a72_11 a72_17 a72_18 a72_19 a72_21 a72_22 a72_29 a72_31 a72_35 a72_37 a72_38 a72_39 a72_40 a72_41 a72_44 a72_50), (79, o79 A79), (87, o87 q59.2)]) rfl ?_
          refine r_mat (k := 86) h86 (l' := [(72, o72 0 a72_2 a72_3 a72_4 a72_5 a72_6 a72_7 a72_8 a72_9 a72_10 a72_11 a72_17 a72_18 a72_19 a72_21 a72_22 a72_29 a72_31 a72_35 a72_37 a72_38 a72_39 a72_40 a72_41 a72_44 a72_50), (79, o79 A79), (86, o86 A86), (87, o87 q59.2)]) rfl ?_
          obtain rfl := Option.some.inj hf
          exact r_iret F hq dX12_shift_76 rfl rfl (Nat.le_refl _) (Nat.le_refl _) ⟨rfl, rfl⟩
      · have hf := e_f hc hf
        refine r_aload_n F dX12_shift_71 rfl ?_
        refine r_iconst F dX12_shift_72 (v := 2) (by decide) ?_
        obtain ⟨q61, hq62, hf⟩ := e_bd hf
        refine r_callV F dX12_shift_73 (b := 72) (dc := 0) (ds := 0) (As := [.int 2]) (S0 := []) lkX12_354 mX12_refuses (tX12_refuses_72 hG (la := x_l X) (h := e_up h [(72, o72 0 a72_2 a72_3 a72_4 a72_5 a72_6 a72_7 a72_8 a72_9 a72_10 a72_11 a72_17 a72_18 a72_19 a72_21 a72_22 a72_29 a72_31 a72_35 a72_37 a72_38 a72_39 a72_40 a72_41 a72_44 a72_50)]) hnx rfl h87 hq62) rfl rfl rfl (e_le rfl) (e_le rfl) (e_le rfl) rfl (ci := 12) e_cl12.1 rfl (e_le rfl) (e_lt hnx rfl) (Nat.zero_le _) (Nat.zero_le _) (e_k ?_)
        refine r_wr (l' := [(72, o72 0 a72_2 a72_3 a72_4 a72_5 a72_6 a72_7 a72_8 a72_9 a72_10 a72_11 a72_17 a72_18 a72_19 a72_21 a72_22 a72_29 a72_31 a72_35 a72_37 a72_38 a72_39 a72_40 a72_41 a72_44 a72_50), (87, o87 q61.2)]) rfl rfl ?_
        refine r_mat (k := 79) h79 (l' := [(72, o72 0 a72_2 a72_3 a72_4 a72_5 a72_6 a72_7 a72_8 a72_9 a72_10 a72_11 a72_17 a72_18 a72_19 a72_21 a72_22 a72_29 a72_31 a72_35 a72_37 a72_38 a72_39 a72_40 a72_41 a72_44 a72_50), (79, o79 A79), (87, o87 q61.2)]) rfl ?_
        refine r_mat (k := 86) h86 (l' := [(72, o72 0 a72_2 a72_3 a72_4 a72_5 a72_6 a72_7 a72_8 a72_9 a72_10 a72_11 a72_17 a72_18 a72_19 a72_21 a72_22 a72_29 a72_31 a72_35 a72_37 a72_38 a72_39 a72_40 a72_41 a72_44 a72_50), (79, o79 A79), (86, o86 A86), (87, o87 q61.2)]) rfl ?_
        obtain rfl := Option.some.inj hf
        exact r_iret F hq dX12_shift_76 rfl rfl (Nat.le_refl _) (Nat.le_refl _) ⟨rfl, rfl⟩
    · have hf := e_f hc hf
      refine r_aload_n F dX12_shift_27 rfl ?_
      refine r_iconst F dX12_shift_28 (v := 1) (by decide) ?_
      obtain ⟨q63, hq64, hf⟩ := e_bd hf
      refine r_callV F dX12_shift_29 (b := 72) (dc := 0) (ds := 0) (As := [.int 1]) (S0 := []) lkX12_354 mX12_refuses (tX12_refuses_72 hG (la := x_l X) (h := e_up h [(72, o72 0 a72_2 a72_3 a72_4 a72_5 a72_6 a72_7 a72_8 a72_9 a72_10 a72_11 a72_17 a72_18 a72_19 a72_21 a72_22 a72_29 a72_31 a72_35 a72_37 a72_38 a72_39 a72_40 a72_41 a72_44 a72_50)]) hnx rfl h87 hq64) rfl rfl rfl (e_le rfl) (e_le rfl) (e_le rfl) rfl (ci := 12) e_cl12.1 rfl (e_le rfl) (e_lt hnx rfl) (Nat.zero_le _) (Nat.zero_le _) (e_k ?_)
      refine r_wr (l' := [(72, o72 0 a72_2 a72_3 a72_4 a72_5 a72_6 a72_7 a72_8 a72_9 a72_10 a72_11 a72_17 a72_18 a72_19 a72_21 a72_22 a72_29 a72_31 a72_35 a72_37 a72_38 a72_39 a72_40 a72_41 a72_44 a72_50), (87, o87 q63.2)]) rfl rfl ?_
      refine r_mat (k := 79) h79 (l' := [(72, o72 0 a72_2 a72_3 a72_4 a72_5 a72_6 a72_7 a72_8 a72_9 a72_10 a72_11 a72_17 a72_18 a72_19 a72_21 a72_22 a72_29 a72_31 a72_35 a72_37 a72_38 a72_39 a72_40 a72_41 a72_44 a72_50), (79, o79 A79), (87, o87 q63.2)]) rfl ?_
      refine r_mat (k := 86) h86 (l' := [(72, o72 0 a72_2 a72_3 a72_4 a72_5 a72_6 a72_7 a72_8 a72_9 a72_10 a72_11 a72_17 a72_18 a72_19 a72_21 a72_22 a72_29 a72_31 a72_35 a72_37 a72_38 a72_39 a72_40 a72_41 a72_44 a72_50), (79, o79 A79), (86, o86 A86), (87, o87 q63.2)]) rfl ?_
      obtain rfl := Option.some.inj hf
      exact r_iret F hq dX12_shift_32 rfl rfl (Nat.le_refl _) (Nat.le_refl _) ⟨rfl, rfl⟩
  · have hf := e_f hc hf
    refine r_aload_n F dX12_shift_12 rfl ?_
    refine r_iconst F dX12_shift_13 (v := 0) (by decide) ?_
    obtain ⟨q65, hq66, hf⟩ := e_bd hf
    refine r_callV F dX12_shift_14 (b := 72) (dc := 0) (ds := 0) (As := [.int 0]) (S0 := []) lkX12_354 mX12_refuses (tX12_refuses_72 hG (la := x_l X) (h := e_up h [(72, o72 0 a72_2 a72_3 a72_4 a72_5 a72_6 a72_7 a72_8 a72_9 a72_10 a72_11 a72_17 a72_18 a72_19 a72_21 a72_22 a72_29 a72_31 a72_35 a72_37 a72_38 a72_39 a72_40 a72_41 a72_44 a72_50)]) hnx rfl h87 hq66) rfl rfl rfl (e_le rfl) (e_le rfl) (e_le rfl) rfl (ci := 12) e_cl12.1 rfl (e_le rfl) (e_lt hnx rfl) (Nat.zero_le _) (Nat.zero_le _) (e_k ?_)
    refine r_wr (l' := [(72, o72 0 a72_2 a72_3 a72_4 a72_5 a72_6 a72_7 a72_8 a72_9 a72_10 a72_11 a72_17 a72_18 a72_19 a72_21 a72_22 a72_29 a72_31 a72_35 a72_37 a72_38 a72_39 a72_40 a72_41 a72_44 a72_50), (87, o87 q65.2)]) rfl rfl ?_
    refine r_mat (k := 79) h79 (l' := [(72, o72 0 a72_2 a72_3 a72_4 a72_5 a72_6 a72_7 a72_8 a72_9 a72_10 a72_11 a72_17 a72_18 a72_19 a72_21 a72_22 a72_29 a72_31 a72_35 a72_37 a72_38 a72_39 a72_40 a72_41 a72_44 a72_50), (79, o79 A79), (87, o87 q65.2)]) rfl ?_
    refine r_mat (k := 86) h86 (l' := [(72, o72 0 a72_2 a72_3 a72_4 a72_5 a72_6 a72_7 a72_8 a72_9 a72_10 a72_11 a72_17 a72_18 a72_19 a72_21 a72_22 a72_29 a72_31 a72_35 a72_37 a72_38 a72_39 a72_40 a72_41 a72_44 a72_50), (79, o79 A79), (86, o86 A86), (87, o87 q65.2)]) rfl ?_
    obtain rfl := Option.some.inj hf
    exact r_iret F hq dX12_shift_17 rfl rfl (Nat.le_refl _) (Nat.le_refl _) ⟨rfl, rfl⟩
