def fX5_readPiece (a33_1 : Int32) (a35_1 : Int32) (a35_2 : Int32) (a35_3 : Int32) (a35_4 : Int32) (a35_5 : Int32) (a35_7 : Bool) (a35_8 : Bool) (a35_9 : Bool) (a35_10 : Int32) (A34 : Nat → Int32) (A36 : Nat → Int32) (A37 : Nat → Int32) (A38 : Nat → Int32)  : Option (Int32 × Int32 × Int32 × Bool × Bool × Bool × Int32 × (Nat → Int32) × (Nat → Int32) × (Nat → Int32)) :=
  if a35_3 = (-1) then
    (fX5_readWord a33_1 a35_1 a35_2 A34).bind (fun q1 =>
    (fX5_spells_s9 a33_1 q1.1 q1.2 A34).bind (fun q3 =>
    if q3 = true then
      if 10 ≤ a35_10 then
        (fX5_spells_s10 a33_1 q1.1 q1.2 A34).bind (fun q5 =>
        if q5 = true then
          if a35_7 = true then
            (fX5_spells_s11 a33_1 q1.1 q1.2 A34).bind (fun q7 =>
            if q7 = true then
              if a35_8 = true then
                (fX5_spells_s12 a33_1 q1.1 q1.2 A34).bind (fun q9 =>
                if q9 = true then
                  if a35_9 = true then
                    some (q1.1, q1.2, q1.2, a35_7, a35_8, a35_9, a35_10, A36, A37, A38)
                  else
                    (fX5_readSetting a33_1 q1.1 q1.2 a35_3 A34 A36 3).bind (fun q11 =>
                    some (q11.1, q11.2.1, q11.2.2.1, a35_7, a35_8, true, a35_10, q11.2.2.2, A37, A38))
                else
                  some (q1.1, q1.2, q1.2, a35_7, a35_8, a35_9, a35_10, A36, A37, A38))
              else
                (fX5_readSetting a33_1 q1.1 q1.2 a35_3 A34 A36 2).bind (fun q13 =>
                some (q13.1, q13.2.1, q13.2.2.1, a35_7, true, a35_9, a35_10, q13.2.2.2, A37, A38))
            else
              (fX5_spells_s12 a33_1 q1.1 q1.2 A34).bind (fun q15 =>
              if q15 = true then
                if a35_9 = true then
                  some (q1.1, q1.2, q1.2, a35_7, a35_8, a35_9, a35_10, A36, A37, A38)
                else
                  (fX5_readSetting a33_1 q1.1 q1.2 a35_3 A34 A36 3).bind (fun q17 =>
                  some (q17.1, q17.2.1, q17.2.2.1, a35_7, a35_8, true, a35_10, q17.2.2.2, A37, A38))
              else
                some (q1.1, q1.2, q1.2, a35_7, a35_8, a35_9, a35_10, A36, A37, A38)))
          else
            (fX5_readSetting a33_1 q1.1 q1.2 a35_3 A34 A36 0).bind (fun q19 =>
            (fX5_readSetting a33_1 q19.1 q19.2.1 q19.2.2.1 A34 q19.2.2.2 1).bind (fun q21 =>
            some (q21.1, q21.2.1, q21.2.2.1, true, a35_8, a35_9, a35_10, q21.2.2.2, A37, A38)))
        else
          (fX5_spells_s11 a33_1 q1.1 q1.2 A34).bind (fun q23 =>
          if q23 = true then
            if a35_8 = true then
              (fX5_spells_s12 a33_1 q1.1 q1.2 A34).bind (fun q25 =>
              if q25 = true then
                if a35_9 = true then
                  some (q1.1, q1.2, q1.2, a35_7, a35_8, a35_9, a35_10, A36, A37, A38)
                else
                  (fX5_readSetting a33_1 q1.1 q1.2 a35_3 A34 A36 3).bind (fun q27 =>
                  some (q27.1, q27.2.1, q27.2.2.1, a35_7, a35_8, true, a35_10, q27.2.2.2, A37, A38))
              else
                some (q1.1, q1.2, q1.2, a35_7, a35_8, a35_9, a35_10, A36, A37, A38))
            else
              (fX5_readSetting a33_1 q1.1 q1.2 a35_3 A34 A36 2).bind (fun q29 =>
              some (q29.1, q29.2.1, q29.2.2.1, a35_7, true, a35_9, a35_10, q29.2.2.2, A37, A38))
          else
            (fX5_spells_s12 a33_1 q1.1 q1.2 A34).bind (fun q31 =>
            if q31 = true then
              if a35_9 = true then
                some (q1.1, q1.2, q1.2, a35_7, a35_8, a35_9, a35_10, A36, A37, A38)
              else
                (fX5_readSetting a33_1 q1.1 q1.2 a35_3 A34 A36 3).bind (fun q33 =>
                some (q33.1, q33.2.1, q33.2.2.1, a35_7, a35_8, true, a35_10, q33.2.2.2, A37, A38))
            else
              some (q1.1, q1.2, q1.2, a35_7, a35_8, a35_9, a35_10, A36, A37, A38))))
      else
        (fX5_readCore a33_1 q1.1 q1.2 a35_3 a35_4 a35_5 a35_10 A34 A37 A38).bind (fun q35 =>
        some (q35.1, q35.2.1, q35.2.2.1, a35_7, a35_8, a35_9, q35.2.2.2.1, A36, q35.2.2.2.2.1, q35.2.2.2.2.2))
    else
      (fX5_spells_s10 a33_1 q1.1 q1.2 A34).bind (fun q37 =>
      if q37 = true then
        if a35_7 = true then
          (fX5_spells_s11 a33_1 q1.1 q1.2 A34).bind (fun q39 =>
          if q39 = true then
            if a35_8 = true then
              (fX5_spells_s12 a33_1 q1.1 q1.2 A34).bind (fun q41 =>
              if q41 = true then
                if a35_9 = true then
                  some (q1.1, q1.2, q1.2, a35_7, a35_8, a35_9, a35_10, A36, A37, A38)
                else
                  (fX5_readSetting a33_1 q1.1 q1.2 a35_3 A34 A36 3).bind (fun q43 =>
                  some (q43.1, q43.2.1, q43.2.2.1, a35_7, a35_8, true, a35_10, q43.2.2.2, A37, A38))
              else
                some (q1.1, q1.2, q1.2, a35_7, a35_8, a35_9, a35_10, A36, A37, A38))
            else
              (fX5_readSetting a33_1 q1.1 q1.2 a35_3 A34 A36 2).bind (fun q45 =>
              some (q45.1, q45.2.1, q45.2.2.1, a35_7, true, a35_9, a35_10, q45.2.2.2, A37, A38))
          else
            (fX5_spells_s12 a33_1 q1.1 q1.2 A34).bind (fun q47 =>
            if q47 = true then
              if a35_9 = true then
                some (q1.1, q1.2, q1.2, a35_7, a35_8, a35_9, a35_10, A36, A37, A38)
              else
                (fX5_readSetting a33_1 q1.1 q1.2 a35_3 A34 A36 3).bind (fun q49 =>
                some (q49.1, q49.2.1, q49.2.2.1, a35_7, a35_8, true, a35_10, q49.2.2.2, A37, A38))
            else
              some (q1.1, q1.2, q1.2, a35_7, a35_8, a35_9, a35_10, A36, A37, A38)))
        else
          (fX5_readSetting a33_1 q1.1 q1.2 a35_3 A34 A36 0).bind (fun q51 =>
          (fX5_readSetting a33_1 q51.1 q51.2.1 q51.2.2.1 A34 q51.2.2.2 1).bind (fun q53 =>
          some (q53.1, q53.2.1, q53.2.2.1, true, a35_8, a35_9, a35_10, q53.2.2.2, A37, A38)))
      else
        (fX5_spells_s11 a33_1 q1.1 q1.2 A34).bind (fun q55 =>
        if q55 = true then
          if a35_8 = true then
            (fX5_spells_s12 a33_1 q1.1 q1.2 A34).bind (fun q57 =>
            if q57 = true then
              if a35_9 = true then
                some (q1.1, q1.2, q1.2, a35_7, a35_8, a35_9, a35_10, A36, A37, A38)
              else
                (fX5_readSetting a33_1 q1.1 q1.2 a35_3 A34 A36 3).bind (fun q59 =>
                some (q59.1, q59.2.1, q59.2.2.1, a35_7, a35_8, true, a35_10, q59.2.2.2, A37, A38))
            else
              some (q1.1, q1.2, q1.2, a35_7, a35_8, a35_9, a35_10, A36, A37, A38))
          else
            (fX5_readSetting a33_1 q1.1 q1.2 a35_3 A34 A36 2).bind (fun q61 =>
            some (q61.1, q61.2.1, q61.2.2.1, a35_7, true, a35_9, a35_10, q61.2.2.2, A37, A38))
        else
          (fX5_spells_s12 a33_1 q1.1 q1.2 A34).bind (fun q63 =>
          if q63 = true then
            if a35_9 = true then
              some (q1.1, q1.2, q1.2, a35_7, a35_8, a35_9, a35_10, A36, A37, A38)
            else
              (fX5_readSetting a33_1 q1.1 q1.2 a35_3 A34 A36 3).bind (fun q65 =>
              some (q65.1, q65.2.1, q65.2.2.1, a35_7, a35_8, true, a35_10, q65.2.2.2, A37, A38))
          else
            some (q1.1, q1.2, q1.2, a35_7, a35_8, a35_9, a35_10, A36, A37, A38))))))
  else
    some (a35_1, a35_2, a35_3, a35_7, a35_8, a35_9, a35_10, A36, A37, A38)
set_option maxRecDepth 100000 in
theorem tX5_readPiece_35 {G : eG} (hG : e_GS G) {la : Launch} {h : Nat → eO} {nx : Nat} (hnx : 99 ≤ nx) {a33_1 : Int32} {A34 : Nat → Int32} {a35_1 : Int32} {a35_2 : Int32} {a35_3 : Int32} {a35_4 : Int32} {a35_5 : Int32} {a35_7 : Bool} {a35_8 : Bool} {a35_9 : Bool} {a35_10 : Int32} {A36 : Nat → Int32} {A37 : Nat → Int32} {A38 : Nat → Int32}  (h33 : h 33 = o33 a33_1) (h34 : h 34 = o34 A34) (h35 : h 35 = o35 a35_1 a35_2 a35_3 a35_4 a35_5 a35_7 a35_8 a35_9 a35_10) (h36 : h 36 = o36 A36) (h37 : h 37 = o37 A37) (h38 : h 38 = o38 A38) {R9 : Int32 × Int32 × Int32 × Bool × Bool × Bool × Int32 × (Nat → Int32) × (Nat → Int32) × (Nat → Int32)} (hf : fX5_readPiece a33_1 a35_1 a35_2 a35_3 a35_4 a35_5 a35_7 a35_8 a35_9 a35_10 A34 A36 A37 A38  = some R9) :
    eSem G la MX5_readPiece [.ref 35] h nx 0 0 (fun r9 h9 => r9 = none ∧ h9 = e_up h [(35, o35 R9.1 R9.2.1 R9.2.2.1 a35_4 a35_5 R9.2.2.2.1 R9.2.2.2.2.1 R9.2.2.2.2.2.1 R9.2.2.2.2.2.2.1), (36, o36 R9.2.2.2.2.2.2.2.1), (37, o37 R9.2.2.2.2.2.2.2.2.1), (38, o38 R9.2.2.2.2.2.2.2.2.2)]) := by
  refine eSem.of (k := 0) (L := [some (.ref 35)]) (by decide +kernel) rfl rfl (fun X F hxl hq hcR hsR => ?_)
  subst hxl
  unfold fX5_readPiece at hf
  refine r_aload_n F dX5_readPiece_0 rfl ?_
  refine r_get F dX5_readPiece_1 flX5_29 h35 rfl (e_le rfl) (e_lt hnx rfl) ?_
  refine r_iconst F dX5_readPiece_4 (v := (-1)) (by decide) ?_
  refine r_icmp_eq F dX5_readPiece_5 (tgt := 9) (by decide) (fun hc => ?_) (fun hc => ?_)
  · have hf := e_t hc hf
    refine r_aload_n F dX5_readPiece_9 rfl ?_
    obtain ⟨q1, hq2, hf⟩ := e_bd hf
    refine r_callV F dX5_readPiece_10 (b := 35) (dc := 0) (ds := 0) (As := []) (S0 := []) lkX5_69 mX5_readWord (tX5_readWord_35 hG (la := x_l X) (h := e_up h []) hnx h33 h34 h35 hq2) rfl rfl rfl (e_le rfl) (e_le rfl) (e_le rfl) h35 (ci := 5) e_cl5.1 rfl (e_le rfl) (e_lt hnx rfl) (Nat.zero_le _) (Nat.zero_le _) (e_k ?_)
    refine r_wr (l' := [(35, o35 q1.1 q1.2 a35_3 a35_4 a35_5 a35_7 a35_8 a35_9 a35_10)]) rfl rfl ?_
    refine r_aload_n F dX5_readPiece_13 rfl ?_
    refine r_ldcS F dX5_readPiece_14 (tx := "core") (a := 9) (by decide +kernel) ?_
    obtain ⟨q3, hq4, hf⟩ := e_bd hf
    refine r_callV F dX5_readPiece_16 (b := 35) (dc := 0) (ds := 0) (As := [.ref 9]) (S0 := []) lkX5_74 mX5_spells (tX5_spells_35_9 hG (la := x_l X) (h := e_up h [(35, o35 q1.1 q1.2 a35_3 a35_4 a35_5 a35_7 a35_8 a35_9 a35_10)]) hnx h33 h34 rfl hq4) rfl rfl rfl (e_le rfl) (e_le rfl) (e_le rfl) rfl (ci := 5) e_cl5.1 rfl (e_le rfl) (e_lt hnx rfl) (Nat.zero_le _) (Nat.zero_le _) (e_k ?_)
    refine r_wr0 ?_
    refine r_z_eq F dX5_readPiece_19 (tgt := 38) (by decide) (fun hc => ?_) (fun hc => ?_)
    · have hf := e_t hc hf
      refine r_aload_n F dX5_readPiece_22 rfl ?_
      refine r_get F dX5_readPiece_23 flX5_32 rfl rfl (e_le rfl) (e_lt hnx rfl) ?_
      refine r_bipush F dX5_readPiece_26 (v := 10) (by decide) ?_
      refine r_icmp_ge F dX5_readPiece_28 (tgt := 38) (by decide) (fun hc => ?_) (fun hc => ?_)
      · have hf := e_t hc hf
        refine r_aload_n F dX5_readPiece_38 rfl ?_
        refine r_ldcS F dX5_readPiece_39 (tx := "stress") (a := 10) (by decide +kernel) ?_
        obtain ⟨q5, hq6, hf⟩ := e_bd hf
        refine r_callV F dX5_readPiece_41 (b := 35) (dc := 0) (ds := 0) (As := [.ref 10]) (S0 := []) lkX5_74 mX5_spells (tX5_spells_35_10 hG (la := x_l X) (h := e_up h [(35, o35 q1.1 q1.2 a35_3 a35_4 a35_5 a35_7 a35_8 a35_9 a35_10)]) hnx h33 h34 rfl hq6) rfl rfl rfl (e_le rfl) (e_le rfl) (e_le rfl) rfl (ci := 5) e_cl5.1 rfl (e_le rfl) (e_lt hnx rfl) (Nat.zero_le _) (Nat.zero_le _) (e_k ?_)
        refine r_wr0 ?_
        refine r_z_eq F dX5_readPiece_44 (tgt := 72) (by decide) (fun hc => ?_) (fun hc => ?_)
        · have hf := e_t hc hf
          refine r_aload_n F dX5_readPiece_47 rfl ?_
          refine r_get F dX5_readPiece_48 flX5_35 rfl rfl (e_le rfl) (e_lt hnx rfl) ?_
          refine r_z_ne F dX5_readPiece_51 (tgt := 72) (by decide) (fun hc => ?_) (fun hc => ?_)
          · have hf := e_t hc hf
            refine r_aload_n F dX5_readPiece_72 rfl ?_
            refine r_ldcS F dX5_readPiece_73 (tx := "hold") (a := 11) (by decide +kernel) ?_
            obtain ⟨q7, hq8, hf⟩ := e_bd hf
            refine r_callV F dX5_readPiece_75 (b := 35) (dc := 0) (ds := 0) (As := [.ref 11]) (S0 := []) lkX5_74 mX5_spells (tX5_spells_35_11 hG (la := x_l X) (h := e_up h [(35, o35 q1.1 q1.2 a35_3 a35_4 a35_5 a35_7 a35_8 a35_9 a35_10)]) hnx h33 h34 rfl hq8) rfl rfl rfl (e_le rfl) (e_le rfl) (e_le rfl) rfl (ci := 5) e_cl5.1 rfl (e_le rfl) (e_lt hnx rfl) (Nat.zero_le _) (Nat.zero_le _) (e_k ?_)
            refine r_wr0 ?_
            refine r_z_eq F dX5_readPiece_78 (tgt := 101) (by decide) (fun hc => ?_) (fun hc => ?_)
            · have hf := e_t hc hf
              refine r_aload_n F dX5_readPiece_81 rfl ?_
              refine r_get F dX5_readPiece_82 flX5_39 rfl rfl (e_le rfl) (e_lt hnx rfl) ?_
              refine r_z_ne F dX5_readPiece_85 (tgt := 101) (by decide) (fun hc => ?_) (fun hc => ?_)
              · have hf := e_t hc hf
                refine r_aload_n F dX5_readPiece_101 rfl ?_
                refine r_ldcS F dX5_readPiece_102 (tx := "rule") (a := 12) (by decide +kernel) ?_
                obtain ⟨q9, hq10, hf⟩ := e_bd hf
                refine r_callV F dX5_readPiece_104 (b := 35) (dc := 0) (ds := 0) (As := [.ref 12]) (S0 := []) lkX5_74 mX5_spells (tX5_spells_35_12 hG (la := x_l X) (h := e_up h [(35, o35 q1.1 q1.2 a35_3 a35_4 a35_5 a35_7 a35_8 a35_9 a35_10)]) hnx h33 h34 rfl hq10) rfl rfl rfl (e_le rfl) (e_le rfl) (e_le rfl) rfl (ci := 5) e_cl5.1 rfl (e_le rfl) (e_lt hnx rfl) (Nat.zero_le _) (Nat.zero_le _) (e_k ?_)
                refine r_wr0 ?_
                refine r_z_eq F dX5_readPiece_107 (tgt := 130) (by decide) (fun hc => ?_) (fun hc => ?_)
                · have hf := e_t hc hf
                  refine r_aload_n F dX5_readPiece_110 rfl ?_
                  refine r_get F dX5_readPiece_111 flX5_42 rfl rfl (e_le rfl) (e_lt hnx rfl) ?_
                  refine r_z_ne F dX5_readPiece_114 (tgt := 130) (by decide) (fun hc => ?_) (fun hc => ?_)
                  · have hf := e_t hc hf
                    refine r_aload_n F dX5_readPiece_130 rfl ?_
                    refine r_aload_n F dX5_readPiece_131 rfl ?_
                    refine r_get F dX5_readPiece_132 flX5_78 rfl rfl (e_le rfl) (e_lt hnx rfl) ?_
                    refine r_put F dX5_readPiece_135 flX5_29 rfl rfl rfl rfl (e_le rfl) (e_le rfl) (e_lt hnx rfl) (l' := [(35, o35 q1.1 q1.2 q1.2 a35_4 a35_5 a35_7 a35_8 a35_9 a35_10)]) rfl ?_
                    refine r_mat (k := 36) h36 (l' := [(35, o35 q1.1 q1.2 q1.2 a35_4 a35_5 a35_7 a35_8 a35_9 a35_10), (36, o36 A36)]) rfl ?_
                    refine r_mat (k := 37) h37 (l' := [(35, o35 q1.1 q1.2 q1.2 a35_4 a35_5 a35_7 a35_8 a35_9 a35_10), (36, o36 A36), (37, o37 A37)]) rfl ?_
                    refine r_mat (k := 38) h38 (l' := [(35, o35 q1.1 q1.2 q1.2 a35_4 a35_5 a35_7 a35_8 a35_9 a35_10), (36, o36 A36), (37, o37 A37), (38, o38 A38)]) rfl ?_
                    obtain rfl := Option.some.inj hf
                    exact r_vret F hq dX5_readPiece_138 rfl rfl (Nat.le_refl _) (Nat.le_refl _) ⟨rfl, rfl⟩
                  · have hf := e_f hc hf
                    refine r_aload_n F dX5_readPiece_117 rfl ?_
                    refine r_iconst F dX5_readPiece_118 (v := 1) (by decide) ?_
                    refine r_put F dX5_readPiece_119 (v := .int (e_b true)) flX5_42 rfl (e_b_nar _) (e_b_fit _) rfl (e_le rfl) (e_le rfl) (e_lt hnx rfl) (l' := [(35, o35 q1.1 q1.2 a35_3 a35_4 a35_5 a35_7 a35_8 true a35_10)]) rfl ?_
                    refine r_aload_n F dX5_readPiece_122 rfl ?_
                    refine r_iconst F dX5_readPiece_123 (v := 3) (by decide) ?_
                    obtain ⟨q11, hq12, hf⟩ := e_bd hf
                    refine r_callV F dX5_readPiece_124 (b := 35) (dc := 0) (ds := 0) (As := [.int 3]) (S0 := []) lkX5_100 mX5_readSetting (tX5_readSetting_35 hG (la := x_l X) (h := e_up h [(35, o35 q1.1 q1.2 a35_3 a35_4 a35_5 a35_7 a35_8 true a35_10)]) hnx h33 h34 rfl h36 hq12) rfl rfl rfl (e_le rfl) (e_le rfl) (e_le rfl) rfl (ci := 5) e_cl5.1 rfl (e_le rfl) (e_lt hnx rfl) (Nat.zero_le _) (Nat.zero_le _) (e_k ?_)
                    refine r_wr (l' := [(35, o35 q11.1 q11.2.1 q11.2.2.1 a35_4 a35_5 a35_7 a35_8 true a35_10), (36, o36 q11.2.2.2)]) rfl rfl ?_
                    refine r_goto F dX5_readPiece_127 (tgt := 138) (by decide) ?_
                    refine r_mat (k := 37) h37 (l' := [(35, o35 q11.1 q11.2.1 q11.2.2.1 a35_4 a35_5 a35_7 a35_8 true a35_10), (36, o36 q11.2.2.2), (37, o37 A37)]) rfl ?_
                    refine r_mat (k := 38) h38 (l' := [(35, o35 q11.1 q11.2.1 q11.2.2.1 a35_4 a35_5 a35_7 a35_8 true a35_10), (36, o36 q11.2.2.2), (37, o37 A37), (38, o38 A38)]) rfl ?_
                    obtain rfl := Option.some.inj hf
                    exact r_vret F hq dX5_readPiece_138 rfl rfl (Nat.le_refl _) (Nat.le_refl _) ⟨rfl, rfl⟩
                · have hf := e_f hc hf
                  refine r_aload_n F dX5_readPiece_130 rfl ?_
                  refine r_aload_n F dX5_readPiece_131 rfl ?_
                  refine r_get F dX5_readPiece_132 flX5_78 rfl rfl (e_le rfl) (e_lt hnx rfl) ?_
                  refine r_put F dX5_readPiece_135 flX5_29 rfl rfl rfl rfl (e_le rfl) (e_le rfl) (e_lt hnx rfl) (l' := [(35, o35 q1.1 q1.2 q1.2 a35_4 a35_5 a35_7 a35_8 a35_9 a35_10)]) rfl ?_
                  refine r_mat (k := 36) h36 (l' := [(35, o35 q1.1 q1.2 q1.2 a35_4 a35_5 a35_7 a35_8 a35_9 a35_10), (36, o36 A36)]) rfl ?_
                  refine r_mat (k := 37) h37 (l' := [(35, o35 q1.1 q1.2 q1.2 a35_4 a35_5 a35_7 a35_8 a35_9 a35_10), (36, o36 A36), (37, o37 A37)]) rfl ?_
                  refine r_mat (k := 38) h38 (l' := [(35, o35 q1.1 q1.2 q1.2 a35_4 a35_5 a35_7 a35_8 a35_9 a35_10), (36, o36 A36), (37, o37 A37), (38, o38 A38)]) rfl ?_
                  obtain rfl := Option.some.inj hf
                  exact r_vret F hq dX5_readPiece_138 rfl rfl (Nat.le_refl _) (Nat.le_refl _) ⟨rfl, rfl⟩
              · have hf := e_f hc hf
                refine r_aload_n F dX5_readPiece_88 rfl ?_
                refine r_iconst F dX5_readPiece_89 (v := 1) (by decide) ?_
                refine r_put F dX5_readPiece_90 (v := .int (e_b true)) flX5_39 rfl (e_b_nar _) (e_b_fit _) rfl (e_le rfl) (e_le rfl) (e_lt hnx rfl) (l' := [(35, o35 q1.1 q1.2 a35_3 a35_4 a35_5 a35_7 true a35_9 a35_10)]) rfl ?_
                refine r_aload_n F dX5_readPiece_93 rfl ?_
                refine r_iconst F dX5_readPiece_94 (v := 2) (by decide) ?_
                obtain ⟨q13, hq14, hf⟩ := e_bd hf
                refine r_callV F dX5_readPiece_95 (b := 35) (dc := 0) (ds := 0) (As := [.int 2]) (S0 := []) lkX5_100 mX5_readSetting (tX5_readSetting_35 hG (la := x_l X) (h := e_up h [(35, o35 q1.1 q1.2 a35_3 a35_4 a35_5 a35_7 true a35_9 a35_10)]) hnx h33 h34 rfl h36 hq14) rfl rfl rfl (e_le rfl) (e_le rfl) (e_le rfl) rfl (ci := 5) e_cl5.1 rfl (e_le rfl) (e_lt hnx rfl) (Nat.zero_le _) (Nat.zero_le _) (e_k ?_)
                refine r_wr (l' := [(35, o35 q13.1 q13.2.1 q13.2.2.1 a35_4 a35_5 a35_7 true a35_9 a35_10), (36, o36 q13.2.2.2)]) rfl rfl ?_
                refine r_goto F dX5_readPiece_98 (tgt := 138) (by decide) ?_
                refine r_mat (k := 37) h37 (l' := [(35, o35 q13.1 q13.2.1 q13.2.2.1 a35_4 a35_5 a35_7 true a35_9 a35_10), (36, o36 q13.2.2.2), (37, o37 A37)]) rfl ?_
                refine r_mat (k := 38) h38 (l' := [(35, o35 q13.1 q13.2.1 q13.2.2.1 a35_4 a35_5 a35_7 true a35_9 a35_10), (36, o36 q13.2.2.2), (37, o37 A37), (38, o38 A38)]) rfl ?_
                obtain rfl := Option.some.inj hf
                exact r_vret F hq dX5_readPiece_138 rfl rfl (Nat.le_refl _) (Nat.le_refl _) ⟨rfl, rfl⟩
            · have hf := e_f hc hf
              refine r_aload_n F dX5_readPiece_101 rfl ?_
              refine r_ldcS F dX5_readPiece_102 (tx := "rule") (a := 12) (by decide +kernel) ?_
              obtain ⟨q15, hq16, hf⟩ := e_bd hf
              refine r_callV F dX5_readPiece_104 (b := 35) (dc := 0) (ds := 0) (As := [.ref 12]) (S0 := []) lkX5_74 mX5_spells (tX5_spells_35_12 hG (la := x_l X) (h := e_up h [(35, o35 q1.1 q1.2 a35_3 a35_4 a35_5 a35_7 a35_8 a35_9 a35_10)]) hnx h33 h34 rfl hq16) rfl rfl rfl (e_le rfl) (e_le rfl) (e_le rfl) rfl (ci := 5) e_cl5.1 rfl (e_le rfl) (e_lt hnx rfl) (Nat.zero_le _) (Nat.zero_le _) (e_k ?_)
              refine r_wr0 ?_
              refine r_z_eq F dX5_readPiece_107 (tgt := 130) (by decide) (fun hc => ?_) (fun hc => ?_)
              · have hf := e_t hc hf
                refine r_aload_n F dX5_readPiece_110 rfl ?_
                refine r_get F dX5_readPiece_111 flX5_42 rfl rfl (e_le rfl) (e_lt hnx rfl) ?_
                refine r_z_ne F dX5_readPiece_114 (tgt := 130) (by decide) (fun hc => ?_) (fun hc => ?_)
                · have hf := e_t hc hf
                  refine r_aload_n F dX5_readPiece_130 rfl ?_
                  refine r_aload_n F dX5_readPiece_131 rfl ?_
                  refine r_get F dX5_readPiece_132 flX5_78 rfl rfl (e_le rfl) (e_lt hnx rfl) ?_
                  refine r_put F dX5_readPiece_135 flX5_29 rfl rfl rfl rfl (e_le rfl) (e_le rfl) (e_lt hnx rfl) (l' := [(35, o35 q1.1 q1.2 q1.2 a35_4 a35_5 a35_7 a35_8 a35_9 a35_10)]) rfl ?_
                  refine r_mat (k := 36) h36 (l' := [(35, o35 q1.1 q1.2 q1.2 a35_4 a35_5 a35_7 a35_8 a35_9 a35_10), (36, o36 A36)]) rfl ?_
                  refine r_mat (k := 37) h37 (l' := [(35, o35 q1.1 q1.2 q1.2 a35_4 a35_5 a35_7 a35_8 a35_9 a35_10), (36, o36 A36), (37, o37 A37)]) rfl ?_
                  refine r_mat (k := 38) h38 (l' := [(35, o35 q1.1 q1.2 q1.2 a35_4 a35_5 a35_7 a35_8 a35_9 a35_10), (36, o36 A36), (37, o37 A37), (38, o38 A38)]) rfl ?_
                  obtain rfl := Option.some.inj hf
                  exact r_vret F hq dX5_readPiece_138 rfl rfl (Nat.le_refl _) (Nat.le_refl _) ⟨rfl, rfl⟩
                · have hf := e_f hc hf
                  refine r_aload_n F dX5_readPiece_117 rfl ?_
                  refine r_iconst F dX5_readPiece_118 (v := 1) (by decide) ?_
                  refine r_put F dX5_readPiece_119 (v := .int (e_b true)) flX5_42 rfl (e_b_nar _) (e_b_fit _) rfl (e_le rfl) (e_le rfl) (e_lt hnx rfl) (l' := [(35, o35 q1.1 q1.2 a35_3 a35_4 a35_5 a35_7 a35_8 true a35_10)]) rfl ?_
                  refine r_aload_n F dX5_readPiece_122 rfl ?_
                  refine r_iconst F dX5_readPiece_123 (v := 3) (by decide) ?_
                  obtain ⟨q17, hq18, hf⟩ := e_bd hf
                  refine r_callV F dX5_readPiece_124 (b := 35) (dc := 0) (ds := 0) (As := [.int 3]) (S0 := []) lkX5_100 mX5_readSetting (tX5_readSetting_35 hG (la := x_l X) (h := e_up h [(35, o35 q1.1 q1.2 a35_3 a35_4 a35_5 a35_7 a35_8 true a35_10)]) hnx h33 h34 rfl h36 hq18) rfl rfl rfl (e_le rfl) (e_le rfl) (e_le rfl) rfl (ci := 5) e_cl5.1 rfl (e_le rfl) (e_lt hnx rfl) (Nat.zero_le _) (Nat.zero_le _) (e_k ?_)
                  refine r_wr (l' := [(35, o35 q17.1 q17.2.1 q17.2.2.1 a35_4 a35_5 a35_7 a35_8 true a35_10), (36, o36 q17.2.2.2)]) rfl rfl ?_
                  refine r_goto F dX5_readPiece_127 (tgt := 138) (by decide) ?_
                  refine r_mat (k := 37) h37 (l' := [(35, o35 q17.1 q17.2.1 q17.2.2.1 a35_4 a35_5 a35_7 a35_8 true a35_10), (36, o36 q17.2.2.2), (37, o37 A37)]) rfl ?_
                  refine r_mat (k := 38) h38 (l' := [(35, o35 q17.1 q17.2.1 q17.2.2.1 a35_4 a35_5 a35_7 a35_8 true a35_10), (36, o36 q17.2.2.2), (37, o37 A37), (38, o38 A38)]) rfl ?_
                  obtain rfl := Option.some.inj hf
                  exact r_vret F hq dX5_readPiece_138 rfl rfl (Nat.le_refl _) (Nat.le_refl _) ⟨rfl, rfl⟩
              · have hf := e_f hc hf
                refine r_aload_n F dX5_readPiece_130 rfl ?_
                refine r_aload_n F dX5_readPiece_131 rfl ?_
                refine r_get F dX5_readPiece_132 flX5_78 rfl rfl (e_le rfl) (e_lt hnx rfl) ?_
                refine r_put F dX5_readPiece_135 flX5_29 rfl rfl rfl rfl (e_le rfl) (e_le rfl) (e_lt hnx rfl) (l' := [(35, o35 q1.1 q1.2 q1.2 a35_4 a35_5 a35_7 a35_8 a35_9 a35_10)]) rfl ?_
                refine r_mat (k := 36) h36 (l' := [(35, o35 q1.1 q1.2 q1.2 a35_4 a35_5 a35_7 a35_8 a35_9 a35_10), (36, o36 A36)]) rfl ?_
                refine r_mat (k := 37) h37 (l' := [(35, o35 q1.1 q1.2 q1.2 a35_4 a35_5 a35_7 a35_8 a35_9 a35_10), (36, o36 A36), (37, o37 A37)]) rfl ?_
                refine r_mat (k := 38) h38 (l' := [(35, o35 q1.1 q1.2 q1.2 a35_4 a35_5 a35_7 a35_8 a35_9 a35_10), (36, o36 A36), (37, o37 A37), (38, o38 A38)]) rfl ?_
                obtain rfl := Option.some.inj hf
                exact r_vret F hq dX5_readPiece_138 rfl rfl (Nat.le_refl _) (Nat.le_refl _) ⟨rfl, rfl⟩
          · have hf := e_f hc hf
            refine r_aload_n F dX5_readPiece_54 rfl ?_
            refine r_iconst F dX5_readPiece_55 (v := 1) (by decide) ?_
            refine r_put F dX5_readPiece_56 (v := .int (e_b true)) flX5_35 rfl (e_b_nar _) (e_b_fit _) rfl (e_le rfl) (e_le rfl) (e_lt hnx rfl) (l' := [(35, o35 q1.1 q1.2 a35_3 a35_4 a35_5 true a35_8 a35_9 a35_10)]) rfl ?_
            refine r_aload_n F dX5_readPiece_59 rfl ?_
            refine r_iconst F dX5_readPiece_60 (v := 0) (by decide) ?_
            obtain ⟨q19, hq20, hf⟩ := e_bd hf
            refine r_callV F dX5_readPiece_61 (b := 35) (dc := 0) (ds := 0) (As := [.int 0]) (S0 := []) lkX5_100 mX5_readSetting (tX5_readSetting_35 hG (la := x_l X) (h := e_up h [(35, o35 q1.1 q1.2 a35_3 a35_4 a35_5 true a35_8 a35_9 a35_10)]) hnx h33 h34 rfl h36 hq20) rfl rfl rfl (e_le rfl) (e_le rfl) (e_le rfl) rfl (ci := 5) e_cl5.1 rfl (e_le rfl) (e_lt hnx rfl) (Nat.zero_le _) (Nat.zero_le _) (e_k ?_)
            refine r_wr (l' := [(35, o35 q19.1 q19.2.1 q19.2.2.1 a35_4 a35_5 true a35_8 a35_9 a35_10), (36, o36 q19.2.2.2)]) rfl rfl ?_
            refine r_aload_n F dX5_readPiece_64 rfl ?_
            refine r_iconst F dX5_readPiece_65 (v := 1) (by decide) ?_
            obtain ⟨q21, hq22, hf⟩ := e_bd hf
            refine r_callV F dX5_readPiece_66 (b := 35) (dc := 0) (ds := 0) (As := [.int 1]) (S0 := []) lkX5_100 mX5_readSetting (tX5_readSetting_35 hG (la := x_l X) (h := e_up h [(35, o35 q19.1 q19.2.1 q19.2.2.1 a35_4 a35_5 true a35_8 a35_9 a35_10), (36, o36 q19.2.2.2)]) hnx h33 h34 rfl rfl hq22) rfl rfl rfl (e_le rfl) (e_le rfl) (e_le rfl) rfl (ci := 5) e_cl5.1 rfl (e_le rfl) (e_lt hnx rfl) (Nat.zero_le _) (Nat.zero_le _) (e_k ?_)
            refine r_wr (l' := [(35, o35 q21.1 q21.2.1 q21.2.2.1 a35_4 a35_5 true a35_8 a35_9 a35_10), (36, o36 q21.2.2.2)]) rfl rfl ?_
            refine r_goto F dX5_readPiece_69 (tgt := 138) (by decide) ?_
            refine r_mat (k := 37) h37 (l' := [(35, o35 q21.1 q21.2.1 q21.2.2.1 a35_4 a35_5 true a35_8 a35_9 a35_10), (36, o36 q21.2.2.2), (37, o37 A37)]) rfl ?_
            refine r_mat (k := 38) h38 (l' := [(35, o35 q21.1 q21.2.1 q21.2.2.1 a35_4 a35_5 true a35_8 a35_9 a35_10), (36, o36 q21.2.2.2), (37, o37 A37), (38, o38 A38)]) rfl ?_
            obtain rfl := Option.some.inj hf
            exact r_vret F hq dX5_readPiece_138 rfl rfl (Nat.le_refl _) (Nat.le_refl _) ⟨rfl, rfl⟩
        · have hf := e_f hc hf
          refine r_aload_n F dX5_readPiece_72 rfl ?_
          refine r_ldcS F dX5_readPiece_73 (tx := "hold") (a := 11) (by decide +kernel) ?_
          obtain ⟨q23, hq24, hf⟩ := e_bd hf
          refine r_callV F dX5_readPiece_75 (b := 35) (dc := 0) (ds := 0) (As := [.ref 11]) (S0 := []) lkX5_74 mX5_spells (tX5_spells_35_11 hG (la := x_l X) (h := e_up h [(35, o35 q1.1 q1.2 a35_3 a35_4 a35_5 a35_7 a35_8 a35_9 a35_10)]) hnx h33 h34 rfl hq24) rfl rfl rfl (e_le rfl) (e_le rfl) (e_le rfl) rfl (ci := 5) e_cl5.1 rfl (e_le rfl) (e_lt hnx rfl) (Nat.zero_le _) (Nat.zero_le _) (e_k ?_)
          refine r_wr0 ?_
          refine r_z_eq F dX5_readPiece_78 (tgt := 101) (by decide) (fun hc => ?_) (fun hc => ?_)
          · have hf := e_t hc hf
            refine r_aload_n F dX5_readPiece_81 rfl ?_
            refine r_get F dX5_readPiece_82 flX5_39 rfl rfl (e_le rfl) (e_lt hnx rfl) ?_
            refine r_z_ne F dX5_readPiece_85 (tgt := 101) (by decide) (fun hc => ?_) (fun hc => ?_)
            · have hf := e_t hc hf
              refine r_aload_n F dX5_readPiece_101 rfl ?_
              refine r_ldcS F dX5_readPiece_102 (tx := "rule") (a := 12) (by decide +kernel) ?_
              obtain ⟨q25, hq26, hf⟩ := e_bd hf
              refine r_callV F dX5_readPiece_104 (b := 35) (dc := 0) (ds := 0) (As := [.ref 12]) (S0 := []) lkX5_74 mX5_spells (tX5_spells_35_12 hG (la := x_l X) (h := e_up h [(35, o35 q1.1 q1.2 a35_3 a35_4 a35_5 a35_7 a35_8 a35_9 a35_10)]) hnx h33 h34 rfl hq26) rfl rfl rfl (e_le rfl) (e_le rfl) (e_le rfl) rfl (ci := 5) e_cl5.1 rfl (e_le rfl) (e_lt hnx rfl) (Nat.zero_le _) (Nat.zero_le _) (e_k ?_)
              refine r_wr0 ?_
              refine r_z_eq F dX5_readPiece_107 (tgt := 130) (by decide) (fun hc => ?_) (fun hc => ?_)
              · have hf := e_t hc hf
                refine r_aload_n F dX5_readPiece_110 rfl ?_
                refine r_get F dX5_readPiece_111 flX5_42 rfl rfl (e_le rfl) (e_lt hnx rfl) ?_
                refine r_z_ne F dX5_readPiece_114 (tgt := 130) (by decide) (fun hc => ?_) (fun hc => ?_)
                · have hf := e_t hc hf
                  refine r_aload_n F dX5_readPiece_130 rfl ?_
                  refine r_aload_n F dX5_readPiece_131 rfl ?_
                  refine r_get F dX5_readPiece_132 flX5_78 rfl rfl (e_le rfl) (e_lt hnx rfl) ?_
                  refine r_put F dX5_readPiece_135 flX5_29 rfl rfl rfl rfl (e_le rfl) (e_le rfl) (e_lt hnx rfl) (l' := [(35, o35 q1.1 q1.2 q1.2 a35_4 a35_5 a35_7 a35_8 a35_9 a35_10)]) rfl ?_
                  refine r_mat (k := 36) h36 (l' := [(35, o35 q1.1 q1.2 q1.2 a35_4 a35_5 a35_7 a35_8 a35_9 a35_10), (36, o36 A36)]) rfl ?_
                  refine r_mat (k := 37) h37 (l' := [(35, o35 q1.1 q1.2 q1.2 a35_4 a35_5 a35_7 a35_8 a35_9 a35_10), (36, o36 A36), (37, o37 A37)]) rfl ?_
                  refine r_mat (k := 38) h38 (l' := [(35, o35 q1.1 q1.2 q1.2 a35_4 a35_5 a35_7 a35_8 a35_9 a35_10), (36, o36 A36), (37, o37 A37), (38, o38 A38)]) rfl ?_
                  obtain rfl := Option.some.inj hf
                  exact r_vret F hq dX5_readPiece_138 rfl rfl (Nat.le_refl _) (Nat.le_refl _) ⟨rfl, rfl⟩
                · have hf := e_f hc hf
                  refine r_aload_n F dX5_readPiece_117 rfl ?_
                  refine r_iconst F dX5_readPiece_118 (v := 1) (by decide) ?_
                  refine r_put F dX5_readPiece_119 (v := .int (e_b true)) flX5_42 rfl (e_b_nar _) (e_b_fit _) rfl (e_le rfl) (e_le rfl) (e_lt hnx rfl) (l' := [(35, o35 q1.1 q1.2 a35_3 a35_4 a35_5 a35_7 a35_8 true a35_10)]) rfl ?_
                  refine r_aload_n F dX5_readPiece_122 rfl ?_
                  refine r_iconst F dX5_readPiece_123 (v := 3) (by decide) ?_
                  obtain ⟨q27, hq28, hf⟩ := e_bd hf
                  refine r_callV F dX5_readPiece_124 (b := 35) (dc := 0) (ds := 0) (As := [.int 3]) (S0 := []) lkX5_100 mX5_readSetting (tX5_readSetting_35 hG (la := x_l X) (h := e_up h [(35, o35 q1.1 q1.2 a35_3 a35_4 a35_5 a35_7 a35_8 true a35_10)]) hnx h33 h34 rfl h36 hq28) rfl rfl rfl (e_le rfl) (e_le rfl) (e_le rfl) rfl (ci := 5) e_cl5.1 rfl (e_le rfl) (e_lt hnx rfl) (Nat.zero_le _) (Nat.zero_le _) (e_k ?_)
                  refine r_wr (l' := [(35, o35 q27.1 q27.2.1 q27.2.2.1 a35_4 a35_5 a35_7 a35_8 true a35_10), (36, o36 q27.2.2.2)]) rfl rfl ?_
                  refine r_goto F dX5_readPiece_127 (tgt := 138) (by decide) ?_
                  refine r_mat (k := 37) h37 (l' := [(35, o35 q27.1 q27.2.1 q27.2.2.1 a35_4 a35_5 a35_7 a35_8 true a35_10), (36, o36 q27.2.2.2), (37, o37 A37)]) rfl ?_
                  refine r_mat (k := 38) h38 (l' := [(35, o35 q27.1 q27.2.1 q27.2.2.1 a35_4 a35_5 a35_7 a35_8 true a35_10), (36, o36 q27.2.2.2), (37, o37 A37), (38, o38 A38)]) rfl ?_
                  obtain rfl := Option.some.inj hf
                  exact r_vret F hq dX5_readPiece_138 rfl rfl (Nat.le_refl _) (Nat.le_refl _) ⟨rfl, rfl⟩
              · have hf := e_f hc hf
                refine r_aload_n F dX5_readPiece_130 rfl ?_
                refine r_aload_n F dX5_readPiece_131 rfl ?_
                refine r_get F dX5_readPiece_132 flX5_78 rfl rfl (e_le rfl) (e_lt hnx rfl) ?_
                refine r_put F dX5_readPiece_135 flX5_29 rfl rfl rfl rfl (e_le rfl) (e_le rfl) (e_lt hnx rfl) (l' := [(35, o35 q1.1 q1.2 q1.2 a35_4 a35_5 a35_7 a35_8 a35_9 a35_10)]) rfl ?_
                refine r_mat (k := 36) h36 (l' := [(35, o35 q1.1 q1.2 q1.2 a35_4 a35_5 a35_7 a35_8 a35_9 a35_10), (36, o36 A36)]) rfl ?_
                refine r_mat (k := 37) h37 (l' := [(35, o35 q1.1 q1.2 q1.2 a35_4 a35_5 a35_7 a35_8 a35_9 a35_10), (36, o36 A36), (37, o37 A37)]) rfl ?_
                refine r_mat (k := 38) h38 (l' := [(35, o35 q1.1 q1.2 q1.2 a35_4 a35_5 a35_7 a35_8 a35_9 a35_10), (36, o36 A36), (37, o37 A37), (38, o38 A38)]) rfl ?_
                obtain rfl := Option.some.inj hf
                exact r_vret F hq dX5_readPiece_138 rfl rfl (Nat.le_refl _) (Nat.le_refl _) ⟨rfl, rfl⟩
            · have hf := e_f hc hf
              refine r_aload_n F dX5_readPiece_88 rfl ?_
              refine r_iconst F dX5_readPiece_89 (v := 1) (by decide) ?_
              refine r_put F dX5_readPiece_90 (v := .int (e_b true)) flX5_39 rfl (e_b_nar _) (e_b_fit _) rfl (e_le rfl) (e_le rfl) (e_lt hnx rfl) (l' := [(35, o35 q1.1 q1.2 a35_3 a35_4 a35_5 a35_7 true a35_9 a35_10)]) rfl ?_
              refine r_aload_n F dX5_readPiece_93 rfl ?_
              refine r_iconst F dX5_readPiece_94 (v := 2) (by decide) ?_
              obtain ⟨q29, hq30, hf⟩ := e_bd hf
              refine r_callV F dX5_readPiece_95 (b := 35) (dc := 0) (ds := 0) (As := [.int 2]) (S0 := []) lkX5_100 mX5_readSetting (tX5_readSetting_35 hG (la := x_l X) (h := e_up h [(35, o35 q1.1 q1.2 a35_3 a35_4 a35_5 a35_7 true a35_9 a35_10)]) hnx h33 h34 rfl h36 hq30) rfl rfl rfl (e_le rfl) (e_le rfl) (e_le rfl) rfl (ci := 5) e_cl5.1 rfl (e_le rfl) (e_lt hnx rfl) (Nat.zero_le _) (Nat.zero_le _) (e_k ?_)
              refine r_wr (l' := [(35, o35 q29.1 q29.2.1 q29.2.2.1 a35_4 a35_5 a35_7 true a35_9 a35_10), (36, o36 q29.2.2.2)]) rfl rfl ?_
              refine r_goto F dX5_readPiece_98 (tgt := 138) (by decide) ?_
              refine r_mat (k := 37) h37 (l' := [(35, o35 q29.1 q29.2.1 q29.2.2.1 a35_4 a35_5 a35_7 true a35_9 a35_10), (36, o36 q29.2.2.2), (37, o37 A37)]) rfl ?_
              refine r_mat (k := 38) h38 (l' := [(35, o35 q29.1 q29.2.1 q29.2.2.1 a35_4 a35_5 a35_7 true a35_9 a35_10), (36, o36 q29.2.2.2), (37, o37 A37), (38, o38 A38)]) rfl ?_
              obtain rfl := Option.some.inj hf
              exact r_vret F hq dX5_readPiece_138 rfl rfl (Nat.le_refl _) (Nat.le_refl _) ⟨rfl, rfl⟩
          · have hf := e_f hc hf
            refine r_aload_n F dX5_readPiece_101 rfl ?_
            refine r_ldcS F dX5_readPiece_102 (tx := "rule") (a := 12) (by decide +kernel) ?_
            obtain ⟨q31, hq32, hf⟩ := e_bd hf
            refine r_callV F dX5_readPiece_104 (b := 35) (dc := 0) (ds := 0) (As := [.ref 12]) (S0 := []) lkX5_74 mX5_spells (tX5_spells_35_12 hG (la := x_l X) (h := e_up h [(35, o35 q1.1 q1.2 a35_3 a35_4 a35_5 a35_7 a35_8 a35_9 a35_10)]) hnx h33 h34 rfl hq32) rfl rfl rfl (e_le rfl) (e_le rfl) (e_le rfl) rfl (ci := 5) e_cl5.1 rfl (e_le rfl) (e_lt hnx rfl) (Nat.zero_le _) (Nat.zero_le _) (e_k ?_)
            refine r_wr0 ?_
            refine r_z_eq F dX5_readPiece_107 (tgt := 130) (by decide) (fun hc => ?_) (fun hc => ?_)
            · have hf := e_t hc hf
              refine r_aload_n F dX5_readPiece_110 rfl ?_
              refine r_get F dX5_readPiece_111 flX5_42 rfl rfl (e_le rfl) (e_lt hnx rfl) ?_
              refine r_z_ne F dX5_readPiece_114 (tgt := 130) (by decide) (fun hc => ?_) (fun hc => ?_)
              · have hf := e_t hc hf
                refine r_aload_n F dX5_readPiece_130 rfl ?_
                refine r_aload_n F dX5_readPiece_131 rfl ?_
                refine r_get F dX5_readPiece_132 flX5_78 rfl rfl (e_le rfl) (e_lt hnx rfl) ?_
                refine r_put F dX5_readPiece_135 flX5_29 rfl rfl rfl rfl (e_le rfl) (e_le rfl) (e_lt hnx rfl) (l' := [(35, o35 q1.1 q1.2 q1.2 a35_4 a35_5 a35_7 a35_8 a35_9 a35_10)]) rfl ?_
                refine r_mat (k := 36) h36 (l' := [(35, o35 q1.1 q1.2 q1.2 a35_4 a35_5 a35_7 a35_8 a35_9 a35_10), (36, o36 A36)]) rfl ?_
                refine r_mat (k := 37) h37 (l' := [(35, o35 q1.1 q1.2 q1.2 a35_4 a35_5 a35_7 a35_8 a35_9 a35_10), (36, o36 A36), (37, o37 A37)]) rfl ?_
                refine r_mat (k := 38) h38 (l' := [(35, o35 q1.1 q1.2 q1.2 a35_4 a35_5 a35_7 a35_8 a35_9 a35_10), (36, o36 A36), (37, o37 A37), (38, o38 A38)]) rfl ?_
                obtain rfl := Option.some.inj hf
                exact r_vret F hq dX5_readPiece_138 rfl rfl (Nat.le_refl _) (Nat.le_refl _) ⟨rfl, rfl⟩
              · have hf := e_f hc hf
                refine r_aload_n F dX5_readPiece_117 rfl ?_
                refine r_iconst F dX5_readPiece_118 (v := 1) (by decide) ?_
                refine r_put F dX5_readPiece_119 (v := .int (e_b true)) flX5_42 rfl (e_b_nar _) (e_b_fit _) rfl (e_le rfl) (e_le rfl) (e_lt hnx rfl) (l' := [(35, o35 q1.1 q1.2 a35_3 a35_4 a35_5 a35_7 a35_8 true a35_10)]) rfl ?_
                refine r_aload_n F dX5_readPiece_122 rfl ?_
                refine r_iconst F dX5_readPiece_123 (v := 3) (by decide) ?_
                obtain ⟨q33, hq34, hf⟩ := e_bd hf
                refine r_callV F dX5_readPiece_124 (b := 35) (dc := 0) (ds := 0) (As := [.int 3]) (S0 := []) lkX5_100 mX5_readSetting (tX5_readSetting_35 hG (la := x_l X) (h := e_up h [(35, o35 q1.1 q1.2 a35_3 a35_4 a35_5 a35_7 a35_8 true a35_10)]) hnx h33 h34 rfl h36 hq34) rfl rfl rfl (e_le rfl) (e_le rfl) (e_le rfl) rfl (ci := 5) e_cl5.1 rfl (e_le rfl) (e_lt hnx rfl) (Nat.zero_le _) (Nat.zero_le _) (e_k ?_)
                refine r_wr (l' := [(35, o35 q33.1 q33.2.1 q33.2.2.1 a35_4 a35_5 a35_7 a35_8 true a35_10), (36, o36 q33.2.2.2)]) rfl rfl ?_
                refine r_goto F dX5_readPiece_127 (tgt := 138) (by decide) ?_
                refine r_mat (k := 37) h37 (l' := [(35, o35 q33.1 q33.2.1 q33.2.2.1 a35_4 a35_5 a35_7 a35_8 true a35_10), (36, o36 q33.2.2.2), (37, o37 A37)]) rfl ?_
                refine r_mat (k := 38) h38 (l' := [(35, o35 q33.1 q33.2.1 q33.2.2.1 a35_4 a35_5 a35_7 a35_8 true a35_10), (36, o36 q33.2.2.2), (37, o37 A37), (38, o38 A38)]) rfl ?_
                obtain rfl := Option.some.inj hf
                exact r_vret F hq dX5_readPiece_138 rfl rfl (Nat.le_refl _) (Nat.le_refl _) ⟨rfl, rfl⟩
            · have hf := e_f hc hf
              refine r_aload_n F dX5_readPiece_130 rfl ?_
              refine r_aload_n F dX5_readPiece_131 rfl ?_
              refine r_get F dX5_readPiece_132 flX5_78 rfl rfl (e_le rfl) (e_lt hnx rfl) ?_
              refine r_put F dX5_readPiece_135 flX5_29 rfl rfl rfl rfl (e_le rfl) (e_le rfl) (e_lt hnx rfl) (l' := [(35, o35 q1.1 q1.2 q1.2 a35_4 a35_5 a35_7 a35_8 a35_9 a35_10)]) rfl ?_
              refine r_mat (k := 36) h36 (l' := [(35, o35 q1.1 q1.2 q1.2 a35_4 a35_5 a35_7 a35_8 a35_9 a35_10), (36, o36 A36)]) rfl ?_
              refine r_mat (k := 37) h37 (l' := [(35, o35 q1.1 q1.2 q1.2 a35_4 a35_5 a35_7 a35_8 a35_9 a35_10), (36, o36 A36), (37, o37 A37)]) rfl ?_
              refine r_mat (k := 38) h38 (l' := [(35, o35 q1.1 q1.2 q1.2 a35_4 a35_5 a35_7 a35_8 a35_9 a35_10), (36, o36 A36), (37, o37 A37), (38, o38 A38)]) rfl ?_
              obtain rfl := Option.some.inj hf
              exact r_vret F hq dX5_readPiece_138 rfl rfl (Nat.le_refl _) (Nat.le_refl _) ⟨rfl, rfl⟩
      · have hf := e_f hc hf
        refine r_aload_n F dX5_readPiece_31 rfl ?_
        obtain ⟨q35, hq36, hf⟩ := e_bd hf
        refine r_callV F dX5_readPiece_32 (b := 35) (dc := 0) (ds := 0) (As := []) (S0 := []) lkX5_95 mX5_readCore (tX5_readCore_35 hG (la := x_l X) (h := e_up h [(35, o35 q1.1 q1.2 a35_3 a35_4 a35_5 a35_7 a35_8 a35_9 a35_10)]) hnx h33 h34 rfl h37 h38 hq36) rfl rfl rfl (e_le rfl) (e_le rfl) (e_le rfl) rfl (ci := 5) e_cl5.1 rfl (e_le rfl) (e_lt hnx rfl) (Nat.zero_le _) (Nat.zero_le _) (e_k ?_)
        refine r_wr (l' := [(35, o35 q35.1 q35.2.1 q35.2.2.1 a35_4 a35_5 a35_7 a35_8 a35_9 q35.2.2.2.1), (37, o37 q35.2.2.2.2.1), (38, o38 q35.2.2.2.2.2)]) rfl rfl ?_
        refine r_goto F dX5_readPiece_35 (tgt := 138) (by decide) ?_
        refine r_mat (k := 36) h36 (l' := [(35, o35 q35.1 q35.2.1 q35.2.2.1 a35_4 a35_5 a35_7 a35_8 a35_9 q35.2.2.2.1), (36, o36 A36), (37, o37 q35.2.2.2.2.1), (38, o38 q35.2.2.2.2.2)]) rfl ?_
        obtain rfl := Option.some.inj hf
        exact r_vret F hq dX5_readPiece_138 rfl rfl (Nat.le_refl _) (Nat.le_refl _) ⟨rfl, rfl⟩
    · have hf := e_f hc hf
      refine r_aload_n F dX5_readPiece_38 rfl ?_
      refine r_ldcS F dX5_readPiece_39 (tx := "stress") (a := 10) (by decide +kernel) ?_
      obtain ⟨q37, hq38, hf⟩ := e_bd hf
      refine r_callV F dX5_readPiece_41 (b := 35) (dc := 0) (ds := 0) (As := [.ref 10]) (S0 := []) lkX5_74 mX5_spells (tX5_spells_35_10 hG (la := x_l X) (h := e_up h [(35, o35 q1.1 q1.2 a35_3 a35_4 a35_5 a35_7 a35_8 a35_9 a35_10)]) hnx h33 h34 rfl hq38) rfl rfl rfl (e_le rfl) (e_le rfl) (e_le rfl) rfl (ci := 5) e_cl5.1 rfl (e_le rfl) (e_lt hnx rfl) (Nat.zero_le _) (Nat.zero_le _) (e_k ?_)
      refine r_wr0 ?_
      refine r_z_eq F dX5_readPiece_44 (tgt := 72) (by decide) (fun hc => ?_) (fun hc => ?_)
      · have hf := e_t hc hf
        refine r_aload_n F dX5_readPiece_47 rfl ?_
        refine r_get F dX5_readPiece_48 flX5_35 rfl rfl (e_le rfl) (e_lt hnx rfl) ?_
        refine r_z_ne F dX5_readPiece_51 (tgt := 72) (by decide) (fun hc => ?_) (fun hc => ?_)
        · have hf := e_t hc hf
          refine r_aload_n F dX5_readPiece_72 rfl ?_
          refine r_ldcS F dX5_readPiece_73 (tx := "hold") (a := 11) (by decide +kernel) ?_
          obtain ⟨q39, hq40, hf⟩ := e_bd hf
          refine r_callV F dX5_readPiece_75 (b := 35) (dc := 0) (ds := 0) (As := [.ref 11]) (S0 := []) lkX5_74 mX5_spells (tX5_spells_35_11 hG (la := x_l X) (h := e_up h [(35, o35 q1.1 q1.2 a35_3 a35_4 a35_5 a35_7 a35_8 a35_9 a35_10)]) hnx h33 h34 rfl hq40) rfl rfl rfl (e_le rfl) (e_le rfl) (e_le rfl) rfl (ci := 5) e_cl5.1 rfl (e_le rfl) (e_lt hnx rfl) (Nat.zero_le _) (Nat.zero_le _) (e_k ?_)
          refine r_wr0 ?_
          refine r_z_eq F dX5_readPiece_78 (tgt := 101) (by decide) (fun hc => ?_) (fun hc => ?_)
          · have hf := e_t hc hf
            refine r_aload_n F dX5_readPiece_81 rfl ?_
            refine r_get F dX5_readPiece_82 flX5_39 rfl rfl (e_le rfl) (e_lt hnx rfl) ?_
            refine r_z_ne F dX5_readPiece_85 (tgt := 101) (by decide) (fun hc => ?_) (fun hc => ?_)
            · have hf := e_t hc hf
              refine r_aload_n F dX5_readPiece_101 rfl ?_
              refine r_ldcS F dX5_readPiece_102 (tx := "rule") (a := 12) (by decide +kernel) ?_
              obtain ⟨q41, hq42, hf⟩ := e_bd hf
              refine r_callV F dX5_readPiece_104 (b := 35) (dc := 0) (ds := 0) (As := [.ref 12]) (S0 := []) lkX5_74 mX5_spells (tX5_spells_35_12 hG (la := x_l X) (h := e_up h [(35, o35 q1.1 q1.2 a35_3 a35_4 a35_5 a35_7 a35_8 a35_9 a35_10)]) hnx h33 h34 rfl hq42) rfl rfl rfl (e_le rfl) (e_le rfl) (e_le rfl) rfl (ci := 5) e_cl5.1 rfl (e_le rfl) (e_lt hnx rfl) (Nat.zero_le _) (Nat.zero_le _) (e_k ?_)
              refine r_wr0 ?_
              refine r_z_eq F dX5_readPiece_107 (tgt := 130) (by decide) (fun hc => ?_) (fun hc => ?_)
              · have hf := e_t hc hf
                refine r_aload_n F dX5_readPiece_110 rfl ?_
                refine r_get F dX5_readPiece_111 flX5_42 rfl rfl (e_le rfl) (e_lt hnx rfl) ?_
                refine r_z_ne F dX5_readPiece_114 (tgt := 130) (by decide) (fun hc => ?_) (fun hc => ?_)
                · have hf := e_t hc hf
                  refine r_aload_n F dX5_readPiece_130 rfl ?_
                  refine r_aload_n F dX5_readPiece_131 rfl ?_
                  refine r_get F dX5_readPiece_132 flX5_78 rfl rfl (e_le rfl) (e_lt hnx rfl) ?_
                  refine r_put F dX5_readPiece_135 flX5_29 rfl rfl rfl rfl (e_le rfl) (e_le rfl) (e_lt hnx rfl) (l' := [(35, o35 q1.1 q1.2 q1.2 a35_4 a35_5 a35_7 a35_8 a35_9 a35_10)]) rfl ?_
                  refine r_mat (k := 36) h36 (l' := [(35, o35 q1.1 q1.2 q1.2 a35_4 a35_5 a35_7 a35_8 a35_9 a35_10), (36, o36 A36)]) rfl ?_
                  refine r_mat (k := 37) h37 (l' := [(35, o35 q1.1 q1.2 q1.2 a35_4 a35_5 a35_7 a35_8 a35_9 a35_10), (36, o36 A36), (37, o37 A37)]) rfl ?_
                  refine r_mat (k := 38) h38 (l' := [(35, o35 q1.1 q1.2 q1.2 a35_4 a35_5 a35_7 a35_8 a35_9 a35_10), (36, o36 A36), (37, o37 A37), (38, o38 A38)]) rfl ?_
                  obtain rfl := Option.some.inj hf
                  exact r_vret F hq dX5_readPiece_138 rfl rfl (Nat.le_refl _) (Nat.le_refl _) ⟨rfl, rfl⟩
                · have hf := e_f hc hf
                  refine r_aload_n F dX5_readPiece_117 rfl ?_
                  refine r_iconst F dX5_readPiece_118 (v := 1) (by decide) ?_
                  refine r_put F dX5_readPiece_119 (v := .int (e_b true)) flX5_42 rfl (e_b_nar _) (e_b_fit _) rfl (e_le rfl) (e_le rfl) (e_lt hnx rfl) (l' := [(35, o35 q1.1 q1.2 a35_3 a35_4 a35_5 a35_7 a35_8 true a35_10)]) rfl ?_
                  refine r_aload_n F dX5_readPiece_122 rfl ?_
                  refine r_iconst F dX5_readPiece_123 (v := 3) (by decide) ?_
                  obtain ⟨q43, hq44, hf⟩ := e_bd hf
                  refine r_callV F dX5_readPiece_124 (b := 35) (dc := 0) (ds := 0) (As := [.int 3]) (S0 := []) lkX5_100 mX5_readSetting (tX5_readSetting_35 hG (la := x_l X) (h := e_up h [(35, o35 q1.1 q1.2 a35_3 a35_4 a35_5 a35_7 a35_8 true a35_10)]) hnx h33 h34 rfl h36 hq44) rfl rfl rfl (e_le rfl) (e_le rfl) (e_le rfl) rfl (ci := 5) e_cl5.1 rfl (e_le rfl) (e_lt hnx rfl) (Nat.zero_le _) (Nat.zero_le _) (e_k ?_)
                  refine r_wr (l' := [(35, o35 q43.1 q43.2.1 q43.2.2.1 a35_4 a35_5 a35_7 a35_8 true a35_10), (36, o36 q43.2.2.2)]) rfl rfl ?_
                  refine r_goto F dX5_readPiece_127 (tgt := 138) (by decide) ?_
                  refine r_mat (k := 37) h37 (l' := [(35, o35 q43.1 q43.2.1 q43.2.2.1 a35_4 a35_5 a35_7 a35_8 true a35_10), (36, o36 q43.2.2.2), (37, o37 A37)]) rfl ?_
                  refine r_mat (k := 38) h38 (l' := [(35, o35 q43.1 q43.2.1 q43.2.2.1 a35_4 a35_5 a35_7 a35_8 true a35_10), (36, o36 q43.2.2.2), (37, o37 A37), (38, o38 A38)]) rfl ?_
                  obtain rfl := Option.some.inj hf
                  exact r_vret F hq dX5_readPiece_138 rfl rfl (Nat.le_refl _) (Nat.le_refl _) ⟨rfl, rfl⟩
              · have hf := e_f hc hf
                refine r_aload_n F dX5_readPiece_130 rfl ?_
                refine r_aload_n F dX5_readPiece_131 rfl ?_
                refine r_get F dX5_readPiece_132 flX5_78 rfl rfl (e_le rfl) (e_lt hnx rfl) ?_
                refine r_put F dX5_readPiece_135 flX5_29 rfl rfl rfl rfl (e_le rfl) (e_le rfl) (e_lt hnx rfl) (l' := [(35, o35 q1.1 q1.2 q1.2 a35_4 a35_5 a35_7 a35_8 a35_9 a35_10)]) rfl ?_
                refine r_mat (k := 36) h36 (l' := [(35, o35 q1.1 q1.2 q1.2 a35_4 a35_5 a35_7 a35_8 a35_9 a35_10), (36, o36 A36)]) rfl ?_
                refine r_mat (k := 37) h37 (l' := [(35, o35 q1.1 q1.2 q1.2 a35_4 a35_5 a35_7 a35_8 a35_9 a35_10), (36, o36 A36), (37, o37 A37)]) rfl ?_
                refine r_mat (k := 38) h38 (l' := [(35, o35 q1.1 q1.2 q1.2 a35_4 a35_5 a35_7 a35_8 a35_9 a35_10), (36, o36 A36), (37, o37 A37), (38, o38 A38)]) rfl ?_
                obtain rfl := Option.some.inj hf
                exact r_vret F hq dX5_readPiece_138 rfl rfl (Nat.le_refl _) (Nat.le_refl _) ⟨rfl, rfl⟩
            · have hf := e_f hc hf
              refine r_aload_n F dX5_readPiece_88 rfl ?_
              refine r_iconst F dX5_readPiece_89 (v := 1) (by decide) ?_
              refine r_put F dX5_readPiece_90 (v := .int (e_b true)) flX5_39 rfl (e_b_nar _) (e_b_fit _) rfl (e_le rfl) (e_le rfl) (e_lt hnx rfl) (l' := [(35, o35 q1.1 q1.2 a35_3 a35_4 a35_5 a35_7 true a35_9 a35_10)]) rfl ?_
              refine r_aload_n F dX5_readPiece_93 rfl ?_
              refine r_iconst F dX5_readPiece_94 (v := 2) (by decide) ?_
              obtain ⟨q45, hq46, hf⟩ := e_bd hf
              refine r_callV F dX5_readPiece_95 (b := 35) (dc := 0) (ds := 0) (As := [.int 2]) (S0 := []) lkX5_100 mX5_readSetting (tX5_readSetting_35 hG (la := x_l X) (h := e_up h [(35, o35 q1.1 q1.2 a35_3 a35_4 a35_5 a35_7 true a35_9 a35_10)]) hnx h33 h34 rfl h36 hq46) rfl rfl rfl (e_le rfl) (e_le rfl) (e_le rfl) rfl (ci := 5) e_cl5.1 rfl (e_le rfl) (e_lt hnx rfl) (Nat.zero_le _) (Nat.zero_le _) (e_k ?_)
              refine r_wr (l' := [(35, o35 q45.1 q45.2.1 q45.2.2.1 a35_4 a35_5 a35_7 true a35_9 a35_10), (36, o36 q45.2.2.2)]) rfl rfl ?_
              refine r_goto F dX5_readPiece_98 (tgt := 138) (by decide) ?_
              refine r_mat (k := 37) h37 (l' := [(35, o35 q45.1 q45.2.1 q45.2.2.1 a35_4 a35_5 a35_7 true a35_9 a35_10), (36, o36 q45.2.2.2), (37, o37 A37)]) rfl ?_
              refine r_mat (k := 38) h38 (l' := [(35, o35 q45.1 q45.2.1 q45.2.2.1 a35_4 a35_5 a35_7 true a35_9 a35_10), (36, o36 q45.2.2.2), (37, o37 A37), (38, o38 A38)]) rfl ?_
              obtain rfl := Option.some.inj hf
              exact r_vret F hq dX5_readPiece_138 rfl rfl (Nat.le_refl _) (Nat.le_refl _) ⟨rfl, rfl⟩
          · have hf := e_f hc hf
            refine r_aload_n F dX5_readPiece_101 rfl ?_
            refine r_ldcS F dX5_readPiece_102 (tx := "rule") (a := 12) (by decide +kernel) ?_
            obtain ⟨q47, hq48, hf⟩ := e_bd hf
            refine r_callV F dX5_readPiece_104 (b := 35) (dc := 0) (ds := 0) (As := [.ref 12]) (S0 := []) lkX5_74 mX5_spells (tX5_spells_35_12 hG (la := x_l X) (h := e_up h [(35, o35 q1.1 q1.2 a35_3 a35_4 a35_5 a35_7 a35_8 a35_9 a35_10)]) hnx h33 h34 rfl hq48) rfl rfl rfl (e_le rfl) (e_le rfl) (e_le rfl) rfl (ci := 5) e_cl5.1 rfl (e_le rfl) (e_lt hnx rfl) (Nat.zero_le _) (Nat.zero_le _) (e_k ?_)
            refine r_wr0 ?_
            refine r_z_eq F dX5_readPiece_107 (tgt := 130) (by decide) (fun hc => ?_) (fun hc => ?_)
            · have hf := e_t hc hf
              refine r_aload_n F dX5_readPiece_110 rfl ?_
              refine r_get F dX5_readPiece_111 flX5_42 rfl rfl (e_le rfl) (e_lt hnx rfl) ?_
              refine r_z_ne F dX5_readPiece_114 (tgt := 130) (by decide) (fun hc => ?_) (fun hc => ?_)
              · have hf := e_t hc hf
                refine r_aload_n F dX5_readPiece_130 rfl ?_
                refine r_aload_n F dX5_readPiece_131 rfl ?_
                refine r_get F dX5_readPiece_132 flX5_78 rfl rfl (e_le rfl) (e_lt hnx rfl) ?_
                refine r_put F dX5_readPiece_135 flX5_29 rfl rfl rfl rfl (e_le rfl) (e_le rfl) (e_lt hnx rfl) (l' := [(35, o35 q1.1 q1.2 q1.2 a35_4 a35_5 a35_7 a35_8 a35_9 a35_10)]) rfl ?_
                refine r_mat (k := 36) h36 (l' := [(35, o35 q1.1 q1.2 q1.2 a35_4 a35_5 a35_7 a35_8 a35_9 a35_10), (36, o36 A36)]) rfl ?_
                refine r_mat (k := 37) h37 (l' := [(35, o35 q1.1 q1.2 q1.2 a35_4 a35_5 a35_7 a35_8 a35_9 a35_10), (36, o36 A36), (37, o37 A37)]) rfl ?_
                refine r_mat (k := 38) h38 (l' := [(35, o35 q1.1 q1.2 q1.2 a35_4 a35_5 a35_7 a35_8 a35_9 a35_10), (36, o36 A36), (37, o37 A37), (38, o38 A38)]) rfl ?_
                obtain rfl := Option.some.inj hf
                exact r_vret F hq dX5_readPiece_138 rfl rfl (Nat.le_refl _) (Nat.le_refl _) ⟨rfl, rfl⟩
              · have hf := e_f hc hf
                refine r_aload_n F dX5_readPiece_117 rfl ?_
                refine r_iconst F dX5_readPiece_118 (v := 1) (by decide) ?_
                refine r_put F dX5_readPiece_119 (v := .int (e_b true)) flX5_42 rfl (e_b_nar _) (e_b_fit _) rfl (e_le rfl) (e_le rfl) (e_lt hnx rfl) (l' := [(35, o35 q1.1 q1.2 a35_3 a35_4 a35_5 a35_7 a35_8 true a35_10)]) rfl ?_
                refine r_aload_n F dX5_readPiece_122 rfl ?_
                refine r_iconst F dX5_readPiece_123 (v := 3) (by decide) ?_
                obtain ⟨q49, hq50, hf⟩ := e_bd hf
                refine r_callV F dX5_readPiece_124 (b := 35) (dc := 0) (ds := 0) (As := [.int 3]) (S0 := []) lkX5_100 mX5_readSetting (tX5_readSetting_35 hG (la := x_l X) (h := e_up h [(35, o35 q1.1 q1.2 a35_3 a35_4 a35_5 a35_7 a35_8 true a35_10)]) hnx h33 h34 rfl h36 hq50) rfl rfl rfl (e_le rfl) (e_le rfl) (e_le rfl) rfl (ci := 5) e_cl5.1 rfl (e_le rfl) (e_lt hnx rfl) (Nat.zero_le _) (Nat.zero_le _) (e_k ?_)
                refine r_wr (l' := [(35, o35 q49.1 q49.2.1 q49.2.2.1 a35_4 a35_5 a35_7 a35_8 true a35_10), (36, o36 q49.2.2.2)]) rfl rfl ?_
                refine r_goto F dX5_readPiece_127 (tgt := 138) (by decide) ?_
                refine r_mat (k := 37) h37 (l' := [(35, o35 q49.1 q49.2.1 q49.2.2.1 a35_4 a35_5 a35_7 a35_8 true a35_10), (36, o36 q49.2.2.2), (37, o37 A37)]) rfl ?_
                refine r_mat (k := 38) h38 (l' := [(35, o35 q49.1 q49.2.1 q49.2.2.1 a35_4 a35_5 a35_7 a35_8 true a35_10), (36, o36 q49.2.2.2), (37, o37 A37), (38, o38 A38)]) rfl ?_
                obtain rfl := Option.some.inj hf
                exact r_vret F hq dX5_readPiece_138 rfl rfl (Nat.le_refl _) (Nat.le_refl _) ⟨rfl, rfl⟩
            · have hf := e_f hc hf
              refine r_aload_n F dX5_readPiece_130 rfl ?_
              refine r_aload_n F dX5_readPiece_131 rfl ?_
              refine r_get F dX5_readPiece_132 flX5_78 rfl rfl (e_le rfl) (e_lt hnx rfl) ?_
              refine r_put F dX5_readPiece_135 flX5_29 rfl rfl rfl rfl (e_le rfl) (e_le rfl) (e_lt hnx rfl) (l' := [(35, o35 q1.1 q1.2 q1.2 a35_4 a35_5 a35_7 a35_8 a35_9 a35_10)]) rfl ?_
              refine r_mat (k := 36) h36 (l' := [(35, o35 q1.1 q1.2 q1.2 a35_4 a35_5 a35_7 a35_8 a35_9 a35_10), (36, o36 A36)]) rfl ?_
              refine r_mat (k := 37) h37 (l' := [(35, o35 q1.1 q1.2 q1.2 a35_4 a35_5 a35_7 a35_8 a35_9 a35_10), (36, o36 A36), (37, o37 A37)]) rfl ?_
              refine r_mat (k := 38) h38 (l' := [(35, o35 q1.1 q1.2 q1.2 a35_4 a35_5 a35_7 a35_8 a35_9 a35_10), (36, o36 A36), (37, o37 A37), (38, o38 A38)]) rfl ?_
              obtain rfl := Option.some.inj hf
              exact r_vret F hq dX5_readPiece_138 rfl rfl (Nat.le_refl _) (Nat.le_refl _) ⟨rfl, rfl⟩
        · have hf := e_f hc hf
          refine r_aload_n F dX5_readPiece_54 rfl ?_
          refine r_iconst F dX5_readPiece_55 (v := 1) (by decide) ?_
          refine r_put F dX5_readPiece_56 (v := .int (e_b true)) flX5_35 rfl (e_b_nar _) (e_b_fit _) rfl (e_le rfl) (e_le rfl) (e_lt hnx rfl) (l' := [(35, o35 q1.1 q1.2 a35_3 a35_4 a35_5 true a35_8 a35_9 a35_10)]) rfl ?_
          refine r_aload_n F dX5_readPiece_59 rfl ?_
          refine r_iconst F dX5_readPiece_60 (v := 0) (by decide) ?_
          obtain ⟨q51, hq52, hf⟩ := e_bd hf
          refine r_callV F dX5_readPiece_61 (b := 35) (dc := 0) (ds := 0) (As := [.int 0]) (S0 := []) lkX5_100 mX5_readSetting (tX5_readSetting_35 hG (la := x_l X) (h := e_up h [(35, o35 q1.1 q1.2 a35_3 a35_4 a35_5 true a35_8 a35_9 a35_10)]) hnx h33 h34 rfl h36 hq52) rfl rfl rfl (e_le rfl) (e_le rfl) (e_le rfl) rfl (ci := 5) e_cl5.1 rfl (e_le rfl) (e_lt hnx rfl) (Nat.zero_le _) (Nat.zero_le _) (e_k ?_)
          refine r_wr (l' := [(35, o35 q51.1 q51.2.1 q51.2.2.1 a35_4 a35_5 true a35_8 a35_9 a35_10), (36, o36 q51.2.2.2)]) rfl rfl ?_
          refine r_aload_n F dX5_readPiece_64 rfl ?_
          refine r_iconst F dX5_readPiece_65 (v := 1) (by decide) ?_
          obtain ⟨q53, hq54, hf⟩ := e_bd hf
          refine r_callV F dX5_readPiece_66 (b := 35) (dc := 0) (ds := 0) (As := [.int 1]) (S0 := []) lkX5_100 mX5_readSetting (tX5_readSetting_35 hG (la := x_l X) (h := e_up h [(35, o35 q51.1 q51.2.1 q51.2.2.1 a35_4 a35_5 true a35_8 a35_9 a35_10), (36, o36 q51.2.2.2)]) hnx h33 h34 rfl rfl hq54) rfl rfl rfl (e_le rfl) (e_le rfl) (e_le rfl) rfl (ci := 5) e_cl5.1 rfl (e_le rfl) (e_lt hnx rfl) (Nat.zero_le _) (Nat.zero_le _) (e_k ?_)
          refine r_wr (l' := [(35, o35 q53.1 q53.2.1 q53.2.2.1 a35_4 a35_5 true a35_8 a35_9 a35_10), (36, o36 q53.2.2.2)]) rfl rfl ?_
          refine r_goto F dX5_readPiece_69 (tgt := 138) (by decide) ?_
          refine r_mat (k := 37) h37 (l' := [(35, o35 q53.1 q53.2.1 q53.2.2.1 a35_4 a35_5 true a35_8 a35_9 a35_10), (36, o36 q53.2.2.2), (37, o37 A37)]) rfl ?_
          refine r_mat (k := 38) h38 (l' := [(35, o35 q53.1 q53.2.1 q53.2.2.1 a35_4 a35_5 true a35_8 a35_9 a35_10), (36, o36 q53.2.2.2), (37, o37 A37), (38, o38 A38)]) rfl ?_
          obtain rfl := Option.some.inj hf
          exact r_vret F hq dX5_readPiece_138 rfl rfl (Nat.le_refl _) (Nat.le_refl _) ⟨rfl, rfl⟩
      · have hf := e_f hc hf
        refine r_aload_n F dX5_readPiece_72 rfl ?_
        refine r_ldcS F dX5_readPiece_73 (tx := "hold") (a := 11) (by decide +kernel) ?_
        obtain ⟨q55, hq56, hf⟩ := e_bd hf
        refine r_callV F dX5_readPiece_75 (b := 35) (dc := 0) (ds := 0) (As := [.ref 11]) (S0 := []) lkX5_74 mX5_spells (tX5_spells_35_11 hG (la := x_l X) (h := e_up h [(35, o35 q1.1 q1.2 a35_3 a35_4 a35_5 a35_7 a35_8 a35_9 a35_10)]) hnx h33 h34 rfl hq56) rfl rfl rfl (e_le rfl) (e_le rfl) (e_le rfl) rfl (ci := 5) e_cl5.1 rfl (e_le rfl) (e_lt hnx rfl) (Nat.zero_le _) (Nat.zero_le _) (e_k ?_)
        refine r_wr0 ?_
        refine r_z_eq F dX5_readPiece_78 (tgt := 101) (by decide) (fun hc => ?_) (fun hc => ?_)
        · have hf := e_t hc hf
          refine r_aload_n F dX5_readPiece_81 rfl ?_
          refine r_get F dX5_readPiece_82 flX5_39 rfl rfl (e_le rfl) (e_lt hnx rfl) ?_
          refine r_z_ne F dX5_readPiece_85 (tgt := 101) (by decide) (fun hc => ?_) (fun hc => ?_)
          · have hf := e_t hc hf
            refine r_aload_n F dX5_readPiece_101 rfl ?_
            refine r_ldcS F dX5_readPiece_102 (tx := "rule") (a := 12) (by decide +kernel) ?_
            obtain ⟨q57, hq58, hf⟩ := e_bd hf
            refine r_callV F dX5_readPiece_104 (b := 35) (dc := 0) (ds := 0) (As := [.ref 12]) (S0 := []) lkX5_74 mX5_spells (tX5_spells_35_12 hG (la := x_l X) (h := e_up h [(35, o35 q1.1 q1.2 a35_3 a35_4 a35_5 a35_7 a35_8 a35_9 a35_10)]) hnx h33 h34 rfl hq58) rfl rfl rfl (e_le rfl) (e_le rfl) (e_le rfl) rfl (ci := 5) e_cl5.1 rfl (e_le rfl) (e_lt hnx rfl) (Nat.zero_le _) (Nat.zero_le _) (e_k ?_)
            refine r_wr0 ?_
            refine r_z_eq F dX5_readPiece_107 (tgt := 130) (by decide) (fun hc => ?_) (fun hc => ?_)
            · have hf := e_t hc hf
              refine r_aload_n F dX5_readPiece_110 rfl ?_
              refine r_get F dX5_readPiece_111 flX5_42 rfl rfl (e_le rfl) (e_lt hnx rfl) ?_
              refine r_z_ne F dX5_readPiece_114 (tgt := 130) (by decide) (fun hc => ?_) (fun hc => ?_)
              · have hf := e_t hc hf
                refine r_aload_n F dX5_readPiece_130 rfl ?_
                refine r_aload_n F dX5_readPiece_131 rfl ?_
                refine r_get F dX5_readPiece_132 flX5_78 rfl rfl (e_le rfl) (e_lt hnx rfl) ?_
                refine r_put F dX5_readPiece_135 flX5_29 rfl rfl rfl rfl (e_le rfl) (e_le rfl) (e_lt hnx rfl) (l' := [(35, o35 q1.1 q1.2 q1.2 a35_4 a35_5 a35_7 a35_8 a35_9 a35_10)]) rfl ?_
                refine r_mat (k := 36) h36 (l' := [(35, o35 q1.1 q1.2 q1.2 a35_4 a35_5 a35_7 a35_8 a35_9 a35_10), (36, o36 A36)]) rfl ?_
                refine r_mat (k := 37) h37 (l' := [(35, o35 q1.1 q1.2 q1.2 a35_4 a35_5 a35_7 a35_8 a35_9 a35_10), (36, o36 A36), (37, o37 A37)]) rfl ?_
                refine r_mat (k := 38) h38 (l' := [(35, o35 q1.1 q1.2 q1.2 a35_4 a35_5 a35_7 a35_8 a35_9 a35_10), (36, o36 A36), (37, o37 A37), (38, o38 A38)]) rfl ?_
                obtain rfl := Option.some.inj hf
                exact r_vret F hq dX5_readPiece_138 rfl rfl (Nat.le_refl _) (Nat.le_refl _) ⟨rfl, rfl⟩
              · have hf := e_f hc hf
                refine r_aload_n F dX5_readPiece_117 rfl ?_
                refine r_iconst F dX5_readPiece_118 (v := 1) (by decide) ?_
                refine r_put F dX5_readPiece_119 (v := .int (e_b true)) flX5_42 rfl (e_b_nar _) (e_b_fit _) rfl (e_le rfl) (e_le rfl) (e_lt hnx rfl) (l' := [(35, o35 q1.1 q1.2 a35_3 a35_4 a35_5 a35_7 a35_8 true a35_10)]) rfl ?_
                refine r_aload_n F dX5_readPiece_122 rfl ?_
                refine r_iconst F dX5_readPiece_123 (v := 3) (by decide) ?_
                obtain ⟨q59, hq60, hf⟩ := e_bd hf
                refine r_callV F dX5_readPiece_124 (b := 35) (dc := 0) (ds := 0) (As := [.int 3]) (S0 := []) lkX5_100 mX5_readSetting (tX5_readSetting_35 hG (la := x_l X) (h := e_up h [(35, o35 q1.1 q1.2 a35_3 a35_4 a35_5 a35_7 a35_8 true a35_10)]) hnx h33 h34 rfl h36 hq60) rfl rfl rfl (e_le rfl) (e_le rfl) (e_le rfl) rfl (ci := 5) e_cl5.1 rfl (e_le rfl) (e_lt hnx rfl) (Nat.zero_le _) (Nat.zero_le _) (e_k ?_)
                refine r_wr (l' := [(35, o35 q59.1 q59.2.1 q59.2.2.1 a35_4 a35_5 a35_7 a35_8 true a35_10), (36, o36 q59.2.2.2)]) rfl rfl ?_
                refine r_goto F dX5_readPiece_127 (tgt := 138) (by decide) ?_
                refine r_mat (k := 37) h37 (l' := [(35, o35 q59.1 q59.2.1 q59.2.2.1 a35_4 a35_5 a35_7 a35_8 true a35_10), (36, o36 q59.2.2.2), (37, o37 A37)]) rfl ?_
                refine r_mat (k := 38) h38 (l' := [(35, o35 q59.1 q59.2.1 q59.2.2.1 a35_4 a35_5 a35_7 a35_8 true a35_10), (36, o36 q59.2.2.2), (37, o37 A37), (38, o38 A38)]) rfl ?_
                obtain rfl := Option.some.inj hf
                exact r_vret F hq dX5_readPiece_138 rfl rfl (Nat.le_refl _) (Nat.le_refl _) ⟨rfl, rfl⟩
            · have hf := e_f hc hf
              refine r_aload_n F dX5_readPiece_130 rfl ?_
              refine r_aload_n F dX5_readPiece_131 rfl ?_
              refine r_get F dX5_readPiece_132 flX5_78 rfl rfl (e_le rfl) (e_lt hnx rfl) ?_
              refine r_put F dX5_readPiece_135 flX5_29 rfl rfl rfl rfl (e_le rfl) (e_le rfl) (e_lt hnx rfl) (l' := [(35, o35 q1.1 q1.2 q1.2 a35_4 a35_5 a35_7 a35_8 a35_9 a35_10)]) rfl ?_
              refine r_mat (k := 36) h36 (l' := [(35, o35 q1.1 q1.2 q1.2 a35_4 a35_5 a35_7 a35_8 a35_9 a35_10), (36, o36 A36)]) rfl ?_
              refine r_mat (k := 37) h37 (l' := [(35, o35 q1.1 q1.2 q1.2 a35_4 a35_5 a35_7 a35_8 a35_9 a35_10), (36, o36 A36), (37, o37 A37)]) rfl ?_
              refine r_mat (k := 38) h38 (l' := [(35, o35 q1.1 q1.2 q1.2 a35_4 a35_5 a35_7 a35_8 a35_9 a35_10), (36, o36 A36), (37, o37 A37), (38, o38 A38)]) rfl ?_
              obtain rfl := Option.some.inj hf
              exact r_vret F hq dX5_readPiece_138 rfl rfl (Nat.le_refl _) (Nat.le_refl _) ⟨rfl, rfl⟩
          · have hf := e_f hc hf
            refine r_aload_n F dX5_readPiece_88 rfl ?_
            refine r_iconst F dX5_readPiece_89 (v := 1) (by decide) ?_
            refine r_put F dX5_readPiece_90 (v := .int (e_b true)) flX5_39 rfl (e_b_nar _) (e_b_fit _) rfl (e_le rfl) (e_le rfl) (e_lt hnx rfl) (l' := [(35, o35 q1.1 q1.2 a35_3 a35_4 a35_5 a35_7 true a35_9 a35_10)]) rfl ?_
            refine r_aload_n F dX5_readPiece_93 rfl ?_
            refine r_iconst F dX5_readPiece_94 (v := 2) (by decide) ?_
            obtain ⟨q61, hq62, hf⟩ := e_bd hf
            refine r_callV F dX5_readPiece_95 (b := 35) (dc := 0) (ds := 0) (As := [.int 2]) (S0 := []) lkX5_100 mX5_readSetting (tX5_readSetting_35 hG (la := x_l X) (h := e_up h [(35, o35 q1.1 q1.2 a35_3 a35_4 a35_5 a35_7 true a35_9 a35_10)]) hnx h33 h34 rfl h36 hq62) rfl rfl rfl (e_le rfl) (e_le rfl) (e_le rfl) rfl (ci := 5) e_cl5.1 rfl (e_le rfl) (e_lt hnx rfl) (Nat.zero_le _) (Nat.zero_le _) (e_k ?_)
            refine r_wr (l' := [(35, o35 q61.1 q61.2.1 q61.2.2.1 a35_4 a35_5 a35_7 true a35_9 a35_10), (36, o36 q61.2.2.2)]) rfl rfl ?_
            refine r_goto F dX5_readPiece_98 (tgt := 138) (by decide) ?_
            refine r_mat (k := 37) h37 (l' := [(35, o35 q61.1 q61.2.1 q61.2.2.1 a35_4 a35_5 a35_7 true a35_9 a35_10), (36, o36 q61.2.2.2), (37, o37 A37)]) rfl ?_
            refine r_mat (k := 38) h38 (l' := [(35, o35 q61.1 q61.2.1 q61.2.2.1 a35_4 a35_5 a35_7 true a35_9 a35_10), (36, o36 q61.2.2.2), (37, o37 A37), (38, o38 A38)]) rfl ?_
            obtain rfl := Option.some.inj hf
            exact r_vret F hq dX5_readPiece_138 rfl rfl (Nat.le_refl _) (Nat.le_refl _) ⟨rfl, rfl⟩
        · have hf := e_f hc hf
          refine r_aload_n F dX5_readPiece_101 rfl ?_
          refine r_ldcS F dX5_readPiece_102 (tx := "rule") (a := 12) (by decide +kernel) ?_
          obtain ⟨q63, hq64, hf⟩ := e_bd hf
          refine r_callV F dX5_readPiece_104 (b := 35) (dc := 0) (ds := 0) (As := [.ref 12]) (S0 := []) lkX5_74 mX5_spells (tX5_spells_35_12 hG (la := x_l X) (h := e_up h [(35, o35 q1.1 q1.2 a35_3 a35_4 a35_5 a35_7 a35_8 a35_9 a35_10)]) hnx h33 h34 rfl hq64) rfl rfl rfl (e_le rfl) (e_le rfl) (e_le rfl) rfl (ci := 5) e_cl5.1 rfl (e_le rfl) (e_lt hnx rfl) (Nat.zero_le _) (Nat.zero_le _) (e_k ?_)
          refine r_wr0 ?_
          refine r_z_eq F dX5_readPiece_107 (tgt := 130) (by decide) (fun hc => ?_) (fun hc => ?_)
          · have hf := e_t hc hf
            refine r_aload_n F dX5_readPiece_110 rfl ?_
            refine r_get F dX5_readPiece_111 flX5_42 rfl rfl (e_le rfl) (e_lt hnx rfl) ?_
            refine r_z_ne F dX5_readPiece_114 (tgt := 130) (by decide) (fun hc => ?_) (fun hc => ?_)
            · have hf := e_t hc hf
              refine r_aload_n F dX5_readPiece_130 rfl ?_
              refine r_aload_n F dX5_readPiece_131 rfl ?_
              refine r_get F dX5_readPiece_132 flX5_78 rfl rfl (e_le rfl) (e_lt hnx rfl) ?_
              refine r_put F dX5_readPiece_135 flX5_29 rfl rfl rfl rfl (e_le rfl) (e_le rfl) (e_lt hnx rfl) (l' := [(35, o35 q1.1 q1.2 q1.2 a35_4 a35_5 a35_7 a35_8 a35_9 a35_10)]) rfl ?_
              refine r_mat (k := 36) h36 (l' := [(35, o35 q1.1 q1.2 q1.2 a35_4 a35_5 a35_7 a35_8 a35_9 a35_10), (36, o36 A36)]) rfl ?_
              refine r_mat (k := 37) h37 (l' := [(35, o35 q1.1 q1.2 q1.2 a35_4 a35_5 a35_7 a35_8 a35_9 a35_10), (36, o36 A36), (37, o37 A37)]) rfl ?_
              refine r_mat (k := 38) h38 (l' := [(35, o35 q1.1 q1.2 q1.2 a35_4 a35_5 a35_7 a35_8 a35_9 a35_10), (36, o36 A36), (37, o37 A37), (38, o38 A38)]) rfl ?_
              obtain rfl := Option.some.inj hf
              exact r_vret F hq dX5_readPiece_138 rfl rfl (Nat.le_refl _) (Nat.le_refl _) ⟨rfl, rfl⟩
            · have hf := e_f hc hf
              refine r_aload_n F dX5_readPiece_117 rfl ?_
              refine r_iconst F dX5_readPiece_118 (v := 1) (by decide) ?_
              refine r_put F dX5_readPiece_119 (v := .int (e_b true)) flX5_42 rfl (e_b_nar _) (e_b_fit _) rfl (e_le rfl) (e_le rfl) (e_lt hnx rfl) (l' := [(35, o35 q1.1 q1.2 a35_3 a35_4 a35_5 a35_7 a35_8 true a35_10)]) rfl ?_
              refine r_aload_n F dX5_readPiece_122 rfl ?_
              refine r_iconst F dX5_readPiece_123 (v := 3) (by decide) ?_
              obtain ⟨q65, hq66, hf⟩ := e_bd hf
              refine r_callV F dX5_readPiece_124 (b := 35) (dc := 0) (ds := 0) (As := [.int 3]) (S0 := []) lkX5_100 mX5_readSetting (tX5_readSetting_35 hG (la := x_l X) (h := e_up h [(35, o35 q1.1 q1.2 a35_3 a35_4 a35_5 a35_7 a35_8 true a35_10)]) hnx h33 h34 rfl h36 hq66) rfl rfl rfl (e_le rfl) (e_le rfl) (e_le rfl) rfl (ci := 5) e_cl5.1 rfl (e_le rfl) (e_lt hnx rfl) (Nat.zero_le _) (Nat.zero_le _) (e_k ?_)
              refine r_wr (l' := [(35, o35 q65.1 q65.2.1 q65.2.2.1 a35_4 a35_5 a35_7 a35_8 true a35_10), (36, o36 q65.2.2.2)]) rfl rfl ?_
              refine r_goto F dX5_readPiece_127 (tgt := 138) (by decide) ?_
              refine r_mat (k := 37) h37 (l' := [(35, o35 q65.1 q65.2.1 q65.2.2.1 a35_4 a35_5 a35_7 a35_8 true a35_10), (36, o36 q65.2.2.2), (37, o37 A37)]) rfl ?_
              refine r_mat (k := 38) h38 (l' := [(35, o35 q65.1 q65.2.1 q65.2.2.1 a35_4 a35_5 a35_7 a35_8 true a35_10), (36, o36 q65.2.2.2), (37, o37 A37), (38, o38 A38)]) rfl ?_
              obtain rfl := Option.some.inj hf
              exact r_vret F hq dX5_readPiece_138 rfl rfl (Nat.le_refl _) (Nat.le_refl _) ⟨rfl, rfl⟩
          · have hf := e_f hc hf
            refine r_aload_n F dX5_readPiece_130 rfl ?_
            refine r_aload_n F dX5_readPiece_131 rfl ?_
            refine r_get F dX5_readPiece_132 flX5_78 rfl rfl (e_le rfl) (e_lt hnx rfl) ?_
            refine r_put F dX5_readPiece_135 flX5_29 rfl rfl rfl rfl (e_le rfl) (e_le rfl) (e_lt hnx rfl) (l' := [(35, o35 q1.1 q1.2 q1.2 a35_4 a35_5 a35_7 a35_8 a35_9 a35_10)]) rfl ?_
            refine r_mat (k := 36) h36 (l' := [(35, o35 q1.1 q1.2 q1.2 a35_4 a35_5 a35_7 a35_8 a35_9 a35_10), (36, o36 A36)]) rfl ?_
            refine r_mat (k := 37) h37 (l' := [(35, o35 q1.1 q1.2 q1.2 a35_4 a35_5 a35_7 a35_8 a35_9 a35_10), (36, o36 A36), (37, o37 A37)]) rfl ?_
            refine r_mat (k := 38) h38 (l' := [(35, o35 q1.1 q1.2 q1.2 a35_4 a35_5 a35_7 a35_8 a35_9 a35_10), (36, o36 A36), (37, o37 A37), (38, o38 A38)]) rfl ?_
            obtain rfl := Option.some.inj hf
            exact r_vret F hq dX5_readPiece_138 rfl rfl (Nat.le_refl _) (Nat.le_refl _) ⟨rfl, rfl⟩
  · have hf := e_f hc hf
    refine r_mat (k := 35) h35 (l' := [(35, o35 a35_1 a35_2 a35_3 a35_4 a35_5 a35_7 a35_8 a35_9 a35_10)]) rfl ?_
    refine r_mat (k := 36) h36 (l' := [(35, o35 a35_1 a35_2 a35_3 a35_4 a35_5 a35_7 a35_8 a35_9 a35_10), (36, o36 A36)]) rfl ?_
    refine r_mat (k := 37) h37 (l' := [(35, o35 a35_1 a35_2 a35_3 a35_4 a35_5 a35_7 a35_8 a35_9 a35_10), (36, o36 A36), (37, o37 A37)]) rfl ?_
    refine r_mat (k := 38) h38 (l' := [(35, o35 a35_1 a35_2 a35_3 a35_4 a35_5 a35_7 a35_8 a35_9 a35_10), (36, o36 A36), (37, o37 A37), (38, o38 A38)]) rfl ?_
    obtain rfl := Option.some.inj hf
    exact r_vret F hq dX5_readPiece_8 rfl rfl (Nat.le_refl _) (Nat.le_refl _) ⟨rfl, rfl⟩

def fX5_read (a33_1 : Int32) (a35_1 : Int32) (a35_2 : Int32) (a35_3 : Int32) (a35_4 : Int32) (a35_5 : Int32) (a35_7 : Bool) (a35_8 : Bool) (a35_9 : Bool) (a35_10 : Int32) (A34 : Nat → Int32) (A36 : Nat → Int32) (A37 : Nat → Int32) (A38 : Nat → Int32)  : Option (Int32 × Int32 × Int32 × Int32 × Int32 × Int32 × Bool × Bool × Bool × Int32 × (Nat → Int32) × (Nat → Int32) × (Nat → Int32)) :=
  (fX5_readSize a33_1 0 a35_2 (-1) a35_4 a35_5 A34).bind (fun q1 =>
  (e_loop (fun (v5 : Int32 × Int32 × Int32 × Int32 × Bool × Bool × Bool × Int32 × (Nat → Int32) × (Nat → Int32) × (Nat → Int32)) => (
      if 300 ≤ v5.1 then
        some (.inr (v5.2.1, v5.2.2.2.2.2.2.2.1, v5.2.2.1, v5.2.2.2.1, v5.2.2.2.2.1, v5.2.2.2.2.2.1, v5.2.2.2.2.2.2.1, v5.2.2.2.2.2.2.2.2.1, v5.2.2.2.2.2.2.2.2.2.1, v5.2.2.2.2.2.2.2.2.2.2))
      else
        if v5.2.2.2.1 = (-1) then
          (fX5_nextByte a33_1 v5.2.1 A34).bind (fun q8 =>
          if q8.1 = 0 then
            some (.inr (q8.2, v5.2.2.2.2.2.2.2.1, v5.2.2.1, v5.2.2.2.1, v5.2.2.2.2.1, v5.2.2.2.2.2.1, v5.2.2.2.2.2.2.1, v5.2.2.2.2.2.2.2.2.1, v5.2.2.2.2.2.2.2.2.2.1, v5.2.2.2.2.2.2.2.2.2.2))
          else
            (fX5_readSemicolon a33_1 q8.2 v5.2.2.2.1 A34).bind (fun q10 =>
            (fX5_readPiece a33_1 q10.1 v5.2.2.1 q10.2 q1.2.2.2.1 q1.2.2.2.2 v5.2.2.2.2.1 v5.2.2.2.2.2.1 v5.2.2.2.2.2.2.1 v5.2.2.2.2.2.2.2.1 A34 v5.2.2.2.2.2.2.2.2.1 v5.2.2.2.2.2.2.2.2.2.1 v5.2.2.2.2.2.2.2.2.2.2).bind (fun q12 =>
            some (.inl (v5.1 + 1, q12.1, q12.2.1, q12.2.2.1, q12.2.2.2.1, q12.2.2.2.2.1, q12.2.2.2.2.2.1, q12.2.2.2.2.2.2.1, q12.2.2.2.2.2.2.2.1, q12.2.2.2.2.2.2.2.2.1, q12.2.2.2.2.2.2.2.2.2)))))
        else
          some (.inr (v5.2.1, v5.2.2.2.2.2.2.2.1, v5.2.2.1, v5.2.2.2.1, v5.2.2.2.2.1, v5.2.2.2.2.2.1, v5.2.2.2.2.2.2.1, v5.2.2.2.2.2.2.2.2.1, v5.2.2.2.2.2.2.2.2.2.1, v5.2.2.2.2.2.2.2.2.2.2)) : Option ((Int32 × Int32 × Int32 × Int32 × Bool × Bool × Bool × Int32 × (Nat → Int32) × (Nat → Int32) × (Nat → Int32)) ⊕ (Int32 × Int32 × Int32 × Int32 × Bool × Bool × Bool × (Nat → Int32) × (Nat → Int32) × (Nat → Int32))))) e_fuel (0, q1.1, q1.2.1, q1.2.2.1, false, false, false, 0, va_cpy sA2 A36 (tn 0) (tn 0) (tn 4), A37, A38)).bind (fun x6 =>
  some (x6.2.2.2.1, x6.1, x6.2.2.1, x6.2.2.2.1, q1.2.2.2.1, q1.2.2.2.2, x6.2.2.2.2.1, x6.2.2.2.2.2.1, x6.2.2.2.2.2.2.1, x6.2.1, x6.2.2.2.2.2.2.2.1, x6.2.2.2.2.2.2.2.2.1, x6.2.2.2.2.2.2.2.2.2)))
set_option maxRecDepth 100000 in
theorem tX5_read_35 {G : eG} (hG : e_GS G) {la : Launch} {h : Nat → eO} {nx : Nat} (hnx : 99 ≤ nx) {a33_1 : Int32} {A34 : Nat → Int32} {a35_1 : Int32} {a35_2 : Int32} {a35_3 : Int32} {a35_4 : Int32} {a35_5 : Int32} {a35_7 : Bool} {a35_8 : Bool} {a35_9 : Bool} {a35_10 : Int32} {A36 : Nat → Int32} {A37 : Nat → Int32} {A38 : Nat → Int32}  (h33 : h 33 = o33 a33_1) (h34 : h 34 = o34 A34) (h35 : h 35 = o35 a35_1 a35_2 a35_3 a35_4 a35_5 a35_7 a35_8 a35_9 a35_10) (h36 : h 36 = o36 A36) (h37 : h 37 = o37 A37) (h38 : h 38 = o38 A38) {R9 : Int32 × Int32 × Int32 × Int32 × Int32 × Int32 × Bool × Bool × Bool × Int32 × (Nat → Int32) × (Nat → Int32) × (Nat → Int32)} (hf : fX5_read a33_1 a35_1 a35_2 a35_3 a35_4 a35_5 a35_7 a35_8 a35_9 a35_10 A34 A36 A37 A38  = some R9) :
    eSem G la MX5_read [.ref 35] h nx 0 0 (fun r9 h9 => r9 = some (.int R9.1) ∧ h9 = e_up h [(35, o35 R9.2.1 R9.2.2.1 R9.2.2.2.1 R9.2.2.2.2.1 R9.2.2.2.2.2.1 R9.2.2.2.2.2.2.1 R9.2.2.2.2.2.2.2.1 R9.2.2.2.2.2.2.2.2.1 R9.2.2.2.2.2.2.2.2.2.1), (36, o36 R9.2.2.2.2.2.2.2.2.2.2.1), (37, o37 R9.2.2.2.2.2.2.2.2.2.2.2.1), (38, o38 R9.2.2.2.2.2.2.2.2.2.2.2.2)]) := by
  refine eSem.of (k := 1) (L := [some (.ref 35), none]) (by decide +kernel) rfl rfl (fun X F hxl hq hcR hsR => ?_)
  subst hxl
  unfold fX5_read at hf
  refine r_aload_n F dX5_read_0 rfl ?_
  refine r_iconst F dX5_read_1 (v := 0) (by decide) ?_
  refine r_put F dX5_read_2 flX5_25 rfl rfl rfl h35 (e_le rfl) (e_le rfl) (e_lt hnx rfl) (l' := [(35, o35 0 a35_2 a35_3 a35_4 a35_5 a35_7 a35_8 a35_9 a35_10)]) rfl ?_
  refine r_aload_n F dX5_read_5 rfl ?_
  refine r_iconst F dX5_read_6 (v := (-1)) (by decide) ?_
  refine r_put F dX5_read_7 flX5_29 rfl rfl rfl rfl (e_le rfl) (e_le rfl) (e_lt hnx rfl) (l' := [(35, o35 0 a35_2 (-1) a35_4 a35_5 a35_7 a35_8 a35_9 a35_10)]) rfl ?_
  refine r_aload_n F dX5_read_10 rfl ?_
  refine r_iconst F dX5_read_11 (v := 0) (by decide) ?_
  refine r_put F dX5_read_12 flX5_32 rfl rfl rfl rfl (e_le rfl) (e_le rfl) (e_lt hnx rfl) (l' := [(35, o35 0 a35_2 (-1) a35_4 a35_5 a35_7 a35_8 a35_9 0)]) rfl ?_
  refine r_aload_n F dX5_read_15 rfl ?_
  refine r_iconst F dX5_read_16 (v := 0) (by decide) ?_
  refine r_put F dX5_read_17 (v := .int (e_b false)) flX5_35 rfl (e_b_nar _) (e_b_fit _) rfl (e_le rfl) (e_le rfl) (e_lt hnx rfl) (l' := [(35, o35 0 a35_2 (-1) a35_4 a35_5 false a35_8 a35_9 0)]) rfl ?_
  refine r_aload_n F dX5_read_20 rfl ?_
  refine r_iconst F dX5_read_21 (v := 0) (by decide) ?_
  refine r_put F dX5_read_22 (v := .int (e_b false)) flX5_39 rfl (e_b_nar _) (e_b_fit _) rfl (e_le rfl) (e_le rfl) (e_lt hnx rfl) (l' := [(35, o35 0 a35_2 (-1) a35_4 a35_5 false false a35_9 0)]) rfl ?_
  refine r_aload_n F dX5_read_25 rfl ?_
  refine r_iconst F dX5_read_26 (v := 0) (by decide) ?_
  refine r_put F dX5_read_27 (v := .int (e_b false)) flX5_42 rfl (e_b_nar _) (e_b_fit _) rfl (e_le rfl) (e_le rfl) (e_lt hnx rfl) (l' := [(35, o35 0 a35_2 (-1) a35_4 a35_5 false false false 0)]) rfl ?_
  refine r_getsN F dX5_read_30 (C := "SlipLattice") (n := "USUAL_SETTING") (d := "[I") (host := "SlipLattice") (v := .ref 2) (by decide +kernel) (by decide +kernel) ?_
  refine r_iconst F dX5_read_33 (v := 0) (by decide) ?_
  refine r_aload_n F dX5_read_34 rfl ?_
  refine r_get F dX5_read_35 flX5_9 rfl rfl (e_le rfl) (e_lt hnx rfl) ?_
  refine r_iconst F dX5_read_38 (v := 0) (by decide) ?_
  refine r_aload_n F dX5_read_39 rfl ?_
  refine r_get F dX5_read_40 flX5_9 rfl rfl (e_le rfl) (e_lt hnx rfl) ?_
  refine r_alen F dX5_read_43 h36 (e_le rfl) (e_lt hnx rfl) (v := 4) rfl ?_
  refine r_copyS F dX5_read_44 lnX5_48 k_an k_as k_ai (hG.s2) h36 (e_le rfl) (e_lt hnx rfl) (by decide) (by decide) (by decide) (by decide) (by decide) rfl (e_le rfl) (e_le rfl) (by decide) (l' := [(35, o35 0 a35_2 (-1) a35_4 a35_5 false false false 0), (36, o36 (va_cpy sA2 A36 (tn 0) (tn 0) (tn 4)))]) rfl ?_
  refine r_aload_n F dX5_read_47 rfl ?_
  obtain ⟨q1, hq2, hf⟩ := e_bd hf
  refine r_callV F dX5_read_48 (b := 35) (dc := 0) (ds := 0) (As := []) (S0 := []) lkX5_54 mX5_readSize (tX5_readSize_35 hG (la := x_l X) (h := e_up h [(35, o35 0 a35_2 (-1) a35_4 a35_5 false false false 0), (36, o36 (va_cpy sA2 A36 (tn 0) (tn 0) (tn 4)))]) hnx h33 h34 rfl hq2) rfl rfl rfl (e_le rfl) (e_le rfl) (e_le rfl) rfl (ci := 5) e_cl5.1 rfl (e_le rfl) (e_lt hnx rfl) (Nat.zero_le _) (Nat.zero_le _) (e_k ?_)
  refine r_wr (l' := [(35, o35 q1.1 q1.2.1 q1.2.2.1 q1.2.2.2.1 q1.2.2.2.2 false false false 0), (36, o36 (va_cpy sA2 A36 (tn 0) (tn 0) (tn 4)))]) rfl rfl ?_
  refine r_iconst F dX5_read_51 (v := 0) (by decide) ?_
  refine r_istore_n F dX5_read_52 (e_le rfl) (L' := [some (.ref 35), some (.int 0)]) rfl ?_
  refine r_mat (k := 37) h37 (l' := [(35, o35 q1.1 q1.2.1 q1.2.2.1 q1.2.2.2.1 q1.2.2.2.2 false false false 0), (36, o36 (va_cpy sA2 A36 (tn 0) (tn 0) (tn 4))), (37, o37 A37)]) rfl ?_
  refine r_mat (k := 38) h38 (l' := [(35, o35 q1.1 q1.2.1 q1.2.2.1 q1.2.2.2.1 q1.2.2.2.2 false false false 0), (36, o36 (va_cpy sA2 A36 (tn 0) (tn 0) (tn 4))), (37, o37 A37), (38, o38 A38)]) rfl ?_
  obtain ⟨x6, hx7, hf⟩ := e_bd hf
  refine (e_loop_ok (P := fun (v5 : Int32 × Int32 × Int32 × Int32 × Bool × Bool × Bool × Int32 × (Nat → Int32) × (Nat → Int32) × (Nat → Int32)) => eRun G X 53 [some (.ref 35), some (.int v5.1)] [] h [(35, o35 v5.2.1 v5.2.2.1 v5.2.2.2.1 q1.2.2.2.1 q1.2.2.2.2 v5.2.2.2.2.1 v5.2.2.2.2.2.1 v5.2.2.2.2.2.2.1 v5.2.2.2.2.2.2.2.1), (36, o36 v5.2.2.2.2.2.2.2.2.1), (37, o37 v5.2.2.2.2.2.2.2.2.2.1), (38, o38 v5.2.2.2.2.2.2.2.2.2.2)] nx 0 0) (K := fun (x6 : Int32 × Int32 × Int32 × Int32 × Bool × Bool × Bool × (Nat → Int32) × (Nat → Int32) × (Nat → Int32)) => eRun G X 89 [some (.ref 35), none] [] h [(35, o35 x6.1 x6.2.2.1 x6.2.2.2.1 q1.2.2.2.1 q1.2.2.2.2 x6.2.2.2.2.1 x6.2.2.2.2.2.1 x6.2.2.2.2.2.2.1 x6.2.1), (36, o36 x6.2.2.2.2.2.2.2.1), (37, o37 x6.2.2.2.2.2.2.2.2.1), (38, o38 x6.2.2.2.2.2.2.2.2.2)] nx 0 0) ?_ e_fuel (0, q1.1, q1.2.1, q1.2.2.1, false, false, false, 0, va_cpy sA2 A36 (tn 0) (tn 0) (tn 4), A37, A38) x6 hx7 ?_ : _)
  · intro v5 z hz ih hx
    refine r_iload_n F dX5_read_53 rfl ?_
    refine r_sipush F dX5_read_54 (v := 300) (by decide) ?_
    refine r_icmp_ge F dX5_read_57 (tgt := 89) (by decide) (fun hc => ?_) (fun hc => ?_)
    · have hz := e_t hc hz
      refine r_drop 1 (L' := [some (.ref 35), none]) rfl ?_
      obtain rfl := Option.some.inj hz
      exact hx (v5.2.1, v5.2.2.2.2.2.2.2.1, v5.2.2.1, v5.2.2.2.1, v5.2.2.2.2.1, v5.2.2.2.2.2.1, v5.2.2.2.2.2.2.1, v5.2.2.2.2.2.2.2.2.1, v5.2.2.2.2.2.2.2.2.2.1, v5.2.2.2.2.2.2.2.2.2.2) rfl
    · have hz := e_f hc hz
      refine r_aload_n F dX5_read_60 rfl ?_
      refine r_get F dX5_read_61 flX5_29 rfl rfl (e_le rfl) (e_lt hnx rfl) ?_
      refine r_iconst F dX5_read_64 (v := (-1)) (by decide) ?_
      refine r_icmp_ne F dX5_read_65 (tgt := 89) (by decide) (fun hc => ?_) (fun hc => ?_)
      · have hz := e_f hc hz
        refine r_drop 1 (L' := [some (.ref 35), none]) rfl ?_
        obtain rfl := Option.some.inj hz
        exact hx (v5.2.1, v5.2.2.2.2.2.2.2.1, v5.2.2.1, v5.2.2.2.1, v5.2.2.2.2.1, v5.2.2.2.2.2.1, v5.2.2.2.2.2.2.1, v5.2.2.2.2.2.2.2.2.1, v5.2.2.2.2.2.2.2.2.2.1, v5.2.2.2.2.2.2.2.2.2.2) rfl
      · have hz := e_t hc hz
        refine r_aload_n F dX5_read_68 rfl ?_
        obtain ⟨q8, hq9, hz⟩ := e_bd hz
        refine r_callV F dX5_read_69 (b := 35) (dc := 0) (ds := 0) (As := []) (S0 := []) lkX5_59 mX5_nextByte (tX5_nextByte_35 hG (la := x_l X) (h := e_up h [(35, o35 v5.2.1 v5.2.2.1 v5.2.2.2.1 q1.2.2.2.1 q1.2.2.2.2 v5.2.2.2.2.1 v5.2.2.2.2.2.1 v5.2.2.2.2.2.2.1 v5.2.2.2.2.2.2.2.1), (36, o36 v5.2.2.2.2.2.2.2.2.1), (37, o37 v5.2.2.2.2.2.2.2.2.2.1), (38, o38 v5.2.2.2.2.2.2.2.2.2.2)]) hnx h33 h34 rfl hq9) rfl rfl rfl (e_le rfl) (e_le rfl) (e_le rfl) rfl (ci := 5) e_cl5.1 rfl (e_le rfl) (e_lt hnx rfl) (Nat.zero_le _) (Nat.zero_le _) (e_k ?_)
        refine r_wr (l' := [(35, o35 q8.2 v5.2.2.1 v5.2.2.2.1 q1.2.2.2.1 q1.2.2.2.2 v5.2.2.2.2.1 v5.2.2.2.2.2.1 v5.2.2.2.2.2.2.1 v5.2.2.2.2.2.2.2.1), (36, o36 v5.2.2.2.2.2.2.2.2.1), (37, o37 v5.2.2.2.2.2.2.2.2.2.1), (38, o38 v5.2.2.2.2.2.2.2.2.2.2)]) rfl rfl ?_
        refine r_if_eq F dX5_read_72 (tgt := 89) (by decide) (fun hc => ?_) (fun hc => ?_)
        · have hz := e_t hc hz
          refine r_drop 1 (L' := [some (.ref 35), none]) rfl ?_
          obtain rfl := Option.some.inj hz
          exact hx (q8.2, v5.2.2.2.2.2.2.2.1, v5.2.2.1, v5.2.2.2.1, v5.2.2.2.2.1, v5.2.2.2.2.2.1, v5.2.2.2.2.2.2.1, v5.2.2.2.2.2.2.2.2.1, v5.2.2.2.2.2.2.2.2.2.1, v5.2.2.2.2.2.2.2.2.2.2) rfl
        · have hz := e_f hc hz
          refine r_aload_n F dX5_read_75 rfl ?_
          obtain ⟨q10, hq11, hz⟩ := e_bd hz
          refine r_callV F dX5_read_76 (b := 35) (dc := 0) (ds := 0) (As := []) (S0 := []) lkX5_63 mX5_readSemicolon (tX5_readSemicolon_35 hG (la := x_l X) (h := e_up h [(35, o35 q8.2 v5.2.2.1 v5.2.2.2.1 q1.2.2.2.1 q1.2.2.2.2 v5.2.2.2.2.1 v5.2.2.2.2.2.1 v5.2.2.2.2.2.2.1 v5.2.2.2.2.2.2.2.1), (36, o36 v5.2.2.2.2.2.2.2.2.1), (37, o37 v5.2.2.2.2.2.2.2.2.2.1), (38, o38 v5.2.2.2.2.2.2.2.2.2.2)]) hnx h33 h34 rfl hq11) rfl rfl rfl (e_le rfl) (e_le rfl) (e_le rfl) rfl (ci := 5) e_cl5.1 rfl (e_le rfl) (e_lt hnx rfl) (Nat.zero_le _) (Nat.zero_le _) (e_k ?_)
          refine r_wr (l' := [(35, o35 q10.1 v5.2.2.1 q10.2 q1.2.2.2.1 q1.2.2.2.2 v5.2.2.2.2.1 v5.2.2.2.2.2.1 v5.2.2.2.2.2.2.1 v5.2.2.2.2.2.2.2.1), (36, o36 v5.2.2.2.2.2.2.2.2.1), (37, o37 v5.2.2.2.2.2.2.2.2.2.1), (38, o38 v5.2.2.2.2.2.2.2.2.2.2)]) rfl rfl ?_
          refine r_aload_n F dX5_read_79 rfl ?_
          obtain ⟨q12, hq13, hz⟩ := e_bd hz
          refine r_callV F dX5_read_80 (b := 35) (dc := 0) (ds := 0) (As := []) (S0 := []) lkX5_66 mX5_readPiece (tX5_readPiece_35 hG (la := x_l X) (h := e_up h [(35, o35 q10.1 v5.2.2.1 q10.2 q1.2.2.2.1 q1.2.2.2.2 v5.2.2.2.2.1 v5.2.2.2.2.2.1 v5.2.2.2.2.2.2.1 v5.2.2.2.2.2.2.2.1), (36, o36 v5.2.2.2.2.2.2.2.2.1), (37, o37 v5.2.2.2.2.2.2.2.2.2.1), (38, o38 v5.2.2.2.2.2.2.2.2.2.2)]) hnx h33 h34 rfl rfl rfl rfl hq13) rfl rfl rfl (e_le rfl) (e_le rfl) (e_le rfl) rfl (ci := 5) e_cl5.1 rfl (e_le rfl) (e_lt hnx rfl) (Nat.zero_le _) (Nat.zero_le _) (e_k ?_)
          refine r_wr (l' := [(35, o35 q12.1 q12.2.1 q12.2.2.1 q1.2.2.2.1 q1.2.2.2.2 q12.2.2.2.1 q12.2.2.2.2.1 q12.2.2.2.2.2.1 q12.2.2.2.2.2.2.1), (36, o36 q12.2.2.2.2.2.2.2.1), (37, o37 q12.2.2.2.2.2.2.2.2.1), (38, o38 q12.2.2.2.2.2.2.2.2.2)]) rfl rfl ?_
          refine r_inc F dX5_read_83 (k9 := 1) (by decide) rfl (L' := [some (.ref 35), some (.int (v5.1 + 1))]) rfl ?_
          refine r_goto F dX5_read_86 (tgt := 53) (by decide) ?_
          obtain rfl := Option.some.inj hz
          exact ih (v5.1 + 1, q12.1, q12.2.1, q12.2.2.1, q12.2.2.2.1, q12.2.2.2.2.1, q12.2.2.2.2.2.1, q12.2.2.2.2.2.2.1, q12.2.2.2.2.2.2.2.1, q12.2.2.2.2.2.2.2.2.1, q12.2.2.2.2.2.2.2.2.2) rfl
  · show eRun G X 89 [some (.ref 35), none] [] h [(35, o35 x6.1 x6.2.2.1 x6.2.2.2.1 q1.2.2.2.1 q1.2.2.2.2 x6.2.2.2.2.1 x6.2.2.2.2.2.1 x6.2.2.2.2.2.2.1 x6.2.1), (36, o36 x6.2.2.2.2.2.2.2.1), (37, o37 x6.2.2.2.2.2.2.2.2.1), (38, o38 x6.2.2.2.2.2.2.2.2.2)] nx 0 0
    refine r_aload_n F dX5_read_89 rfl ?_
    refine r_get F dX5_read_90 flX5_29 rfl rfl (e_le rfl) (e_lt hnx rfl) ?_
    obtain rfl := Option.some.inj hf
    exact r_iret F hq dX5_read_93 rfl rfl (Nat.le_refl _) (Nat.le_refl _) ⟨rfl, rfl⟩

def fX11_fault (a33_1 : Int32) (a35_1 : Int32) (a35_2 : Int32) (a35_3 : Int32) (a35_4 : Int32) (a35_5 : Int32) (a35_7 : Bool) (a35_8 : Bool) (a35_9 : Bool) (a35_10 : Int32) (A34 : Nat → Int32) (A36 : Nat → Int32) (A37 : Nat → Int32) (A38 : Nat → Int32)  : Option (Int32 × Int32 × Int32 × Int32 × Int32 × Int32 × Bool × Bool × Bool × Int32 × (Nat → Int32) × (Nat → Int32) × (Nat → Int32)) :=
  (fX5_read a33_1 a35_1 a35_2 a35_3 a35_4 a35_5 a35_7 a35_8 a35_9 a35_10 A34 A36 A37 A38).bind (fun q1 =>
  some (q1.1, q1.2.1, q1.2.2.1, q1.2.2.2.1, q1.2.2.2.2.1, q1.2.2.2.2.2.1, q1.2.2.2.2.2.2.1, q1.2.2.2.2.2.2.2.1, q1.2.2.2.2.2.2.2.2.1, q1.2.2.2.2.2.2.2.2.2.1, q1.2.2.2.2.2.2.2.2.2.2.1, q1.2.2.2.2.2.2.2.2.2.2.2.1, q1.2.2.2.2.2.2.2.2.2.2.2.2))
set_option maxRecDepth 100000 in
theorem tX11_fault_32 {G : eG} (hG : e_GS G) {la : Launch} {h : Nat → eO} {nx : Nat} (hnx : 99 ≤ nx) {a32_8 : Bool} {a32_10 : Bool} {a33_1 : Int32} {A34 : Nat → Int32} {a35_1 : Int32} {a35_2 : Int32} {a35_3 : Int32} {a35_4 : Int32} {a35_5 : Int32} {a35_7 : Bool} {a35_8 : Bool} {a35_9 : Bool} {a35_10 : Int32} {A36 : Nat → Int32} {A37 : Nat → Int32} {A38 : Nat → Int32}  (h32 : h 32 = o32 a32_8 a32_10) (h33 : h 33 = o33 a33_1) (h34 : h 34 = o34 A34) (h35 : h 35 = o35 a35_1 a35_2 a35_3 a35_4 a35_5 a35_7 a35_8 a35_9 a35_10) (h36 : h 36 = o36 A36) (h37 : h 37 = o37 A37) (h38 : h 38 = o38 A38) {R9 : Int32 × Int32 × Int32 × Int32 × Int32 × Int32 × Bool × Bool × Bool × Int32 × (Nat → Int32) × (Nat → Int32) × (Nat → Int32)} (hf : fX11_fault a33_1 a35_1 a35_2 a35_3 a35_4 a35_5 a35_7 a35_8 a35_9 a35_10 A34 A36 A37 A38  = some R9) :
    eSem G la MX11_fault [.ref 32] h nx 0 0 (fun r9 h9 => r9 = some (.int R9.1) ∧ h9 = e_up h [(35, o35 R9.2.1 R9.2.2.1 R9.2.2.2.1 R9.2.2.2.2.1 R9.2.2.2.2.2.1 R9.2.2.2.2.2.2.1 R9.2.2.2.2.2.2.2.1 R9.2.2.2.2.2.2.2.2.1 R9.2.2.2.2.2.2.2.2.2.1), (36, o36 R9.2.2.2.2.2.2.2.2.2.2.1), (37, o37 R9.2.2.2.2.2.2.2.2.2.2.2.1), (38, o38 R9.2.2.2.2.2.2.2.2.2.2.2.2)]) := by
  refine eSem.of (k := 0) (L := [some (.ref 32)]) (by decide +kernel) rfl rfl (fun X F hxl hq hcR hsR => ?_)
  subst hxl
  unfold fX11_fault at hf
  refine r_aload_n F dX11_fault_0 rfl ?_
  refine r_get F dX11_fault_1 flX11_21 h32 rfl (e_le rfl) (e_lt hnx rfl) ?_
  obtain ⟨q1, hq2, hf⟩ := e_bd hf
  refine r_callV F dX11_fault_4 (b := 35) (dc := 0) (ds := 0) (As := []) (S0 := []) lkX11_99 mX5_read (tX5_read_35 hG (la := x_l X) (h := e_up h []) hnx h33 h34 h35 h36 h37 h38 hq2) rfl rfl rfl (e_le rfl) (e_le rfl) (e_le rfl) h35 (ci := 5) e_cl5.1 rfl (e_le rfl) (e_lt hnx rfl) (Nat.zero_le _) (Nat.zero_le _) (e_k ?_)
  refine r_wr (l' := [(35, o35 q1.2.1 q1.2.2.1 q1.2.2.2.1 q1.2.2.2.2.1 q1.2.2.2.2.2.1 q1.2.2.2.2.2.2.1 q1.2.2.2.2.2.2.2.1 q1.2.2.2.2.2.2.2.2.1 q1.2.2.2.2.2.2.2.2.2.1), (36, o36 q1.2.2.2.2.2.2.2.2.2.2.1), (37, o37 q1.2.2.2.2.2.2.2.2.2.2.2.1), (38, o38 q1.2.2.2.2.2.2.2.2.2.2.2.2)]) rfl rfl ?_
  obtain rfl := Option.some.inj hf
  exact r_iret F hq dX11_fault_7 rfl rfl (Nat.le_refl _) (Nat.le_refl _) ⟨rfl, rfl⟩

def fX9_bytesOf  (p0 : Int32) : Option (Int32) :=
  (e_loop (fun (v3 : Int32 × Int32) => (
      if v3.2 < 0 then
        some (.inr v3.1)
      else
        Option.bind (α := Int32) (
          if (((Int32.toUInt32 p0 >>> (Int32.toUInt32 v3.2 &&& Int32.toUInt32 31)).toInt32) &&& 255) = 0 then
            some v3.1
          else
            some (v3.1 + 1)) (fun q6 =>
        some (.inl (q6, v3.2 + (-8)))) : Option ((Int32 × Int32) ⊕ (Int32)))) e_fuel (0, 24)).bind (fun x4 =>
  some x4)
set_option maxRecDepth 100000 in
theorem tX9_bytesOf {G : eG} (hG : e_GS G) {la : Launch} {h : Nat → eO} {nx : Nat} (hnx : 99 ≤ nx)  {p0 : Int32}  {R9 : Int32} (hf : fX9_bytesOf  p0 = some R9) :
    eSem G la MX9_bytesOf [.int p0] h nx 0 0 (fun r9 h9 => r9 = some (.int R9) ∧ h9 = h) := by
  refine eSem.of (k := 2) (L := [some (.int p0), none, none]) (by decide +kernel) rfl rfl (fun X F hxl hq hcR hsR => ?_)
  subst hxl
  unfold fX9_bytesOf at hf
  refine r_iconst F dX9_bytesOf_0 (v := 0) (by decide) ?_
  refine r_istore_n F dX9_bytesOf_1 (e_le rfl) (L' := [some (.int p0), some (.int 0), none]) rfl ?_
  refine r_bipush F dX9_bytesOf_2 (v := 24) (by decide) ?_
  refine r_istore_n F dX9_bytesOf_4 (e_le rfl) (L' := [some (.int p0), some (.int 0), some (.int 24)]) rfl ?_
  obtain ⟨x4, hx5, hf⟩ := e_bd hf
  refine (e_loop_ok (P := fun (v3 : Int32 × Int32) => eRun G X 5 [some (.int p0), some (.int v3.1), some (.int v3.2)] [] h [] nx 0 0) (K := fun (x4 : Int32) => eRun G X 28 [none, some (.int x4), none] [] h [] nx 0 0) ?_ e_fuel (0, 24) x4 hx5 ?_ : _)
  · intro v3 z hz ih hx
    refine r_iload_n F dX9_bytesOf_5 rfl ?_
    refine r_if_lt F dX9_bytesOf_6 (tgt := 28) (by decide) (fun hc => ?_) (fun hc => ?_)
    · have hz := e_t hc hz
      refine r_drop 0 (L' := [none, some (.int v3.1), some (.int v3.2)]) rfl ?_
      refine r_drop 2 (L' := [none, some (.int v3.1), none]) rfl ?_
      obtain rfl := Option.some.inj hz
      exact hx v3.1 rfl
    · have hz := e_f hc hz
      refine r_iload_n F dX9_bytesOf_9 rfl ?_
      refine r_iload_n F dX9_bytesOf_10 rfl ?_
      refine r_iushr F dX9_bytesOf_11 ?_
      refine r_sipush F dX9_bytesOf_12 (v := 255) (by decide) ?_
      refine r_iand F dX9_bytesOf_15 ?_
      obtain ⟨q6, hq7, hz⟩ := e_bd hz
      have Jq6 : eRun G X 22 [some (.int p0), some (.int q6), some (.int v3.2)] [] h [] nx 0 0 := by
        refine r_inc F dX9_bytesOf_22 (k9 := (-8)) (by decide) rfl (L' := [some (.int p0), some (.int q6), some (.int (v3.2 + (-8)))]) rfl ?_
        refine r_goto F dX9_bytesOf_25 (tgt := 5) (by decide) ?_
        obtain rfl := Option.some.inj hz
        exact ih (q6, v3.2 + (-8)) rfl
      refine r_if_eq F dX9_bytesOf_16 (tgt := 22) (by decide) (fun hc => ?_) (fun hc => ?_)
      · have hq7 := e_t hc hq7
        obtain rfl := Option.some.inj hq7
        exact Jq6
      · have hq7 := e_f hc hq7
        refine r_inc F dX9_bytesOf_19 (k9 := 1) (by decide) rfl (L' := [some (.int p0), some (.int (v3.1 + 1)), some (.int v3.2)]) rfl ?_
        obtain rfl := Option.some.inj hq7
        exact Jq6
  · show eRun G X 28 [none, some (.int x4), none] [] h [] nx 0 0
    refine r_iload_n F dX9_bytesOf_28 rfl ?_
    obtain rfl := Option.some.inj hf
    exact r_iret F hq dX9_bytesOf_29 rfl rfl (Nat.le_refl _) (Nat.le_refl _) ⟨rfl, rfl⟩

def fX9_put (a33_1 : Int32) (A34 : Nat → Int32) (p0 : Int32) : Option (Int32 × (Nat → Int32)) :=
  (e_loop (fun (v3 : Int32 × Int32 × (Nat → Int32)) => (
      if v3.1 < 0 then
        some (.inr (v3.2.1, v3.2.2))
      else
        Option.bind (α := Int32 × (Nat → Int32)) (
          if (((Int32.toUInt32 p0 >>> (Int32.toUInt32 v3.1 &&& Int32.toUInt32 31)).toInt32) &&& 255) = 0 then
            some (v3.2.1, v3.2.2)
          else
            if v3.2.1 < 0 then
              some (v3.2.1, v3.2.2)
            else
              if 300 ≤ v3.2.1 then
                some (v3.2.1, v3.2.2)
              else
                e_g (e_in v3.2.1 300) (
                some (v3.2.1 + 1, upd v3.2.2 (tn v3.2.1) (((Int32.toUInt32 p0 >>> (Int32.toUInt32 v3.1 &&& Int32.toUInt32 31)).toInt32) &&& 255)))) (fun q6 =>
        some (.inl (v3.1 + (-8), q6.1, q6.2))) : Option ((Int32 × Int32 × (Nat → Int32)) ⊕ (Int32 × (Nat → Int32))))) e_fuel (24, a33_1, A34)).bind (fun x4 =>
  some (x4.1, x4.2))
set_option maxRecDepth 100000 in
theorem tX9_put_33 {G : eG} (hG : e_GS G) {la : Launch} {h : Nat → eO} {nx : Nat} (hnx : 99 ≤ nx) {a33_1 : Int32} {A34 : Nat → Int32} {p0 : Int32} (h33 : h 33 = o33 a33_1) (h34 : h 34 = o34 A34) {R9 : Int32 × (Nat → Int32)} (hf : fX9_put a33_1 A34 p0 = some R9) :
    eSem G la MX9_put [.ref 33, .int p0] h nx 0 0 (fun r9 h9 => r9 = none ∧ h9 = e_up h [(33, o33 R9.1), (34, o34 R9.2)]) := by
  refine eSem.of (k := 2) (L := [some (.ref 33), some (.int p0), none, none]) (by decide +kernel) rfl rfl (fun X F hxl hq hcR hsR => ?_)
  subst hxl
  unfold fX9_put at hf
  refine r_bipush F dX9_put_0 (v := 24) (by decide) ?_
  refine r_istore_n F dX9_put_2 (e_le rfl) (L' := [some (.ref 33), some (.int p0), some (.int 24), none]) rfl ?_
  refine r_mat (k := 33) h33 (l' := [(33, o33 a33_1)]) rfl ?_
  refine r_mat (k := 34) h34 (l' := [(33, o33 a33_1), (34, o34 A34)]) rfl ?_
  obtain ⟨x4, hx5, hf⟩ := e_bd hf
  refine (e_loop_ok (P := fun (v3 : Int32 × Int32 × (Nat → Int32)) => eRun G X 3 [some (.ref 33), some (.int p0), some (.int v3.1), none] [] h [(33, o33 v3.2.1), (34, o34 v3.2.2)] nx 0 0) (K := fun (x4 : Int32 × (Nat → Int32)) => eRun G X 62 [none, none, none, none] [] h [(33, o33 x4.1), (34, o34 x4.2)] nx 0 0) ?_ e_fuel (24, a33_1, A34) x4 hx5 ?_ : _)
  · intro v3 z hz ih hx
    refine r_iload_n F dX9_put_3 rfl ?_
    refine r_if_lt F dX9_put_4 (tgt := 62) (by decide) (fun hc => ?_) (fun hc => ?_)
    · have hz := e_t hc hz
      refine r_drop 0 (L' := [none, some (.int p0), some (.int v3.1), none]) rfl ?_
      refine r_drop 1 (L' := [none, none, some (.int v3.1), none]) rfl ?_
      refine r_drop 2 (L' := [none, none, none, none]) rfl ?_
      obtain rfl := Option.some.inj hz
      exact hx (v3.2.1, v3.2.2) rfl
    · have hz := e_f hc hz
      refine r_iload_n F dX9_put_7 rfl ?_
      refine r_iload_n F dX9_put_8 rfl ?_
      refine r_iushr F dX9_put_9 ?_
      refine r_sipush F dX9_put_10 (v := 255) (by decide) ?_
      refine r_iand F dX9_put_13 ?_
      refine r_istore_n F dX9_put_14 (e_le rfl) (L' := [some (.ref 33), some (.int p0), some (.int v3.1), some (.int (((Int32.toUInt32 p0 >>> (Int32.toUInt32 v3.1 &&& Int32.toUInt32 31)).toInt32) &&& 255))]) rfl ?_
      refine r_iload_n F dX9_put_15 rfl ?_
      obtain ⟨q6, hq7, hz⟩ := e_bd hz
      have Jq6 : eRun G X 56 [some (.ref 33), some (.int p0), some (.int v3.1), none] [] h [(33, o33 q6.1), (34, o34 q6.2)] nx 0 0 := by
        refine r_inc F dX9_put_56 (k9 := (-8)) (by decide) rfl (L' := [some (.ref 33), some (.int p0), some (.int (v3.1 + (-8))), none]) rfl ?_
        refine r_goto F dX9_put_59 (tgt := 3) (by decide) ?_
        obtain rfl := Option.some.inj hz
        exact ih (v3.1 + (-8), q6.1, q6.2) rfl
      refine r_if_eq F dX9_put_16 (tgt := 56) (by decide) (fun hc => ?_) (fun hc => ?_)
      · have hq7 := e_t hc hq7
        refine r_drop 3 (L' := [some (.ref 33), some (.int p0), some (.int v3.1), none]) rfl ?_
        obtain rfl := Option.some.inj hq7
        exact Jq6
      · have hq7 := e_f hc hq7
        refine r_aload_n F dX9_put_19 rfl ?_
        refine r_get F dX9_put_20 flX9_13 rfl rfl (e_le rfl) (e_lt hnx rfl) ?_
        refine r_if_lt F dX9_put_23 (tgt := 56) (by decide) (fun hc => ?_) (fun hc => ?_)
        · have hq7 := e_t hc hq7
          refine r_drop 3 (L' := [some (.ref 33), some (.int p0), some (.int v3.1), none]) rfl ?_
          obtain rfl := Option.some.inj hq7
          exact Jq6
        · have hq7 := e_f hc hq7
          refine r_aload_n F dX9_put_26 rfl ?_
          refine r_get F dX9_put_27 flX9_13 rfl rfl (e_le rfl) (e_lt hnx rfl) ?_
          refine r_sipush F dX9_put_30 (v := 300) (by decide) ?_
          refine r_icmp_ge F dX9_put_33 (tgt := 56) (by decide) (fun hc => ?_) (fun hc => ?_)
          · have hq7 := e_t hc hq7
            refine r_drop 3 (L' := [some (.ref 33), some (.int p0), some (.int v3.1), none]) rfl ?_
            obtain rfl := Option.some.inj hq7
            exact Jq6
          · have hq7 := e_f hc hq7
            refine r_aload_n F dX9_put_36 rfl ?_
            refine r_get F dX9_put_37 flX9_9 rfl rfl (e_le rfl) (e_lt hnx rfl) ?_
            refine r_aload_n F dX9_put_40 rfl ?_
            refine r_get F dX9_put_41 flX9_13 rfl rfl (e_le rfl) (e_lt hnx rfl) ?_
            refine r_iload_n F dX9_put_44 rfl ?_
            obtain ⟨hg, hq7⟩ := e_gd hq7
            refine r_iast F dX9_put_45 rfl (e_le rfl) (e_lt hnx rfl) (e_vp hg) (l' := [(33, o33 v3.2.1), (34, o34 (upd v3.2.2 (tn v3.2.1) (((Int32.toUInt32 p0 >>> (Int32.toUInt32 v3.1 &&& Int32.toUInt32 31)).toInt32) &&& 255)))]) rfl ?_
            refine r_aload_n F dX9_put_46 rfl ?_
            refine r_dup F dX9_put_47 rfl ?_
            refine r_get F dX9_put_48 flX9_13 rfl rfl (e_le rfl) (e_lt hnx rfl) ?_
            refine r_iconst F dX9_put_51 (v := 1) (by decide) ?_
            refine r_iadd F dX9_put_52 ?_
            refine r_put F dX9_put_53 flX9_13 rfl rfl rfl rfl (e_le rfl) (e_le rfl) (e_lt hnx rfl) (l' := [(33, o33 (v3.2.1 + 1)), (34, o34 (upd v3.2.2 (tn v3.2.1) (((Int32.toUInt32 p0 >>> (Int32.toUInt32 v3.1 &&& Int32.toUInt32 31)).toInt32) &&& 255)))]) rfl ?_
            refine r_drop 3 (L' := [some (.ref 33), some (.int p0), some (.int v3.1), none]) rfl ?_
            obtain rfl := Option.some.inj hq7
            exact Jq6
  · show eRun G X 62 [none, none, none, none] [] h [(33, o33 x4.1), (34, o34 x4.2)] nx 0 0
    obtain rfl := Option.some.inj hf
    exact r_vret F hq dX9_put_62 rfl rfl (Nat.le_refl _) (Nat.le_refl _) ⟨rfl, rfl⟩

def fX11_feed (a33_1 : Int32) (A34 : Nat → Int32) (p0 : Int32) (p1 : Int32) (p2 : Int32) (p3 : Int32) (p4 : Int32) : Option (Int32 × Int32 × (Nat → Int32)) :=
  (fX9_bytesOf p0).bind (fun q1 =>
  (fX9_bytesOf p1).bind (fun q3 =>
  (fX9_bytesOf p2).bind (fun q5 =>
  (fX9_bytesOf p3).bind (fun q7 =>
  (fX9_bytesOf p4).bind (fun q9 =>
  if (a33_1 + ((((q1 + q3) + q5) + q7) + q9)) ≤ 300 then
    (fX9_put a33_1 A34 p0).bind (fun q11 =>
    (fX9_put q11.1 q11.2 p1).bind (fun q13 =>
    (fX9_put q13.1 q13.2 p2).bind (fun q15 =>
    (fX9_put q15.1 q15.2 p3).bind (fun q17 =>
    (fX9_put q17.1 q17.2 p4).bind (fun q19 =>
    some (q19.1, q19.1, q19.2))))))
  else
    some ((-1), a33_1, A34))))))
set_option maxRecDepth 100000 in
theorem tX11_feed_32 {G : eG} (hG : e_GS G) {la : Launch} {h : Nat → eO} {nx : Nat} (hnx : 99 ≤ nx) {a32_8 : Bool} {a32_10 : Bool} {a33_1 : Int32} {A34 : Nat → Int32} {p0 : Int32} {p1 : Int32} {p2 : Int32} {p3 : Int32} {p4 : Int32} (h32 : h 32 = o32 a32_8 a32_10) (h33 : h 33 = o33 a33_1) (h34 : h 34 = o34 A34) {R9 : Int32 × Int32 × (Nat → Int32)} (hf : fX11_feed a33_1 A34 p0 p1 p2 p3 p4 = some R9) :
    eSem G la MX11_feed [.ref 32, .int p0, .int p1, .int p2, .int p3, .int p4] h nx 0 0 (fun r9 h9 => r9 = some (.int R9.1) ∧ h9 = e_up h [(33, o33 R9.2.1), (34, o34 R9.2.2)]) := by
  refine eSem.of (k := 1) (L := [some (.ref 32), some (.int p0), some (.int p1), some (.int p2), some (.int p3), some (.int p4), none]) (by decide +kernel) rfl rfl (fun X F hxl hq hcR hsR => ?_)
  subst hxl
  unfold fX11_feed at hf
  refine r_iload_n F dX11_feed_0 rfl ?_
  obtain ⟨q1, hq2, hf⟩ := e_bd hf
  refine r_callS F dX11_feed_1 (dc := 0) (ds := 0) (As := [.int p0]) (S0 := []) lkX11_87 mX9_bytesOf (tX9_bytesOf hG (la := x_l X) (h := e_up h []) hnx  hq2) rfl rfl rfl (e_le rfl) (e_le rfl) (e_le rfl) (Nat.zero_le _) (Nat.zero_le _) (e_k ?_)
  refine r_wr0 ?_
  refine r_iload_n F dX11_feed_4 rfl ?_
  obtain ⟨q3, hq4, hf⟩ := e_bd hf
  refine r_callS F dX11_feed_5 (dc := 0) (ds := 0) (As := [.int p1]) (S0 := [.int q1]) lkX11_87 mX9_bytesOf (tX9_bytesOf hG (la := x_l X) (h := e_up h []) hnx  hq4) rfl rfl rfl (e_le rfl) (e_le rfl) (e_le rfl) (Nat.zero_le _) (Nat.zero_le _) (e_k ?_)
  refine r_wr0 ?_
  refine r_iadd F dX11_feed_8 ?_
  refine r_iload_n F dX11_feed_9 rfl ?_
  obtain ⟨q5, hq6, hf⟩ := e_bd hf
  refine r_callS F dX11_feed_10 (dc := 0) (ds := 0) (As := [.int p2]) (S0 := [.int (q1 + q3)]) lkX11_87 mX9_bytesOf (tX9_bytesOf hG (la := x_l X) (h := e_up h []) hnx  hq6) rfl rfl rfl (e_le rfl) (e_le rfl) (e_le rfl) (Nat.zero_le _) (Nat.zero_le _) (e_k ?_)
  refine r_wr0 ?_
  refine r_iadd F dX11_feed_13 ?_
  refine r_iload F dX11_feed_14 rfl ?_
  obtain ⟨q7, hq8, hf⟩ := e_bd hf
  refine r_callS F dX11_feed_16 (dc := 0) (ds := 0) (As := [.int p3]) (S0 := [.int ((q1 + q3) + q5)]) lkX11_87 mX9_bytesOf (tX9_bytesOf hG (la := x_l X) (h := e_up h []) hnx  hq8) rfl rfl rfl (e_le rfl) (e_le rfl) (e_le rfl) (Nat.zero_le _) (Nat.zero_le _) (e_k ?_)
  refine r_wr0 ?_
  refine r_iadd F dX11_feed_19 ?_
  refine r_iload F dX11_feed_20 rfl ?_
  obtain ⟨q9, hq10, hf⟩ := e_bd hf
  refine r_callS F dX11_feed_22 (dc := 0) (ds := 0) (As := [.int p4]) (S0 := [.int (((q1 + q3) + q5) + q7)]) lkX11_87 mX9_bytesOf (tX9_bytesOf hG (la := x_l X) (h := e_up h []) hnx  hq10) rfl rfl rfl (e_le rfl) (e_le rfl) (e_le rfl) (Nat.zero_le _) (Nat.zero_le _) (e_k ?_)
  refine r_wr0 ?_
  refine r_iadd F dX11_feed_25 ?_
  refine r_istore F dX11_feed_26 (e_le rfl) (L' := [some (.ref 32), some (.int p0), some (.int p1), some (.int p2), some (.int p3), some (.int p4), some (.int ((((q1 + q3) + q5) + q7) + q9))]) rfl ?_
  refine r_aload_n F dX11_feed_28 rfl ?_
  refine r_get F dX11_feed_29 flX11_10 h32 rfl (e_le rfl) (e_lt hnx rfl) ?_
  refine r_get F dX11_feed_32 flX11_91 h33 rfl (e_le rfl) (e_lt hnx rfl) ?_
  refine r_iload F dX11_feed_35 rfl ?_
  refine r_iadd F dX11_feed_37 ?_
  refine r_sipush F dX11_feed_38 (v := 300) (by decide) ?_
  refine r_icmp_le F dX11_feed_41 (tgt := 46) (by decide) (fun hc => ?_) (fun hc => ?_)
  · have hf := e_t hc hf
    refine r_aload_n F dX11_feed_46 rfl ?_
    refine r_get F dX11_feed_47 flX11_10 h32 rfl (e_le rfl) (e_lt hnx rfl) ?_
    refine r_iload_n F dX11_feed_50 rfl ?_
    obtain ⟨q11, hq12, hf⟩ := e_bd hf
    refine r_callV F dX11_feed_51 (b := 33) (dc := 0) (ds := 0) (As := [.int p0]) (S0 := []) lkX11_95 mX9_put (tX9_put_33 hG (la := x_l X) (h := e_up h []) hnx h33 h34 hq12) rfl rfl rfl (e_le rfl) (e_le rfl) (e_le rfl) h33 (ci := 9) e_cl9.1 rfl (e_le rfl) (e_lt hnx rfl) (Nat.zero_le _) (Nat.zero_le _) (e_k ?_)
    refine r_wr (l' := [(33, o33 q11.1), (34, o34 q11.2)]) rfl rfl ?_
    refine r_aload_n F dX11_feed_54 rfl ?_
    refine r_get F dX11_feed_55 flX11_10 h32 rfl (e_le rfl) (e_lt hnx rfl) ?_
    refine r_iload_n F dX11_feed_58 rfl ?_
    obtain ⟨q13, hq14, hf⟩ := e_bd hf
    refine r_callV F dX11_feed_59 (b := 33) (dc := 0) (ds := 0) (As := [.int p1]) (S0 := []) lkX11_95 mX9_put (tX9_put_33 hG (la := x_l X) (h := e_up h [(33, o33 q11.1), (34, o34 q11.2)]) hnx rfl rfl hq14) rfl rfl rfl (e_le rfl) (e_le rfl) (e_le rfl) rfl (ci := 9) e_cl9.1 rfl (e_le rfl) (e_lt hnx rfl) (Nat.zero_le _) (Nat.zero_le _) (e_k ?_)
    refine r_wr (l' := [(33, o33 q13.1), (34, o34 q13.2)]) rfl rfl ?_
    refine r_aload_n F dX11_feed_62 rfl ?_
    refine r_get F dX11_feed_63 flX11_10 h32 rfl (e_le rfl) (e_lt hnx rfl) ?_
    refine r_iload_n F dX11_feed_66 rfl ?_
    obtain ⟨q15, hq16, hf⟩ := e_bd hf
    refine r_callV F dX11_feed_67 (b := 33) (dc := 0) (ds := 0) (As := [.int p2]) (S0 := []) lkX11_95 mX9_put (tX9_put_33 hG (la := x_l X) (h := e_up h [(33, o33 q13.1), (34, o34 q13.2)]) hnx rfl rfl hq16) rfl rfl rfl (e_le rfl) (e_le rfl) (e_le rfl) rfl (ci := 9) e_cl9.1 rfl (e_le rfl) (e_lt hnx rfl) (Nat.zero_le _) (Nat.zero_le _) (e_k ?_)
    refine r_wr (l' := [(33, o33 q15.1), (34, o34 q15.2)]) rfl rfl ?_
    refine r_aload_n F dX11_feed_70 rfl ?_
    refine r_get F dX11_feed_71 flX11_10 h32 rfl (e_le rfl) (e_lt hnx rfl) ?_
    refine r_iload F dX11_feed_74 rfl ?_
    obtain ⟨q17, hq18, hf⟩ := e_bd hf
    refine r_callV F dX11_feed_76 (b := 33) (dc := 0) (ds := 0) (As := [.int p3]) (S0 := []) lkX11_95 mX9_put (tX9_put_33 hG (la := x_l X) (h := e_up h [(33, o33 q15.1), (34, o34 q15.2)]) hnx rfl rfl hq18) rfl rfl rfl (e_le rfl) (e_le rfl) (e_le rfl) rfl (ci := 9) e_cl9.1 rfl (e_le rfl) (e_lt hnx rfl) (Nat.zero_le _) (Nat.zero_le _) (e_k ?_)
    refine r_wr (l' := [(33, o33 q17.1), (34, o34 q17.2)]) rfl rfl ?_
    refine r_aload_n F dX11_feed_79 rfl ?_
    refine r_get F dX11_feed_80 flX11_10 h32 rfl (e_le rfl) (e_lt hnx rfl) ?_
    refine r_iload F dX11_feed_83 rfl ?_
    obtain ⟨q19, hq20, hf⟩ := e_bd hf
    refine r_callV F dX11_feed_85 (b := 33) (dc := 0) (ds := 0) (As := [.int p4]) (S0 := []) lkX11_95 mX9_put (tX9_put_33 hG (la := x_l X) (h := e_up h [(33, o33 q17.1), (34, o34 q17.2)]) hnx rfl rfl hq20) rfl rfl rfl (e_le rfl) (e_le rfl) (e_le rfl) rfl (ci := 9) e_cl9.1 rfl (e_le rfl) (e_lt hnx rfl) (Nat.zero_le _) (Nat.zero_le _) (e_k ?_)
    refine r_wr (l' := [(33, o33 q19.1), (34, o34 q19.2)]) rfl rfl ?_
    refine r_aload_n F dX11_feed_88 rfl ?_
    refine r_get F dX11_feed_89 flX11_10 h32 rfl (e_le rfl) (e_lt hnx rfl) ?_
    refine r_get F dX11_feed_92 flX11_91 rfl rfl (e_le rfl) (e_lt hnx rfl) ?_
    obtain rfl := Option.some.inj hf
    exact r_iret F hq dX11_feed_95 rfl rfl (Nat.le_refl _) (Nat.le_refl _) ⟨rfl, rfl⟩
  · have hf := e_f hc hf
    refine r_iconst F dX11_feed_44 (v := (-1)) (by decide) ?_
    refine r_mat (k := 33) h33 (l' := [(33, o33 a33_1)]) rfl ?_
    refine r_mat (k := 34) h34 (l' := [(33, o33 a33_1), (34, o34 A34)]) rfl ?_
    obtain rfl := Option.some.inj hf
    exact r_iret F hq dX11_feed_45 rfl rfl (Nat.le_refl _) (Nat.le_refl _) ⟨rfl, rfl⟩

def fX11_refuse (A62 : Nat → Int32) (p0 : Int32) : Option (Int32 × (Nat → Int32)) :=
  if p0 < 0 then
    some ((-1), A62)
  else
    if 4 ≤ p0 then
      some ((-1), A62)
    else
      e_g (e_in p0 4) (
      e_g (e_in p0 4) (
      some ((-1), upd A62 (tn p0) ((A62 (tn p0)) + 1))))
set_option maxRecDepth 100000 in
theorem tX11_refuse_32 {G : eG} (hG : e_GS G) {la : Launch} {h : Nat → eO} {nx : Nat} (hnx : 99 ≤ nx) {a32_8 : Bool} {a32_10 : Bool} {A62 : Nat → Int32} {p0 : Int32} (h32 : h 32 = o32 a32_8 a32_10) (h62 : h 62 = o62 A62) {R9 : Int32 × (Nat → Int32)} (hf : fX11_refuse A62 p0 = some R9) :
    eSem G la MX11_refuse [.ref 32, .int p0] h nx 0 0 (fun r9 h9 => r9 = some (.int R9.1) ∧ h9 = e_up h [(62, o62 R9.2)]) := by
  refine eSem.of (k := 0) (L := [some (.ref 32), some (.int p0)]) (by decide +kernel) rfl rfl (fun X F hxl hq hcR hsR => ?_)
  subst hxl
  unfold fX11_refuse at hf
  refine r_iload_n F dX11_refuse_0 rfl ?_
  refine r_if_lt F dX11_refuse_1 (tgt := 23) (by decide) (fun hc => ?_) (fun hc => ?_)
  · have hf := e_t hc hf
    refine r_iconst F dX11_refuse_23 (v := (-1)) (by decide) ?_
    refine r_mat (k := 62) h62 (l' := [(62, o62 A62)]) rfl ?_
    obtain rfl := Option.some.inj hf
    exact r_iret F hq dX11_refuse_24 rfl rfl (Nat.le_refl _) (Nat.le_refl _) ⟨rfl, rfl⟩
  · have hf := e_f hc hf
    refine r_iload_n F dX11_refuse_4 rfl ?_
    refine r_aload_n F dX11_refuse_5 rfl ?_
    refine r_get F dX11_refuse_6 flX11_63 h32 rfl (e_le rfl) (e_lt hnx rfl) ?_
    refine r_alen F dX11_refuse_9 h62 (e_le rfl) (e_lt hnx rfl) (v := 4) rfl ?_
    refine r_icmp_ge F dX11_refuse_10 (tgt := 23) (by decide) (fun hc => ?_) (fun hc => ?_)
    · have hf := e_t hc hf
      refine r_iconst F dX11_refuse_23 (v := (-1)) (by decide) ?_
      refine r_mat (k := 62) h62 (l' := [(62, o62 A62)]) rfl ?_
      obtain rfl := Option.some.inj hf
      exact r_iret F hq dX11_refuse_24 rfl rfl (Nat.le_refl _) (Nat.le_refl _) ⟨rfl, rfl⟩
    · have hf := e_f hc hf
      refine r_aload_n F dX11_refuse_13 rfl ?_
      refine r_get F dX11_refuse_14 flX11_63 h32 rfl (e_le rfl) (e_lt hnx rfl) ?_
      refine r_iload_n F dX11_refuse_17 rfl ?_
      refine r_dup2 F dX11_refuse_18 rfl rfl ?_
      obtain ⟨hg, hf⟩ := e_gd hf
      refine r_iald F dX11_refuse_19 (i := p0) h62 (e_le rfl) (e_lt hnx rfl) (e_vp hg) ?_
      refine r_iconst F dX11_refuse_20 (v := 1) (by decide) ?_
      refine r_iadd F dX11_refuse_21 ?_
      obtain ⟨hg, hf⟩ := e_gd hf
      refine r_iast F dX11_refuse_22 h62 (e_le rfl) (e_lt hnx rfl) (e_vp hg) (l' := [(62, o62 (upd A62 (tn p0) ((A62 (tn p0)) + 1)))]) rfl ?_
      refine r_iconst F dX11_refuse_23 (v := (-1)) (by decide) ?_
      obtain rfl := Option.some.inj hf
      exact r_iret F hq dX11_refuse_24 rfl rfl (Nat.le_refl _) (Nat.le_refl _) ⟨rfl, rfl⟩

def fX11_gone (a32_10 : Bool) (A61 : Nat → Int32) (p0 : Int32) : Option (Int32) :=
  if a32_10 = true then
    if p0 < 0 then
      some (-1000000)
    else
      if 5 ≤ p0 then
        some (-1000000)
      else
        e_g (e_in p0 5) (
        some (A61 (tn p0)))
  else
    some (-1000000)
set_option maxRecDepth 100000 in
theorem tX11_gone_32 {G : eG} (hG : e_GS G) {la : Launch} {h : Nat → eO} {nx : Nat} (hnx : 99 ≤ nx) {a32_8 : Bool} {a32_10 : Bool} {A61 : Nat → Int32} {p0 : Int32} (h32 : h 32 = o32 a32_8 a32_10) (h61 : h 61 = o61 A61) {R9 : Int32} (hf : fX11_gone a32_10 A61 p0 = some R9) :
    eSem G la MX11_gone [.ref 32, .int p0] h nx 0 0 (fun r9 h9 => r9 = some (.int R9) ∧ h9 = h) := by
  refine eSem.of (k := 0) (L := [some (.ref 32), some (.int p0)]) (by decide +kernel) rfl rfl (fun X F hxl hq hcR hsR => ?_)
  subst hxl
  unfold fX11_gone at hf
  refine r_aload_n F dX11_gone_0 rfl ?_
  refine r_get F dX11_gone_1 flX11_124 h32 rfl (e_le rfl) (e_lt hnx rfl) ?_
  refine r_z_eq F dX11_gone_4 (tgt := 29) (by decide) (fun hc => ?_) (fun hc => ?_)
  · have hf := e_t hc hf
    refine r_iload_n F dX11_gone_7 rfl ?_
    refine r_if_lt F dX11_gone_8 (tgt := 29) (by decide) (fun hc => ?_) (fun hc => ?_)
    · have hf := e_t hc hf
      refine r_ldc F dX11_gone_29 kcX11_140 ?_
      obtain rfl := Option.some.inj hf
      exact r_iret F hq dX11_gone_31 rfl rfl (Nat.le_refl _) (Nat.le_refl _) ⟨rfl, rfl⟩
    · have hf := e_f hc hf
      refine r_iload_n F dX11_gone_11 rfl ?_
      refine r_aload_n F dX11_gone_12 rfl ?_
      refine r_get F dX11_gone_13 flX11_60 h32 rfl (e_le rfl) (e_lt hnx rfl) ?_
      refine r_alen F dX11_gone_16 h61 (e_le rfl) (e_lt hnx rfl) (v := 5) rfl ?_
      refine r_icmp_ge F dX11_gone_17 (tgt := 29) (by decide) (fun hc => ?_) (fun hc => ?_)
      · have hf := e_t hc hf
        refine r_ldc F dX11_gone_29 kcX11_140 ?_
        obtain rfl := Option.some.inj hf
        exact r_iret F hq dX11_gone_31 rfl rfl (Nat.le_refl _) (Nat.le_refl _) ⟨rfl, rfl⟩
      · have hf := e_f hc hf
        refine r_aload_n F dX11_gone_20 rfl ?_
        refine r_get F dX11_gone_21 flX11_60 h32 rfl (e_le rfl) (e_lt hnx rfl) ?_
        refine r_iload_n F dX11_gone_24 rfl ?_
        obtain ⟨hg, hf⟩ := e_gd hf
        refine r_iald F dX11_gone_25 (i := p0) h61 (e_le rfl) (e_lt hnx rfl) (e_vp hg) ?_
        refine r_goto F dX11_gone_26 (tgt := 31) (by decide) ?_
        obtain rfl := Option.some.inj hf
        exact r_iret F hq dX11_gone_31 rfl rfl (Nat.le_refl _) (Nat.le_refl _) ⟨rfl, rfl⟩
  · have hf := e_f hc hf
    refine r_ldc F dX11_gone_29 kcX11_140 ?_
    obtain rfl := Option.some.inj hf
    exact r_iret F hq dX11_gone_31 rfl rfl (Nat.le_refl _) (Nat.le_refl _) ⟨rfl, rfl⟩

def fX2_begin (a40_0 : Int32) (a40_1 : Int32) (a63_0 : Int32) (a63_1 : Int32) (a63_2 : Int32) (a63_3 : Int32)  : Option (Int32 × Int32 × Int32 × Int32) :=
  some (0, 0, a40_0 - 1, a40_1 - 1)
set_option maxRecDepth 100000 in
theorem tX2_begin_63_40 {G : eG} (hG : e_GS G) {la : Launch} {h : Nat → eO} {nx : Nat} (hnx : 99 ≤ nx) {a40_0 : Int32} {a40_1 : Int32} {a63_0 : Int32} {a63_1 : Int32} {a63_2 : Int32} {a63_3 : Int32}  (h40 : h 40 = o40 a40_0 a40_1) (h63 : h 63 = o63 a63_0 a63_1 a63_2 a63_3) {R9 : Int32 × Int32 × Int32 × Int32} (hf : fX2_begin a40_0 a40_1 a63_0 a63_1 a63_2 a63_3  = some R9) :
    eSem G la MX2_begin [.ref 63, .ref 40] h nx 0 0 (fun r9 h9 => r9 = none ∧ h9 = e_up h [(63, o63 R9.1 R9.2.1 R9.2.2.1 R9.2.2.2)]) := by
  refine eSem.of (k := 0) (L := [some (.ref 63), some (.ref 40)]) (by decide +kernel) rfl rfl (fun X F hxl hq hcR hsR => ?_)
  subst hxl
  unfold fX2_begin at hf
  refine r_aload_n F dX2_begin_0 rfl ?_
  refine r_iconst F dX2_begin_1 (v := 0) (by decide) ?_
  refine r_put F dX2_begin_2 flX2_28 rfl rfl rfl h63 (e_le rfl) (e_le rfl) (e_lt hnx rfl) (l' := [(63, o63 0 a63_1 a63_2 a63_3)]) rfl ?_
  refine r_aload_n F dX2_begin_5 rfl ?_
  refine r_iconst F dX2_begin_6 (v := 0) (by decide) ?_
  refine r_put F dX2_begin_7 flX2_31 rfl rfl rfl rfl (e_le rfl) (e_le rfl) (e_lt hnx rfl) (l' := [(63, o63 0 0 a63_2 a63_3)]) rfl ?_
  refine r_aload_n F dX2_begin_10 rfl ?_
  refine r_aload_n F dX2_begin_11 rfl ?_
  refine r_get F dX2_begin_12 flX2_34 h40 rfl (e_le rfl) (e_lt hnx rfl) ?_
  refine r_iconst F dX2_begin_15 (v := 1) (by decide) ?_
  refine r_isub F dX2_begin_16 ?_
  refine r_put F dX2_begin_17 flX2_13 rfl rfl rfl rfl (e_le rfl) (e_le rfl) (e_lt hnx rfl) (l' := [(63, o63 0 0 (a40_0 - 1) a63_3)]) rfl ?_
  refine r_aload_n F dX2_begin_20 rfl ?_
  refine r_aload_n F dX2_begin_21 rfl ?_
  refine r_get F dX2_begin_22 flX2_39 h40 rfl (e_le rfl) (e_lt hnx rfl) ?_
  refine r_iconst F dX2_begin_25 (v := 1) (by decide) ?_
  refine r_isub F dX2_begin_26 ?_
  refine r_put F dX2_begin_27 flX2_17 rfl rfl rfl rfl (e_le rfl) (e_le rfl) (e_lt hnx rfl) (l' := [(63, o63 0 0 (a40_0 - 1) (a40_1 - 1))]) rfl ?_
  obtain rfl := Option.some.inj hf
  exact r_vret F hq dX2_begin_30 rfl rfl (Nat.le_refl _) (Nat.le_refl _) ⟨rfl, rfl⟩

def fX2_isPlain (a40_0 : Int32) (a40_1 : Int32) (a63_0 : Int32) (a63_1 : Int32) (A41 : Nat → Int32) (p1 : Int32) (p2 : Int32) : Option (Bool) :=
  (fX7_sumRound a40_0 a40_1 A41 a63_0 a63_1 p1 p2 0).bind (fun q1 =>
  if q1 = 0 then
    (fX7_sumRound a40_0 a40_1 A41 a63_0 a63_1 p1 p2 1).bind (fun q3 =>
    if q3 = 0 then
      some true
    else
      some false)
  else
    some false)
set_option maxRecDepth 100000 in
theorem tX2_isPlain_63_40 {G : eG} (hG : e_GS G) {la : Launch} {h : Nat → eO} {nx : Nat} (hnx : 99 ≤ nx) {a40_0 : Int32} {a40_1 : Int32} {A41 : Nat → Int32} {a63_0 : Int32} {a63_1 : Int32} {a63_2 : Int32} {a63_3 : Int32} {p1 : Int32} {p2 : Int32} (h40 : h 40 = o40 a40_0 a40_1) (h41 : h 41 = o41 A41) (h63 : h 63 = o63 a63_0 a63_1 a63_2 a63_3) {R9 : Bool} (hf : fX2_isPlain a40_0 a40_1 a63_0 a63_1 A41 p1 p2 = some R9) :
    eSem G la MX2_isPlain [.ref 63, .ref 40, .int p1, .int p2] h nx 0 0 (fun r9 h9 => r9 = some (.int (e_b R9)) ∧ h9 = h) := by
  refine eSem.of (k := 0) (L := [some (.ref 63), some (.ref 40), some (.int p1), some (.int p2)]) (by decide +kernel) rfl rfl (fun X F hxl hq hcR hsR => ?_)
  subst hxl
  unfold fX2_isPlain at hf
  refine r_aload_n F dX2_isPlain_0 rfl ?_
  refine r_aload_n F dX2_isPlain_1 rfl ?_
  refine r_get F dX2_isPlain_2 flX2_28 h63 rfl (e_le rfl) (e_lt hnx rfl) ?_
  refine r_aload_n F dX2_isPlain_5 rfl ?_
  refine r_get F dX2_isPlain_6 flX2_31 h63 rfl (e_le rfl) (e_lt hnx rfl) ?_
  refine r_iload_n F dX2_isPlain_9 rfl ?_
  refine r_iload_n F dX2_isPlain_10 rfl ?_
  refine r_iconst F dX2_isPlain_11 (v := 0) (by decide) ?_
  obtain ⟨q1, hq2, hf⟩ := e_bd hf
  refine r_callV F dX2_isPlain_12 (b := 40) (dc := 0) (ds := 0) (As := [.int a63_0, .int a63_1, .int p1, .int p2, .int 0]) (S0 := []) lkX2_42 mX7_sumRound (tX7_sumRound_40 hG (la := x_l X) (h := e_up h []) hnx h40 h41 hq2) rfl rfl rfl (e_le rfl) (e_le rfl) (e_le rfl) h40 (ci := 7) e_cl7.1 rfl (e_le rfl) (e_lt hnx rfl) (Nat.zero_le _) (Nat.zero_le _) (e_k ?_)
  refine r_wr0 ?_
  refine r_if_ne F dX2_isPlain_15 (tgt := 40) (by decide) (fun hc => ?_) (fun hc => ?_)
  · have hf := e_f hc hf
    refine r_iconst F dX2_isPlain_40 (v := 0) (by decide) ?_
    obtain rfl := Option.some.inj hf
    exact r_zret F hq (v := false) dX2_isPlain_41 rfl rfl (Nat.le_refl _) (Nat.le_refl _) ⟨rfl, rfl⟩
  · have hf := e_t hc hf
    refine r_aload_n F dX2_isPlain_18 rfl ?_
    refine r_aload_n F dX2_isPlain_19 rfl ?_
    refine r_get F dX2_isPlain_20 flX2_28 h63 rfl (e_le rfl) (e_lt hnx rfl) ?_
    refine r_aload_n F dX2_isPlain_23 rfl ?_
    refine r_get F dX2_isPlain_24 flX2_31 h63 rfl (e_le rfl) (e_lt hnx rfl) ?_
    refine r_iload_n F dX2_isPlain_27 rfl ?_
    refine r_iload_n F dX2_isPlain_28 rfl ?_
    refine r_iconst F dX2_isPlain_29 (v := 1) (by decide) ?_
    obtain ⟨q3, hq4, hf⟩ := e_bd hf
    refine r_callV F dX2_isPlain_30 (b := 40) (dc := 0) (ds := 0) (As := [.int a63_0, .int a63_1, .int p1, .int p2, .int 1]) (S0 := []) lkX2_42 mX7_sumRound (tX7_sumRound_40 hG (la := x_l X) (h := e_up h []) hnx h40 h41 hq4) rfl rfl rfl (e_le rfl) (e_le rfl) (e_le rfl) h40 (ci := 7) e_cl7.1 rfl (e_le rfl) (e_lt hnx rfl) (Nat.zero_le _) (Nat.zero_le _) (e_k ?_)
    refine r_wr0 ?_
    refine r_if_ne F dX2_isPlain_33 (tgt := 40) (by decide) (fun hc => ?_) (fun hc => ?_)
    · have hf := e_f hc hf
      refine r_iconst F dX2_isPlain_40 (v := 0) (by decide) ?_
      obtain rfl := Option.some.inj hf
      exact r_zret F hq (v := false) dX2_isPlain_41 rfl rfl (Nat.le_refl _) (Nat.le_refl _) ⟨rfl, rfl⟩
    · have hf := e_t hc hf
      refine r_iconst F dX2_isPlain_36 (v := 1) (by decide) ?_
      refine r_goto F dX2_isPlain_37 (tgt := 41) (by decide) ?_
      obtain rfl := Option.some.inj hf
      exact r_zret F hq (v := true) dX2_isPlain_41 rfl rfl (Nat.le_refl _) (Nat.le_refl _) ⟨rfl, rfl⟩

def fX2_narrow (a40_0 : Int32) (a40_1 : Int32) (a63_0 : Int32) (a63_1 : Int32) (a63_2 : Int32) (a63_3 : Int32) (A41 : Nat → Int32)  : Option (Bool × Int32 × Int32 × Int32 × Int32) :=
  if 1 < (a63_2 - a63_0) then
    if (a63_2 - a63_0) < (a63_3 - a63_1) then
      (fX2_isPlain a40_0 a40_1 a63_0 a63_1 A41 a63_2 (a63_1 + ((a63_3 - a63_1) / 2))).bind (fun q1 =>
      if q1 = true then
        some (true, a63_0, a63_1 + ((a63_3 - a63_1) / 2), a63_2, a63_3)
      else
        some (true, a63_0, a63_1, a63_2, a63_1 + ((a63_3 - a63_1) / 2)))
    else
      (fX2_isPlain a40_0 a40_1 a63_0 a63_1 A41 (a63_0 + ((a63_2 - a63_0) / 2)) a63_3).bind (fun q3 =>
      if q3 = true then
        some (true, a63_0 + ((a63_2 - a63_0) / 2), a63_1, a63_2, a63_3)
      else
        some (true, a63_0, a63_1, a63_0 + ((a63_2 - a63_0) / 2), a63_3))
  else
    if 1 < (a63_3 - a63_1) then
      if (a63_2 - a63_0) < (a63_3 - a63_1) then
        (fX2_isPlain a40_0 a40_1 a63_0 a63_1 A41 a63_2 (a63_1 + ((a63_3 - a63_1) / 2))).bind (fun q5 =>
        if q5 = true then
          some (true, a63_0, a63_1 + ((a63_3 - a63_1) / 2), a63_2, a63_3)
        else
          some (true, a63_0, a63_1, a63_2, a63_1 + ((a63_3 - a63_1) / 2)))
      else
        (fX2_isPlain a40_0 a40_1 a63_0 a63_1 A41 (a63_0 + ((a63_2 - a63_0) / 2)) a63_3).bind (fun q7 =>
        if q7 = true then
          some (true, a63_0 + ((a63_2 - a63_0) / 2), a63_1, a63_2, a63_3)
        else
          some (true, a63_0, a63_1, a63_0 + ((a63_2 - a63_0) / 2), a63_3))
    else
      some (false, a63_0, a63_1, a63_2, a63_3)
set_option maxRecDepth 100000 in
theorem tX2_narrow_63_40 {G : eG} (hG : e_GS G) {la : Launch} {h : Nat → eO} {nx : Nat} (hnx : 99 ≤ nx) {a40_0 : Int32} {a40_1 : Int32} {A41 : Nat → Int32} {a63_0 : Int32} {a63_1 : Int32} {a63_2 : Int32} {a63_3 : Int32}  (h40 : h 40 = o40 a40_0 a40_1) (h41 : h 41 = o41 A41) (h63 : h 63 = o63 a63_0 a63_1 a63_2 a63_3) {R9 : Bool × Int32 × Int32 × Int32 × Int32} (hf : fX2_narrow a40_0 a40_1 a63_0 a63_1 a63_2 a63_3 A41  = some R9) :
    eSem G la MX2_narrow [.ref 63, .ref 40] h nx 0 0 (fun r9 h9 => r9 = some (.int (e_b R9.1)) ∧ h9 = e_up h [(63, o63 R9.2.1 R9.2.2.1 R9.2.2.2.1 R9.2.2.2.2)]) := by
  refine eSem.of (k := 3) (L := [some (.ref 63), some (.ref 40), none, none, none]) (by decide +kernel) rfl rfl (fun X F hxl hq hcR hsR => ?_)
  subst hxl
  unfold fX2_narrow at hf
  refine r_aload_n F dX2_narrow_0 rfl ?_
  refine r_get F dX2_narrow_1 flX2_13 h63 rfl (e_le rfl) (e_lt hnx rfl) ?_
  refine r_aload_n F dX2_narrow_4 rfl ?_
  refine r_get F dX2_narrow_5 flX2_28 h63 rfl (e_le rfl) (e_lt hnx rfl) ?_
  refine r_isub F dX2_narrow_8 ?_
  refine r_istore_n F dX2_narrow_9 (e_le rfl) (L' := [some (.ref 63), some (.ref 40), some (.int (a63_2 - a63_0)), none, none]) rfl ?_
  refine r_aload_n F dX2_narrow_10 rfl ?_
  refine r_get F dX2_narrow_11 flX2_17 h63 rfl (e_le rfl) (e_lt hnx rfl) ?_
  refine r_aload_n F dX2_narrow_14 rfl ?_
  refine r_get F dX2_narrow_15 flX2_31 h63 rfl (e_le rfl) (e_lt hnx rfl) ?_
  refine r_isub F dX2_narrow_18 ?_
  refine r_istore_n F dX2_narrow_19 (e_le rfl) (L' := [some (.ref 63), some (.ref 40), some (.int (a63_2 - a63_0)), some (.int (a63_3 - a63_1)), none]) rfl ?_
  refine r_iload_n F dX2_narrow_20 rfl ?_
  refine r_iconst F dX2_narrow_21 (v := 1) (by decide) ?_
  refine r_icmp_gt F dX2_narrow_22 (tgt := 32) (by decide) (fun hc => ?_) (fun hc => ?_)
  · have hf := e_t hc hf
    refine r_iload_n F dX2_narrow_32 rfl ?_
    refine r_iload_n F dX2_narrow_33 rfl ?_
    refine r_icmp_lt F dX2_narrow_34 (tgt := 79) (by decide) (fun hc => ?_) (fun hc => ?_)
    · have hf := e_t hc hf
      refine r_aload_n F dX2_narrow_79 rfl ?_
      refine r_get F dX2_narrow_80 flX2_31 h63 rfl (e_le rfl) (e_lt hnx rfl) ?_
      refine r_iload_n F dX2_narrow_83 rfl ?_
      refine r_iconst F dX2_narrow_84 (v := 2) (by decide) ?_
      refine r_idiv F dX2_narrow_85 (by decide) ?_
      refine r_iadd F dX2_narrow_86 ?_
      refine r_istore F dX2_narrow_87 (e_le rfl) (L' := [some (.ref 63), some (.ref 40), some (.int (a63_2 - a63_0)), some (.int (a63_3 - a63_1)), some (.int (a63_1 + ((a63_3 - a63_1) / 2)))]) rfl ?_
      refine r_aload_n F dX2_narrow_89 rfl ?_
      refine r_aload_n F dX2_narrow_90 rfl ?_
      refine r_aload_n F dX2_narrow_91 rfl ?_
      refine r_get F dX2_narrow_92 flX2_13 h63 rfl (e_le rfl) (e_lt hnx rfl) ?_
      refine r_iload F dX2_narrow_95 rfl ?_
      obtain ⟨q1, hq2, hf⟩ := e_bd hf
      refine r_callV F dX2_narrow_97 (b := 63) (dc := 0) (ds := 0) (As := [.ref 40, .int a63_2, .int (a63_1 + ((a63_3 - a63_1) / 2))]) (S0 := []) lkX2_20 mX2_isPlain (tX2_isPlain_63_40 hG (la := x_l X) (h := e_up h []) hnx h40 h41 h63 hq2) rfl rfl rfl (e_le rfl) (e_le rfl) (e_le rfl) h63 (ci := 2) e_cl2.1 rfl (e_le rfl) (e_lt hnx rfl) (Nat.zero_le _) (Nat.zero_le _) (e_k ?_)
      refine r_wr0 ?_
      refine r_z_eq F dX2_narrow_100 (tgt := 112) (by decide) (fun hc => ?_) (fun hc => ?_)
      · have hf := e_t hc hf
        refine r_aload_n F dX2_narrow_103 rfl ?_
        refine r_iload F dX2_narrow_104 rfl ?_
        refine r_put F dX2_narrow_106 flX2_31 rfl rfl rfl h63 (e_le rfl) (e_le rfl) (e_lt hnx rfl) (l' := [(63, o63 a63_0 (a63_1 + ((a63_3 - a63_1) / 2)) a63_2 a63_3)]) rfl ?_
        refine r_goto F dX2_narrow_109 (tgt := 118) (by decide) ?_
        refine r_iconst F dX2_narrow_118 (v := 1) (by decide) ?_
        obtain rfl := Option.some.inj hf
        exact r_zret F hq (v := true) dX2_narrow_119 rfl rfl (Nat.le_refl _) (Nat.le_refl _) ⟨rfl, rfl⟩
      · have hf := e_f hc hf
        refine r_aload_n F dX2_narrow_112 rfl ?_
        refine r_iload F dX2_narrow_113 rfl ?_
        refine r_put F dX2_narrow_115 flX2_17 rfl rfl rfl h63 (e_le rfl) (e_le rfl) (e_lt hnx rfl) (l' := [(63, o63 a63_0 a63_1 a63_2 (a63_1 + ((a63_3 - a63_1) / 2)))]) rfl ?_
        refine r_iconst F dX2_narrow_118 (v := 1) (by decide) ?_
        obtain rfl := Option.some.inj hf
        exact r_zret F hq (v := true) dX2_narrow_119 rfl rfl (Nat.le_refl _) (Nat.le_refl _) ⟨rfl, rfl⟩
    · have hf := e_f hc hf
      refine r_aload_n F dX2_narrow_37 rfl ?_
      refine r_get F dX2_narrow_38 flX2_28 h63 rfl (e_le rfl) (e_lt hnx rfl) ?_
      refine r_iload_n F dX2_narrow_41 rfl ?_
      refine r_iconst F dX2_narrow_42 (v := 2) (by decide) ?_
      refine r_idiv F dX2_narrow_43 (by decide) ?_
      refine r_iadd F dX2_narrow_44 ?_
      refine r_istore F dX2_narrow_45 (e_le rfl) (L' := [some (.ref 63), some (.ref 40), some (.int (a63_2 - a63_0)), some (.int (a63_3 - a63_1)), some (.int (a63_0 + ((a63_2 - a63_0) / 2)))]) rfl ?_
      refine r_aload_n F dX2_narrow_47 rfl ?_
      refine r_aload_n F dX2_narrow_48 rfl ?_
      refine r_iload F dX2_narrow_49 rfl ?_
      refine r_aload_n F dX2_narrow_51 rfl ?_
      refine r_get F dX2_narrow_52 flX2_17 h63 rfl (e_le rfl) (e_lt hnx rfl) ?_
      obtain ⟨q3, hq4, hf⟩ := e_bd hf
      refine r_callV F dX2_narrow_55 (b := 63) (dc := 0) (ds := 0) (As := [.ref 40, .int (a63_0 + ((a63_2 - a63_0) / 2)), .int a63_3]) (S0 := []) lkX2_20 mX2_isPlain (tX2_isPlain_63_40 hG (la := x_l X) (h := e_up h []) hnx h40 h41 h63 hq4) rfl rfl rfl (e_le rfl) (e_le rfl) (e_le rfl) h63 (ci := 2) e_cl2.1 rfl (e_le rfl) (e_lt hnx rfl) (Nat.zero_le _) (Nat.zero_le _) (e_k ?_)
      refine r_wr0 ?_
      refine r_z_eq F dX2_narrow_58 (tgt := 70) (by decide) (fun hc => ?_) (fun hc => ?_)
      · have hf := e_t hc hf
        refine r_aload_n F dX2_narrow_61 rfl ?_
        refine r_iload F dX2_narrow_62 rfl ?_
        refine r_put F dX2_narrow_64 flX2_28 rfl rfl rfl h63 (e_le rfl) (e_le rfl) (e_lt hnx rfl) (l' := [(63, o63 (a63_0 + ((a63_2 - a63_0) / 2)) a63_1 a63_2 a63_3)]) rfl ?_
        refine r_goto F dX2_narrow_67 (tgt := 76) (by decide) ?_
        refine r_goto F dX2_narrow_76 (tgt := 118) (by decide) ?_
        refine r_iconst F dX2_narrow_118 (v := 1) (by decide) ?_
        obtain rfl := Option.some.inj hf
        exact r_zret F hq (v := true) dX2_narrow_119 rfl rfl (Nat.le_refl _) (Nat.le_refl _) ⟨rfl, rfl⟩
      · have hf := e_f hc hf
        refine r_aload_n F dX2_narrow_70 rfl ?_
        refine r_iload F dX2_narrow_71 rfl ?_
        refine r_put F dX2_narrow_73 flX2_13 rfl rfl rfl h63 (e_le rfl) (e_le rfl) (e_lt hnx rfl) (l' := [(63, o63 a63_0 a63_1 (a63_0 + ((a63_2 - a63_0) / 2)) a63_3)]) rfl ?_
        refine r_goto F dX2_narrow_76 (tgt := 118) (by decide) ?_
        refine r_iconst F dX2_narrow_118 (v := 1) (by decide) ?_
        obtain rfl := Option.some.inj hf
        exact r_zret F hq (v := true) dX2_narrow_119 rfl rfl (Nat.le_refl _) (Nat.le_refl _) ⟨rfl, rfl⟩
  · have hf := e_f hc hf
    refine r_iload_n F dX2_narrow_25 rfl ?_
    refine r_iconst F dX2_narrow_26 (v := 1) (by decide) ?_
    refine r_icmp_gt F dX2_narrow_27 (tgt := 32) (by decide) (fun hc => ?_) (fun hc => ?_)
    · have hf := e_t hc hf
      refine r_iload_n F dX2_narrow_32 rfl ?_
      refine r_iload_n F dX2_narrow_33 rfl ?_
      refine r_icmp_lt F dX2_narrow_34 (tgt := 79) (by decide) (fun hc => ?_) (fun hc => ?_)
      · have hf := e_t hc hf
        refine r_aload_n F dX2_narrow_79 rfl ?_
        refine r_get F dX2_narrow_80 flX2_31 h63 rfl (e_le rfl) (e_lt hnx rfl) ?_
        refine r_iload_n F dX2_narrow_83 rfl ?_
        refine r_iconst F dX2_narrow_84 (v := 2) (by decide) ?_
        refine r_idiv F dX2_narrow_85 (by decide) ?_
        refine r_iadd F dX2_narrow_86 ?_
        refine r_istore F dX2_narrow_87 (e_le rfl) (L' := [some (.ref 63), some (.ref 40), some (.int (a63_2 - a63_0)), some (.int (a63_3 - a63_1)), some (.int (a63_1 + ((a63_3 - a63_1) / 2)))]) rfl ?_
        refine r_aload_n F dX2_narrow_89 rfl ?_
        refine r_aload_n F dX2_narrow_90 rfl ?_
        refine r_aload_n F dX2_narrow_91 rfl ?_
        refine r_get F dX2_narrow_92 flX2_13 h63 rfl (e_le rfl) (e_lt hnx rfl) ?_
        refine r_iload F dX2_narrow_95 rfl ?_
        obtain ⟨q5, hq6, hf⟩ := e_bd hf
        refine r_callV F dX2_narrow_97 (b := 63) (dc := 0) (ds := 0) (As := [.ref 40, .int a63_2, .int (a63_1 + ((a63_3 - a63_1) / 2))]) (S0 := []) lkX2_20 mX2_isPlain (tX2_isPlain_63_40 hG (la := x_l X) (h := e_up h []) hnx h40 h41 h63 hq6) rfl rfl rfl (e_le rfl) (e_le rfl) (e_le rfl) h63 (ci := 2) e_cl2.1 rfl (e_le rfl) (e_lt hnx rfl) (Nat.zero_le _) (Nat.zero_le _) (e_k ?_)
        refine r_wr0 ?_
        refine r_z_eq F dX2_narrow_100 (tgt := 112) (by decide) (fun hc => ?_) (fun hc => ?_)
        · have hf := e_t hc hf
          refine r_aload_n F dX2_narrow_103 rfl ?_
          refine r_iload F dX2_narrow_104 rfl ?_
          refine r_put F dX2_narrow_106 flX2_31 rfl rfl rfl h63 (e_le rfl) (e_le rfl) (e_lt hnx rfl) (l' := [(63, o63 a63_0 (a63_1 + ((a63_3 - a63_1) / 2)) a63_2 a63_3)]) rfl ?_
          refine r_goto F dX2_narrow_109 (tgt := 118) (by decide) ?_
          refine r_iconst F dX2_narrow_118 (v := 1) (by decide) ?_
          obtain rfl := Option.some.inj hf
          exact r_zret F hq (v := true) dX2_narrow_119 rfl rfl (Nat.le_refl _) (Nat.le_refl _) ⟨rfl, rfl⟩
        · have hf := e_f hc hf
          refine r_aload_n F dX2_narrow_112 rfl ?_
          refine r_iload F dX2_narrow_113 rfl ?_
          refine r_put F dX2_narrow_115 flX2_17 rfl rfl rfl h63 (e_le rfl) (e_le rfl) (e_lt hnx rfl) (l' := [(63, o63 a63_0 a63_1 a63_2 (a63_1 + ((a63_3 - a63_1) / 2)))]) rfl ?_
          refine r_iconst F dX2_narrow_118 (v := 1) (by decide) ?_
          obtain rfl := Option.some.inj hf
          exact r_zret F hq (v := true) dX2_narrow_119 rfl rfl (Nat.le_refl _) (Nat.le_refl _) ⟨rfl, rfl⟩
      · have hf := e_f hc hf
        refine r_aload_n F dX2_narrow_37 rfl ?_
        refine r_get F dX2_narrow_38 flX2_28 h63 rfl (e_le rfl) (e_lt hnx rfl) ?_
        refine r_iload_n F dX2_narrow_41 rfl ?_
        refine r_iconst F dX2_narrow_42 (v := 2) (by decide) ?_
        refine r_idiv F dX2_narrow_43 (by decide) ?_
        refine r_iadd F dX2_narrow_44 ?_
        refine r_istore F dX2_narrow_45 (e_le rfl) (L' := [some (.ref 63), some (.ref 40), some (.int (a63_2 - a63_0)), some (.int (a63_3 - a63_1)), some (.int (a63_0 + ((a63_2 - a63_0) / 2)))]) rfl ?_
        refine r_aload_n F dX2_narrow_47 rfl ?_
        refine r_aload_n F dX2_narrow_48 rfl ?_
        refine r_iload F dX2_narrow_49 rfl ?_
        refine r_aload_n F dX2_narrow_51 rfl ?_
        refine r_get F dX2_narrow_52 flX2_17 h63 rfl (e_le rfl) (e_lt hnx rfl) ?_
        obtain ⟨q7, hq8, hf⟩ := e_bd hf
        refine r_callV F dX2_narrow_55 (b := 63) (dc := 0) (ds := 0) (As := [.ref 40, .int (a63_0 + ((a63_2 - a63_0) / 2)), .int a63_3]) (S0 := []) lkX2_20 mX2_isPlain (tX2_isPlain_63_40 hG (la := x_l X) (h := e_up h []) hnx h40 h41 h63 hq8) rfl rfl rfl (e_le rfl) (e_le rfl) (e_le rfl) h63 (ci := 2) e_cl2.1 rfl (e_le rfl) (e_lt hnx rfl) (Nat.zero_le _) (Nat.zero_le _) (e_k ?_)
        refine r_wr0 ?_
        refine r_z_eq F dX2_narrow_58 (tgt := 70) (by decide) (fun hc => ?_) (fun hc => ?_)
        · have hf := e_t hc hf
          refine r_aload_n F dX2_narrow_61 rfl ?_
          refine r_iload F dX2_narrow_62 rfl ?_
          refine r_put F dX2_narrow_64 flX2_28 rfl rfl rfl h63 (e_le rfl) (e_le rfl) (e_lt hnx rfl) (l' := [(63, o63 (a63_0 + ((a63_2 - a63_0) / 2)) a63_1 a63_2 a63_3)]) rfl ?_
          refine r_goto F dX2_narrow_67 (tgt := 76) (by decide) ?_
          refine r_goto F dX2_narrow_76 (tgt := 118) (by decide) ?_
          refine r_iconst F dX2_narrow_118 (v := 1) (by decide) ?_
          obtain rfl := Option.some.inj hf
          exact r_zret F hq (v := true) dX2_narrow_119 rfl rfl (Nat.le_refl _) (Nat.le_refl _) ⟨rfl, rfl⟩
        · have hf := e_f hc hf
          refine r_aload_n F dX2_narrow_70 rfl ?_
          refine r_iload F dX2_narrow_71 rfl ?_
          refine r_put F dX2_narrow_73 flX2_13 rfl rfl rfl h63 (e_le rfl) (e_le rfl) (e_lt hnx rfl) (l' := [(63, o63 a63_0 a63_1 (a63_0 + ((a63_2 - a63_0) / 2)) a63_3)]) rfl ?_
          refine r_goto F dX2_narrow_76 (tgt := 118) (by decide) ?_
          refine r_iconst F dX2_narrow_118 (v := 1) (by decide) ?_
          obtain rfl := Option.some.inj hf
          exact r_zret F hq (v := true) dX2_narrow_119 rfl rfl (Nat.le_refl _) (Nat.le_refl _) ⟨rfl, rfl⟩
    · have hf := e_f hc hf
      refine r_iconst F dX2_narrow_30 (v := 0) (by decide) ?_
      refine r_mat (k := 63) h63 (l' := [(63, o63 a63_0 a63_1 a63_2 a63_3)]) rfl ?_
      obtain rfl := Option.some.inj hf
      exact r_zret F hq (v := false) dX2_narrow_31 rfl rfl (Nat.le_refl _) (Nat.le_refl _) ⟨rfl, rfl⟩

def fX2_boxesOf (a40_0 : Int32) (a40_1 : Int32) (a63_0 : Int32) (a63_1 : Int32) (a63_2 : Int32) (a63_3 : Int32) (A41 : Nat → Int32)  : Option (Int32 × Int32 × Int32 × Int32 × Int32) :=
  (fX2_begin a40_0 a40_1 a63_0 a63_1 a63_2 a63_3).bind (fun q1 =>
  (fX2_isPlain a40_0 a40_1 q1.1 q1.2.1 A41 q1.2.2.1 q1.2.2.2).bind (fun q3 =>
  if q3 = true then
    some (0, q1.1, q1.2.1, q1.2.2.1, q1.2.2.2)
  else
    (e_loop (fun (v7 : Int32 × Int32 × Int32 × Int32 × Int32 × Int32) => (
        if 6 ≤ v7.2.1 then
          some (.inr (v7.1, v7.2.2.1, v7.2.2.2.1, v7.2.2.2.2.1, v7.2.2.2.2.2))
        else
          (fX2_narrow a40_0 a40_1 v7.2.2.1 v7.2.2.2.1 v7.2.2.2.2.1 v7.2.2.2.2.2 A41).bind (fun q10 =>
          if q10.1 = true then
            some (.inl (v7.1 + 1, v7.2.1 + 1, q10.2.1, q10.2.2.1, q10.2.2.2.1, q10.2.2.2.2))
          else
            some (.inr (v7.1, q10.2.1, q10.2.2.1, q10.2.2.2.1, q10.2.2.2.2))) : Option ((Int32 × Int32 × Int32 × Int32 × Int32 × Int32) ⊕ (Int32 × Int32 × Int32 × Int32 × Int32)))) e_fuel (1, 0, q1.1, q1.2.1, q1.2.2.1, q1.2.2.2)).bind (fun x8 =>
    some (x8.1, x8.2.1, x8.2.2.1, x8.2.2.2.1, x8.2.2.2.2))))
set_option maxRecDepth 100000 in
theorem tX2_boxesOf_63_40 {G : eG} (hG : e_GS G) {la : Launch} {h : Nat → eO} {nx : Nat} (hnx : 99 ≤ nx) {a40_0 : Int32} {a40_1 : Int32} {A41 : Nat → Int32} {a63_0 : Int32} {a63_1 : Int32} {a63_2 : Int32} {a63_3 : Int32}  (h40 : h 40 = o40 a40_0 a40_1) (h41 : h 41 = o41 A41) (h63 : h 63 = o63 a63_0 a63_1 a63_2 a63_3) {R9 : Int32 × Int32 × Int32 × Int32 × Int32} (hf : fX2_boxesOf a40_0 a40_1 a63_0 a63_1 a63_2 a63_3 A41  = some R9) :
    eSem G la MX2_boxesOf [.ref 63, .ref 40] h nx 0 0 (fun r9 h9 => r9 = some (.int R9.1) ∧ h9 = e_up h [(63, o63 R9.2.1 R9.2.2.1 R9.2.2.2.1 R9.2.2.2.2)]) := by
  refine eSem.of (k := 2) (L := [some (.ref 63), some (.ref 40), none, none]) (by decide +kernel) rfl rfl (fun X F hxl hq hcR hsR => ?_)
  subst hxl
  unfold fX2_boxesOf at hf
  refine r_aload_n F dX2_boxesOf_0 rfl ?_
  refine r_aload_n F dX2_boxesOf_1 rfl ?_
  obtain ⟨q1, hq2, hf⟩ := e_bd hf
  refine r_callV F dX2_boxesOf_2 (b := 63) (dc := 0) (ds := 0) (As := [.ref 40]) (S0 := []) lkX2_7 mX2_begin (tX2_begin_63_40 hG (la := x_l X) (h := e_up h []) hnx h40 h63 hq2) rfl rfl rfl (e_le rfl) (e_le rfl) (e_le rfl) h63 (ci := 2) e_cl2.1 rfl (e_le rfl) (e_lt hnx rfl) (Nat.zero_le _) (Nat.zero_le _) (e_k ?_)
  refine r_wr (l' := [(63, o63 q1.1 q1.2.1 q1.2.2.1 q1.2.2.2)]) rfl rfl ?_
  refine r_aload_n F dX2_boxesOf_5 rfl ?_
  refine r_aload_n F dX2_boxesOf_6 rfl ?_
  refine r_aload_n F dX2_boxesOf_7 rfl ?_
  refine r_get F dX2_boxesOf_8 flX2_13 rfl rfl (e_le rfl) (e_lt hnx rfl) ?_
  refine r_aload_n F dX2_boxesOf_11 rfl ?_
  refine r_get F dX2_boxesOf_12 flX2_17 rfl rfl (e_le rfl) (e_lt hnx rfl) ?_
  obtain ⟨q3, hq4, hf⟩ := e_bd hf
  refine r_callV F dX2_boxesOf_15 (b := 63) (dc := 0) (ds := 0) (As := [.ref 40, .int q1.2.2.1, .int q1.2.2.2]) (S0 := []) lkX2_20 mX2_isPlain (tX2_isPlain_63_40 hG (la := x_l X) (h := e_up h [(63, o63 q1.1 q1.2.1 q1.2.2.1 q1.2.2.2)]) hnx h40 h41 rfl hq4) rfl rfl rfl (e_le rfl) (e_le rfl) (e_le rfl) rfl (ci := 2) e_cl2.1 rfl (e_le rfl) (e_lt hnx rfl) (Nat.zero_le _) (Nat.zero_le _) (e_k ?_)
  refine r_wr0 ?_
  refine r_z_eq F dX2_boxesOf_18 (tgt := 23) (by decide) (fun hc => ?_) (fun hc => ?_)
  · have hf := e_t hc hf
    refine r_iconst F dX2_boxesOf_21 (v := 0) (by decide) ?_
    obtain rfl := Option.some.inj hf
    exact r_iret F hq dX2_boxesOf_22 rfl rfl (Nat.le_refl _) (Nat.le_refl _) ⟨rfl, rfl⟩
  · have hf := e_f hc hf
    refine r_iconst F dX2_boxesOf_23 (v := 1) (by decide) ?_
    refine r_istore_n F dX2_boxesOf_24 (e_le rfl) (L' := [some (.ref 63), some (.ref 40), some (.int 1), none]) rfl ?_
    refine r_iconst F dX2_boxesOf_25 (v := 0) (by decide) ?_
    refine r_istore_n F dX2_boxesOf_26 (e_le rfl) (L' := [some (.ref 63), some (.ref 40), some (.int 1), some (.int 0)]) rfl ?_
    obtain ⟨x8, hx9, hf⟩ := e_bd hf
    refine (e_loop_ok (P := fun (v7 : Int32 × Int32 × Int32 × Int32 × Int32 × Int32) => eRun G X 27 [some (.ref 63), some (.ref 40), some (.int v7.1), some (.int v7.2.1)] [] h [(63, o63 v7.2.2.1 v7.2.2.2.1 v7.2.2.2.2.1 v7.2.2.2.2.2)] nx 0 0) (K := fun (x8 : Int32 × Int32 × Int32 × Int32 × Int32) => eRun G X 50 [none, none, some (.int x8.1), none] [] h [(63, o63 x8.2.1 x8.2.2.1 x8.2.2.2.1 x8.2.2.2.2)] nx 0 0) ?_ e_fuel (1, 0, q1.1, q1.2.1, q1.2.2.1, q1.2.2.2) x8 hx9 ?_ : _)
    · intro v7 z hz ih hx
      refine r_iload_n F dX2_boxesOf_27 rfl ?_
      refine r_bipush F dX2_boxesOf_28 (v := 6) (by decide) ?_
      refine r_icmp_ge F dX2_boxesOf_30 (tgt := 50) (by decide) (fun hc => ?_) (fun hc => ?_)
      · have hz := e_t hc hz
        refine r_drop 0 (L' := [none, some (.ref 40), some (.int v7.1), some (.int v7.2.1)]) rfl ?_
        refine r_drop 1 (L' := [none, none, some (.int v7.1), some (.int v7.2.1)]) rfl ?_
        refine r_drop 3 (L' := [none, none, some (.int v7.1), none]) rfl ?_
        obtain rfl := Option.some.inj hz
        exact hx (v7.1, v7.2.2.1, v7.2.2.2.1, v7.2.2.2.2.1, v7.2.2.2.2.2) rfl
      · have hz := e_f hc hz
        refine r_aload_n F dX2_boxesOf_33 rfl ?_
        refine r_aload_n F dX2_boxesOf_34 rfl ?_
        obtain ⟨q10, hq11, hz⟩ := e_bd hz
        refine r_callV F dX2_boxesOf_35 (b := 63) (dc := 0) (ds := 0) (As := [.ref 40]) (S0 := []) lkX2_24 mX2_narrow (tX2_narrow_63_40 hG (la := x_l X) (h := e_up h [(63, o63 v7.2.2.1 v7.2.2.2.1 v7.2.2.2.2.1 v7.2.2.2.2.2)]) hnx h40 h41 rfl hq11) rfl rfl rfl (e_le rfl) (e_le rfl) (e_le rfl) rfl (ci := 2) e_cl2.1 rfl (e_le rfl) (e_lt hnx rfl) (Nat.zero_le _) (Nat.zero_le _) (e_k ?_)
        refine r_wr (l' := [(63, o63 q10.2.1 q10.2.2.1 q10.2.2.2.1 q10.2.2.2.2)]) rfl rfl ?_
        refine r_z_eq F dX2_boxesOf_38 (tgt := 50) (by decide) (fun hc => ?_) (fun hc => ?_)
        · have hz := e_t hc hz
          refine r_inc F dX2_boxesOf_41 (k9 := 1) (by decide) rfl (L' := [some (.ref 63), some (.ref 40), some (.int (v7.1 + 1)), some (.int v7.2.1)]) rfl ?_
          refine r_inc F dX2_boxesOf_44 (k9 := 1) (by decide) rfl (L' := [some (.ref 63), some (.ref 40), some (.int (v7.1 + 1)), some (.int (v7.2.1 + 1))]) rfl ?_
          refine r_goto F dX2_boxesOf_47 (tgt := 27) (by decide) ?_
          obtain rfl := Option.some.inj hz
          exact ih (v7.1 + 1, v7.2.1 + 1, q10.2.1, q10.2.2.1, q10.2.2.2.1, q10.2.2.2.2) rfl
        · have hz := e_f hc hz
          refine r_drop 0 (L' := [none, some (.ref 40), some (.int v7.1), some (.int v7.2.1)]) rfl ?_
          refine r_drop 1 (L' := [none, none, some (.int v7.1), some (.int v7.2.1)]) rfl ?_
          refine r_drop 3 (L' := [none, none, some (.int v7.1), none]) rfl ?_
          obtain rfl := Option.some.inj hz
          exact hx (v7.1, q10.2.1, q10.2.2.1, q10.2.2.2.1, q10.2.2.2.2) rfl
    · show eRun G X 50 [none, none, some (.int x8.1), none] [] h [(63, o63 x8.2.1 x8.2.2.1 x8.2.2.2.1 x8.2.2.2.2)] nx 0 0
      refine r_iload_n F dX2_boxesOf_50 rfl ?_
      obtain rfl := Option.some.inj hf
      exact r_iret F hq dX2_boxesOf_51 rfl rfl (Nat.le_refl _) (Nat.le_refl _) ⟨rfl, rfl⟩

def fX2_reach (a40_0 : Int32) (a40_1 : Int32) (a63_0 : Int32) (a63_1 : Int32) (a63_2 : Int32) (a63_3 : Int32) (A41 : Nat → Int32) (p1 : Int32) : Option (Int32 × Int32 × Int32 × Int32) :=
  (fX2_begin a40_0 a40_1 a63_0 a63_1 a63_2 a63_3).bind (fun q1 =>
  (e_loop (fun (v5 : Int32 × Int32 × Int32 × Int32 × Int32) => (
      if p1 ≤ v5.1 then
        some (.inr (v5.2.1, v5.2.2.1, v5.2.2.2.1, v5.2.2.2.2))
      else
        if 6 ≤ v5.1 then
          some (.inr (v5.2.1, v5.2.2.1, v5.2.2.2.1, v5.2.2.2.2))
        else
          (fX2_narrow a40_0 a40_1 v5.2.1 v5.2.2.1 v5.2.2.2.1 v5.2.2.2.2 A41).bind (fun q8 =>
          some (.inl (v5.1 + 1, q8.2.1, q8.2.2.1, q8.2.2.2.1, q8.2.2.2.2))) : Option ((Int32 × Int32 × Int32 × Int32 × Int32) ⊕ (Int32 × Int32 × Int32 × Int32)))) e_fuel (0, q1.1, q1.2.1, q1.2.2.1, q1.2.2.2)).bind (fun x6 =>
  some (x6.1, x6.2.1, x6.2.2.1, x6.2.2.2)))
set_option maxRecDepth 100000 in
theorem tX2_reach_63_40 {G : eG} (hG : e_GS G) {la : Launch} {h : Nat → eO} {nx : Nat} (hnx : 99 ≤ nx) {a40_0 : Int32} {a40_1 : Int32} {A41 : Nat → Int32} {a63_0 : Int32} {a63_1 : Int32} {a63_2 : Int32} {a63_3 : Int32} {p1 : Int32} (h40 : h 40 = o40 a40_0 a40_1) (h41 : h 41 = o41 A41) (h63 : h 63 = o63 a63_0 a63_1 a63_2 a63_3) {R9 : Int32 × Int32 × Int32 × Int32} (hf : fX2_reach a40_0 a40_1 a63_0 a63_1 a63_2 a63_3 A41 p1 = some R9) :
    eSem G la MX2_reach [.ref 63, .ref 40, .int p1] h nx 0 0 (fun r9 h9 => r9 = none ∧ h9 = e_up h [(63, o63 R9.1 R9.2.1 R9.2.2.1 R9.2.2.2)]) := by
  refine eSem.of (k := 1) (L := [some (.ref 63), some (.ref 40), some (.int p1), none]) (by decide +kernel) rfl rfl (fun X F hxl hq hcR hsR => ?_)
  subst hxl
  unfold fX2_reach at hf
  refine r_aload_n F dX2_reach_0 rfl ?_
  refine r_aload_n F dX2_reach_1 rfl ?_
  obtain ⟨q1, hq2, hf⟩ := e_bd hf
  refine r_callV F dX2_reach_2 (b := 63) (dc := 0) (ds := 0) (As := [.ref 40]) (S0 := []) lkX2_7 mX2_begin (tX2_begin_63_40 hG (la := x_l X) (h := e_up h []) hnx h40 h63 hq2) rfl rfl rfl (e_le rfl) (e_le rfl) (e_le rfl) h63 (ci := 2) e_cl2.1 rfl (e_le rfl) (e_lt hnx rfl) (Nat.zero_le _) (Nat.zero_le _) (e_k ?_)
  refine r_wr (l' := [(63, o63 q1.1 q1.2.1 q1.2.2.1 q1.2.2.2)]) rfl rfl ?_
  refine r_iconst F dX2_reach_5 (v := 0) (by decide) ?_
  refine r_istore_n F dX2_reach_6 (e_le rfl) (L' := [some (.ref 63), some (.ref 40), some (.int p1), some (.int 0)]) rfl ?_
  obtain ⟨x6, hx7, hf⟩ := e_bd hf
  refine (e_loop_ok (P := fun (v5 : Int32 × Int32 × Int32 × Int32 × Int32) => eRun G X 7 [some (.ref 63), some (.ref 40), some (.int p1), some (.int v5.1)] [] h [(63, o63 v5.2.1 v5.2.2.1 v5.2.2.2.1 v5.2.2.2.2)] nx 0 0) (K := fun (x6 : Int32 × Int32 × Int32 × Int32) => eRun G X 30 [none, none, none, none] [] h [(63, o63 x6.1 x6.2.1 x6.2.2.1 x6.2.2.2)] nx 0 0) ?_ e_fuel (0, q1.1, q1.2.1, q1.2.2.1, q1.2.2.2) x6 hx7 ?_ : _)
  · intro v5 z hz ih hx
    refine r_iload_n F dX2_reach_7 rfl ?_
    refine r_iload_n F dX2_reach_8 rfl ?_
    refine r_icmp_ge F dX2_reach_9 (tgt := 30) (by decide) (fun hc => ?_) (fun hc => ?_)
    · have hz := e_t hc hz
      refine r_drop 0 (L' := [none, some (.ref 40), some (.int p1), some (.int v5.1)]) rfl ?_
      refine r_drop 1 (L' := [none, none, some (.int p1), some (.int v5.1)]) rfl ?_
      refine r_drop 2 (L' := [none, none, none, some (.int v5.1)]) rfl ?_
      refine r_drop 3 (L' := [none, none, none, none]) rfl ?_
      obtain rfl := Option.some.inj hz
      exact hx (v5.2.1, v5.2.2.1, v5.2.2.2.1, v5.2.2.2.2) rfl
    · have hz := e_f hc hz
      refine r_iload_n F dX2_reach_12 rfl ?_
      refine r_bipush F dX2_reach_13 (v := 6) (by decide) ?_
      refine r_icmp_ge F dX2_reach_15 (tgt := 30) (by decide) (fun hc => ?_) (fun hc => ?_)
      · have hz := e_t hc hz
        refine r_drop 0 (L' := [none, some (.ref 40), some (.int p1), some (.int v5.1)]) rfl ?_
        refine r_drop 1 (L' := [none, none, some (.int p1), some (.int v5.1)]) rfl ?_
        refine r_drop 2 (L' := [none, none, none, some (.int v5.1)]) rfl ?_
        refine r_drop 3 (L' := [none, none, none, none]) rfl ?_
        obtain rfl := Option.some.inj hz
        exact hx (v5.2.1, v5.2.2.1, v5.2.2.2.1, v5.2.2.2.2) rfl
      · have hz := e_f hc hz
        refine r_aload_n F dX2_reach_18 rfl ?_
        refine r_aload_n F dX2_reach_19 rfl ?_
        obtain ⟨q8, hq9, hz⟩ := e_bd hz
        refine r_callV F dX2_reach_20 (b := 63) (dc := 0) (ds := 0) (As := [.ref 40]) (S0 := []) lkX2_24 mX2_narrow (tX2_narrow_63_40 hG (la := x_l X) (h := e_up h [(63, o63 v5.2.1 v5.2.2.1 v5.2.2.2.1 v5.2.2.2.2)]) hnx h40 h41 rfl hq9) rfl rfl rfl (e_le rfl) (e_le rfl) (e_le rfl) rfl (ci := 2) e_cl2.1 rfl (e_le rfl) (e_lt hnx rfl) (Nat.zero_le _) (Nat.zero_le _) (e_k ?_)
        refine r_wr (l' := [(63, o63 q8.2.1 q8.2.2.1 q8.2.2.2.1 q8.2.2.2.2)]) rfl rfl ?_
        refine r_pop F dX2_reach_23 rfl ?_
        refine r_inc F dX2_reach_24 (k9 := 1) (by decide) rfl (L' := [some (.ref 63), some (.ref 40), some (.int p1), some (.int (v5.1 + 1))]) rfl ?_
        refine r_goto F dX2_reach_27 (tgt := 7) (by decide) ?_
        obtain rfl := Option.some.inj hz
        exact ih (v5.1 + 1, q8.2.1, q8.2.2.1, q8.2.2.2.1, q8.2.2.2.2) rfl
  · show eRun G X 30 [none, none, none, none] [] h [(63, o63 x6.1 x6.2.1 x6.2.2.1 x6.2.2.2)] nx 0 0
    obtain rfl := Option.some.inj hf
    exact r_vret F hq dX2_reach_30 rfl rfl (Nat.le_refl _) (Nat.le_refl _) ⟨rfl, rfl⟩

def fX2_sideOf (a63_0 : Int32) (a63_1 : Int32) (a63_2 : Int32) (a63_3 : Int32) (p0 : Int32) : Option (Int32) :=
  if p0 = 0 then
    some a63_0
  else
    if p0 = 1 then
      some a63_1
    else
      if p0 = 2 then
        some a63_2
      else
        some a63_3
set_option maxRecDepth 100000 in
theorem tX2_sideOf_63 {G : eG} (hG : e_GS G) {la : Launch} {h : Nat → eO} {nx : Nat} (hnx : 99 ≤ nx) {a63_0 : Int32} {a63_1 : Int32} {a63_2 : Int32} {a63_3 : Int32} {p0 : Int32} (h63 : h 63 = o63 a63_0 a63_1 a63_2 a63_3) {R9 : Int32} (hf : fX2_sideOf a63_0 a63_1 a63_2 a63_3 p0 = some R9) :
    eSem G la MX2_sideOf [.ref 63, .int p0] h nx 0 0 (fun r9 h9 => r9 = some (.int R9) ∧ h9 = h) := by
  refine eSem.of (k := 0) (L := [some (.ref 63), some (.int p0)]) (by decide +kernel) rfl rfl (fun X F hxl hq hcR hsR => ?_)
  subst hxl
  unfold fX2_sideOf at hf
  refine r_iload_n F dX2_sideOf_0 rfl ?_
  refine Classical.byCases (p := p0 = 0) (fun hc => ?_) (fun hk0 => ?_)
  · have hf := e_t hc hf
    refine r_tsIn F dX2_sideOf_1 (by rw [hc]; decide) (by rw [hc]; decide) (off := 27) (by rw [hc]; decide) (tgt := 28) (by decide) ?_
    refine r_aload_n F dX2_sideOf_28 rfl ?_
    refine r_get F dX2_sideOf_29 flX2_28 h63 rfl (e_le rfl) (e_lt hnx rfl) ?_
    obtain rfl := Option.some.inj hf
    exact r_iret F hq dX2_sideOf_32 rfl rfl (Nat.le_refl _) (Nat.le_refl _) ⟨rfl, rfl⟩
  have hf := e_f hk0 hf
  refine Classical.byCases (p := p0 = 1) (fun hc => ?_) (fun hk1 => ?_)
  · have hf := e_t hc hf
    refine r_tsIn F dX2_sideOf_1 (by rw [hc]; decide) (by rw [hc]; decide) (off := 32) (by rw [hc]; decide) (tgt := 33) (by decide) ?_
    refine r_aload_n F dX2_sideOf_33 rfl ?_
    refine r_get F dX2_sideOf_34 flX2_31 h63 rfl (e_le rfl) (e_lt hnx rfl) ?_
    obtain rfl := Option.some.inj hf
    exact r_iret F hq dX2_sideOf_37 rfl rfl (Nat.le_refl _) (Nat.le_refl _) ⟨rfl, rfl⟩
  have hf := e_f hk1 hf
  refine Classical.byCases (p := p0 = 2) (fun hc => ?_) (fun hk2 => ?_)
  · have hf := e_t hc hf
    refine r_tsIn F dX2_sideOf_1 (by rw [hc]; decide) (by rw [hc]; decide) (off := 37) (by rw [hc]; decide) (tgt := 38) (by decide) ?_
    refine r_aload_n F dX2_sideOf_38 rfl ?_
    refine r_get F dX2_sideOf_39 flX2_13 h63 rfl (e_le rfl) (e_lt hnx rfl) ?_
    obtain rfl := Option.some.inj hf
    exact r_iret F hq dX2_sideOf_42 rfl rfl (Nat.le_refl _) (Nat.le_refl _) ⟨rfl, rfl⟩
  have hf := e_f hk2 hf
  refine r_tsOut F dX2_sideOf_1 (e_out3 hk0 hk1 hk2) (tgt := 43) (by decide) ?_
  refine r_aload_n F dX2_sideOf_43 rfl ?_
  refine r_get F dX2_sideOf_44 flX2_17 h63 rfl (e_le rfl) (e_lt hnx rfl) ?_
  obtain rfl := Option.some.inj hf
  exact r_iret F hq dX2_sideOf_47 rfl rfl (Nat.le_refl _) (Nat.le_refl _) ⟨rfl, rfl⟩

def fX11_halved (a40_0 : Int32) (a40_1 : Int32) (a63_0 : Int32) (a63_1 : Int32) (a63_2 : Int32) (a63_3 : Int32) (A41 : Nat → Int32) (p0 : Int32) (p1 : Int32) : Option (Int32 × Int32 × Int32 × Int32 × Int32) :=
  (fX11_isEmpty a40_0).bind (fun q1 =>
  if q1 = true then
    some ((-1), a63_0, a63_1, a63_2, a63_3)
  else
    (fX2_boxesOf a40_0 a40_1 a63_0 a63_1 a63_2 a63_3 A41).bind (fun q3 =>
    if p0 = (-1) then
      some (q3.1, q3.2.1, q3.2.2.1, q3.2.2.2.1, q3.2.2.2.2)
    else
      if p0 < 0 then
        some ((-1), q3.2.1, q3.2.2.1, q3.2.2.2.1, q3.2.2.2.2)
      else
        if q3.1 ≤ p0 then
          some ((-1), q3.2.1, q3.2.2.1, q3.2.2.2.1, q3.2.2.2.2)
        else
          if p1 < 0 then
            some ((-1), q3.2.1, q3.2.2.1, q3.2.2.2.1, q3.2.2.2.2)
          else
            if p1 ≤ 3 then
              (fX2_reach a40_0 a40_1 q3.2.1 q3.2.2.1 q3.2.2.2.1 q3.2.2.2.2 A41 p0).bind (fun q5 =>
              (fX2_sideOf q5.1 q5.2.1 q5.2.2.1 q5.2.2.2 p1).bind (fun q7 =>
              some (q7, q5.1, q5.2.1, q5.2.2.1, q5.2.2.2)))
            else
              some ((-1), q3.2.1, q3.2.2.1, q3.2.2.2.1, q3.2.2.2.2)))
set_option maxRecDepth 100000 in
theorem tX11_halved_32 {G : eG} (hG : e_GS G) {la : Launch} {h : Nat → eO} {nx : Nat} (hnx : 99 ≤ nx) {a32_8 : Bool} {a32_10 : Bool} {a40_0 : Int32} {a40_1 : Int32} {A41 : Nat → Int32} {a63_0 : Int32} {a63_1 : Int32} {a63_2 : Int32} {a63_3 : Int32} {p0 : Int32} {p1 : Int32} (h32 : h 32 = o32 a32_8 a32_10) (h39 : h 39 = o39) (h40 : h 40 = o40 a40_0 a40_1) (h41 : h 41 = o41 A41) (h63 : h 63 = o63 a63_0 a63_1 a63_2 a63_3) {R9 : Int32 × Int32 × Int32 × Int32 × Int32} (hf : fX11_halved a40_0 a40_1 a63_0 a63_1 a63_2 a63_3 A41 p0 p1 = some R9) :
    eSem G la MX11_halved [.ref 32, .int p0, .int p1] h nx 0 0 (fun r9 h9 => r9 = some (.int R9.1) ∧ h9 = e_up h [(63, o63 R9.2.1 R9.2.2.1 R9.2.2.2.1 R9.2.2.2.2)]) := by
  refine eSem.of (k := 1) (L := [some (.ref 32), some (.int p0), some (.int p1), none]) (by decide +kernel) rfl rfl (fun X F hxl hq hcR hsR => ?_)
  subst hxl
  unfold fX11_halved at hf
  refine r_aload_n F dX11_halved_0 rfl ?_
  obtain ⟨q1, hq2, hf⟩ := e_bd hf
  refine r_callV F dX11_halved_1 (b := 32) (dc := 0) (ds := 0) (As := []) (S0 := []) lkX11_136 mX11_isEmpty (tX11_isEmpty_32 hG (la := x_l X) (h := e_up h []) hnx h32 h39 h40 hq2) rfl rfl rfl (e_le rfl) (e_le rfl) (e_le rfl) h32 (ci := 11) e_cl11.1 rfl (e_le rfl) (e_lt hnx rfl) (Nat.zero_le _) (Nat.zero_le _) (e_k ?_)
  refine r_wr0 ?_
  refine r_z_eq F dX11_halved_4 (tgt := 9) (by decide) (fun hc => ?_) (fun hc => ?_)
  · have hf := e_t hc hf
    refine r_iconst F dX11_halved_7 (v := (-1)) (by decide) ?_
    refine r_mat (k := 63) h63 (l' := [(63, o63 a63_0 a63_1 a63_2 a63_3)]) rfl ?_
    obtain rfl := Option.some.inj hf
    exact r_iret F hq dX11_halved_8 rfl rfl (Nat.le_refl _) (Nat.le_refl _) ⟨rfl, rfl⟩
  · have hf := e_f hc hf
    refine r_aload_n F dX11_halved_9 rfl ?_
    refine r_get F dX11_halved_10 flX11_69 h32 rfl (e_le rfl) (e_lt hnx rfl) ?_
    refine r_aload_n F dX11_halved_13 rfl ?_
    refine r_get F dX11_halved_14 flX11_28 h32 rfl (e_le rfl) (e_lt hnx rfl) ?_
    refine r_get F dX11_halved_17 flX11_141 h39 rfl (e_le rfl) (e_lt hnx rfl) ?_
    obtain ⟨q3, hq4, hf⟩ := e_bd hf
    refine r_callV F dX11_halved_20 (b := 63) (dc := 0) (ds := 0) (As := [.ref 40]) (S0 := []) lkX11_217 mX2_boxesOf (tX2_boxesOf_63_40 hG (la := x_l X) (h := e_up h []) hnx h40 h41 h63 hq4) rfl rfl rfl (e_le rfl) (e_le rfl) (e_le rfl) h63 (ci := 2) e_cl2.1 rfl (e_le rfl) (e_lt hnx rfl) (Nat.zero_le _) (Nat.zero_le _) (e_k ?_)
    refine r_wr (l' := [(63, o63 q3.2.1 q3.2.2.1 q3.2.2.2.1 q3.2.2.2.2)]) rfl rfl ?_
    refine r_istore_n F dX11_halved_23 (e_le rfl) (L' := [some (.ref 32), some (.int p0), some (.int p1), some (.int q3.1)]) rfl ?_
    refine r_iload_n F dX11_halved_24 rfl ?_
    refine r_iconst F dX11_halved_25 (v := (-1)) (by decide) ?_
    refine r_icmp_ne F dX11_halved_26 (tgt := 31) (by decide) (fun hc => ?_) (fun hc => ?_)
    · have hf := e_f hc hf
      refine r_iload_n F dX11_halved_31 rfl ?_
      refine r_if_lt F dX11_halved_32 (tgt := 49) (by decide) (fun hc => ?_) (fun hc => ?_)
      · have hf := e_t hc hf
        refine r_iconst F dX11_halved_49 (v := (-1)) (by decide) ?_
        obtain rfl := Option.some.inj hf
        exact r_iret F hq dX11_halved_50 rfl rfl (Nat.le_refl _) (Nat.le_refl _) ⟨rfl, rfl⟩
      · have hf := e_f hc hf
        refine r_iload_n F dX11_halved_35 rfl ?_
        refine r_iload_n F dX11_halved_36 rfl ?_
        refine r_icmp_ge F dX11_halved_37 (tgt := 49) (by decide) (fun hc => ?_) (fun hc => ?_)
        · have hf := e_t hc hf
          refine r_iconst F dX11_halved_49 (v := (-1)) (by decide) ?_
          obtain rfl := Option.some.inj hf
          exact r_iret F hq dX11_halved_50 rfl rfl (Nat.le_refl _) (Nat.le_refl _) ⟨rfl, rfl⟩
        · have hf := e_f hc hf
          refine r_iload_n F dX11_halved_40 rfl ?_
          refine r_if_lt F dX11_halved_41 (tgt := 49) (by decide) (fun hc => ?_) (fun hc => ?_)
          · have hf := e_t hc hf
            refine r_iconst F dX11_halved_49 (v := (-1)) (by decide) ?_
            obtain rfl := Option.some.inj hf
            exact r_iret F hq dX11_halved_50 rfl rfl (Nat.le_refl _) (Nat.le_refl _) ⟨rfl, rfl⟩
          · have hf := e_f hc hf
            refine r_iload_n F dX11_halved_44 rfl ?_
            refine r_iconst F dX11_halved_45 (v := 3) (by decide) ?_
            refine r_icmp_le F dX11_halved_46 (tgt := 51) (by decide) (fun hc => ?_) (fun hc => ?_)
            · have hf := e_t hc hf
              refine r_aload_n F dX11_halved_51 rfl ?_
              refine r_get F dX11_halved_52 flX11_69 h32 rfl (e_le rfl) (e_lt hnx rfl) ?_
              refine r_aload_n F dX11_halved_55 rfl ?_
              refine r_get F dX11_halved_56 flX11_28 h32 rfl (e_le rfl) (e_lt hnx rfl) ?_
              refine r_get F dX11_halved_59 flX11_141 h39 rfl (e_le rfl) (e_lt hnx rfl) ?_
              refine r_iload_n F dX11_halved_62 rfl ?_
              obtain ⟨q5, hq6, hf⟩ := e_bd hf
              refine r_callV F dX11_halved_63 (b := 63) (dc := 0) (ds := 0) (As := [.ref 40, .int p0]) (S0 := []) lkX11_221 mX2_reach (tX2_reach_63_40 hG (la := x_l X) (h := e_up h [(63, o63 q3.2.1 q3.2.2.1 q3.2.2.2.1 q3.2.2.2.2)]) hnx h40 h41 rfl hq6) rfl rfl rfl (e_le rfl) (e_le rfl) (e_le rfl) rfl (ci := 2) e_cl2.1 rfl (e_le rfl) (e_lt hnx rfl) (Nat.zero_le _) (Nat.zero_le _) (e_k ?_)
              refine r_wr (l' := [(63, o63 q5.1 q5.2.1 q5.2.2.1 q5.2.2.2)]) rfl rfl ?_
              refine r_aload_n F dX11_halved_66 rfl ?_
              refine r_get F dX11_halved_67 flX11_69 h32 rfl (e_le rfl) (e_lt hnx rfl) ?_
              refine r_iload_n F dX11_halved_70 rfl ?_
              obtain ⟨q7, hq8, hf⟩ := e_bd hf
              refine r_callV F dX11_halved_71 (b := 63) (dc := 0) (ds := 0) (As := [.int p1]) (S0 := []) lkX11_225 mX2_sideOf (tX2_sideOf_63 hG (la := x_l X) (h := e_up h [(63, o63 q5.1 q5.2.1 q5.2.2.1 q5.2.2.2)]) hnx rfl hq8) rfl rfl rfl (e_le rfl) (e_le rfl) (e_le rfl) rfl (ci := 2) e_cl2.1 rfl (e_le rfl) (e_lt hnx rfl) (Nat.zero_le _) (Nat.zero_le _) (e_k ?_)
              refine r_wr0 ?_
              obtain rfl := Option.some.inj hf
              exact r_iret F hq dX11_halved_74 rfl rfl (Nat.le_refl _) (Nat.le_refl _) ⟨rfl, rfl⟩
            · have hf := e_f hc hf
              refine r_iconst F dX11_halved_49 (v := (-1)) (by decide) ?_
              obtain rfl := Option.some.inj hf
              exact r_iret F hq dX11_halved_50 rfl rfl (Nat.le_refl _) (Nat.le_refl _) ⟨rfl, rfl⟩
    · have hf := e_t hc hf
      refine r_iload_n F dX11_halved_29 rfl ?_
      obtain rfl := Option.some.inj hf
      exact r_iret F hq dX11_halved_30 rfl rfl (Nat.le_refl _) (Nat.le_refl _) ⟨rfl, rfl⟩

def fX8_take (a54_1 : Int32) (a58_2 : Int32) (A41 : Nat → Int32) (A55 : Nat → Int32) (A59 : Nat → Int32) (A60 : Nat → Int32)  : Option (Int32 × (Nat → Int32) × (Nat → Int32)) :=
  some (a54_1, va_cpy A41 A59 (tn 0) (tn 0) (tn 324), va_cpy A55 A60 (tn 0) (tn 0) (tn 160))
set_option maxRecDepth 100000 in
theorem tX8_take_58_40_54 {G : eG} (hG : e_GS G) {la : Launch} {h : Nat → eO} {nx : Nat} (hnx : 99 ≤ nx) {a40_0 : Int32} {a40_1 : Int32} {A41 : Nat → Int32} {a54_1 : Int32} {A55 : Nat → Int32} {a58_2 : Int32} {A59 : Nat → Int32} {A60 : Nat → Int32}  (h40 : h 40 = o40 a40_0 a40_1) (h41 : h 41 = o41 A41) (h54 : h 54 = o54 a54_1) (h55 : h 55 = o55 A55) (h58 : h 58 = o58 a58_2) (h59 : h 59 = o59 A59) (h60 : h 60 = o60 A60) {R9 : Int32 × (Nat → Int32) × (Nat → Int32)} (hf : fX8_take a54_1 a58_2 A41 A55 A59 A60  = some R9) :
    eSem G la MX8_take [.ref 58, .ref 40, .ref 54] h nx 0 0 (fun r9 h9 => r9 = none ∧ h9 = e_up h [(58, o58 R9.1), (59, o59 R9.2.1), (60, o60 R9.2.2)]) := by
  refine eSem.of (k := 0) (L := [some (.ref 58), some (.ref 40), some (.ref 54)]) (by decide +kernel) rfl rfl (fun X F hxl hq hcR hsR => ?_)
  subst hxl
  unfold fX8_take at hf
  refine r_aload_n F dX8_take_0 rfl ?_
  refine r_get F dX8_take_1 flX8_20 h40 rfl (e_le rfl) (e_lt hnx rfl) ?_
  refine r_iconst F dX8_take_4 (v := 0) (by decide) ?_
  refine r_aload_n F dX8_take_5 rfl ?_
  refine r_get F dX8_take_6 flX8_9 h58 rfl (e_le rfl) (e_lt hnx rfl) ?_
  refine r_iconst F dX8_take_9 (v := 0) (by decide) ?_
  refine r_aload_n F dX8_take_10 rfl ?_
  refine r_get F dX8_take_11 flX8_9 h58 rfl (e_le rfl) (e_lt hnx rfl) ?_
  refine r_alen F dX8_take_14 h59 (e_le rfl) (e_lt hnx rfl) (v := 324) rfl ?_
  refine r_copy F dX8_take_15 lnX8_21 k_an k_as k_ai h41 (e_le rfl) (e_lt hnx rfl) h59 (e_le rfl) (e_lt hnx rfl) (by decide) (by decide) (by decide) (by decide) (by decide) rfl (e_le rfl) (e_le rfl) (by decide) (l' := [(59, o59 (va_cpy A41 A59 (tn 0) (tn 0) (tn 324)))]) rfl ?_
  refine r_aload_n F dX8_take_18 rfl ?_
  refine r_get F dX8_take_19 flX8_27 h54 rfl (e_le rfl) (e_lt hnx rfl) ?_
  refine r_iconst F dX8_take_22 (v := 0) (by decide) ?_
  refine r_aload_n F dX8_take_23 rfl ?_
  refine r_get F dX8_take_24 flX8_17 h58 rfl (e_le rfl) (e_lt hnx rfl) ?_
  refine r_iconst F dX8_take_27 (v := 0) (by decide) ?_
  refine r_aload_n F dX8_take_28 rfl ?_
  refine r_get F dX8_take_29 flX8_17 h58 rfl (e_le rfl) (e_lt hnx rfl) ?_
  refine r_alen F dX8_take_32 h60 (e_le rfl) (e_lt hnx rfl) (v := 160) rfl ?_
  refine r_copy F dX8_take_33 lnX8_21 k_an k_as k_ai h55 (e_le rfl) (e_lt hnx rfl) h60 (e_le rfl) (e_lt hnx rfl) (by decide) (by decide) (by decide) (by decide) (by decide) rfl (e_le rfl) (e_le rfl) (by decide) (l' := [(59, o59 (va_cpy A41 A59 (tn 0) (tn 0) (tn 324))), (60, o60 (va_cpy A55 A60 (tn 0) (tn 0) (tn 160)))]) rfl ?_
  refine r_aload_n F dX8_take_36 rfl ?_
  refine r_aload_n F dX8_take_37 rfl ?_
  refine r_get F dX8_take_38 flX8_28 h54 rfl (e_le rfl) (e_lt hnx rfl) ?_
  refine r_put F dX8_take_41 flX8_32 rfl rfl rfl h58 (e_le rfl) (e_le rfl) (e_lt hnx rfl) (l' := [(58, o58 a54_1), (59, o59 (va_cpy A41 A59 (tn 0) (tn 0) (tn 324))), (60, o60 (va_cpy A55 A60 (tn 0) (tn 0) (tn 160)))]) rfl ?_
  obtain rfl := Option.some.inj hf
  exact r_vret F hq dX8_take_44 rfl rfl (Nat.le_refl _) (Nat.le_refl _) ⟨rfl, rfl⟩

def fX11_image (a32_8 : Bool) (a40_0 : Int32) (a54_1 : Int32) (a58_2 : Int32) (A41 : Nat → Int32) (A55 : Nat → Int32) (A59 : Nat → Int32) (A60 : Nat → Int32)  : Option (Int32 × Bool × Int32 × (Nat → Int32) × (Nat → Int32)) :=
  (fX11_isEmpty a40_0).bind (fun q1 =>
  if q1 = true then
    some ((-1), a32_8, a58_2, A59, A60)
  else
    (fX8_take a54_1 a58_2 A41 A55 A59 A60).bind (fun q3 =>
    some (a54_1, true, q3.1, q3.2.1, q3.2.2)))
set_option maxRecDepth 100000 in
theorem tX11_image_32 {G : eG} (hG : e_GS G) {la : Launch} {h : Nat → eO} {nx : Nat} (hnx : 99 ≤ nx) {a32_8 : Bool} {a32_10 : Bool} {a40_0 : Int32} {a40_1 : Int32} {A41 : Nat → Int32} {a54_1 : Int32} {A55 : Nat → Int32} {a58_2 : Int32} {A59 : Nat → Int32} {A60 : Nat → Int32}  (h32 : h 32 = o32 a32_8 a32_10) (h39 : h 39 = o39) (h40 : h 40 = o40 a40_0 a40_1) (h41 : h 41 = o41 A41) (h54 : h 54 = o54 a54_1) (h55 : h 55 = o55 A55) (h58 : h 58 = o58 a58_2) (h59 : h 59 = o59 A59) (h60 : h 60 = o60 A60) {R9 : Int32 × Bool × Int32 × (Nat → Int32) × (Nat → Int32)} (hf : fX11_image a32_8 a40_0 a54_1 a58_2 A41 A55 A59 A60  = some R9) :
    eSem G la MX11_image [.ref 32] h nx 0 0 (fun r9 h9 => r9 = some (.int R9.1) ∧ h9 = e_up h [(32, o32 R9.2.1 a32_10), (58, o58 R9.2.2.1), (59, o59 R9.2.2.2.1), (60, o60 R9.2.2.2.2)]) := by
  refine eSem.of (k := 0) (L := [some (.ref 32)]) (by decide +kernel) rfl rfl (fun X F hxl hq hcR hsR => ?_)
  subst hxl
  unfold fX11_image at hf
  refine r_aload_n F dX11_image_0 rfl ?_
  obtain ⟨q1, hq2, hf⟩ := e_bd hf
  refine r_callV F dX11_image_1 (b := 32) (dc := 0) (ds := 0) (As := []) (S0 := []) lkX11_136 mX11_isEmpty (tX11_isEmpty_32 hG (la := x_l X) (h := e_up h []) hnx h32 h39 h40 hq2) rfl rfl rfl (e_le rfl) (e_le rfl) (e_le rfl) h32 (ci := 11) e_cl11.1 rfl (e_le rfl) (e_lt hnx rfl) (Nat.zero_le _) (Nat.zero_le _) (e_k ?_)
  refine r_wr0 ?_
  refine r_z_eq F dX11_image_4 (tgt := 9) (by decide) (fun hc => ?_) (fun hc => ?_)
  · have hf := e_t hc hf
    refine r_iconst F dX11_image_7 (v := (-1)) (by decide) ?_
    refine r_mat (k := 32) h32 (l' := [(32, o32 a32_8 a32_10)]) rfl ?_
    refine r_mat (k := 58) h58 (l' := [(32, o32 a32_8 a32_10), (58, o58 a58_2)]) rfl ?_
    refine r_mat (k := 59) h59 (l' := [(32, o32 a32_8 a32_10), (58, o58 a58_2), (59, o59 A59)]) rfl ?_
    refine r_mat (k := 60) h60 (l' := [(32, o32 a32_8 a32_10), (58, o58 a58_2), (59, o59 A59), (60, o60 A60)]) rfl ?_
    obtain rfl := Option.some.inj hf
    exact r_iret F hq dX11_image_8 rfl rfl (Nat.le_refl _) (Nat.le_refl _) ⟨rfl, rfl⟩
  · have hf := e_f hc hf
    refine r_aload_n F dX11_image_9 rfl ?_
    refine r_get F dX11_image_10 flX11_56 h32 rfl (e_le rfl) (e_lt hnx rfl) ?_
    refine r_aload_n F dX11_image_13 rfl ?_
    refine r_get F dX11_image_14 flX11_28 h32 rfl (e_le rfl) (e_lt hnx rfl) ?_
    refine r_get F dX11_image_17 flX11_141 h39 rfl (e_le rfl) (e_lt hnx rfl) ?_
    refine r_aload_n F dX11_image_20 rfl ?_
    refine r_get F dX11_image_21 flX11_42 h32 rfl (e_le rfl) (e_lt hnx rfl) ?_
    obtain ⟨q3, hq4, hf⟩ := e_bd hf
    refine r_callV F dX11_image_24 (b := 58) (dc := 0) (ds := 0) (As := [.ref 40, .ref 54]) (S0 := []) lkX11_355 mX8_take (tX8_take_58_40_54 hG (la := x_l X) (h := e_up h []) hnx h40 h41 h54 h55 h58 h59 h60 hq4) rfl rfl rfl (e_le rfl) (e_le rfl) (e_le rfl) h58 (ci := 8) e_cl8.1 rfl (e_le rfl) (e_lt hnx rfl) (Nat.zero_le _) (Nat.zero_le _) (e_k ?_)
    refine r_wr (l' := [(58, o58 q3.1), (59, o59 q3.2.1), (60, o60 q3.2.2)]) rfl rfl ?_
    refine r_aload_n F dX11_image_27 rfl ?_
    refine r_iconst F dX11_image_28 (v := 1) (by decide) ?_
    refine r_put F dX11_image_29 (v := .int (e_b true)) flX11_120 rfl (e_b_nar _) (e_b_fit _) h32 (e_le rfl) (e_le rfl) (e_lt hnx rfl) (l' := [(32, o32 true a32_10), (58, o58 q3.1), (59, o59 q3.2.1), (60, o60 q3.2.2)]) rfl ?_
    refine r_aload_n F dX11_image_32 rfl ?_
    refine r_get F dX11_image_33 flX11_42 rfl rfl (e_le rfl) (e_lt hnx rfl) ?_
    refine r_get F dX11_image_36 flX11_114 h54 rfl (e_le rfl) (e_lt hnx rfl) ?_
    obtain rfl := Option.some.inj hf
    exact r_iret F hq dX11_image_39 rfl rfl (Nat.le_refl _) (Nat.le_refl _) ⟨rfl, rfl⟩

def fX11_isShift  (p0 : Int32) : Option (Bool) :=
  if p0 < (-9) then
    some false
  else
    if 9 < p0 then
      some false
    else
      some true
set_option maxRecDepth 100000 in
theorem tX11_isShift {G : eG} (hG : e_GS G) {la : Launch} {h : Nat → eO} {nx : Nat} (hnx : 99 ≤ nx)  {p0 : Int32}  {R9 : Bool} (hf : fX11_isShift  p0 = some R9) :
    eSem G la MX11_isShift [.int p0] h nx 0 0 (fun r9 h9 => r9 = some (.int (e_b R9)) ∧ h9 = h) := by
  refine eSem.of (k := 0) (L := [some (.int p0)]) (by decide +kernel) rfl rfl (fun X F hxl hq hcR hsR => ?_)
  subst hxl
  unfold fX11_isShift at hf
  refine r_iload_n F dX11_isShift_0 rfl ?_
  refine r_bipush F dX11_isShift_1 (v := (-9)) (by decide) ?_
  refine r_icmp_lt F dX11_isShift_3 (tgt := 16) (by decide) (fun hc => ?_) (fun hc => ?_)
  · have hf := e_t hc hf
    refine r_iconst F dX11_isShift_16 (v := 0) (by decide) ?_
    obtain rfl := Option.some.inj hf
    exact r_zret F hq (v := false) dX11_isShift_17 rfl rfl (Nat.le_refl _) (Nat.le_refl _) ⟨rfl, rfl⟩
  · have hf := e_f hc hf
    refine r_iload_n F dX11_isShift_6 rfl ?_
    refine r_bipush F dX11_isShift_7 (v := 9) (by decide) ?_
    refine r_icmp_gt F dX11_isShift_9 (tgt := 16) (by decide) (fun hc => ?_) (fun hc => ?_)
    · have hf := e_t hc hf
      refine r_iconst F dX11_isShift_16 (v := 0) (by decide) ?_
      obtain rfl := Option.some.inj hf
      exact r_zret F hq (v := false) dX11_isShift_17 rfl rfl (Nat.le_refl _) (Nat.le_refl _) ⟨rfl, rfl⟩
    · have hf := e_f hc hf
      refine r_iconst F dX11_isShift_12 (v := 1) (by decide) ?_
      refine r_goto F dX11_isShift_13 (tgt := 17) (by decide) ?_
      obtain rfl := Option.some.inj hf
      exact r_zret F hq (v := true) dX11_isShift_17 rfl rfl (Nat.le_refl _) (Nat.le_refl _) ⟨rfl, rfl⟩

set_option maxRecDepth 100000 in
theorem tX7_isSlipped_40 {G : eG} (hG : e_GS G) {la : Launch} {h : Nat → eO} {nx : Nat} (hnx : 99 ≤ nx) {a40_0 : Int32} {a40_1 : Int32} {A41 : Nat → Int32} {p0 : Int32} {p1 : Int32} {p2 : Int32} (h40 : h 40 = o40 a40_0 a40_1) (h41 : h 41 = o41 A41) {R9 : Bool} (hf : fX7_isSlipped a40_0 a40_1 A41 p0 p1 p2 = some R9) :
    eSem G la MX7_isSlipped [.ref 40, .int p0, .int p1, .int p2] h nx 0 0 (fun r9 h9 => r9 = some (.int (e_b R9)) ∧ h9 = h) := by
  refine eSem.of (k := 0) (L := [some (.ref 40), some (.int p0), some (.int p1), some (.int p2)]) (by decide +kernel) rfl rfl (fun X F hxl hq hcR hsR => ?_)
  subst hxl
  unfold fX7_isSlipped at hf
  refine r_aload_n F dX7_isSlipped_0 rfl ?_
  refine r_iload_n F dX7_isSlipped_1 rfl ?_
  refine r_iload_n F dX7_isSlipped_2 rfl ?_
  refine r_iload_n F dX7_isSlipped_3 rfl ?_
  obtain ⟨q1, hq2, hf⟩ := e_bd hf
  refine r_callV F dX7_isSlipped_4 (b := 40) (dc := 0) (ds := 0) (As := [.int p0, .int p1, .int p2]) (S0 := []) lkX7_28 mX7_hasLink (tX7_hasLink_40 hG (la := x_l X) (h := e_up h []) hnx h40 hq2) rfl rfl rfl (e_le rfl) (e_le rfl) (e_le rfl) h40 (ci := 7) e_cl7.1 rfl (e_le rfl) (e_lt hnx rfl) (Nat.zero_le _) (Nat.zero_le _) (e_k ?_)
  refine r_wr0 ?_
  refine r_z_eq F dX7_isSlipped_7 (tgt := 40) (by decide) (fun hc => ?_) (fun hc => ?_)
  · have hf := e_t hc hf
    refine r_aload_n F dX7_isSlipped_10 rfl ?_
    refine r_iload_n F dX7_isSlipped_11 rfl ?_
    refine r_iload_n F dX7_isSlipped_12 rfl ?_
    refine r_iload_n F dX7_isSlipped_13 rfl ?_
    refine r_iconst F dX7_isSlipped_14 (v := 0) (by decide) ?_
    obtain ⟨q3, hq4, hf⟩ := e_bd hf
    refine r_callV F dX7_isSlipped_15 (b := 40) (dc := 0) (ds := 0) (As := [.int p0, .int p1, .int p2, .int 0]) (S0 := []) lkX7_36 mX7_stepOf (tX7_stepOf_40 hG (la := x_l X) (h := e_up h []) hnx h40 h41 hq4) rfl rfl rfl (e_le rfl) (e_le rfl) (e_le rfl) h40 (ci := 7) e_cl7.1 rfl (e_le rfl) (e_lt hnx rfl) (Nat.zero_le _) (Nat.zero_le _) (e_k ?_)
    refine r_wr0 ?_
    refine r_iconst F dX7_isSlipped_18 (v := 1) (by decide) ?_
    refine r_iload_n F dX7_isSlipped_19 rfl ?_
    refine r_isub F dX7_isSlipped_20 ?_
    refine r_icmp_ne F dX7_isSlipped_21 (tgt := 36) (by decide) (fun hc => ?_) (fun hc => ?_)
    · have hf := e_f hc hf
      refine r_iconst F dX7_isSlipped_36 (v := 1) (by decide) ?_
      refine r_goto F dX7_isSlipped_37 (tgt := 41) (by decide) ?_
      obtain rfl := Option.some.inj hf
      exact r_zret F hq (v := true) dX7_isSlipped_41 rfl rfl (Nat.le_refl _) (Nat.le_refl _) ⟨rfl, rfl⟩
    · have hf := e_t hc hf
      refine r_aload_n F dX7_isSlipped_24 rfl ?_
      refine r_iload_n F dX7_isSlipped_25 rfl ?_
      refine r_iload_n F dX7_isSlipped_26 rfl ?_
      refine r_iload_n F dX7_isSlipped_27 rfl ?_
      refine r_iconst F dX7_isSlipped_28 (v := 1) (by decide) ?_
      obtain ⟨q5, hq6, hf⟩ := e_bd hf
      refine r_callV F dX7_isSlipped_29 (b := 40) (dc := 0) (ds := 0) (As := [.int p0, .int p1, .int p2, .int 1]) (S0 := []) lkX7_36 mX7_stepOf (tX7_stepOf_40 hG (la := x_l X) (h := e_up h []) hnx h40 h41 hq6) rfl rfl rfl (e_le rfl) (e_le rfl) (e_le rfl) h40 (ci := 7) e_cl7.1 rfl (e_le rfl) (e_lt hnx rfl) (Nat.zero_le _) (Nat.zero_le _) (e_k ?_)
      refine r_wr0 ?_
      refine r_iload_n F dX7_isSlipped_32 rfl ?_
      refine r_icmp_eq F dX7_isSlipped_33 (tgt := 40) (by decide) (fun hc => ?_) (fun hc => ?_)
      · have hf := e_t hc hf
        refine r_iconst F dX7_isSlipped_40 (v := 0) (by decide) ?_
        obtain rfl := Option.some.inj hf
        exact r_zret F hq (v := false) dX7_isSlipped_41 rfl rfl (Nat.le_refl _) (Nat.le_refl _) ⟨rfl, rfl⟩
      · have hf := e_f hc hf
        refine r_iconst F dX7_isSlipped_36 (v := 1) (by decide) ?_
        refine r_goto F dX7_isSlipped_37 (tgt := 41) (by decide) ?_
        obtain rfl := Option.some.inj hf
        exact r_zret F hq (v := true) dX7_isSlipped_41 rfl rfl (Nat.le_refl _) (Nat.le_refl _) ⟨rfl, rfl⟩
  · have hf := e_f hc hf
    refine r_iconst F dX7_isSlipped_40 (v := 0) (by decide) ?_
    obtain rfl := Option.some.inj hf
    exact r_zret F hq (v := false) dX7_isSlipped_41 rfl rfl (Nat.le_refl _) (Nat.le_refl _) ⟨rfl, rfl⟩

set_option maxRecDepth 100000 in
theorem tX7_slippedFrom_40 {G : eG} (hG : e_GS G) {la : Launch} {h : Nat → eO} {nx : Nat} (hnx : 99 ≤ nx) {a40_0 : Int32} {a40_1 : Int32} {A41 : Nat → Int32} {p0 : Int32} {p1 : Int32} (h40 : h 40 = o40 a40_0 a40_1) (h41 : h 41 = o41 A41) {R9 : Int32} (hf : fX7_slippedFrom a40_0 a40_1 A41 p0 p1 = some R9) :
    eSem G la MX7_slippedFrom [.ref 40, .int p0, .int p1] h nx 0 0 (fun r9 h9 => r9 = some (.int R9) ∧ h9 = h) := by
  refine eSem.of (k := 2) (L := [some (.ref 40), some (.int p0), some (.int p1), none, none]) (by decide +kernel) rfl rfl (fun X F hxl hq hcR hsR => ?_)
  subst hxl
  unfold fX7_slippedFrom at hf
  refine r_iconst F dX7_slippedFrom_0 (v := 0) (by decide) ?_
  refine r_istore_n F dX7_slippedFrom_1 (e_le rfl) (L' := [some (.ref 40), some (.int p0), some (.int p1), some (.int 0), none]) rfl ?_
  refine r_iconst F dX7_slippedFrom_2 (v := 0) (by decide) ?_
  refine r_istore F dX7_slippedFrom_3 (e_le rfl) (L' := [some (.ref 40), some (.int p0), some (.int p1), some (.int 0), some (.int 0)]) rfl ?_
  obtain ⟨x4, hx5, hf⟩ := e_bd hf
  refine (e_loop_ok (P := fun (v3 : Int32 × Int32) => eRun G X 5 [some (.ref 40), some (.int p0), some (.int p1), some (.int v3.1), some (.int v3.2)] [] h [] nx 0 0) (K := fun (x4 : Int32) => eRun G X 34 [none, none, none, some (.int x4), none] [] h [] nx 0 0) ?_ e_fuel (0, 0) x4 hx5 ?_ : _)
  · intro v3 z hz ih hx
    refine r_iload F dX7_slippedFrom_5 rfl ?_
    refine r_aload_n F dX7_slippedFrom_7 rfl ?_
    refine r_get F dX7_slippedFrom_8 flX7_15 h40 rfl (e_le rfl) (e_lt hnx rfl) ?_
    refine r_icmp_ge F dX7_slippedFrom_11 (tgt := 34) (by decide) (fun hc => ?_) (fun hc => ?_)
    · have hz := e_t hc hz
      refine r_drop 0 (L' := [none, some (.int p0), some (.int p1), some (.int v3.1), some (.int v3.2)]) rfl ?_
      refine r_drop 1 (L' := [none, none, some (.int p1), some (.int v3.1), some (.int v3.2)]) rfl ?_
      refine r_drop 2 (L' := [none, none, none, some (.int v3.1), some (.int v3.2)]) rfl ?_
      refine r_drop 4 (L' := [none, none, none, some (.int v3.1), none]) rfl ?_
      obtain rfl := Option.some.inj hz
      exact hx v3.1 rfl
    · have hz := e_f hc hz
      refine r_aload_n F dX7_slippedFrom_14 rfl ?_
      refine r_iload F dX7_slippedFrom_15 rfl ?_
      refine r_iload_n F dX7_slippedFrom_17 rfl ?_
      refine r_iload_n F dX7_slippedFrom_18 rfl ?_
      obtain ⟨q6, hq7, hz⟩ := e_bd hz
      refine r_callV F dX7_slippedFrom_19 (b := 40) (dc := 0) (ds := 0) (As := [.int v3.2, .int p0, .int p1]) (S0 := []) lkX7_44 mX7_isSlipped (tX7_isSlipped_40 hG (la := x_l X) (h := e_up h []) hnx h40 h41 hq7) rfl rfl rfl (e_le rfl) (e_le rfl) (e_le rfl) h40 (ci := 7) e_cl7.1 rfl (e_le rfl) (e_lt hnx rfl) (Nat.zero_le _) (Nat.zero_le _) (e_k ?_)
      refine r_wr0 ?_
      obtain ⟨q8, hq9, hz⟩ := e_bd hz
      have Jq8 : eRun G X 28 [some (.ref 40), some (.int p0), some (.int p1), some (.int q8), some (.int v3.2)] [] h [] nx 0 0 := by
        refine r_inc F dX7_slippedFrom_28 (k9 := 1) (by decide) rfl (L' := [some (.ref 40), some (.int p0), some (.int p1), some (.int q8), some (.int (v3.2 + 1))]) rfl ?_
        refine r_goto F dX7_slippedFrom_31 (tgt := 5) (by decide) ?_
        obtain rfl := Option.some.inj hz
        exact ih (q8, v3.2 + 1) rfl
      refine r_z_eq F dX7_slippedFrom_22 (tgt := 28) (by decide) (fun hc => ?_) (fun hc => ?_)
      · have hq9 := e_t hc hq9
        refine r_inc F dX7_slippedFrom_25 (k9 := 1) (by decide) rfl (L' := [some (.ref 40), some (.int p0), some (.int p1), some (.int (v3.1 + 1)), some (.int v3.2)]) rfl ?_
        obtain rfl := Option.some.inj hq9
        exact Jq8
      · have hq9 := e_f hc hq9
        obtain rfl := Option.some.inj hq9
        exact Jq8
  · show eRun G X 34 [none, none, none, some (.int x4), none] [] h [] nx 0 0
    refine r_iload_n F dX7_slippedFrom_34 rfl ?_
    obtain rfl := Option.some.inj hf
    exact r_iret F hq dX7_slippedFrom_35 rfl rfl (Nat.le_refl _) (Nat.le_refl _) ⟨rfl, rfl⟩

def fX7_sumAlong (a40_0 : Int32) (a40_1 : Int32) (A41 : Nat → Int32) (p0 : Int32) (p1 : Int32) : Option (Int32) :=
  (e_loop (fun (v3 : Int32 × Int32) => (
      if (a40_0 - 1) ≤ v3.2 then
        some (.inr v3.1)
      else
        (fX7_stepOf a40_0 a40_1 A41 v3.2 p0 0 p1).bind (fun q6 =>
        some (.inl (v3.1 + q6, v3.2 + 1))) : Option ((Int32 × Int32) ⊕ (Int32)))) e_fuel (0, 0)).bind (fun x4 =>
  some x4)
set_option maxRecDepth 100000 in
theorem tX7_sumAlong_40 {G : eG} (hG : e_GS G) {la : Launch} {h : Nat → eO} {nx : Nat} (hnx : 99 ≤ nx) {a40_0 : Int32} {a40_1 : Int32} {A41 : Nat → Int32} {p0 : Int32} {p1 : Int32} (h40 : h 40 = o40 a40_0 a40_1) (h41 : h 41 = o41 A41) {R9 : Int32} (hf : fX7_sumAlong a40_0 a40_1 A41 p0 p1 = some R9) :
    eSem G la MX7_sumAlong [.ref 40, .int p0, .int p1] h nx 0 0 (fun r9 h9 => r9 = some (.int R9) ∧ h9 = h) := by
  refine eSem.of (k := 2) (L := [some (.ref 40), some (.int p0), some (.int p1), none, none]) (by decide +kernel) rfl rfl (fun X F hxl hq hcR hsR => ?_)
  subst hxl
  unfold fX7_sumAlong at hf
  refine r_iconst F dX7_sumAlong_0 (v := 0) (by decide) ?_
  refine r_istore_n F dX7_sumAlong_1 (e_le rfl) (L' := [some (.ref 40), some (.int p0), some (.int p1), some (.int 0), none]) rfl ?_
  refine r_iconst F dX7_sumAlong_2 (v := 0) (by decide) ?_
  refine r_istore F dX7_sumAlong_3 (e_le rfl) (L' := [some (.ref 40), some (.int p0), some (.int p1), some (.int 0), some (.int 0)]) rfl ?_
  obtain ⟨x4, hx5, hf⟩ := e_bd hf
  refine (e_loop_ok (P := fun (v3 : Int32 × Int32) => eRun G X 5 [some (.ref 40), some (.int p0), some (.int p1), some (.int v3.1), some (.int v3.2)] [] h [] nx 0 0) (K := fun (x4 : Int32) => eRun G X 34 [none, none, none, some (.int x4), none] [] h [] nx 0 0) ?_ e_fuel (0, 0) x4 hx5 ?_ : _)
  · intro v3 z hz ih hx
    refine r_iload F dX7_sumAlong_5 rfl ?_
    refine r_aload_n F dX7_sumAlong_7 rfl ?_
    refine r_get F dX7_sumAlong_8 flX7_15 h40 rfl (e_le rfl) (e_lt hnx rfl) ?_
    refine r_iconst F dX7_sumAlong_11 (v := 1) (by decide) ?_
    refine r_isub F dX7_sumAlong_12 ?_
    refine r_icmp_ge F dX7_sumAlong_13 (tgt := 34) (by decide) (fun hc => ?_) (fun hc => ?_)
    · have hz := e_t hc hz
      refine r_drop 0 (L' := [none, some (.int p0), some (.int p1), some (.int v3.1), some (.int v3.2)]) rfl ?_
      refine r_drop 1 (L' := [none, none, some (.int p1), some (.int v3.1), some (.int v3.2)]) rfl ?_
      refine r_drop 2 (L' := [none, none, none, some (.int v3.1), some (.int v3.2)]) rfl ?_
      refine r_drop 4 (L' := [none, none, none, some (.int v3.1), none]) rfl ?_
      obtain rfl := Option.some.inj hz
      exact hx v3.1 rfl
    · have hz := e_f hc hz
      refine r_iload_n F dX7_sumAlong_16 rfl ?_
      refine r_aload_n F dX7_sumAlong_17 rfl ?_
      refine r_iload F dX7_sumAlong_18 rfl ?_
      refine r_iload_n F dX7_sumAlong_20 rfl ?_
      refine r_iconst F dX7_sumAlong_21 (v := 0) (by decide) ?_
      refine r_iload_n F dX7_sumAlong_22 rfl ?_
      obtain ⟨q6, hq7, hz⟩ := e_bd hz
      refine r_callV F dX7_sumAlong_23 (b := 40) (dc := 0) (ds := 0) (As := [.int v3.2, .int p0, .int 0, .int p1]) (S0 := [.int v3.1]) lkX7_36 mX7_stepOf (tX7_stepOf_40 hG (la := x_l X) (h := e_up h []) hnx h40 h41 hq7) rfl rfl rfl (e_le rfl) (e_le rfl) (e_le rfl) h40 (ci := 7) e_cl7.1 rfl (e_le rfl) (e_lt hnx rfl) (Nat.zero_le _) (Nat.zero_le _) (e_k ?_)
      refine r_wr0 ?_
      refine r_iadd F dX7_sumAlong_26 ?_
      refine r_istore_n F dX7_sumAlong_27 (e_le rfl) (L' := [some (.ref 40), some (.int p0), some (.int p1), some (.int (v3.1 + q6)), some (.int v3.2)]) rfl ?_
      refine r_inc F dX7_sumAlong_28 (k9 := 1) (by decide) rfl (L' := [some (.ref 40), some (.int p0), some (.int p1), some (.int (v3.1 + q6)), some (.int (v3.2 + 1))]) rfl ?_
      refine r_goto F dX7_sumAlong_31 (tgt := 5) (by decide) ?_
      obtain rfl := Option.some.inj hz
      exact ih (v3.1 + q6, v3.2 + 1) rfl
  · show eRun G X 34 [none, none, none, some (.int x4), none] [] h [] nx 0 0
    refine r_iload_n F dX7_sumAlong_34 rfl ?_
    obtain rfl := Option.some.inj hf
    exact r_iret F hq dX7_sumAlong_35 rfl rfl (Nat.le_refl _) (Nat.le_refl _) ⟨rfl, rfl⟩
