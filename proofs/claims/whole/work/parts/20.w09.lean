def fX12_draw (a72_41 : Int64) (p0 : Int32) : Option (Int32 × Int64) :=
  e_g (e_nzl (Int32.toInt64 p0)) (
  some (Int64.toInt32 (((Int64.toUInt64 ((a72_41 * 6364136223846793005) + 1442695040888963407) >>> ((Int32.toInt64 33).toUInt64 &&& Int64.toUInt64 63)).toInt64) - ((Int64.toUInt64 ((a72_41 * 6364136223846793005) + 1442695040888963407) >>> ((Int32.toInt64 33).toUInt64 &&& Int64.toUInt64 63)).toInt64) / (Int32.toInt64 p0) * (Int32.toInt64 p0)), (a72_41 * 6364136223846793005) + 1442695040888963407))
set_option maxRecDepth 100000 in
theorem tX12_draw_72 {G : eG} (hG : e_GS G) {la : Launch} {h : Nat → eO} {nx : Nat} (hnx : 99 ≤ nx) {a72_0 : Int32} {a72_2 : Int32} {a72_3 : Int32} {a72_4 : Int32} {a72_5 : Int32} {a72_6 : Int32} {a72_7 : Int32} {a72_8 : Bool} {a72_9 : Int32} {a72_10 : Int32} {a72_11 : Int32} {a72_17 : Bool} {a72_18 : Bool} {a72_19 : Bool} {a72_21 : Int32} {a72_22 : Int32} {a72_29 : Int32} {a72_31 : Int32} {a72_35 : Int32} {a72_37 : Bool} {a72_38 : Int32} {a72_39 : Int32} {a72_40 : Int32} {a72_41 : Int64} {a72_44 : Int32} {a72_50 : Bool} {p0 : Int32} (h72 : h 72 = o72 a72_0 a72_2 a72_3 a72_4 a72_5 a72_6 a72_7 a72_8 a72_9 a72_10 a72_11 a72_17 a72_18 a72_19 a72_21 a72_22 a72_29 a72_31 a72_35 a72_37 a72_38 a72_39 a72_40 a72_41 a72_44 a72_50) {R9 : Int32 × Int64} (hf : fX12_draw a72_41 p0 = some R9) :
    eSem G la MX12_draw [.ref 72, .int p0] h nx 0 0 (fun r9 h9 => r9 = some (.int R9.1) ∧ h9 = e_up h [(72, o72 a72_0 a72_2 a72_3 a72_4 a72_5 a72_6 a72_7 a72_8 a72_9 a72_10 a72_11 a72_17 a72_18 a72_19 a72_21 a72_22 a72_29 a72_31 a72_35 a72_37 a72_38 a72_39 a72_40 R9.2 a72_44 a72_50)]) := by
  refine eSem.of (k := 0) (L := [some (.ref 72), some (.int p0)]) (by decide +kernel) rfl rfl (fun X F hxl hq hcR hsR => ?_)
  subst hxl
  unfold fX12_draw at hf
  refine r_aload_n F dX12_draw_0 rfl ?_
  refine r_aload_n F dX12_draw_1 rfl ?_
  refine r_get F dX12_draw_2 flX12_401 h72 rfl (e_le rfl) (e_lt hnx rfl) ?_
  refine r_ldc2 F dX12_draw_5 klX12_405 ?_
  refine r_lmul F dX12_draw_8 ?_
  refine r_ldc2 F dX12_draw_9 klX12_407 ?_
  refine r_ladd F dX12_draw_12 ?_
  refine r_put F dX12_draw_13 flX12_401 rfl rfl rfl h72 (e_le rfl) (e_le rfl) (e_lt hnx rfl) (l' := [(72, o72 a72_0 a72_2 a72_3 a72_4 a72_5 a72_6 a72_7 a72_8 a72_9 a72_10 a72_11 a72_17 a72_18 a72_19 a72_21 a72_22 a72_29 a72_31 a72_35 a72_37 a72_38 a72_39 a72_40 ((a72_41 * 6364136223846793005) + 1442695040888963407) a72_44 a72_50)]) rfl ?_
  refine r_aload_n F dX12_draw_16 rfl ?_
  refine r_get F dX12_draw_17 flX12_401 rfl rfl (e_le rfl) (e_lt hnx rfl) ?_
  refine r_bipush F dX12_draw_20 (v := 33) (by decide) ?_
  refine r_lushr F dX12_draw_22 ?_
  refine r_iload_n F dX12_draw_23 rfl ?_
  refine r_i2l F dX12_draw_24 ?_
  obtain ⟨hg, hf⟩ := e_gd hf
  refine r_lrem F dX12_draw_25 (e_nzl_ne hg) ?_
  refine r_l2i F dX12_draw_26 ?_
  obtain rfl := Option.some.inj hf
  exact r_iret F hq dX12_draw_27 rfl rfl (Nat.le_refl _) (Nat.le_refl _) ⟨rfl, rfl⟩

def fX12_end (a72_0 : Int32) (a72_2 : Int32) (p0 : Int32) : Option (Bool × Int32 × Int32) :=
  (fX12_in (Int32.toInt64 p0) 0 (Int32.toInt64 a72_2)).bind (fun q1 =>
  if q1 = true then
    some (true, 0, p0)
  else
    some (false, 0, a72_2))
set_option maxRecDepth 100000 in
theorem tX12_end_72 {G : eG} (hG : e_GS G) {la : Launch} {h : Nat → eO} {nx : Nat} (hnx : 99 ≤ nx) {a72_0 : Int32} {a72_2 : Int32} {a72_3 : Int32} {a72_4 : Int32} {a72_5 : Int32} {a72_6 : Int32} {a72_7 : Int32} {a72_8 : Bool} {a72_9 : Int32} {a72_10 : Int32} {a72_11 : Int32} {a72_17 : Bool} {a72_18 : Bool} {a72_19 : Bool} {a72_21 : Int32} {a72_22 : Int32} {a72_29 : Int32} {a72_31 : Int32} {a72_35 : Int32} {a72_37 : Bool} {a72_38 : Int32} {a72_39 : Int32} {a72_40 : Int32} {a72_41 : Int64} {a72_44 : Int32} {a72_50 : Bool} {p0 : Int32} (h72 : h 72 = o72 a72_0 a72_2 a72_3 a72_4 a72_5 a72_6 a72_7 a72_8 a72_9 a72_10 a72_11 a72_17 a72_18 a72_19 a72_21 a72_22 a72_29 a72_31 a72_35 a72_37 a72_38 a72_39 a72_40 a72_41 a72_44 a72_50) {R9 : Bool × Int32 × Int32} (hf : fX12_end a72_0 a72_2 p0 = some R9) :
    eSem G la MX12_end [.ref 72, .int p0] h nx 0 0 (fun r9 h9 => r9 = some (.int (e_b R9.1)) ∧ h9 = e_up h [(72, o72 R9.2.1 R9.2.2 a72_3 a72_4 a72_5 a72_6 a72_7 a72_8 a72_9 a72_10 a72_11 a72_17 a72_18 a72_19 a72_21 a72_22 a72_29 a72_31 a72_35 a72_37 a72_38 a72_39 a72_40 a72_41 a72_44 a72_50)]) := by
  refine eSem.of (k := 0) (L := [some (.ref 72), some (.int p0)]) (by decide +kernel) rfl rfl (fun X F hxl hq hcR hsR => ?_)
  subst hxl
  unfold fX12_end at hf
  refine r_aload_n F dX12_end_0 rfl ?_
  refine r_iconst F dX12_end_1 (v := 0) (by decide) ?_
  refine r_put F dX12_end_2 flX12_86 rfl rfl rfl h72 (e_le rfl) (e_le rfl) (e_lt hnx rfl) (l' := [(72, o72 0 a72_2 a72_3 a72_4 a72_5 a72_6 a72_7 a72_8 a72_9 a72_10 a72_11 a72_17 a72_18 a72_19 a72_21 a72_22 a72_29 a72_31 a72_35 a72_37 a72_38 a72_39 a72_40 a72_41 a72_44 a72_50)]) rfl ?_
  refine r_iload_n F dX12_end_5 rfl ?_
  refine r_i2l F dX12_end_6 ?_
  refine r_lconst F dX12_end_7 (v := 0) (by decide) ?_
  refine r_aload_n F dX12_end_8 rfl ?_
  refine r_get F dX12_end_9 flX12_94 rfl rfl (e_le rfl) (e_lt hnx rfl) ?_
  refine r_i2l F dX12_end_12 ?_
  obtain ⟨q1, hq2, hf⟩ := e_bd hf
  refine r_callS F dX12_end_13 (dc := 0) (ds := 0) (As := [.long (Int32.toInt64 p0), .long 0, .long (Int32.toInt64 a72_2)]) (S0 := []) lkX12_97 mX12_in (tX12_in hG (la := x_l X) (h := e_up h [(72, o72 0 a72_2 a72_3 a72_4 a72_5 a72_6 a72_7 a72_8 a72_9 a72_10 a72_11 a72_17 a72_18 a72_19 a72_21 a72_22 a72_29 a72_31 a72_35 a72_37 a72_38 a72_39 a72_40 a72_41 a72_44 a72_50)]) hnx  hq2) rfl rfl rfl (e_le rfl) (e_le rfl) (e_le rfl) (Nat.zero_le _) (Nat.zero_le _) (e_k ?_)
  refine r_wr0 ?_
  refine r_z_ne F dX12_end_16 (tgt := 21) (by decide) (fun hc => ?_) (fun hc => ?_)
  · have hf := e_t hc hf
    refine r_aload_n F dX12_end_21 rfl ?_
    refine r_iload_n F dX12_end_22 rfl ?_
    refine r_put F dX12_end_23 flX12_94 rfl rfl rfl rfl (e_le rfl) (e_le rfl) (e_lt hnx rfl) (l' := [(72, o72 0 p0 a72_3 a72_4 a72_5 a72_6 a72_7 a72_8 a72_9 a72_10 a72_11 a72_17 a72_18 a72_19 a72_21 a72_22 a72_29 a72_31 a72_35 a72_37 a72_38 a72_39 a72_40 a72_41 a72_44 a72_50)]) rfl ?_
    refine r_iconst F dX12_end_26 (v := 1) (by decide) ?_
    obtain rfl := Option.some.inj hf
    exact r_zret F hq (v := true) dX12_end_27 rfl rfl (Nat.le_refl _) (Nat.le_refl _) ⟨rfl, rfl⟩
  · have hf := e_f hc hf
    refine r_iconst F dX12_end_19 (v := 0) (by decide) ?_
    obtain rfl := Option.some.inj hf
    exact r_zret F hq (v := false) dX12_end_20 rfl rfl (Nat.le_refl _) (Nat.le_refl _) ⟨rfl, rfl⟩

def fX12_face (a72_0 : Int32) (a72_21 : Int32) (a72_22 : Int32) (a72_29 : Int32) (A79 : Nat → Int32) (A80 : Nat → Int32) (A81 : Nat → Int32) (A82 : Nat → Int32) (A83 : Nat → Int32) (A84 : Nat → Int32) (A85 : Nat → Int32) (p0 : Int32) (p1 : Int32) (p2 : Int32) : Option (Int32 × Int32 × Int32 × (Nat → Int32) × (Nat → Int32) × (Nat → Int32) × (Nat → Int32) × (Nat → Int32)) :=
  (fX12_isCrystal a72_21).bind (fun q1 =>
  if q1 = true then
    (fX12_isFace a72_21 a72_22 p0 p1).bind (fun q3 =>
    if q3 = true then
      (fX12_in (Int32.toInt64 p2) 0 2).bind (fun q5 =>
      if q5 = true then
        (fX12_laysCores a72_21 a72_22 a72_29 A79 A80 A81 A82 A83 A84 A85).bind (fun q7 =>
        if p2 = 2 then
          (fX12_coreOf q7.2.1 q7.2.2.1 q7.2.2.2.1 p0 p1).bind (fun q11 =>
          some (q11, 0, q7.2.1, q7.2.2.1, q7.2.2.2.1, q7.2.2.2.2.1, q7.2.2.2.2.2.1, q7.2.2.2.2.2.2))
        else
          (fX12_vector A79 p0 p1 p2).bind (fun q9 =>
          some (q9, 0, q7.2.1, q7.2.2.1, q7.2.2.2.1, q7.2.2.2.2.1, q7.2.2.2.2.2.1, q7.2.2.2.2.2.2)))
      else
        some ((-1000000), 0, a72_29, A81, A82, A83, A84, A85))
    else
      some ((-1000000), 0, a72_29, A81, A82, A83, A84, A85))
  else
    some ((-1000000), 0, a72_29, A81, A82, A83, A84, A85))
set_option maxRecDepth 100000 in
theorem tX12_face_72 {G : eG} (hG : e_GS G) {la : Launch} {h : Nat → eO} {nx : Nat} (hnx : 99 ≤ nx) {a72_0 : Int32} {a72_2 : Int32} {a72_3 : Int32} {a72_4 : Int32} {a72_5 : Int32} {a72_6 : Int32} {a72_7 : Int32} {a72_8 : Bool} {a72_9 : Int32} {a72_10 : Int32} {a72_11 : Int32} {a72_17 : Bool} {a72_18 : Bool} {a72_19 : Bool} {a72_21 : Int32} {a72_22 : Int32} {a72_29 : Int32} {a72_31 : Int32} {a72_35 : Int32} {a72_37 : Bool} {a72_38 : Int32} {a72_39 : Int32} {a72_40 : Int32} {a72_41 : Int64} {a72_44 : Int32} {a72_50 : Bool} {A79 : Nat → Int32} {A80 : Nat → Int32} {A81 : Nat → Int32} {A82 : Nat → Int32} {A83 : Nat → Int32} {A84 : Nat → Int32} {A85 : Nat → Int32} {p0 : Int32} {p1 : Int32} {p2 : Int32} (h72 : h 72 = o72 a72_0 a72_2 a72_3 a72_4 a72_5 a72_6 a72_7 a72_8 a72_9 a72_10 a72_11 a72_17 a72_18 a72_19 a72_21 a72_22 a72_29 a72_31 a72_35 a72_37 a72_38 a72_39 a72_40 a72_41 a72_44 a72_50) (h79 : h 79 = o79 A79) (h80 : h 80 = o80 A80) (h81 : h 81 = o81 A81) (h82 : h 82 = o82 A82) (h83 : h 83 = o83 A83) (h84 : h 84 = o84 A84) (h85 : h 85 = o85 A85) {R9 : Int32 × Int32 × Int32 × (Nat → Int32) × (Nat → Int32) × (Nat → Int32) × (Nat → Int32) × (Nat → Int32)} (hf : fX12_face a72_0 a72_21 a72_22 a72_29 A79 A80 A81 A82 A83 A84 A85 p0 p1 p2 = some R9) :
    eSem G la MX12_face [.ref 72, .int p0, .int p1, .int p2] h nx 0 0 (fun r9 h9 => r9 = some (.int R9.1) ∧ h9 = e_up h [(72, o72 R9.2.1 a72_2 a72_3 a72_4 a72_5 a72_6 a72_7 a72_8 a72_9 a72_10 a72_11 a72_17 a72_18 a72_19 a72_21 a72_22 R9.2.2.1 a72_31 a72_35 a72_37 a72_38 a72_39 a72_40 a72_41 a72_44 a72_50), (81, o81 R9.2.2.2.1), (82, o82 R9.2.2.2.2.1), (83, o83 R9.2.2.2.2.2.1), (84, o84 R9.2.2.2.2.2.2.1), (85, o85 R9.2.2.2.2.2.2.2)]) := by
  refine eSem.of (k := 0) (L := [some (.ref 72), some (.int p0), some (.int p1), some (.int p2)]) (by decide +kernel) rfl rfl (fun X F hxl hq hcR hsR => ?_)
  subst hxl
  unfold fX12_face at hf
  refine r_aload_n F dX12_face_0 rfl ?_
  refine r_iconst F dX12_face_1 (v := 0) (by decide) ?_
  refine r_put F dX12_face_2 flX12_86 rfl rfl rfl h72 (e_le rfl) (e_le rfl) (e_lt hnx rfl) (l' := [(72, o72 0 a72_2 a72_3 a72_4 a72_5 a72_6 a72_7 a72_8 a72_9 a72_10 a72_11 a72_17 a72_18 a72_19 a72_21 a72_22 a72_29 a72_31 a72_35 a72_37 a72_38 a72_39 a72_40 a72_41 a72_44 a72_50)]) rfl ?_
  refine r_aload_n F dX12_face_5 rfl ?_
  obtain ⟨q1, hq2, hf⟩ := e_bd hf
  refine r_callV F dX12_face_6 (b := 72) (dc := 0) (ds := 0) (As := []) (S0 := []) lkX12_306 mX12_isCrystal (tX12_isCrystal_72 hG (la := x_l X) (h := e_up h [(72, o72 0 a72_2 a72_3 a72_4 a72_5 a72_6 a72_7 a72_8 a72_9 a72_10 a72_11 a72_17 a72_18 a72_19 a72_21 a72_22 a72_29 a72_31 a72_35 a72_37 a72_38 a72_39 a72_40 a72_41 a72_44 a72_50)]) hnx rfl hq2) rfl rfl rfl (e_le rfl) (e_le rfl) (e_le rfl) rfl (ci := 12) e_cl12.1 rfl (e_le rfl) (e_lt hnx rfl) (Nat.zero_le _) (Nat.zero_le _) (e_k ?_)
  refine r_wr0 ?_
  refine r_z_eq F dX12_face_9 (tgt := 33) (by decide) (fun hc => ?_) (fun hc => ?_)
  · have hf := e_t hc hf
    refine r_aload_n F dX12_face_12 rfl ?_
    refine r_iload_n F dX12_face_13 rfl ?_
    refine r_iload_n F dX12_face_14 rfl ?_
    obtain ⟨q3, hq4, hf⟩ := e_bd hf
    refine r_callV F dX12_face_15 (b := 72) (dc := 0) (ds := 0) (As := [.int p0, .int p1]) (S0 := []) lkX12_288 mX12_isFace (tX12_isFace_72 hG (la := x_l X) (h := e_up h [(72, o72 0 a72_2 a72_3 a72_4 a72_5 a72_6 a72_7 a72_8 a72_9 a72_10 a72_11 a72_17 a72_18 a72_19 a72_21 a72_22 a72_29 a72_31 a72_35 a72_37 a72_38 a72_39 a72_40 a72_41 a72_44 a72_50)]) hnx rfl hq4) rfl rfl rfl (e_le rfl) (e_le rfl) (e_le rfl) rfl (ci := 12) e_cl12.1 rfl (e_le rfl) (e_lt hnx rfl) (Nat.zero_le _) (Nat.zero_le _) (e_k ?_)
    refine r_wr0 ?_
    refine r_z_eq F dX12_face_18 (tgt := 33) (by decide) (fun hc => ?_) (fun hc => ?_)
    · have hf := e_t hc hf
      refine r_iload_n F dX12_face_21 rfl ?_
      refine r_i2l F dX12_face_22 ?_
      refine r_lconst F dX12_face_23 (v := 0) (by decide) ?_
      refine r_ldc2 F dX12_face_24 klX12_329 ?_
      obtain ⟨q5, hq6, hf⟩ := e_bd hf
      refine r_callS F dX12_face_27 (dc := 0) (ds := 0) (As := [.long (Int32.toInt64 p2), .long 0, .long 2]) (S0 := []) lkX12_97 mX12_in (tX12_in hG (la := x_l X) (h := e_up h [(72, o72 0 a72_2 a72_3 a72_4 a72_5 a72_6 a72_7 a72_8 a72_9 a72_10 a72_11 a72_17 a72_18 a72_19 a72_21 a72_22 a72_29 a72_31 a72_35 a72_37 a72_38 a72_39 a72_40 a72_41 a72_44 a72_50)]) hnx  hq6) rfl rfl rfl (e_le rfl) (e_le rfl) (e_le rfl) (Nat.zero_le _) (Nat.zero_le _) (e_k ?_)
      refine r_wr0 ?_
      refine r_z_ne F dX12_face_30 (tgt := 37) (by decide) (fun hc => ?_) (fun hc => ?_)
      · have hf := e_t hc hf
        refine r_aload_n F dX12_face_37 rfl ?_
        obtain ⟨q7, hq8, hf⟩ := e_bd hf
        refine r_callV F dX12_face_38 (b := 72) (dc := 0) (ds := 0) (As := []) (S0 := []) lkX12_238 mX12_laysCores (tX12_laysCores_72 hG (la := x_l X) (h := e_up h [(72, o72 0 a72_2 a72_3 a72_4 a72_5 a72_6 a72_7 a72_8 a72_9 a72_10 a72_11 a72_17 a72_18 a72_19 a72_21 a72_22 a72_29 a72_31 a72_35 a72_37 a72_38 a72_39 a72_40 a72_41 a72_44 a72_50)]) hnx rfl h79 h80 h81 h82 h83 h84 h85 hq8) rfl rfl rfl (e_le rfl) (e_le rfl) (e_le rfl) rfl (ci := 12) e_cl12.1 rfl (e_le rfl) (e_lt hnx rfl) (Nat.zero_le _) (Nat.zero_le _) (e_k ?_)
        refine r_wr (l' := [(72, o72 0 a72_2 a72_3 a72_4 a72_5 a72_6 a72_7 a72_8 a72_9 a72_10 a72_11 a72_17 a72_18 a72_19 a72_21 a72_22 q7.2.1 a72_31 a72_35 a72_37 a72_38 a72_39 a72_40 a72_41 a72_44 a72_50), (81, o81 q7.2.2.1), (82, o82 q7.2.2.2.1), (83, o83 q7.2.2.2.2.1), (84, o84 q7.2.2.2.2.2.1), (85, o85 q7.2.2.2.2.2.2)]) rfl rfl ?_
        refine r_pop F dX12_face_41 rfl ?_
        refine r_iload_n F dX12_face_42 rfl ?_
        refine r_iconst F dX12_face_43 (v := 2) (by decide) ?_
        refine r_icmp_ne F dX12_face_44 (tgt := 56) (by decide) (fun hc => ?_) (fun hc => ?_)
        · have hf := e_f hc hf
          refine r_aload_n F dX12_face_56 rfl ?_
          refine r_iload_n F dX12_face_57 rfl ?_
          refine r_iload_n F dX12_face_58 rfl ?_
          refine r_iload_n F dX12_face_59 rfl ?_
          obtain ⟨q9, hq10, hf⟩ := e_bd hf
          refine r_callV F dX12_face_60 (b := 72) (dc := 0) (ds := 0) (As := [.int p0, .int p1, .int p2]) (S0 := []) lkX12_221 mX12_vector (tX12_vector_72 hG (la := x_l X) (h := e_up h [(72, o72 0 a72_2 a72_3 a72_4 a72_5 a72_6 a72_7 a72_8 a72_9 a72_10 a72_11 a72_17 a72_18 a72_19 a72_21 a72_22 q7.2.1 a72_31 a72_35 a72_37 a72_38 a72_39 a72_40 a72_41 a72_44 a72_50), (81, o81 q7.2.2.1), (82, o82 q7.2.2.2.1), (83, o83 q7.2.2.2.2.1), (84, o84 q7.2.2.2.2.2.1), (85, o85 q7.2.2.2.2.2.2)]) hnx rfl h79 hq10) rfl rfl rfl (e_le rfl) (e_le rfl) (e_le rfl) rfl (ci := 12) e_cl12.1 rfl (e_le rfl) (e_lt hnx rfl) (Nat.zero_le _) (Nat.zero_le _) (e_k ?_)
          refine r_wr0 ?_
          obtain rfl := Option.some.inj hf
          exact r_iret F hq dX12_face_63 rfl rfl (Nat.le_refl _) (Nat.le_refl _) ⟨rfl, rfl⟩
        · have hf := e_t hc hf
          refine r_aload_n F dX12_face_47 rfl ?_
          refine r_iload_n F dX12_face_48 rfl ?_
          refine r_iload_n F dX12_face_49 rfl ?_
          obtain ⟨q11, hq12, hf⟩ := e_bd hf
          refine r_callV F dX12_face_50 (b := 72) (dc := 0) (ds := 0) (As := [.int p0, .int p1]) (S0 := []) lkX12_331 mX12_coreOf (tX12_coreOf_72 hG (la := x_l X) (h := e_up h [(72, o72 0 a72_2 a72_3 a72_4 a72_5 a72_6 a72_7 a72_8 a72_9 a72_10 a72_11 a72_17 a72_18 a72_19 a72_21 a72_22 q7.2.1 a72_31 a72_35 a72_37 a72_38 a72_39 a72_40 a72_41 a72_44 a72_50), (81, o81 q7.2.2.1), (82, o82 q7.2.2.2.1), (83, o83 q7.2.2.2.2.1), (84, o84 q7.2.2.2.2.2.1), (85, o85 q7.2.2.2.2.2.2)]) hnx rfl rfl rfl hq12) rfl rfl rfl (e_le rfl) (e_le rfl) (e_le rfl) rfl (ci := 12) e_cl12.1 rfl (e_le rfl) (e_lt hnx rfl) (Nat.zero_le _) (Nat.zero_le _) (e_k ?_)
          refine r_wr0 ?_
          refine r_goto F dX12_face_53 (tgt := 63) (by decide) ?_
          obtain rfl := Option.some.inj hf
          exact r_iret F hq dX12_face_63 rfl rfl (Nat.le_refl _) (Nat.le_refl _) ⟨rfl, rfl⟩
      · have hf := e_f hc hf
        refine r_ldcw F dX12_face_33 kcX12_310 ?_
        refine r_mat (k := 81) h81 (l' := [(72, o72 0 a72_2 a72_3 a72_4 a72_5 a72_6 a72_7 a72_8 a72_9 a72_10 a72_11 a72_17 a72_18 a72_19 a72_21 a72_22 a72_29 a72_31 a72_35 a72_37 a72_38 a72_39 a72_40 a72_41 a72_44 a72_50), (81, o81 A81)]) rfl ?_
        refine r_mat (k := 82) h82 (l' := [(72, o72 0 a72_2 a72_3 a72_4 a72_5 a72_6 a72_7 a72_8 a72_9 a72_10 a72_11 a72_17 a72_18 a72_19 a72_21 a72_22 a72_29 a72_31 a72_35 a72_37 a72_38 a72_39 a72_40 a72_41 a72_44 a72_50), (81, o81 A81), (82, o82 A82)]) rfl ?_
        refine r_mat (k := 83) h83 (l' := [(72, o72 0 a72_2 a72_3 a72_4 a72_5 a72_6 a72_7 a72_8 a72_9 a72_10 a72_11 a72_17 a72_18 a72_19 a72_21 a72_22 a72_29 a72_31 a72_35 a72_37 a72_38 a72_39 a72_40 a72_41 a72_44 a72_50), (81, o81 A81), (82, o82 A82), (83, o83 A83)]) rfl ?_
        refine r_mat (k := 84) h84 (l' := [(72, o72 0 a72_2 a72_3 a72_4 a72_5 a72_6 a72_7 a72_8 a72_9 a72_10 a72_11 a72_17 a72_18 a72_19 a72_21 a72_22 a72_29 a72_31 a72_35 a72_37 a72_38 a72_39 a72_40 a72_41 a72_44 a72_50), (81, o81 A81), (82, o82 A82), (83, o83 A83), (84, o84 A84)]) rfl ?_
        refine r_mat (k := 85) h85 (l' := [(72, o72 0 a72_2 a72_3 a72_4 a72_5 a72_6 a72_7 a72_8 a72_9 a72_10 a72_11 a72_17 a72_18 a72_19 a72_21 a72_22 a72_29 a72_31 a72_35 a72_37 a72_38 a72_39 a72_40 a72_41 a72_44 a72_50), (81, o81 A81), (82, o82 A82), (83, o83 A83), (84, o84 A84), (85, o85 A85)]) rfl ?_
        obtain rfl := Option.some.inj hf
        exact r_iret F hq dX12_face_36 rfl rfl (Nat.le_refl _) (Nat.le_refl _) ⟨rfl, rfl⟩
    · have hf := e_f hc hf
      refine r_ldcw F dX12_face_33 kcX12_310 ?_
      refine r_mat (k := 81) h81 (l' := [(72, o72 0 a72_2 a72_3 a72_4 a72_5 a72_6 a72_7 a72_8 a72_9 a72_10 a72_11 a72_17 a72_18 a72_19 a72_21 a72_22 a72_29 a72_31 a72_35 a72_37 a72_38 a72_39 a72_40 a72_41 a72_44 a72_50), (81, o81 A81)]) rfl ?_
      refine r_mat (k := 82) h82 (l' := [(72, o72 0 a72_2 a72_3 a72_4 a72_5 a72_6 a72_7 a72_8 a72_9 a72_10 a72_11 a72_17 a72_18 a72_19 a72_21 a72_22 a72_29 a72_31 a72_35 a72_37 a72_38 a72_39 a72_40 a72_41 a72_44 a72_50), (81, o81 A81), (82, o82 A82)]) rfl ?_
      refine r_mat (k := 83) h83 (l' := [(72, o72 0 a72_2 a72_3 a72_4 a72_5 a72_6 a72_7 a72_8 a72_9 a72_10 a72_11 a72_17 a72_18 a72_19 a72_21 a72_22 a72_29 a72_31 a72_35 a72_37 a72_38 a72_39 a72_40 a72_41 a72_44 a72_50), (81, o81 A81), (82, o82 A82), (83, o83 A83)]) rfl ?_
      refine r_mat (k := 84) h84 (l' := [(72, o72 0 a72_2 a72_3 a72_4 a72_5 a72_6 a72_7 a72_8 a72_9 a72_10 a72_11 a72_17 a72_18 a72_19 a72_21 a72_22 a72_29 a72_31 a72_35 a72_37 a72_38 a72_39 a72_40 a72_41 a72_44 a72_50), (81, o81 A81), (82, o82 A82), (83, o83 A83), (84, o84 A84)]) rfl ?_
      refine r_mat (k := 85) h85 (l' := [(72, o72 0 a72_2 a72_3 a72_4 a72_5 a72_6 a72_7 a72_8 a72_9 a72_10 a72_11 a72_17 a72_18 a72_19 a72_21 a72_22 a72_29 a72_31 a72_35 a72_37 a72_38 a72_39 a72_40 a72_41 a72_44 a72_50), (81, o81 A81), (82, o82 A82), (83, o83 A83), (84, o84 A84), (85, o85 A85)]) rfl ?_
      obtain rfl := Option.some.inj hf
      exact r_iret F hq dX12_face_36 rfl rfl (Nat.le_refl _) (Nat.le_refl _) ⟨rfl, rfl⟩
  · have hf := e_f hc hf
    refine r_ldcw F dX12_face_33 kcX12_310 ?_
    refine r_mat (k := 81) h81 (l' := [(72, o72 0 a72_2 a72_3 a72_4 a72_5 a72_6 a72_7 a72_8 a72_9 a72_10 a72_11 a72_17 a72_18 a72_19 a72_21 a72_22 a72_29 a72_31 a72_35 a72_37 a72_38 a72_39 a72_40 a72_41 a72_44 a72_50), (81, o81 A81)]) rfl ?_
    refine r_mat (k := 82) h82 (l' := [(72, o72 0 a72_2 a72_3 a72_4 a72_5 a72_6 a72_7 a72_8 a72_9 a72_10 a72_11 a72_17 a72_18 a72_19 a72_21 a72_22 a72_29 a72_31 a72_35 a72_37 a72_38 a72_39 a72_40 a72_41 a72_44 a72_50), (81, o81 A81), (82, o82 A82)]) rfl ?_
    refine r_mat (k := 83) h83 (l' := [(72, o72 0 a72_2 a72_3 a72_4 a72_5 a72_6 a72_7 a72_8 a72_9 a72_10 a72_11 a72_17 a72_18 a72_19 a72_21 a72_22 a72_29 a72_31 a72_35 a72_37 a72_38 a72_39 a72_40 a72_41 a72_44 a72_50), (81, o81 A81), (82, o82 A82), (83, o83 A83)]) rfl ?_
    refine r_mat (k := 84) h84 (l' := [(72, o72 0 a72_2 a72_3 a72_4 a72_5 a72_6 a72_7 a72_8 a72_9 a72_10 a72_11 a72_17 a72_18 a72_19 a72_21 a72_22 a72_29 a72_31 a72_35 a72_37 a72_38 a72_39 a72_40 a72_41 a72_44 a72_50), (81, o81 A81), (82, o82 A82), (83, o83 A83), (84, o84 A84)]) rfl ?_
    refine r_mat (k := 85) h85 (l' := [(72, o72 0 a72_2 a72_3 a72_4 a72_5 a72_6 a72_7 a72_8 a72_9 a72_10 a72_11 a72_17 a72_18 a72_19 a72_21 a72_22 a72_29 a72_31 a72_35 a72_37 a72_38 a72_39 a72_40 a72_41 a72_44 a72_50), (81, o81 A81), (82, o82 A82), (83, o83 A83), (84, o84 A84), (85, o85 A85)]) rfl ?_
    obtain rfl := Option.some.inj hf
    exact r_iret F hq dX12_face_36 rfl rfl (Nat.le_refl _) (Nat.le_refl _) ⟨rfl, rfl⟩

def fX12_see (a72_2 : Int32) (A73 : Nat → Int32) (p0 : Int32) : Option (Int32) :=
  if a72_2 ≤ p0 then
    some (-1)
  else
    e_g (e_in p0 300) (
    some (A73 (tn p0)))
set_option maxRecDepth 100000 in
theorem tX12_see_72 {G : eG} (hG : e_GS G) {la : Launch} {h : Nat → eO} {nx : Nat} (hnx : 99 ≤ nx) {a72_0 : Int32} {a72_2 : Int32} {a72_3 : Int32} {a72_4 : Int32} {a72_5 : Int32} {a72_6 : Int32} {a72_7 : Int32} {a72_8 : Bool} {a72_9 : Int32} {a72_10 : Int32} {a72_11 : Int32} {a72_17 : Bool} {a72_18 : Bool} {a72_19 : Bool} {a72_21 : Int32} {a72_22 : Int32} {a72_29 : Int32} {a72_31 : Int32} {a72_35 : Int32} {a72_37 : Bool} {a72_38 : Int32} {a72_39 : Int32} {a72_40 : Int32} {a72_41 : Int64} {a72_44 : Int32} {a72_50 : Bool} {A73 : Nat → Int32} {p0 : Int32} (h72 : h 72 = o72 a72_0 a72_2 a72_3 a72_4 a72_5 a72_6 a72_7 a72_8 a72_9 a72_10 a72_11 a72_17 a72_18 a72_19 a72_21 a72_22 a72_29 a72_31 a72_35 a72_37 a72_38 a72_39 a72_40 a72_41 a72_44 a72_50) (h73 : h 73 = o73 A73) {R9 : Int32} (hf : fX12_see a72_2 A73 p0 = some R9) :
    eSem G la MX12_see [.ref 72, .int p0] h nx 0 0 (fun r9 h9 => r9 = some (.int R9) ∧ h9 = h) := by
  refine eSem.of (k := 0) (L := [some (.ref 72), some (.int p0)]) (by decide +kernel) rfl rfl (fun X F hxl hq hcR hsR => ?_)
  subst hxl
  unfold fX12_see at hf
  refine r_iload_n F dX12_see_0 rfl ?_
  refine r_aload_n F dX12_see_1 rfl ?_
  refine r_get F dX12_see_2 flX12_94 h72 rfl (e_le rfl) (e_lt hnx rfl) ?_
  refine r_icmp_ge F dX12_see_5 (tgt := 17) (by decide) (fun hc => ?_) (fun hc => ?_)
  · have hf := e_t hc hf
    refine r_iconst F dX12_see_17 (v := (-1)) (by decide) ?_
    obtain rfl := Option.some.inj hf
    exact r_iret F hq dX12_see_18 rfl rfl (Nat.le_refl _) (Nat.le_refl _) ⟨rfl, rfl⟩
  · have hf := e_f hc hf
    refine r_aload_n F dX12_see_8 rfl ?_
    refine r_get F dX12_see_9 flX12_9 h72 rfl (e_le rfl) (e_lt hnx rfl) ?_
    refine r_iload_n F dX12_see_12 rfl ?_
    obtain ⟨hg, hf⟩ := e_gd hf
    refine r_iald F dX12_see_13 (i := p0) h73 (e_le rfl) (e_lt hnx rfl) (e_vp hg) ?_
    refine r_goto F dX12_see_14 (tgt := 18) (by decide) ?_
    obtain rfl := Option.some.inj hf
    exact r_iret F hq dX12_see_18 rfl rfl (Nat.le_refl _) (Nat.le_refl _) ⟨rfl, rfl⟩

def fX12_isSmall  (p0 : Int32) : Option (Bool) :=
  if p0 < 97 then
    some false
  else
    if 122 < p0 then
      some false
    else
      some true
set_option maxRecDepth 100000 in
theorem tX12_isSmall {G : eG} (hG : e_GS G) {la : Launch} {h : Nat → eO} {nx : Nat} (hnx : 99 ≤ nx)  {p0 : Int32}  {R9 : Bool} (hf : fX12_isSmall  p0 = some R9) :
    eSem G la MX12_isSmall [.int p0] h nx 0 0 (fun r9 h9 => r9 = some (.int (e_b R9)) ∧ h9 = h) := by
  refine eSem.of (k := 0) (L := [some (.int p0)]) (by decide +kernel) rfl rfl (fun X F hxl hq hcR hsR => ?_)
  subst hxl
  unfold fX12_isSmall at hf
  refine r_iload_n F dX12_isSmall_0 rfl ?_
  refine r_bipush F dX12_isSmall_1 (v := 97) (by decide) ?_
  refine r_icmp_lt F dX12_isSmall_3 (tgt := 16) (by decide) (fun hc => ?_) (fun hc => ?_)
  · have hf := e_t hc hf
    refine r_iconst F dX12_isSmall_16 (v := 0) (by decide) ?_
    obtain rfl := Option.some.inj hf
    exact r_zret F hq (v := false) dX12_isSmall_17 rfl rfl (Nat.le_refl _) (Nat.le_refl _) ⟨rfl, rfl⟩
  · have hf := e_f hc hf
    refine r_iload_n F dX12_isSmall_6 rfl ?_
    refine r_bipush F dX12_isSmall_7 (v := 122) (by decide) ?_
    refine r_icmp_gt F dX12_isSmall_9 (tgt := 16) (by decide) (fun hc => ?_) (fun hc => ?_)
    · have hf := e_t hc hf
      refine r_iconst F dX12_isSmall_16 (v := 0) (by decide) ?_
      obtain rfl := Option.some.inj hf
      exact r_zret F hq (v := false) dX12_isSmall_17 rfl rfl (Nat.le_refl _) (Nat.le_refl _) ⟨rfl, rfl⟩
    · have hf := e_f hc hf
      refine r_iconst F dX12_isSmall_12 (v := 1) (by decide) ?_
      refine r_goto F dX12_isSmall_13 (tgt := 17) (by decide) ?_
      obtain rfl := Option.some.inj hf
      exact r_zret F hq (v := true) dX12_isSmall_17 rfl rfl (Nat.le_refl _) (Nat.le_refl _) ⟨rfl, rfl⟩

def fX12_isDigit  (p0 : Int32) : Option (Bool) :=
  if p0 < 48 then
    some false
  else
    if 57 < p0 then
      some false
    else
      some true
set_option maxRecDepth 100000 in
theorem tX12_isDigit {G : eG} (hG : e_GS G) {la : Launch} {h : Nat → eO} {nx : Nat} (hnx : 99 ≤ nx)  {p0 : Int32}  {R9 : Bool} (hf : fX12_isDigit  p0 = some R9) :
    eSem G la MX12_isDigit [.int p0] h nx 0 0 (fun r9 h9 => r9 = some (.int (e_b R9)) ∧ h9 = h) := by
  refine eSem.of (k := 0) (L := [some (.int p0)]) (by decide +kernel) rfl rfl (fun X F hxl hq hcR hsR => ?_)
  subst hxl
  unfold fX12_isDigit at hf
  refine r_iload_n F dX12_isDigit_0 rfl ?_
  refine r_bipush F dX12_isDigit_1 (v := 48) (by decide) ?_
  refine r_icmp_lt F dX12_isDigit_3 (tgt := 16) (by decide) (fun hc => ?_) (fun hc => ?_)
  · have hf := e_t hc hf
    refine r_iconst F dX12_isDigit_16 (v := 0) (by decide) ?_
    obtain rfl := Option.some.inj hf
    exact r_zret F hq (v := false) dX12_isDigit_17 rfl rfl (Nat.le_refl _) (Nat.le_refl _) ⟨rfl, rfl⟩
  · have hf := e_f hc hf
    refine r_iload_n F dX12_isDigit_6 rfl ?_
    refine r_bipush F dX12_isDigit_7 (v := 57) (by decide) ?_
    refine r_icmp_gt F dX12_isDigit_9 (tgt := 16) (by decide) (fun hc => ?_) (fun hc => ?_)
    · have hf := e_t hc hf
      refine r_iconst F dX12_isDigit_16 (v := 0) (by decide) ?_
      obtain rfl := Option.some.inj hf
      exact r_zret F hq (v := false) dX12_isDigit_17 rfl rfl (Nat.le_refl _) (Nat.le_refl _) ⟨rfl, rfl⟩
    · have hf := e_f hc hf
      refine r_iconst F dX12_isDigit_12 (v := 1) (by decide) ?_
      refine r_goto F dX12_isDigit_13 (tgt := 17) (by decide) ?_
      obtain rfl := Option.some.inj hf
      exact r_zret F hq (v := true) dX12_isDigit_17 rfl rfl (Nat.le_refl _) (Nat.le_refl _) ⟨rfl, rfl⟩

def fX12_readsNumber (a72_2 : Int32) (a72_3 : Int32) (a72_6 : Int32) (a72_7 : Int32) (A73 : Nat → Int32) (p0 : Bool) : Option (Int32 × Int32 × Int32) :=
  Option.bind (α := Bool) (
    if p0 = true then
      some true
    else
      some false) (fun q1 =>
  (e_loop (fun (v5 : Int32 × Int32) => (
      (fX12_see a72_2 A73 v5.1).bind (fun q8 =>
      (fX12_isDigit q8).bind (fun q10 =>
      if q10 = true then
        (fX12_see a72_2 A73 v5.1).bind (fun q12 =>
        (fJ9_min_7cf53 1000 ((((10 : Int32) * v5.2) + q12) - 48)).bind (fun q14 =>
        some (.inl (v5.1 + 1, q14))))
      else
        some (.inr (v5.1, v5.2)))) : Option ((Int32 × Int32) ⊕ (Int32 × Int32)))) e_fuel (a72_3 + (e_b q1), 0)).bind (fun x6 =>
  if (x6.1 - (a72_3 + (e_b q1))) ≤ 2 then
    if p0 = true then
      some (x6.1, 2, (0 : Int32) - x6.2)
    else
      some (x6.1, 2, x6.2)
  else
    some (x6.1, 2, 10000)))
set_option maxRecDepth 100000 in
theorem tX12_readsNumber_72 {G : eG} (hG : e_GS G) {la : Launch} {h : Nat → eO} {nx : Nat} (hnx : 99 ≤ nx) {a72_0 : Int32} {a72_2 : Int32} {a72_3 : Int32} {a72_4 : Int32} {a72_5 : Int32} {a72_6 : Int32} {a72_7 : Int32} {a72_8 : Bool} {a72_9 : Int32} {a72_10 : Int32} {a72_11 : Int32} {a72_17 : Bool} {a72_18 : Bool} {a72_19 : Bool} {a72_21 : Int32} {a72_22 : Int32} {a72_29 : Int32} {a72_31 : Int32} {a72_35 : Int32} {a72_37 : Bool} {a72_38 : Int32} {a72_39 : Int32} {a72_40 : Int32} {a72_41 : Int64} {a72_44 : Int32} {a72_50 : Bool} {A73 : Nat → Int32} {p0 : Bool} (h72 : h 72 = o72 a72_0 a72_2 a72_3 a72_4 a72_5 a72_6 a72_7 a72_8 a72_9 a72_10 a72_11 a72_17 a72_18 a72_19 a72_21 a72_22 a72_29 a72_31 a72_35 a72_37 a72_38 a72_39 a72_40 a72_41 a72_44 a72_50) (h73 : h 73 = o73 A73) {R9 : Int32 × Int32 × Int32} (hf : fX12_readsNumber a72_2 a72_3 a72_6 a72_7 A73 p0 = some R9) :
    eSem G la MX12_readsNumber [.ref 72, .int (e_b p0)] h nx 0 0 (fun r9 h9 => r9 = none ∧ h9 = e_up h [(72, o72 a72_0 a72_2 R9.1 a72_4 a72_5 R9.2.1 R9.2.2 a72_8 a72_9 a72_10 a72_11 a72_17 a72_18 a72_19 a72_21 a72_22 a72_29 a72_31 a72_35 a72_37 a72_38 a72_39 a72_40 a72_41 a72_44 a72_50)]) := by
  refine eSem.of (k := 1) (L := [some (.ref 72), some (.int (e_b p0)), none]) (by decide +kernel) rfl rfl (fun X F hxl hq hcR hsR => ?_)
  subst hxl
  unfold fX12_readsNumber at hf
  refine r_aload_n F dX12_readsNumber_0 rfl ?_
  refine r_iconst F dX12_readsNumber_1 (v := 2) (by decide) ?_
  refine r_put F dX12_readsNumber_2 flX12_111 rfl rfl rfl h72 (e_le rfl) (e_le rfl) (e_lt hnx rfl) (l' := [(72, o72 a72_0 a72_2 a72_3 a72_4 a72_5 2 a72_7 a72_8 a72_9 a72_10 a72_11 a72_17 a72_18 a72_19 a72_21 a72_22 a72_29 a72_31 a72_35 a72_37 a72_38 a72_39 a72_40 a72_41 a72_44 a72_50)]) rfl ?_
  refine r_aload_n F dX12_readsNumber_5 rfl ?_
  refine r_dup F dX12_readsNumber_6 rfl ?_
  refine r_get F dX12_readsNumber_7 flX12_101 rfl rfl (e_le rfl) (e_lt hnx rfl) ?_
  refine r_iload_n F dX12_readsNumber_10 rfl ?_
  obtain ⟨q1, hq2, hf⟩ := e_bd hf
  have Jq1 : eRun G X 19 [some (.ref 72), some (.int (e_b p0)), none] [.int (e_b q1), .int a72_3, .ref 72] h [(72, o72 a72_0 a72_2 a72_3 a72_4 a72_5 2 a72_7 a72_8 a72_9 a72_10 a72_11 a72_17 a72_18 a72_19 a72_21 a72_22 a72_29 a72_31 a72_35 a72_37 a72_38 a72_39 a72_40 a72_41 a72_44 a72_50)] nx 0 0 := by
    refine r_iadd F dX12_readsNumber_19 ?_
    refine r_put F dX12_readsNumber_20 flX12_101 rfl rfl rfl rfl (e_le rfl) (e_le rfl) (e_lt hnx rfl) (l' := [(72, o72 a72_0 a72_2 (a72_3 + (e_b q1)) a72_4 a72_5 2 a72_7 a72_8 a72_9 a72_10 a72_11 a72_17 a72_18 a72_19 a72_21 a72_22 a72_29 a72_31 a72_35 a72_37 a72_38 a72_39 a72_40 a72_41 a72_44 a72_50)]) rfl ?_
    refine r_aload_n F dX12_readsNumber_23 rfl ?_
    refine r_get F dX12_readsNumber_24 flX12_101 rfl rfl (e_le rfl) (e_lt hnx rfl) ?_
    refine r_istore_n F dX12_readsNumber_27 (e_le rfl) (L' := [some (.ref 72), some (.int (e_b p0)), some (.int (a72_3 + (e_b q1)))]) rfl ?_
    refine r_aload_n F dX12_readsNumber_28 rfl ?_
    refine r_iconst F dX12_readsNumber_29 (v := 0) (by decide) ?_
    refine r_put F dX12_readsNumber_30 flX12_125 rfl rfl rfl rfl (e_le rfl) (e_le rfl) (e_lt hnx rfl) (l' := [(72, o72 a72_0 a72_2 (a72_3 + (e_b q1)) a72_4 a72_5 2 0 a72_8 a72_9 a72_10 a72_11 a72_17 a72_18 a72_19 a72_21 a72_22 a72_29 a72_31 a72_35 a72_37 a72_38 a72_39 a72_40 a72_41 a72_44 a72_50)]) rfl ?_
    obtain ⟨x6, hx7, hf⟩ := e_bd hf
    refine (e_loop_ok (P := fun (v5 : Int32 × Int32) => eRun G X 33 [some (.ref 72), some (.int (e_b p0)), some (.int (a72_3 + (e_b q1)))] [] h [(72, o72 a72_0 a72_2 v5.1 a72_4 a72_5 2 v5.2 a72_8 a72_9 a72_10 a72_11 a72_17 a72_18 a72_19 a72_21 a72_22 a72_29 a72_31 a72_35 a72_37 a72_38 a72_39 a72_40 a72_41 a72_44 a72_50)] nx 0 0) (K := fun (x6 : Int32 × Int32) => eRun G X 89 [some (.ref 72), some (.int (e_b p0)), some (.int (a72_3 + (e_b q1)))] [] h [(72, o72 a72_0 a72_2 x6.1 a72_4 a72_5 2 x6.2 a72_8 a72_9 a72_10 a72_11 a72_17 a72_18 a72_19 a72_21 a72_22 a72_29 a72_31 a72_35 a72_37 a72_38 a72_39 a72_40 a72_41 a72_44 a72_50)] nx 0 0) ?_ e_fuel (a72_3 + (e_b q1), 0) x6 hx7 ?_ : _)
    · intro v5 z hz ih hx
      refine r_aload_n F dX12_readsNumber_33 rfl ?_
      refine r_aload_n F dX12_readsNumber_34 rfl ?_
      refine r_get F dX12_readsNumber_35 flX12_101 rfl rfl (e_le rfl) (e_lt hnx rfl) ?_
      obtain ⟨q8, hq9, hz⟩ := e_bd hz
      refine r_callV F dX12_readsNumber_38 (b := 72) (dc := 0) (ds := 0) (As := [.int v5.1]) (S0 := []) lkX12_104 mX12_see (tX12_see_72 hG (la := x_l X) (h := e_up h [(72, o72 a72_0 a72_2 v5.1 a72_4 a72_5 2 v5.2 a72_8 a72_9 a72_10 a72_11 a72_17 a72_18 a72_19 a72_21 a72_22 a72_29 a72_31 a72_35 a72_37 a72_38 a72_39 a72_40 a72_41 a72_44 a72_50)]) hnx rfl h73 hq9) rfl rfl rfl (e_le rfl) (e_le rfl) (e_le rfl) rfl (ci := 12) e_cl12.1 rfl (e_le rfl) (e_lt hnx rfl) (Nat.zero_le _) (Nat.zero_le _) (e_k ?_)
      refine r_wr0 ?_
      obtain ⟨q10, hq11, hz⟩ := e_bd hz
      refine r_callS F dX12_readsNumber_41 (dc := 0) (ds := 0) (As := [.int q8]) (S0 := []) lkX12_118 mX12_isDigit (tX12_isDigit hG (la := x_l X) (h := e_up h [(72, o72 a72_0 a72_2 v5.1 a72_4 a72_5 2 v5.2 a72_8 a72_9 a72_10 a72_11 a72_17 a72_18 a72_19 a72_21 a72_22 a72_29 a72_31 a72_35 a72_37 a72_38 a72_39 a72_40 a72_41 a72_44 a72_50)]) hnx  hq11) rfl rfl rfl (e_le rfl) (e_le rfl) (e_le rfl) (Nat.zero_le _) (Nat.zero_le _) (e_k ?_)
      refine r_wr0 ?_
      refine r_z_eq F dX12_readsNumber_44 (tgt := 89) (by decide) (fun hc => ?_) (fun hc => ?_)
      · have hz := e_t hc hz
        refine r_aload_n F dX12_readsNumber_47 rfl ?_
        refine r_sipush F dX12_readsNumber_48 (v := 1000) (by decide) ?_
        refine r_bipush F dX12_readsNumber_51 (v := 10) (by decide) ?_
        refine r_aload_n F dX12_readsNumber_53 rfl ?_
        refine r_get F dX12_readsNumber_54 flX12_125 rfl rfl (e_le rfl) (e_lt hnx rfl) ?_
        refine r_imul F dX12_readsNumber_57 ?_
        refine r_aload_n F dX12_readsNumber_58 rfl ?_
        refine r_aload_n F dX12_readsNumber_59 rfl ?_
        refine r_get F dX12_readsNumber_60 flX12_101 rfl rfl (e_le rfl) (e_lt hnx rfl) ?_
        obtain ⟨q12, hq13, hz⟩ := e_bd hz
        refine r_callV F dX12_readsNumber_63 (b := 72) (dc := 0) (ds := 0) (As := [.int v5.1]) (S0 := [.int ((10 : Int32) * v5.2), .int 1000, .ref 72]) lkX12_104 mX12_see (tX12_see_72 hG (la := x_l X) (h := e_up h [(72, o72 a72_0 a72_2 v5.1 a72_4 a72_5 2 v5.2 a72_8 a72_9 a72_10 a72_11 a72_17 a72_18 a72_19 a72_21 a72_22 a72_29 a72_31 a72_35 a72_37 a72_38 a72_39 a72_40 a72_41 a72_44 a72_50)]) hnx rfl h73 hq13) rfl rfl rfl (e_le rfl) (e_le rfl) (e_le rfl) rfl (ci := 12) e_cl12.1 rfl (e_le rfl) (e_lt hnx rfl) (Nat.zero_le _) (Nat.zero_le _) (e_k ?_)
        refine r_wr0 ?_
        refine r_iadd F dX12_readsNumber_66 ?_
        refine r_bipush F dX12_readsNumber_67 (v := 48) (by decide) ?_
        refine r_isub F dX12_readsNumber_69 ?_
        obtain ⟨q14, hq15, hz⟩ := e_bd hz
        refine r_callS F dX12_readsNumber_70 (dc := 0) (ds := 0) (As := [.int 1000, .int ((((10 : Int32) * v5.2) + q12) - 48)]) (S0 := [.ref 72]) lkX12_128 mJ9_min_7cf53 (tJ9_min_7cf53 hG (la := x_l X) (h := e_up h [(72, o72 a72_0 a72_2 v5.1 a72_4 a72_5 2 v5.2 a72_8 a72_9 a72_10 a72_11 a72_17 a72_18 a72_19 a72_21 a72_22 a72_29 a72_31 a72_35 a72_37 a72_38 a72_39 a72_40 a72_41 a72_44 a72_50)]) hnx  hq15) rfl rfl rfl (e_le rfl) (e_le rfl) (e_le rfl) (Nat.zero_le _) (Nat.zero_le _) (e_k ?_)
        refine r_wr0 ?_
        refine r_put F dX12_readsNumber_73 flX12_125 rfl rfl rfl rfl (e_le rfl) (e_le rfl) (e_lt hnx rfl) (l' := [(72, o72 a72_0 a72_2 v5.1 a72_4 a72_5 2 q14 a72_8 a72_9 a72_10 a72_11 a72_17 a72_18 a72_19 a72_21 a72_22 a72_29 a72_31 a72_35 a72_37 a72_38 a72_39 a72_40 a72_41 a72_44 a72_50)]) rfl ?_
        refine r_aload_n F dX12_readsNumber_76 rfl ?_
        refine r_dup F dX12_readsNumber_77 rfl ?_
        refine r_get F dX12_readsNumber_78 flX12_101 rfl rfl (e_le rfl) (e_lt hnx rfl) ?_
        refine r_iconst F dX12_readsNumber_81 (v := 1) (by decide) ?_
        refine r_iadd F dX12_readsNumber_82 ?_
        refine r_put F dX12_readsNumber_83 flX12_101 rfl rfl rfl rfl (e_le rfl) (e_le rfl) (e_lt hnx rfl) (l' := [(72, o72 a72_0 a72_2 (v5.1 + 1) a72_4 a72_5 2 q14 a72_8 a72_9 a72_10 a72_11 a72_17 a72_18 a72_19 a72_21 a72_22 a72_29 a72_31 a72_35 a72_37 a72_38 a72_39 a72_40 a72_41 a72_44 a72_50)]) rfl ?_
        refine r_goto F dX12_readsNumber_86 (tgt := 33) (by decide) ?_
        obtain rfl := Option.some.inj hz
        exact ih (v5.1 + 1, q14) rfl
      · have hz := e_f hc hz
        obtain rfl := Option.some.inj hz
        exact hx (v5.1, v5.2) rfl
    · show eRun G X 89 [some (.ref 72), some (.int (e_b p0)), some (.int (a72_3 + (e_b q1)))] [] h [(72, o72 a72_0 a72_2 x6.1 a72_4 a72_5 2 x6.2 a72_8 a72_9 a72_10 a72_11 a72_17 a72_18 a72_19 a72_21 a72_22 a72_29 a72_31 a72_35 a72_37 a72_38 a72_39 a72_40 a72_41 a72_44 a72_50)] nx 0 0
      refine r_aload_n F dX12_readsNumber_89 rfl ?_
      refine r_aload_n F dX12_readsNumber_90 rfl ?_
      refine r_get F dX12_readsNumber_91 flX12_101 rfl rfl (e_le rfl) (e_lt hnx rfl) ?_
      refine r_iload_n F dX12_readsNumber_94 rfl ?_
      refine r_isub F dX12_readsNumber_95 ?_
      refine r_iconst F dX12_readsNumber_96 (v := 2) (by decide) ?_
      refine r_icmp_le F dX12_readsNumber_97 (tgt := 106) (by decide) (fun hc => ?_) (fun hc => ?_)
      · have hf := e_t hc hf
        refine r_iload_n F dX12_readsNumber_106 rfl ?_
        refine r_z_eq F dX12_readsNumber_107 (tgt := 118) (by decide) (fun hc => ?_) (fun hc => ?_)
        · have hf := e_t hc hf
          refine r_aload_n F dX12_readsNumber_110 rfl ?_
          refine r_get F dX12_readsNumber_111 flX12_125 rfl rfl (e_le rfl) (e_lt hnx rfl) ?_
          refine r_ineg F dX12_readsNumber_114 ?_
          refine r_goto F dX12_readsNumber_115 (tgt := 122) (by decide) ?_
          refine r_put F dX12_readsNumber_122 flX12_125 rfl rfl rfl rfl (e_le rfl) (e_le rfl) (e_lt hnx rfl) (l' := [(72, o72 a72_0 a72_2 x6.1 a72_4 a72_5 2 ((0 : Int32) - x6.2) a72_8 a72_9 a72_10 a72_11 a72_17 a72_18 a72_19 a72_21 a72_22 a72_29 a72_31 a72_35 a72_37 a72_38 a72_39 a72_40 a72_41 a72_44 a72_50)]) rfl ?_
          obtain rfl := Option.some.inj hf
          exact r_vret F hq dX12_readsNumber_125 rfl rfl (Nat.le_refl _) (Nat.le_refl _) ⟨rfl, rfl⟩
        · have hf := e_f hc hf
          refine r_aload_n F dX12_readsNumber_118 rfl ?_
          refine r_get F dX12_readsNumber_119 flX12_125 rfl rfl (e_le rfl) (e_lt hnx rfl) ?_
          refine r_put F dX12_readsNumber_122 flX12_125 rfl rfl rfl rfl (e_le rfl) (e_le rfl) (e_lt hnx rfl) (l' := [(72, o72 a72_0 a72_2 x6.1 a72_4 a72_5 2 x6.2 a72_8 a72_9 a72_10 a72_11 a72_17 a72_18 a72_19 a72_21 a72_22 a72_29 a72_31 a72_35 a72_37 a72_38 a72_39 a72_40 a72_41 a72_44 a72_50)]) rfl ?_
          obtain rfl := Option.some.inj hf
          exact r_vret F hq dX12_readsNumber_125 rfl rfl (Nat.le_refl _) (Nat.le_refl _) ⟨rfl, rfl⟩
      · have hf := e_f hc hf
        refine r_sipush F dX12_readsNumber_100 (v := 10000) (by decide) ?_
        refine r_goto F dX12_readsNumber_103 (tgt := 122) (by decide) ?_
        refine r_put F dX12_readsNumber_122 flX12_125 rfl rfl rfl rfl (e_le rfl) (e_le rfl) (e_lt hnx rfl) (l' := [(72, o72 a72_0 a72_2 x6.1 a72_4 a72_5 2 10000 a72_8 a72_9 a72_10 a72_11 a72_17 a72_18 a72_19 a72_21 a72_22 a72_29 a72_31 a72_35 a72_37 a72_38 a72_39 a72_40 a72_41 a72_44 a72_50)]) rfl ?_
        obtain rfl := Option.some.inj hf
        exact r_vret F hq dX12_readsNumber_125 rfl rfl (Nat.le_refl _) (Nat.le_refl _) ⟨rfl, rfl⟩
  refine r_z_eq F dX12_readsNumber_11 (tgt := 18) (by decide) (fun hc => ?_) (fun hc => ?_)
  · have hq2 := e_t hc hq2
    refine r_iconst F dX12_readsNumber_14 (v := 1) (by decide) ?_
    refine r_goto F dX12_readsNumber_15 (tgt := 19) (by decide) ?_
    obtain rfl := Option.some.inj hq2
    exact Jq1
  · have hq2 := e_f hc hq2
    refine r_iconst F dX12_readsNumber_18 (v := 0) (by decide) ?_
    obtain rfl := Option.some.inj hq2
    exact Jq1

def fX12_next (a72_2 : Int32) (a72_3 : Int32) (a72_4 : Int32) (a72_6 : Int32) (a72_7 : Int32) (A73 : Nat → Int32)  : Option (Int32 × Int32 × Int32 × Int32) :=
  (e_loop (fun (v3 : Int32) => (
      (fX12_see a72_2 A73 v3).bind (fun q6 =>
      if q6 = 32 then
        some (.inl (v3 + 1))
      else
        some (.inr v3)) : Option ((Int32) ⊕ (Int32)))) e_fuel a72_3).bind (fun x4 =>
  (fX12_see a72_2 A73 x4).bind (fun q8 =>
  if q8 = (-1) then
    some (x4, x4, 0, a72_7)
  else
    (fX12_isSmall q8).bind (fun q10 =>
    if q10 = true then
      (e_loop (fun (v14 : Int32) => (
          (fX12_see a72_2 A73 v14).bind (fun q17 =>
          (fX12_isSmall q17).bind (fun q19 =>
          if q19 = true then
            some (.inl (v14 + 1))
          else
            some (.inr v14))) : Option ((Int32) ⊕ (Int32)))) e_fuel x4).bind (fun x15 =>
      some (x15, x4, 1, a72_7))
    else
      (fX12_isDigit q8).bind (fun q21 =>
      if q21 = true then
        Option.bind (α := Bool) (
          if q8 = 45 then
            some true
          else
            some false) (fun q23 =>
        (fX12_readsNumber a72_2 x4 a72_6 a72_7 A73 q23).bind (fun q25 =>
        some (q25.1, x4, q25.2.1, q25.2.2)))
      else
        if q8 = 45 then
          (fX12_see a72_2 A73 (x4 + 1)).bind (fun q27 =>
          (fX12_isDigit q27).bind (fun q29 =>
          if q29 = true then
            Option.bind (α := Bool) (
              if q8 = 45 then
                some true
              else
                some false) (fun q31 =>
            (fX12_readsNumber a72_2 x4 a72_6 a72_7 A73 q31).bind (fun q33 =>
            some (q33.1, x4, q33.2.1, q33.2.2)))
          else
            some (x4 + 1, x4, 3, a72_7)))
        else
          some (x4 + 1, x4, 3, a72_7)))))
set_option maxRecDepth 100000 in
theorem tX12_next_72 {G : eG} (hG : e_GS G) {la : Launch} {h : Nat → eO} {nx : Nat} (hnx : 99 ≤ nx) {a72_0 : Int32} {a72_2 : Int32} {a72_3 : Int32} {a72_4 : Int32} {a72_5 : Int32} {a72_6 : Int32} {a72_7 : Int32} {a72_8 : Bool} {a72_9 : Int32} {a72_10 : Int32} {a72_11 : Int32} {a72_17 : Bool} {a72_18 : Bool} {a72_19 : Bool} {a72_21 : Int32} {a72_22 : Int32} {a72_29 : Int32} {a72_31 : Int32} {a72_35 : Int32} {a72_37 : Bool} {a72_38 : Int32} {a72_39 : Int32} {a72_40 : Int32} {a72_41 : Int64} {a72_44 : Int32} {a72_50 : Bool} {A73 : Nat → Int32}  (h72 : h 72 = o72 a72_0 a72_2 a72_3 a72_4 a72_5 a72_6 a72_7 a72_8 a72_9 a72_10 a72_11 a72_17 a72_18 a72_19 a72_21 a72_22 a72_29 a72_31 a72_35 a72_37 a72_38 a72_39 a72_40 a72_41 a72_44 a72_50) (h73 : h 73 = o73 A73) {R9 : Int32 × Int32 × Int32 × Int32} (hf : fX12_next a72_2 a72_3 a72_4 a72_6 a72_7 A73  = some R9) :
    eSem G la MX12_next [.ref 72] h nx 0 0 (fun r9 h9 => r9 = none ∧ h9 = e_up h [(72, o72 a72_0 a72_2 R9.1 R9.2.1 a72_5 R9.2.2.1 R9.2.2.2 a72_8 a72_9 a72_10 a72_11 a72_17 a72_18 a72_19 a72_21 a72_22 a72_29 a72_31 a72_35 a72_37 a72_38 a72_39 a72_40 a72_41 a72_44 a72_50)]) := by
  refine eSem.of (k := 1) (L := [some (.ref 72), none]) (by decide +kernel) rfl rfl (fun X F hxl hq hcR hsR => ?_)
  subst hxl
  unfold fX12_next at hf
  refine r_mat (k := 72) h72 (l' := [(72, o72 a72_0 a72_2 a72_3 a72_4 a72_5 a72_6 a72_7 a72_8 a72_9 a72_10 a72_11 a72_17 a72_18 a72_19 a72_21 a72_22 a72_29 a72_31 a72_35 a72_37 a72_38 a72_39 a72_40 a72_41 a72_44 a72_50)]) rfl ?_
  obtain ⟨x4, hx5, hf⟩ := e_bd hf
  refine (e_loop_ok (P := fun (v3 : Int32) => eRun G X 0 [some (.ref 72), none] [] h [(72, o72 a72_0 a72_2 v3 a72_4 a72_5 a72_6 a72_7 a72_8 a72_9 a72_10 a72_11 a72_17 a72_18 a72_19 a72_21 a72_22 a72_29 a72_31 a72_35 a72_37 a72_38 a72_39 a72_40 a72_41 a72_44 a72_50)] nx 0 0) (K := fun (x4 : Int32) => eRun G X 26 [some (.ref 72), none] [] h [(72, o72 a72_0 a72_2 x4 a72_4 a72_5 a72_6 a72_7 a72_8 a72_9 a72_10 a72_11 a72_17 a72_18 a72_19 a72_21 a72_22 a72_29 a72_31 a72_35 a72_37 a72_38 a72_39 a72_40 a72_41 a72_44 a72_50)] nx 0 0) ?_ e_fuel a72_3 x4 hx5 ?_ : _)
  · intro v3 z hz ih hx
    refine r_aload_n F dX12_next_0 rfl ?_
    refine r_aload_n F dX12_next_1 rfl ?_
    refine r_get F dX12_next_2 flX12_101 rfl rfl (e_le rfl) (e_lt hnx rfl) ?_
    obtain ⟨q6, hq7, hz⟩ := e_bd hz
    refine r_callV F dX12_next_5 (b := 72) (dc := 0) (ds := 0) (As := [.int v3]) (S0 := []) lkX12_104 mX12_see (tX12_see_72 hG (la := x_l X) (h := e_up h [(72, o72 a72_0 a72_2 v3 a72_4 a72_5 a72_6 a72_7 a72_8 a72_9 a72_10 a72_11 a72_17 a72_18 a72_19 a72_21 a72_22 a72_29 a72_31 a72_35 a72_37 a72_38 a72_39 a72_40 a72_41 a72_44 a72_50)]) hnx rfl h73 hq7) rfl rfl rfl (e_le rfl) (e_le rfl) (e_le rfl) rfl (ci := 12) e_cl12.1 rfl (e_le rfl) (e_lt hnx rfl) (Nat.zero_le _) (Nat.zero_le _) (e_k ?_)
    refine r_wr0 ?_
    refine r_bipush F dX12_next_8 (v := 32) (by decide) ?_
    refine r_icmp_ne F dX12_next_10 (tgt := 26) (by decide) (fun hc => ?_) (fun hc => ?_)
    · have hz := e_f hc hz
      obtain rfl := Option.some.inj hz
      exact hx v3 rfl
    · have hz := e_t hc hz
      refine r_aload_n F dX12_next_13 rfl ?_
      refine r_dup F dX12_next_14 rfl ?_
      refine r_get F dX12_next_15 flX12_101 rfl rfl (e_le rfl) (e_lt hnx rfl) ?_
      refine r_iconst F dX12_next_18 (v := 1) (by decide) ?_
      refine r_iadd F dX12_next_19 ?_
      refine r_put F dX12_next_20 flX12_101 rfl rfl rfl rfl (e_le rfl) (e_le rfl) (e_lt hnx rfl) (l' := [(72, o72 a72_0 a72_2 (v3 + 1) a72_4 a72_5 a72_6 a72_7 a72_8 a72_9 a72_10 a72_11 a72_17 a72_18 a72_19 a72_21 a72_22 a72_29 a72_31 a72_35 a72_37 a72_38 a72_39 a72_40 a72_41 a72_44 a72_50)]) rfl ?_
      refine r_goto F dX12_next_23 (tgt := 0) (by decide) ?_
      obtain rfl := Option.some.inj hz
      exact ih (v3 + 1) rfl
  · show eRun G X 26 [some (.ref 72), none] [] h [(72, o72 a72_0 a72_2 x4 a72_4 a72_5 a72_6 a72_7 a72_8 a72_9 a72_10 a72_11 a72_17 a72_18 a72_19 a72_21 a72_22 a72_29 a72_31 a72_35 a72_37 a72_38 a72_39 a72_40 a72_41 a72_44 a72_50)] nx 0 0
    refine r_aload_n F dX12_next_26 rfl ?_
    refine r_aload_n F dX12_next_27 rfl ?_
    refine r_get F dX12_next_28 flX12_101 rfl rfl (e_le rfl) (e_lt hnx rfl) ?_
    refine r_put F dX12_next_31 flX12_108 rfl rfl rfl rfl (e_le rfl) (e_le rfl) (e_lt hnx rfl) (l' := [(72, o72 a72_0 a72_2 x4 x4 a72_5 a72_6 a72_7 a72_8 a72_9 a72_10 a72_11 a72_17 a72_18 a72_19 a72_21 a72_22 a72_29 a72_31 a72_35 a72_37 a72_38 a72_39 a72_40 a72_41 a72_44 a72_50)]) rfl ?_
    refine r_aload_n F dX12_next_34 rfl ?_
    refine r_aload_n F dX12_next_35 rfl ?_
    refine r_get F dX12_next_36 flX12_101 rfl rfl (e_le rfl) (e_lt hnx rfl) ?_
    obtain ⟨q8, hq9, hf⟩ := e_bd hf
    refine r_callV F dX12_next_39 (b := 72) (dc := 0) (ds := 0) (As := [.int x4]) (S0 := []) lkX12_104 mX12_see (tX12_see_72 hG (la := x_l X) (h := e_up h [(72, o72 a72_0 a72_2 x4 x4 a72_5 a72_6 a72_7 a72_8 a72_9 a72_10 a72_11 a72_17 a72_18 a72_19 a72_21 a72_22 a72_29 a72_31 a72_35 a72_37 a72_38 a72_39 a72_40 a72_41 a72_44 a72_50)]) hnx rfl h73 hq9) rfl rfl rfl (e_le rfl) (e_le rfl) (e_le rfl) rfl (ci := 12) e_cl12.1 rfl (e_le rfl) (e_lt hnx rfl) (Nat.zero_le _) (Nat.zero_le _) (e_k ?_)
    refine r_wr0 ?_
    refine r_istore_n F dX12_next_42 (e_le rfl) (L' := [some (.ref 72), some (.int q8)]) rfl ?_
    refine r_iload_n F dX12_next_43 rfl ?_
    refine r_iconst F dX12_next_44 (v := (-1)) (by decide) ?_
    refine r_icmp_ne F dX12_next_45 (tgt := 56) (by decide) (fun hc => ?_) (fun hc => ?_)
    · have hf := e_f hc hf
      refine r_iload_n F dX12_next_56 rfl ?_
      obtain ⟨q10, hq11, hf⟩ := e_bd hf
      refine r_callS F dX12_next_57 (dc := 0) (ds := 0) (As := [.int q8]) (S0 := []) lkX12_114 mX12_isSmall (tX12_isSmall hG (la := x_l X) (h := e_up h [(72, o72 a72_0 a72_2 x4 x4 a72_5 a72_6 a72_7 a72_8 a72_9 a72_10 a72_11 a72_17 a72_18 a72_19 a72_21 a72_22 a72_29 a72_31 a72_35 a72_37 a72_38 a72_39 a72_40 a72_41 a72_44 a72_50)]) hnx  hq11) rfl rfl rfl (e_le rfl) (e_le rfl) (e_le rfl) (Nat.zero_le _) (Nat.zero_le _) (e_k ?_)
      refine r_wr0 ?_
      refine r_z_eq F dX12_next_60 (tgt := 95) (by decide) (fun hc => ?_) (fun hc => ?_)
      · have hf := e_t hc hf
        refine r_aload_n F dX12_next_63 rfl ?_
        refine r_iconst F dX12_next_64 (v := 1) (by decide) ?_
        refine r_put F dX12_next_65 flX12_111 rfl rfl rfl rfl (e_le rfl) (e_le rfl) (e_lt hnx rfl) (l' := [(72, o72 a72_0 a72_2 x4 x4 a72_5 1 a72_7 a72_8 a72_9 a72_10 a72_11 a72_17 a72_18 a72_19 a72_21 a72_22 a72_29 a72_31 a72_35 a72_37 a72_38 a72_39 a72_40 a72_41 a72_44 a72_50)]) rfl ?_
        refine r_drop 1 (L' := [some (.ref 72), none]) rfl ?_
        obtain ⟨x15, hx16, hf⟩ := e_bd hf
        refine (e_loop_ok (P := fun (v14 : Int32) => eRun G X 68 [some (.ref 72), none] [] h [(72, o72 a72_0 a72_2 v14 x4 a72_5 1 a72_7 a72_8 a72_9 a72_10 a72_11 a72_17 a72_18 a72_19 a72_21 a72_22 a72_29 a72_31 a72_35 a72_37 a72_38 a72_39 a72_40 a72_41 a72_44 a72_50)] nx 0 0) (K := fun (x15 : Int32) => eRun G X 157 [none, none] [] h [(72, o72 a72_0 a72_2 x15 x4 a72_5 1 a72_7 a72_8 a72_9 a72_10 a72_11 a72_17 a72_18 a72_19 a72_21 a72_22 a72_29 a72_31 a72_35 a72_37 a72_38 a72_39 a72_40 a72_41 a72_44 a72_50)] nx 0 0) ?_ e_fuel x4 x15 hx16 ?_ : _)
        · intro v14 z hz ih hx
          refine r_aload_n F dX12_next_68 rfl ?_
          refine r_aload_n F dX12_next_69 rfl ?_
          refine r_get F dX12_next_70 flX12_101 rfl rfl (e_le rfl) (e_lt hnx rfl) ?_
          obtain ⟨q17, hq18, hz⟩ := e_bd hz
          refine r_callV F dX12_next_73 (b := 72) (dc := 0) (ds := 0) (As := [.int v14]) (S0 := []) lkX12_104 mX12_see (tX12_see_72 hG (la := x_l X) (h := e_up h [(72, o72 a72_0 a72_2 v14 x4 a72_5 1 a72_7 a72_8 a72_9 a72_10 a72_11 a72_17 a72_18 a72_19 a72_21 a72_22 a72_29 a72_31 a72_35 a72_37 a72_38 a72_39 a72_40 a72_41 a72_44 a72_50)]) hnx rfl h73 hq18) rfl rfl rfl (e_le rfl) (e_le rfl) (e_le rfl) rfl (ci := 12) e_cl12.1 rfl (e_le rfl) (e_lt hnx rfl) (Nat.zero_le _) (Nat.zero_le _) (e_k ?_)
          refine r_wr0 ?_
          obtain ⟨q19, hq20, hz⟩ := e_bd hz
          refine r_callS F dX12_next_76 (dc := 0) (ds := 0) (As := [.int q17]) (S0 := []) lkX12_114 mX12_isSmall (tX12_isSmall hG (la := x_l X) (h := e_up h [(72, o72 a72_0 a72_2 v14 x4 a72_5 1 a72_7 a72_8 a72_9 a72_10 a72_11 a72_17 a72_18 a72_19 a72_21 a72_22 a72_29 a72_31 a72_35 a72_37 a72_38 a72_39 a72_40 a72_41 a72_44 a72_50)]) hnx  hq20) rfl rfl rfl (e_le rfl) (e_le rfl) (e_le rfl) (Nat.zero_le _) (Nat.zero_le _) (e_k ?_)
          refine r_wr0 ?_
          refine r_z_eq F dX12_next_79 (tgt := 157) (by decide) (fun hc => ?_) (fun hc => ?_)
          · have hz := e_t hc hz
            refine r_aload_n F dX12_next_82 rfl ?_
            refine r_dup F dX12_next_83 rfl ?_
            refine r_get F dX12_next_84 flX12_101 rfl rfl (e_le rfl) (e_lt hnx rfl) ?_
            refine r_iconst F dX12_next_87 (v := 1) (by decide) ?_
            refine r_iadd F dX12_next_88 ?_
            refine r_put F dX12_next_89 flX12_101 rfl rfl rfl rfl (e_le rfl) (e_le rfl) (e_lt hnx rfl) (l' := [(72, o72 a72_0 a72_2 (v14 + 1) x4 a72_5 1 a72_7 a72_8 a72_9 a72_10 a72_11 a72_17 a72_18 a72_19 a72_21 a72_22 a72_29 a72_31 a72_35 a72_37 a72_38 a72_39 a72_40 a72_41 a72_44 a72_50)]) rfl ?_
            refine r_goto F dX12_next_92 (tgt := 68) (by decide) ?_
            obtain rfl := Option.some.inj hz
            exact ih (v14 + 1) rfl
          · have hz := e_f hc hz
            refine r_drop 0 (L' := [none, none]) rfl ?_
            obtain rfl := Option.some.inj hz
            exact hx v14 rfl
        · show eRun G X 157 [none, none] [] h [(72, o72 a72_0 a72_2 x15 x4 a72_5 1 a72_7 a72_8 a72_9 a72_10 a72_11 a72_17 a72_18 a72_19 a72_21 a72_22 a72_29 a72_31 a72_35 a72_37 a72_38 a72_39 a72_40 a72_41 a72_44 a72_50)] nx 0 0
          obtain rfl := Option.some.inj hf
          exact r_vret F hq dX12_next_157 rfl rfl (Nat.le_refl _) (Nat.le_refl _) ⟨rfl, rfl⟩
      · have hf := e_f hc hf
        refine r_iload_n F dX12_next_95 rfl ?_
        obtain ⟨q21, hq22, hf⟩ := e_bd hf
        refine r_callS F dX12_next_96 (dc := 0) (ds := 0) (As := [.int q8]) (S0 := []) lkX12_118 mX12_isDigit (tX12_isDigit hG (la := x_l X) (h := e_up h [(72, o72 a72_0 a72_2 x4 x4 a72_5 a72_6 a72_7 a72_8 a72_9 a72_10 a72_11 a72_17 a72_18 a72_19 a72_21 a72_22 a72_29 a72_31 a72_35 a72_37 a72_38 a72_39 a72_40 a72_41 a72_44 a72_50)]) hnx  hq22) rfl rfl rfl (e_le rfl) (e_le rfl) (e_le rfl) (Nat.zero_le _) (Nat.zero_le _) (e_k ?_)
        refine r_wr0 ?_
        refine r_z_ne F dX12_next_99 (tgt := 124) (by decide) (fun hc => ?_) (fun hc => ?_)
        · have hf := e_t hc hf
          refine r_aload_n F dX12_next_124 rfl ?_
          refine r_iload_n F dX12_next_125 rfl ?_
          refine r_bipush F dX12_next_126 (v := 45) (by decide) ?_
          obtain ⟨q23, hq24, hf⟩ := e_bd hf
          have Jq23 : eRun G X 136 [none, none] [.int (e_b q23), .ref 72] h [(72, o72 a72_0 a72_2 x4 x4 a72_5 a72_6 a72_7 a72_8 a72_9 a72_10 a72_11 a72_17 a72_18 a72_19 a72_21 a72_22 a72_29 a72_31 a72_35 a72_37 a72_38 a72_39 a72_40 a72_41 a72_44 a72_50)] nx 0 0 := by
            obtain ⟨q25, hq26, hf⟩ := e_bd hf
            refine r_callV F dX12_next_136 (b := 72) (dc := 0) (ds := 0) (As := [.int (e_b q23)]) (S0 := []) lkX12_121 mX12_readsNumber (tX12_readsNumber_72 hG (la := x_l X) (h := e_up h [(72, o72 a72_0 a72_2 x4 x4 a72_5 a72_6 a72_7 a72_8 a72_9 a72_10 a72_11 a72_17 a72_18 a72_19 a72_21 a72_22 a72_29 a72_31 a72_35 a72_37 a72_38 a72_39 a72_40 a72_41 a72_44 a72_50)]) hnx rfl h73 hq26) rfl rfl rfl (e_le rfl) (e_le rfl) (e_le rfl) rfl (ci := 12) e_cl12.1 rfl (e_le rfl) (e_lt hnx rfl) (Nat.zero_le _) (Nat.zero_le _) (e_k ?_)
            refine r_wr (l' := [(72, o72 a72_0 a72_2 q25.1 x4 a72_5 q25.2.1 q25.2.2 a72_8 a72_9 a72_10 a72_11 a72_17 a72_18 a72_19 a72_21 a72_22 a72_29 a72_31 a72_35 a72_37 a72_38 a72_39 a72_40 a72_41 a72_44 a72_50)]) rfl rfl ?_
            refine r_goto F dX12_next_139 (tgt := 157) (by decide) ?_
            obtain rfl := Option.some.inj hf
            exact r_vret F hq dX12_next_157 rfl rfl (Nat.le_refl _) (Nat.le_refl _) ⟨rfl, rfl⟩
          refine r_icmp_ne F dX12_next_128 (tgt := 135) (by decide) (fun hc => ?_) (fun hc => ?_)
          · have hq24 := e_f hc hq24
            refine r_iconst F dX12_next_135 (v := 0) (by decide) ?_
            refine r_drop 0 (L' := [none, some (.int q8)]) rfl ?_
            refine r_drop 1 (L' := [none, none]) rfl ?_
            obtain rfl := Option.some.inj hq24
            exact Jq23
          · have hq24 := e_t hc hq24
            refine r_iconst F dX12_next_131 (v := 1) (by decide) ?_
            refine r_goto F dX12_next_132 (tgt := 136) (by decide) ?_
            refine r_drop 0 (L' := [none, some (.int q8)]) rfl ?_
            refine r_drop 1 (L' := [none, none]) rfl ?_
            obtain rfl := Option.some.inj hq24
            exact Jq23
        · have hf := e_f hc hf
          refine r_iload_n F dX12_next_102 rfl ?_
          refine r_bipush F dX12_next_103 (v := 45) (by decide) ?_
          refine r_icmp_ne F dX12_next_105 (tgt := 142) (by decide) (fun hc => ?_) (fun hc => ?_)
          · have hf := e_f hc hf
            refine r_aload_n F dX12_next_142 rfl ?_
            refine r_iconst F dX12_next_143 (v := 3) (by decide) ?_
            refine r_put F dX12_next_144 flX12_111 rfl rfl rfl rfl (e_le rfl) (e_le rfl) (e_lt hnx rfl) (l' := [(72, o72 a72_0 a72_2 x4 x4 a72_5 3 a72_7 a72_8 a72_9 a72_10 a72_11 a72_17 a72_18 a72_19 a72_21 a72_22 a72_29 a72_31 a72_35 a72_37 a72_38 a72_39 a72_40 a72_41 a72_44 a72_50)]) rfl ?_
            refine r_aload_n F dX12_next_147 rfl ?_
            refine r_dup F dX12_next_148 rfl ?_
            refine r_get F dX12_next_149 flX12_101 rfl rfl (e_le rfl) (e_lt hnx rfl) ?_
            refine r_iconst F dX12_next_152 (v := 1) (by decide) ?_
            refine r_iadd F dX12_next_153 ?_
            refine r_put F dX12_next_154 flX12_101 rfl rfl rfl rfl (e_le rfl) (e_le rfl) (e_lt hnx rfl) (l' := [(72, o72 a72_0 a72_2 (x4 + 1) x4 a72_5 3 a72_7 a72_8 a72_9 a72_10 a72_11 a72_17 a72_18 a72_19 a72_21 a72_22 a72_29 a72_31 a72_35 a72_37 a72_38 a72_39 a72_40 a72_41 a72_44 a72_50)]) rfl ?_
            obtain rfl := Option.some.inj hf
            exact r_vret F hq dX12_next_157 rfl rfl (Nat.le_refl _) (Nat.le_refl _) ⟨rfl, rfl⟩
          · have hf := e_t hc hf
            refine r_aload_n F dX12_next_108 rfl ?_
            refine r_aload_n F dX12_next_109 rfl ?_
            refine r_get F dX12_next_110 flX12_101 rfl rfl (e_le rfl) (e_lt hnx rfl) ?_
            refine r_iconst F dX12_next_113 (v := 1) (by decide) ?_
            refine r_iadd F dX12_next_114 ?_
            obtain ⟨q27, hq28, hf⟩ := e_bd hf
            refine r_callV F dX12_next_115 (b := 72) (dc := 0) (ds := 0) (As := [.int (x4 + 1)]) (S0 := []) lkX12_104 mX12_see (tX12_see_72 hG (la := x_l X) (h := e_up h [(72, o72 a72_0 a72_2 x4 x4 a72_5 a72_6 a72_7 a72_8 a72_9 a72_10 a72_11 a72_17 a72_18 a72_19 a72_21 a72_22 a72_29 a72_31 a72_35 a72_37 a72_38 a72_39 a72_40 a72_41 a72_44 a72_50)]) hnx rfl h73 hq28) rfl rfl rfl (e_le rfl) (e_le rfl) (e_le rfl) rfl (ci := 12) e_cl12.1 rfl (e_le rfl) (e_lt hnx rfl) (Nat.zero_le _) (Nat.zero_le _) (e_k ?_)
            refine r_wr0 ?_
            obtain ⟨q29, hq30, hf⟩ := e_bd hf
            refine r_callS F dX12_next_118 (dc := 0) (ds := 0) (As := [.int q27]) (S0 := []) lkX12_118 mX12_isDigit (tX12_isDigit hG (la := x_l X) (h := e_up h [(72, o72 a72_0 a72_2 x4 x4 a72_5 a72_6 a72_7 a72_8 a72_9 a72_10 a72_11 a72_17 a72_18 a72_19 a72_21 a72_22 a72_29 a72_31 a72_35 a72_37 a72_38 a72_39 a72_40 a72_41 a72_44 a72_50)]) hnx  hq30) rfl rfl rfl (e_le rfl) (e_le rfl) (e_le rfl) (Nat.zero_le _) (Nat.zero_le _) (e_k ?_)
            refine r_wr0 ?_
            refine r_z_eq F dX12_next_121 (tgt := 142) (by decide) (fun hc => ?_) (fun hc => ?_)
            · have hf := e_t hc hf
              refine r_aload_n F dX12_next_124 rfl ?_
              refine r_iload_n F dX12_next_125 rfl ?_
              refine r_bipush F dX12_next_126 (v := 45) (by decide) ?_
              obtain ⟨q31, hq32, hf⟩ := e_bd hf
              have Jq31 : eRun G X 136 [none, none] [.int (e_b q31), .ref 72] h [(72, o72 a72_0 a72_2 x4 x4 a72_5 a72_6 a72_7 a72_8 a72_9 a72_10 a72_11 a72_17 a72_18 a72_19 a72_21 a72_22 a72_29 a72_31 a72_35 a72_37 a72_38 a72_39 a72_40 a72_41 a72_44 a72_50)] nx 0 0 := by
                obtain ⟨q33, hq34, hf⟩ := e_bd hf
                refine r_callV F dX12_next_136 (b := 72) (dc := 0) (ds := 0) (As := [.int (e_b q31)]) (S0 := []) lkX12_121 mX12_readsNumber (tX12_readsNumber_72 hG (la := x_l X) (h := e_up h [(72, o72 a72_0 a72_2 x4 x4 a72_5 a72_6 a72_7 a72_8 a72_9 a72_10 a72_11 a72_17 a72_18 a72_19 a72_21 a72_22 a72_29 a72_31 a72_35 a72_37 a72_38 a72_39 a72_40 a72_41 a72_44 a72_50)]) hnx rfl h73 hq34) rfl rfl rfl (e_le rfl) (e_le rfl) (e_le rfl) rfl (ci := 12) e_cl12.1 rfl (e_le rfl) (e_lt hnx rfl) (Nat.zero_le _) (Nat.zero_le _) (e_k ?_)
                refine r_wr (l' := [(72, o72 a72_0 a72_2 q33.1 x4 a72_5 q33.2.1 q33.2.2 a72_8 a72_9 a72_10 a72_11 a72_17 a72_18 a72_19 a72_21 a72_22 a72_29 a72_31 a72_35 a72_37 a72_38 a72_39 a72_40 a72_41 a72_44 a72_50)]) rfl rfl ?_
                refine r_goto F dX12_next_139 (tgt := 157) (by decide) ?_
                obtain rfl := Option.some.inj hf
                exact r_vret F hq dX12_next_157 rfl rfl (Nat.le_refl _) (Nat.le_refl _) ⟨rfl, rfl⟩
              refine r_icmp_ne F dX12_next_128 (tgt := 135) (by decide) (fun hc => ?_) (fun hc => ?_)
              · have hq32 := e_f hc hq32
                refine r_iconst F dX12_next_135 (v := 0) (by decide) ?_
                refine r_drop 0 (L' := [none, some (.int q8)]) rfl ?_
                refine r_drop 1 (L' := [none, none]) rfl ?_
                obtain rfl := Option.some.inj hq32
                exact Jq31
              · have hq32 := e_t hc hq32
                refine r_iconst F dX12_next_131 (v := 1) (by decide) ?_
                refine r_goto F dX12_next_132 (tgt := 136) (by decide) ?_
                refine r_drop 0 (L' := [none, some (.int q8)]) rfl ?_
                refine r_drop 1 (L' := [none, none]) rfl ?_
                obtain rfl := Option.some.inj hq32
                exact Jq31
            · have hf := e_f hc hf
              refine r_aload_n F dX12_next_142 rfl ?_
              refine r_iconst F dX12_next_143 (v := 3) (by decide) ?_
              refine r_put F dX12_next_144 flX12_111 rfl rfl rfl rfl (e_le rfl) (e_le rfl) (e_lt hnx rfl) (l' := [(72, o72 a72_0 a72_2 x4 x4 a72_5 3 a72_7 a72_8 a72_9 a72_10 a72_11 a72_17 a72_18 a72_19 a72_21 a72_22 a72_29 a72_31 a72_35 a72_37 a72_38 a72_39 a72_40 a72_41 a72_44 a72_50)]) rfl ?_
              refine r_aload_n F dX12_next_147 rfl ?_
              refine r_dup F dX12_next_148 rfl ?_
              refine r_get F dX12_next_149 flX12_101 rfl rfl (e_le rfl) (e_lt hnx rfl) ?_
              refine r_iconst F dX12_next_152 (v := 1) (by decide) ?_
              refine r_iadd F dX12_next_153 ?_
              refine r_put F dX12_next_154 flX12_101 rfl rfl rfl rfl (e_le rfl) (e_le rfl) (e_lt hnx rfl) (l' := [(72, o72 a72_0 a72_2 (x4 + 1) x4 a72_5 3 a72_7 a72_8 a72_9 a72_10 a72_11 a72_17 a72_18 a72_19 a72_21 a72_22 a72_29 a72_31 a72_35 a72_37 a72_38 a72_39 a72_40 a72_41 a72_44 a72_50)]) rfl ?_
              obtain rfl := Option.some.inj hf
              exact r_vret F hq dX12_next_157 rfl rfl (Nat.le_refl _) (Nat.le_refl _) ⟨rfl, rfl⟩
    · have hf := e_t hc hf
      refine r_aload_n F dX12_next_48 rfl ?_
      refine r_iconst F dX12_next_49 (v := 0) (by decide) ?_
      refine r_put F dX12_next_50 flX12_111 rfl rfl rfl rfl (e_le rfl) (e_le rfl) (e_lt hnx rfl) (l' := [(72, o72 a72_0 a72_2 x4 x4 a72_5 0 a72_7 a72_8 a72_9 a72_10 a72_11 a72_17 a72_18 a72_19 a72_21 a72_22 a72_29 a72_31 a72_35 a72_37 a72_38 a72_39 a72_40 a72_41 a72_44 a72_50)]) rfl ?_
      refine r_goto F dX12_next_53 (tgt := 157) (by decide) ?_
      obtain rfl := Option.some.inj hf
      exact r_vret F hq dX12_next_157 rfl rfl (Nat.le_refl _) (Nat.le_refl _) ⟨rfl, rfl⟩

def fX12_isWord_s8 (a72_3 : Int32) (a72_4 : Int32) (a72_5 : Int32) (a72_6 : Int32) (A73 : Nat → Int32)  : Option (Bool) :=
  Option.bind (α := Bool) (
    if a72_5 = (-1) then
      if a72_6 = 1 then
        (fJ0_length_8abf5_s8 ).bind (fun q14 =>
        if (a72_3 - a72_4) = q14 then
          some true
        else
          some false)
      else
        some false
    else
      some false) (fun q1 =>
  (e_loop (fun (v5 : Bool × Int32) => (
      if v5.1 = true then
        (fJ0_length_8abf5_s8 ).bind (fun q8 =>
        if q8 ≤ v5.2 then
          some (.inr v5.1)
        else
          e_g (e_in (a72_4 + v5.2) 300) (
          (fJ0_charAt_5068e_s8 v5.2).bind (fun q10 =>
          Option.bind (α := Bool) (
            if (A73 (tn (a72_4 + v5.2))) = q10 then
              some true
            else
              some false) (fun q12 =>
          some (.inl (q12, v5.2 + 1))))))
      else
        some (.inr v5.1) : Option ((Bool × Int32) ⊕ (Bool)))) e_fuel (q1, 0)).bind (fun x6 =>
  some x6))
set_option maxRecDepth 100000 in
theorem tX12_isWord_72_8 {G : eG} (hG : e_GS G) {la : Launch} {h : Nat → eO} {nx : Nat} (hnx : 99 ≤ nx) {a72_0 : Int32} {a72_2 : Int32} {a72_3 : Int32} {a72_4 : Int32} {a72_5 : Int32} {a72_6 : Int32} {a72_7 : Int32} {a72_8 : Bool} {a72_9 : Int32} {a72_10 : Int32} {a72_11 : Int32} {a72_17 : Bool} {a72_18 : Bool} {a72_19 : Bool} {a72_21 : Int32} {a72_22 : Int32} {a72_29 : Int32} {a72_31 : Int32} {a72_35 : Int32} {a72_37 : Bool} {a72_38 : Int32} {a72_39 : Int32} {a72_40 : Int32} {a72_41 : Int64} {a72_44 : Int32} {a72_50 : Bool} {A73 : Nat → Int32}  (h72 : h 72 = o72 a72_0 a72_2 a72_3 a72_4 a72_5 a72_6 a72_7 a72_8 a72_9 a72_10 a72_11 a72_17 a72_18 a72_19 a72_21 a72_22 a72_29 a72_31 a72_35 a72_37 a72_38 a72_39 a72_40 a72_41 a72_44 a72_50) (h73 : h 73 = o73 A73) {R9 : Bool} (hf : fX12_isWord_s8 a72_3 a72_4 a72_5 a72_6 A73  = some R9) :
    eSem G la MX12_isWord [.ref 72, .ref 8] h nx 0 0 (fun r9 h9 => r9 = some (.int (e_b R9)) ∧ h9 = h) := by
  refine eSem.of (k := 2) (L := [some (.ref 72), some (.ref 8), none, none]) (by decide +kernel) rfl rfl (fun X F hxl hq hcR hsR => ?_)
  subst hxl
  unfold fX12_isWord_s8 at hf
  refine r_aload_n F dX12_isWord_0 rfl ?_
  refine r_get F dX12_isWord_1 flX12_134 h72 rfl (e_le rfl) (e_lt hnx rfl) ?_
  refine r_iconst F dX12_isWord_4 (v := (-1)) (by decide) ?_
  obtain ⟨q1, hq2, hf⟩ := e_bd hf
  have Jq1 : eRun G X 37 [some (.ref 72), some (.ref 8), none, none] [.int (e_b q1)] h [] nx 0 0 := by
    refine r_istore_n F dX12_isWord_37 (e_le rfl) (L' := [some (.ref 72), some (.ref 8), some (.int (e_b q1)), none]) rfl ?_
    refine r_iconst F dX12_isWord_38 (v := 0) (by decide) ?_
    refine r_istore_n F dX12_isWord_39 (e_le rfl) (L' := [some (.ref 72), some (.ref 8), some (.int (e_b q1)), some (.int 0)]) rfl ?_
    obtain ⟨x6, hx7, hf⟩ := e_bd hf
    refine (e_loop_ok (P := fun (v5 : Bool × Int32) => eRun G X 40 [some (.ref 72), some (.ref 8), some (.int (e_b v5.1)), some (.int v5.2)] [] h [] nx 0 0) (K := fun (x6 : Bool) => eRun G X 83 [none, none, some (.int (e_b x6)), none] [] h [] nx 0 0) ?_ e_fuel (q1, 0) x6 hx7 ?_ : _)
    · intro v5 z hz ih hx
      refine r_iload_n F dX12_isWord_40 rfl ?_
      refine r_z_eq F dX12_isWord_41 (tgt := 83) (by decide) (fun hc => ?_) (fun hc => ?_)
      · have hz := e_t hc hz
        refine r_iload_n F dX12_isWord_44 rfl ?_
        refine r_aload_n F dX12_isWord_45 rfl ?_
        obtain ⟨q8, hq9, hz⟩ := e_bd hz
        refine r_callT F dX12_isWord_46 (i := 0) (dc := 0) (ds := 0) (As := []) (S0 := [.int v5.2]) lkX12_137 mJ0_length_8abf5 (tJ0_length_8abf5_8 hG (la := x_l X) (h := e_up h []) hnx  hq9) rfl rfl rfl (e_le rfl) (e_le rfl) (e_le rfl) rfl (by decide) (Nat.zero_le _) (Nat.zero_le _) (e_k ?_)
        refine r_wr0 ?_
        refine r_icmp_ge F dX12_isWord_49 (tgt := 83) (by decide) (fun hc => ?_) (fun hc => ?_)
        · have hz := e_t hc hz
          refine r_drop 0 (L' := [none, some (.ref 8), some (.int (e_b v5.1)), some (.int v5.2)]) rfl ?_
          refine r_drop 1 (L' := [none, none, some (.int (e_b v5.1)), some (.int v5.2)]) rfl ?_
          refine r_drop 3 (L' := [none, none, some (.int (e_b v5.1)), none]) rfl ?_
          obtain rfl := Option.some.inj hz
          exact hx v5.1 rfl
        · have hz := e_f hc hz
          refine r_aload_n F dX12_isWord_52 rfl ?_
          refine r_get F dX12_isWord_53 flX12_9 h72 rfl (e_le rfl) (e_lt hnx rfl) ?_
          refine r_aload_n F dX12_isWord_56 rfl ?_
          refine r_get F dX12_isWord_57 flX12_108 h72 rfl (e_le rfl) (e_lt hnx rfl) ?_
          refine r_iload_n F dX12_isWord_60 rfl ?_
          refine r_iadd F dX12_isWord_61 ?_
          obtain ⟨hg, hz⟩ := e_gd hz
          refine r_iald F dX12_isWord_62 (i := (a72_4 + v5.2)) h73 (e_le rfl) (e_lt hnx rfl) (e_vp hg) ?_
          refine r_aload_n F dX12_isWord_63 rfl ?_
          refine r_iload_n F dX12_isWord_64 rfl ?_
          obtain ⟨q10, hq11, hz⟩ := e_bd hz
          refine r_callT F dX12_isWord_65 (i := 0) (dc := 0) (ds := 0) (As := [.int v5.2]) (S0 := [.int (A73 (tn (a72_4 + v5.2)))]) lkX12_143 mJ0_charAt_5068e (tJ0_charAt_5068e_8 hG (la := x_l X) (h := e_up h []) hnx  hq11) rfl rfl rfl (e_le rfl) (e_le rfl) (e_le rfl) rfl (by decide) (Nat.zero_le _) (Nat.zero_le _) (e_k ?_)
          refine r_wr0 ?_
          obtain ⟨q12, hq13, hz⟩ := e_bd hz
          have Jq12 : eRun G X 76 [some (.ref 72), some (.ref 8), none, some (.int v5.2)] [.int (e_b q12)] h [] nx 0 0 := by
            refine r_istore_n F dX12_isWord_76 (e_le rfl) (L' := [some (.ref 72), some (.ref 8), some (.int (e_b q12)), some (.int v5.2)]) rfl ?_
            refine r_inc F dX12_isWord_77 (k9 := 1) (by decide) rfl (L' := [some (.ref 72), some (.ref 8), some (.int (e_b q12)), some (.int (v5.2 + 1))]) rfl ?_
            refine r_goto F dX12_isWord_80 (tgt := 40) (by decide) ?_
            obtain rfl := Option.some.inj hz
            exact ih (q12, v5.2 + 1) rfl
          refine r_icmp_ne F dX12_isWord_68 (tgt := 75) (by decide) (fun hc => ?_) (fun hc => ?_)
          · have hq13 := e_f hc hq13
            refine r_iconst F dX12_isWord_75 (v := 0) (by decide) ?_
            refine r_drop 2 (L' := [some (.ref 72), some (.ref 8), none, some (.int v5.2)]) rfl ?_
            obtain rfl := Option.some.inj hq13
            exact Jq12
          · have hq13 := e_t hc hq13
            refine r_iconst F dX12_isWord_71 (v := 1) (by decide) ?_
            refine r_goto F dX12_isWord_72 (tgt := 76) (by decide) ?_
            refine r_drop 2 (L' := [some (.ref 72), some (.ref 8), none, some (.int v5.2)]) rfl ?_
            obtain rfl := Option.some.inj hq13
            exact Jq12
      · have hz := e_f hc hz
        refine r_drop 0 (L' := [none, some (.ref 8), some (.int (e_b v5.1)), some (.int v5.2)]) rfl ?_
        refine r_drop 1 (L' := [none, none, some (.int (e_b v5.1)), some (.int v5.2)]) rfl ?_
        refine r_drop 3 (L' := [none, none, some (.int (e_b v5.1)), none]) rfl ?_
        obtain rfl := Option.some.inj hz
        exact hx v5.1 rfl
    · show eRun G X 83 [none, none, some (.int (e_b x6)), none] [] h [] nx 0 0
      refine r_iload_n F dX12_isWord_83 rfl ?_
      obtain rfl := Option.some.inj hf
      exact r_zret F hq (v := x6) dX12_isWord_84 rfl rfl (Nat.le_refl _) (Nat.le_refl _) ⟨rfl, rfl⟩
  refine r_icmp_ne F dX12_isWord_5 (tgt := 36) (by decide) (fun hc => ?_) (fun hc => ?_)
  · have hq2 := e_f hc hq2
    refine r_iconst F dX12_isWord_36 (v := 0) (by decide) ?_
    obtain rfl := Option.some.inj hq2
    exact Jq1
  · have hq2 := e_t hc hq2
    refine r_aload_n F dX12_isWord_8 rfl ?_
    refine r_get F dX12_isWord_9 flX12_111 h72 rfl (e_le rfl) (e_lt hnx rfl) ?_
    refine r_iconst F dX12_isWord_12 (v := 1) (by decide) ?_
    refine r_icmp_ne F dX12_isWord_13 (tgt := 36) (by decide) (fun hc => ?_) (fun hc => ?_)
    · have hq2 := e_f hc hq2
      refine r_iconst F dX12_isWord_36 (v := 0) (by decide) ?_
      obtain rfl := Option.some.inj hq2
      exact Jq1
    · have hq2 := e_t hc hq2
      refine r_aload_n F dX12_isWord_16 rfl ?_
      refine r_get F dX12_isWord_17 flX12_101 h72 rfl (e_le rfl) (e_lt hnx rfl) ?_
      refine r_aload_n F dX12_isWord_20 rfl ?_
      refine r_get F dX12_isWord_21 flX12_108 h72 rfl (e_le rfl) (e_lt hnx rfl) ?_
      refine r_isub F dX12_isWord_24 ?_
      refine r_aload_n F dX12_isWord_25 rfl ?_
      obtain ⟨q14, hq15, hq2⟩ := e_bd hq2
      refine r_callT F dX12_isWord_26 (i := 0) (dc := 0) (ds := 0) (As := []) (S0 := [.int (a72_3 - a72_4)]) lkX12_137 mJ0_length_8abf5 (tJ0_length_8abf5_8 hG (la := x_l X) (h := e_up h []) hnx  hq15) rfl rfl rfl (e_le rfl) (e_le rfl) (e_le rfl) rfl (by decide) (Nat.zero_le _) (Nat.zero_le _) (e_k ?_)
      refine r_wr0 ?_
      refine r_icmp_ne F dX12_isWord_29 (tgt := 36) (by decide) (fun hc => ?_) (fun hc => ?_)
      · have hq2 := e_f hc hq2
        refine r_iconst F dX12_isWord_36 (v := 0) (by decide) ?_
        obtain rfl := Option.some.inj hq2
        exact Jq1
      · have hq2 := e_t hc hq2
        refine r_iconst F dX12_isWord_32 (v := 1) (by decide) ?_
        refine r_goto F dX12_isWord_33 (tgt := 37) (by decide) ?_
        obtain rfl := Option.some.inj hq2
        exact Jq1

def fX12_takesNumber (a72_2 : Int32) (a72_3 : Int32) (a72_4 : Int32) (a72_5 : Int32) (a72_6 : Int32) (a72_7 : Int32) (A73 : Nat → Int32) (p0 : Int32) (p1 : Int32) : Option (Int32 × Int32 × Int32 × Int32 × Int32 × Int32) :=
  if a72_5 = (-1) then
    if a72_6 = 2 then
      (fX12_in (Int32.toInt64 a72_7) (Int32.toInt64 p0) (Int32.toInt64 p1)).bind (fun q5 =>
      if q5 = true then
        (fX12_next a72_2 a72_3 a72_4 a72_6 a72_7 A73).bind (fun q7 =>
        some (a72_7, q7.1, q7.2.1, a72_5, q7.2.2.1, q7.2.2.2))
      else
        (fX12_bad a72_4 a72_5).bind (fun q9 =>
        some (p0, a72_3, a72_4, q9, a72_6, a72_7)))
    else
      (fX12_bad a72_4 a72_5).bind (fun q3 =>
      some (p0, a72_3, a72_4, q3, a72_6, a72_7))
  else
    (fX12_bad a72_4 a72_5).bind (fun q1 =>
    some (p0, a72_3, a72_4, q1, a72_6, a72_7))
set_option maxRecDepth 100000 in
theorem tX12_takesNumber_72 {G : eG} (hG : e_GS G) {la : Launch} {h : Nat → eO} {nx : Nat} (hnx : 99 ≤ nx) {a72_0 : Int32} {a72_2 : Int32} {a72_3 : Int32} {a72_4 : Int32} {a72_5 : Int32} {a72_6 : Int32} {a72_7 : Int32} {a72_8 : Bool} {a72_9 : Int32} {a72_10 : Int32} {a72_11 : Int32} {a72_17 : Bool} {a72_18 : Bool} {a72_19 : Bool} {a72_21 : Int32} {a72_22 : Int32} {a72_29 : Int32} {a72_31 : Int32} {a72_35 : Int32} {a72_37 : Bool} {a72_38 : Int32} {a72_39 : Int32} {a72_40 : Int32} {a72_41 : Int64} {a72_44 : Int32} {a72_50 : Bool} {A73 : Nat → Int32} {p0 : Int32} {p1 : Int32} (h72 : h 72 = o72 a72_0 a72_2 a72_3 a72_4 a72_5 a72_6 a72_7 a72_8 a72_9 a72_10 a72_11 a72_17 a72_18 a72_19 a72_21 a72_22 a72_29 a72_31 a72_35 a72_37 a72_38 a72_39 a72_40 a72_41 a72_44 a72_50) (h73 : h 73 = o73 A73) {R9 : Int32 × Int32 × Int32 × Int32 × Int32 × Int32} (hf : fX12_takesNumber a72_2 a72_3 a72_4 a72_5 a72_6 a72_7 A73 p0 p1 = some R9) :
    eSem G la MX12_takesNumber [.ref 72, .int p0, .int p1] h nx 0 0 (fun r9 h9 => r9 = some (.int R9.1) ∧ h9 = e_up h [(72, o72 a72_0 a72_2 R9.2.1 R9.2.2.1 R9.2.2.2.1 R9.2.2.2.2.1 R9.2.2.2.2.2 a72_8 a72_9 a72_10 a72_11 a72_17 a72_18 a72_19 a72_21 a72_22 a72_29 a72_31 a72_35 a72_37 a72_38 a72_39 a72_40 a72_41 a72_44 a72_50)]) := by
  refine eSem.of (k := 1) (L := [some (.ref 72), some (.int p0), some (.int p1), none]) (by decide +kernel) rfl rfl (fun X F hxl hq hcR hsR => ?_)
  subst hxl
  unfold fX12_takesNumber at hf
  refine r_aload_n F dX12_takesNumber_0 rfl ?_
  refine r_get F dX12_takesNumber_1 flX12_134 h72 rfl (e_le rfl) (e_lt hnx rfl) ?_
  refine r_iconst F dX12_takesNumber_4 (v := (-1)) (by decide) ?_
  refine r_icmp_ne F dX12_takesNumber_5 (tgt := 31) (by decide) (fun hc => ?_) (fun hc => ?_)
  · have hf := e_f hc hf
    refine r_aload_n F dX12_takesNumber_31 rfl ?_
    obtain ⟨q1, hq2, hf⟩ := e_bd hf
    refine r_callV F dX12_takesNumber_32 (b := 72) (dc := 0) (ds := 0) (As := []) (S0 := []) lkX12_150 mX12_bad (tX12_bad_72 hG (la := x_l X) (h := e_up h []) hnx h72 hq2) rfl rfl rfl (e_le rfl) (e_le rfl) (e_le rfl) h72 (ci := 12) e_cl12.1 rfl (e_le rfl) (e_lt hnx rfl) (Nat.zero_le _) (Nat.zero_le _) (e_k ?_)
    refine r_wr (l' := [(72, o72 a72_0 a72_2 a72_3 a72_4 q1 a72_6 a72_7 a72_8 a72_9 a72_10 a72_11 a72_17 a72_18 a72_19 a72_21 a72_22 a72_29 a72_31 a72_35 a72_37 a72_38 a72_39 a72_40 a72_41 a72_44 a72_50)]) rfl rfl ?_
    refine r_iload_n F dX12_takesNumber_35 rfl ?_
    obtain rfl := Option.some.inj hf
    exact r_iret F hq dX12_takesNumber_36 rfl rfl (Nat.le_refl _) (Nat.le_refl _) ⟨rfl, rfl⟩
  · have hf := e_t hc hf
    refine r_aload_n F dX12_takesNumber_8 rfl ?_
    refine r_get F dX12_takesNumber_9 flX12_111 h72 rfl (e_le rfl) (e_lt hnx rfl) ?_
    refine r_iconst F dX12_takesNumber_12 (v := 2) (by decide) ?_
    refine r_icmp_ne F dX12_takesNumber_13 (tgt := 31) (by decide) (fun hc => ?_) (fun hc => ?_)
    · have hf := e_f hc hf
      refine r_aload_n F dX12_takesNumber_31 rfl ?_
      obtain ⟨q3, hq4, hf⟩ := e_bd hf
      refine r_callV F dX12_takesNumber_32 (b := 72) (dc := 0) (ds := 0) (As := []) (S0 := []) lkX12_150 mX12_bad (tX12_bad_72 hG (la := x_l X) (h := e_up h []) hnx h72 hq4) rfl rfl rfl (e_le rfl) (e_le rfl) (e_le rfl) h72 (ci := 12) e_cl12.1 rfl (e_le rfl) (e_lt hnx rfl) (Nat.zero_le _) (Nat.zero_le _) (e_k ?_)
      refine r_wr (l' := [(72, o72 a72_0 a72_2 a72_3 a72_4 q3 a72_6 a72_7 a72_8 a72_9 a72_10 a72_11 a72_17 a72_18 a72_19 a72_21 a72_22 a72_29 a72_31 a72_35 a72_37 a72_38 a72_39 a72_40 a72_41 a72_44 a72_50)]) rfl rfl ?_
      refine r_iload_n F dX12_takesNumber_35 rfl ?_
      obtain rfl := Option.some.inj hf
      exact r_iret F hq dX12_takesNumber_36 rfl rfl (Nat.le_refl _) (Nat.le_refl _) ⟨rfl, rfl⟩
    · have hf := e_t hc hf
      refine r_aload_n F dX12_takesNumber_16 rfl ?_
      refine r_get F dX12_takesNumber_17 flX12_125 h72 rfl (e_le rfl) (e_lt hnx rfl) ?_
      refine r_i2l F dX12_takesNumber_20 ?_
      refine r_iload_n F dX12_takesNumber_21 rfl ?_
      refine r_i2l F dX12_takesNumber_22 ?_
      refine r_iload_n F dX12_takesNumber_23 rfl ?_
      refine r_i2l F dX12_takesNumber_24 ?_
      obtain ⟨q5, hq6, hf⟩ := e_bd hf
      refine r_callS F dX12_takesNumber_25 (dc := 0) (ds := 0) (As := [.long (Int32.toInt64 a72_7), .long (Int32.toInt64 p0), .long (Int32.toInt64 p1)]) (S0 := []) lkX12_97 mX12_in (tX12_in hG (la := x_l X) (h := e_up h []) hnx  hq6) rfl rfl rfl (e_le rfl) (e_le rfl) (e_le rfl) (Nat.zero_le _) (Nat.zero_le _) (e_k ?_)
      refine r_wr0 ?_
      refine r_z_ne F dX12_takesNumber_28 (tgt := 37) (by decide) (fun hc => ?_) (fun hc => ?_)
      · have hf := e_t hc hf
        refine r_aload_n F dX12_takesNumber_37 rfl ?_
        refine r_get F dX12_takesNumber_38 flX12_125 h72 rfl (e_le rfl) (e_lt hnx rfl) ?_
        refine r_istore_n F dX12_takesNumber_41 (e_le rfl) (L' := [some (.ref 72), some (.int p0), some (.int p1), some (.int a72_7)]) rfl ?_
        refine r_aload_n F dX12_takesNumber_42 rfl ?_
        obtain ⟨q7, hq8, hf⟩ := e_bd hf
        refine r_callV F dX12_takesNumber_43 (b := 72) (dc := 0) (ds := 0) (As := []) (S0 := []) lkX12_147 mX12_next (tX12_next_72 hG (la := x_l X) (h := e_up h []) hnx h72 h73 hq8) rfl rfl rfl (e_le rfl) (e_le rfl) (e_le rfl) h72 (ci := 12) e_cl12.1 rfl (e_le rfl) (e_lt hnx rfl) (Nat.zero_le _) (Nat.zero_le _) (e_k ?_)
        refine r_wr (l' := [(72, o72 a72_0 a72_2 q7.1 q7.2.1 a72_5 q7.2.2.1 q7.2.2.2 a72_8 a72_9 a72_10 a72_11 a72_17 a72_18 a72_19 a72_21 a72_22 a72_29 a72_31 a72_35 a72_37 a72_38 a72_39 a72_40 a72_41 a72_44 a72_50)]) rfl rfl ?_
        refine r_iload_n F dX12_takesNumber_46 rfl ?_
        obtain rfl := Option.some.inj hf
        exact r_iret F hq dX12_takesNumber_47 rfl rfl (Nat.le_refl _) (Nat.le_refl _) ⟨rfl, rfl⟩
      · have hf := e_f hc hf
        refine r_aload_n F dX12_takesNumber_31 rfl ?_
        obtain ⟨q9, hq10, hf⟩ := e_bd hf
        refine r_callV F dX12_takesNumber_32 (b := 72) (dc := 0) (ds := 0) (As := []) (S0 := []) lkX12_150 mX12_bad (tX12_bad_72 hG (la := x_l X) (h := e_up h []) hnx h72 hq10) rfl rfl rfl (e_le rfl) (e_le rfl) (e_le rfl) h72 (ci := 12) e_cl12.1 rfl (e_le rfl) (e_lt hnx rfl) (Nat.zero_le _) (Nat.zero_le _) (e_k ?_)
        refine r_wr (l' := [(72, o72 a72_0 a72_2 a72_3 a72_4 q9 a72_6 a72_7 a72_8 a72_9 a72_10 a72_11 a72_17 a72_18 a72_19 a72_21 a72_22 a72_29 a72_31 a72_35 a72_37 a72_38 a72_39 a72_40 a72_41 a72_44 a72_50)]) rfl rfl ?_
        refine r_iload_n F dX12_takesNumber_35 rfl ?_
        obtain rfl := Option.some.inj hf
        exact r_iret F hq dX12_takesNumber_36 rfl rfl (Nat.le_refl _) (Nat.le_refl _) ⟨rfl, rfl⟩

def fX12_takesSign (a72_2 : Int32) (a72_3 : Int32) (a72_4 : Int32) (a72_5 : Int32) (a72_6 : Int32) (a72_7 : Int32) (A73 : Nat → Int32) (p0 : Int32) : Option (Bool × Int32 × Int32 × Int32 × Int32) :=
  Option.bind (α := Bool) (
    if a72_5 = (-1) then
      if a72_6 = 3 then
        e_g (e_in a72_4 300) (
        if (A73 (tn a72_4)) = p0 then
          some true
        else
          some false)
      else
        some false
    else
      some false) (fun q1 =>
  if q1 = true then
    (fX12_next a72_2 a72_3 a72_4 a72_6 a72_7 A73).bind (fun q3 =>
    some (q1, q3.1, q3.2.1, q3.2.2.1, q3.2.2.2))
  else
    some (q1, a72_3, a72_4, a72_6, a72_7))
set_option maxRecDepth 100000 in
theorem tX12_takesSign_72 {G : eG} (hG : e_GS G) {la : Launch} {h : Nat → eO} {nx : Nat} (hnx : 99 ≤ nx) {a72_0 : Int32} {a72_2 : Int32} {a72_3 : Int32} {a72_4 : Int32} {a72_5 : Int32} {a72_6 : Int32} {a72_7 : Int32} {a72_8 : Bool} {a72_9 : Int32} {a72_10 : Int32} {a72_11 : Int32} {a72_17 : Bool} {a72_18 : Bool} {a72_19 : Bool} {a72_21 : Int32} {a72_22 : Int32} {a72_29 : Int32} {a72_31 : Int32} {a72_35 : Int32} {a72_37 : Bool} {a72_38 : Int32} {a72_39 : Int32} {a72_40 : Int32} {a72_41 : Int64} {a72_44 : Int32} {a72_50 : Bool} {A73 : Nat → Int32} {p0 : Int32} (h72 : h 72 = o72 a72_0 a72_2 a72_3 a72_4 a72_5 a72_6 a72_7 a72_8 a72_9 a72_10 a72_11 a72_17 a72_18 a72_19 a72_21 a72_22 a72_29 a72_31 a72_35 a72_37 a72_38 a72_39 a72_40 a72_41 a72_44 a72_50) (h73 : h 73 = o73 A73) {R9 : Bool × Int32 × Int32 × Int32 × Int32} (hf : fX12_takesSign a72_2 a72_3 a72_4 a72_5 a72_6 a72_7 A73 p0 = some R9) :
    eSem G la MX12_takesSign [.ref 72, .int p0] h nx 0 0 (fun r9 h9 => r9 = some (.int (e_b R9.1)) ∧ h9 = e_up h [(72, o72 a72_0 a72_2 R9.2.1 R9.2.2.1 a72_5 R9.2.2.2.1 R9.2.2.2.2 a72_8 a72_9 a72_10 a72_11 a72_17 a72_18 a72_19 a72_21 a72_22 a72_29 a72_31 a72_35 a72_37 a72_38 a72_39 a72_40 a72_41 a72_44 a72_50)]) := by
  refine eSem.of (k := 1) (L := [some (.ref 72), some (.int p0), none]) (by decide +kernel) rfl rfl (fun X F hxl hq hcR hsR => ?_)
  subst hxl
  unfold fX12_takesSign at hf
  refine r_aload_n F dX12_takesSign_0 rfl ?_
  refine r_get F dX12_takesSign_1 flX12_134 h72 rfl (e_le rfl) (e_lt hnx rfl) ?_
  refine r_iconst F dX12_takesSign_4 (v := (-1)) (by decide) ?_
  obtain ⟨q1, hq2, hf⟩ := e_bd hf
  have Jq1 : eRun G X 34 [some (.ref 72), none, none] [.int (e_b q1)] h [] nx 0 0 := by
    refine r_istore_n F dX12_takesSign_34 (e_le rfl) (L' := [some (.ref 72), none, some (.int (e_b q1))]) rfl ?_
    refine r_iload_n F dX12_takesSign_35 rfl ?_
    refine r_z_eq F dX12_takesSign_36 (tgt := 43) (by decide) (fun hc => ?_) (fun hc => ?_)
    · have hf := e_t hc hf
      refine r_aload_n F dX12_takesSign_39 rfl ?_
      obtain ⟨q3, hq4, hf⟩ := e_bd hf
      refine r_callV F dX12_takesSign_40 (b := 72) (dc := 0) (ds := 0) (As := []) (S0 := []) lkX12_147 mX12_next (tX12_next_72 hG (la := x_l X) (h := e_up h []) hnx h72 h73 hq4) rfl rfl rfl (e_le rfl) (e_le rfl) (e_le rfl) h72 (ci := 12) e_cl12.1 rfl (e_le rfl) (e_lt hnx rfl) (Nat.zero_le _) (Nat.zero_le _) (e_k ?_)
      refine r_wr (l' := [(72, o72 a72_0 a72_2 q3.1 q3.2.1 a72_5 q3.2.2.1 q3.2.2.2 a72_8 a72_9 a72_10 a72_11 a72_17 a72_18 a72_19 a72_21 a72_22 a72_29 a72_31 a72_35 a72_37 a72_38 a72_39 a72_40 a72_41 a72_44 a72_50)]) rfl rfl ?_
      refine r_iload_n F dX12_takesSign_43 rfl ?_
      obtain rfl := Option.some.inj hf
      exact r_zret F hq (v := q1) dX12_takesSign_44 rfl rfl (Nat.le_refl _) (Nat.le_refl _) ⟨rfl, rfl⟩
    · have hf := e_f hc hf
      refine r_iload_n F dX12_takesSign_43 rfl ?_
      refine r_mat (k := 72) h72 (l' := [(72, o72 a72_0 a72_2 a72_3 a72_4 a72_5 a72_6 a72_7 a72_8 a72_9 a72_10 a72_11 a72_17 a72_18 a72_19 a72_21 a72_22 a72_29 a72_31 a72_35 a72_37 a72_38 a72_39 a72_40 a72_41 a72_44 a72_50)]) rfl ?_
      obtain rfl := Option.some.inj hf
      exact r_zret F hq (v := q1) dX12_takesSign_44 rfl rfl (Nat.le_refl _) (Nat.le_refl _) ⟨rfl, rfl⟩
  refine r_icmp_ne F dX12_takesSign_5 (tgt := 33) (by decide) (fun hc => ?_) (fun hc => ?_)
  · have hq2 := e_f hc hq2
    refine r_iconst F dX12_takesSign_33 (v := 0) (by decide) ?_
    refine r_drop 1 (L' := [some (.ref 72), none, none]) rfl ?_
    obtain rfl := Option.some.inj hq2
    exact Jq1
  · have hq2 := e_t hc hq2
    refine r_aload_n F dX12_takesSign_8 rfl ?_
    refine r_get F dX12_takesSign_9 flX12_111 h72 rfl (e_le rfl) (e_lt hnx rfl) ?_
    refine r_iconst F dX12_takesSign_12 (v := 3) (by decide) ?_
    refine r_icmp_ne F dX12_takesSign_13 (tgt := 33) (by decide) (fun hc => ?_) (fun hc => ?_)
    · have hq2 := e_f hc hq2
      refine r_iconst F dX12_takesSign_33 (v := 0) (by decide) ?_
      refine r_drop 1 (L' := [some (.ref 72), none, none]) rfl ?_
      obtain rfl := Option.some.inj hq2
      exact Jq1
    · have hq2 := e_t hc hq2
      refine r_aload_n F dX12_takesSign_16 rfl ?_
      refine r_get F dX12_takesSign_17 flX12_9 h72 rfl (e_le rfl) (e_lt hnx rfl) ?_
      refine r_aload_n F dX12_takesSign_20 rfl ?_
      refine r_get F dX12_takesSign_21 flX12_108 h72 rfl (e_le rfl) (e_lt hnx rfl) ?_
      obtain ⟨hg, hq2⟩ := e_gd hq2
      refine r_iald F dX12_takesSign_24 (i := a72_4) h73 (e_le rfl) (e_lt hnx rfl) (e_vp hg) ?_
      refine r_iload_n F dX12_takesSign_25 rfl ?_
      refine r_icmp_ne F dX12_takesSign_26 (tgt := 33) (by decide) (fun hc => ?_) (fun hc => ?_)
      · have hq2 := e_f hc hq2
        refine r_iconst F dX12_takesSign_33 (v := 0) (by decide) ?_
        refine r_drop 1 (L' := [some (.ref 72), none, none]) rfl ?_
        obtain rfl := Option.some.inj hq2
        exact Jq1
      · have hq2 := e_t hc hq2
        refine r_iconst F dX12_takesSign_29 (v := 1) (by decide) ?_
        refine r_goto F dX12_takesSign_30 (tgt := 34) (by decide) ?_
        refine r_drop 1 (L' := [some (.ref 72), none, none]) rfl ?_
        obtain rfl := Option.some.inj hq2
        exact Jq1

def fX12_isWord_s9 (a72_3 : Int32) (a72_4 : Int32) (a72_5 : Int32) (a72_6 : Int32) (A73 : Nat → Int32)  : Option (Bool) :=
  Option.bind (α := Bool) (
    if a72_5 = (-1) then
      if a72_6 = 1 then
        (fJ0_length_8abf5_s9 ).bind (fun q14 =>
        if (a72_3 - a72_4) = q14 then
          some true
        else
          some false)
      else
        some false
    else
      some false) (fun q1 =>
  (e_loop (fun (v5 : Bool × Int32) => (
      if v5.1 = true then
        (fJ0_length_8abf5_s9 ).bind (fun q8 =>
        if q8 ≤ v5.2 then
          some (.inr v5.1)
        else
          e_g (e_in (a72_4 + v5.2) 300) (
          (fJ0_charAt_5068e_s9 v5.2).bind (fun q10 =>
          Option.bind (α := Bool) (
            if (A73 (tn (a72_4 + v5.2))) = q10 then
              some true
            else
              some false) (fun q12 =>
          some (.inl (q12, v5.2 + 1))))))
      else
        some (.inr v5.1) : Option ((Bool × Int32) ⊕ (Bool)))) e_fuel (q1, 0)).bind (fun x6 =>
  some x6))
set_option maxRecDepth 100000 in
theorem tX12_isWord_72_9 {G : eG} (hG : e_GS G) {la : Launch} {h : Nat → eO} {nx : Nat} (hnx : 99 ≤ nx) {a72_0 : Int32} {a72_2 : Int32} {a72_3 : Int32} {a72_4 : Int32} {a72_5 : Int32} {a72_6 : Int32} {a72_7 : Int32} {a72_8 : Bool} {a72_9 : Int32} {a72_10 : Int32} {a72_11 : Int32} {a72_17 : Bool} {a72_18 : Bool} {a72_19 : Bool} {a72_21 : Int32} {a72_22 : Int32} {a72_29 : Int32} {a72_31 : Int32} {a72_35 : Int32} {a72_37 : Bool} {a72_38 : Int32} {a72_39 : Int32} {a72_40 : Int32} {a72_41 : Int64} {a72_44 : Int32} {a72_50 : Bool} {A73 : Nat → Int32}  (h72 : h 72 = o72 a72_0 a72_2 a72_3 a72_4 a72_5 a72_6 a72_7 a72_8 a72_9 a72_10 a72_11 a72_17 a72_18 a72_19 a72_21 a72_22 a72_29 a72_31 a72_35 a72_37 a72_38 a72_39 a72_40 a72_41 a72_44 a72_50) (h73 : h 73 = o73 A73) {R9 : Bool} (hf : fX12_isWord_s9 a72_3 a72_4 a72_5 a72_6 A73  = some R9) :
    eSem G la MX12_isWord [.ref 72, .ref 9] h nx 0 0 (fun r9 h9 => r9 = some (.int (e_b R9)) ∧ h9 = h) := by
  refine eSem.of (k := 2) (L := [some (.ref 72), some (.ref 9), none, none]) (by decide +kernel) rfl rfl (fun X F hxl hq hcR hsR => ?_)
  subst hxl
  unfold fX12_isWord_s9 at hf
  refine r_aload_n F dX12_isWord_0 rfl ?_
  refine r_get F dX12_isWord_1 flX12_134 h72 rfl (e_le rfl) (e_lt hnx rfl) ?_
  refine r_iconst F dX12_isWord_4 (v := (-1)) (by decide) ?_
  obtain ⟨q1, hq2, hf⟩ := e_bd hf
  have Jq1 : eRun G X 37 [some (.ref 72), some (.ref 9), none, none] [.int (e_b q1)] h [] nx 0 0 := by
    refine r_istore_n F dX12_isWord_37 (e_le rfl) (L' := [some (.ref 72), some (.ref 9), some (.int (e_b q1)), none]) rfl ?_
    refine r_iconst F dX12_isWord_38 (v := 0) (by decide) ?_
    refine r_istore_n F dX12_isWord_39 (e_le rfl) (L' := [some (.ref 72), some (.ref 9), some (.int (e_b q1)), some (.int 0)]) rfl ?_
    obtain ⟨x6, hx7, hf⟩ := e_bd hf
    refine (e_loop_ok (P := fun (v5 : Bool × Int32) => eRun G X 40 [some (.ref 72), some (.ref 9), some (.int (e_b v5.1)), some (.int v5.2)] [] h [] nx 0 0) (K := fun (x6 : Bool) => eRun G X 83 [none, none, some (.int (e_b x6)), none] [] h [] nx 0 0) ?_ e_fuel (q1, 0) x6 hx7 ?_ : _)
    · intro v5 z hz ih hx
      refine r_iload_n F dX12_isWord_40 rfl ?_
      refine r_z_eq F dX12_isWord_41 (tgt := 83) (by decide) (fun hc => ?_) (fun hc => ?_)
      · have hz := e_t hc hz
        refine r_iload_n F dX12_isWord_44 rfl ?_
        refine r_aload_n F dX12_isWord_45 rfl ?_
        obtain ⟨q8, hq9, hz⟩ := e_bd hz
        refine r_callT F dX12_isWord_46 (i := 1) (dc := 0) (ds := 0) (As := []) (S0 := [.int v5.2]) lkX12_137 mJ0_length_8abf5 (tJ0_length_8abf5_9 hG (la := x_l X) (h := e_up h []) hnx  hq9) rfl rfl rfl (e_le rfl) (e_le rfl) (e_le rfl) rfl (by decide) (Nat.zero_le _) (Nat.zero_le _) (e_k ?_)
        refine r_wr0 ?_
        refine r_icmp_ge F dX12_isWord_49 (tgt := 83) (by decide) (fun hc => ?_) (fun hc => ?_)
        · have hz := e_t hc hz
          refine r_drop 0 (L' := [none, some (.ref 9), some (.int (e_b v5.1)), some (.int v5.2)]) rfl ?_
          refine r_drop 1 (L' := [none, none, some (.int (e_b v5.1)), some (.int v5.2)]) rfl ?_
          refine r_drop 3 (L' := [none, none, some (.int (e_b v5.1)), none]) rfl ?_
          obtain rfl := Option.some.inj hz
          exact hx v5.1 rfl
        · have hz := e_f hc hz
          refine r_aload_n F dX12_isWord_52 rfl ?_
          refine r_get F dX12_isWord_53 flX12_9 h72 rfl (e_le rfl) (e_lt hnx rfl) ?_
          refine r_aload_n F dX12_isWord_56 rfl ?_
          refine r_get F dX12_isWord_57 flX12_108 h72 rfl (e_le rfl) (e_lt hnx rfl) ?_
          refine r_iload_n F dX12_isWord_60 rfl ?_
          refine r_iadd F dX12_isWord_61 ?_
          obtain ⟨hg, hz⟩ := e_gd hz
          refine r_iald F dX12_isWord_62 (i := (a72_4 + v5.2)) h73 (e_le rfl) (e_lt hnx rfl) (e_vp hg) ?_
          refine r_aload_n F dX12_isWord_63 rfl ?_
          refine r_iload_n F dX12_isWord_64 rfl ?_
          obtain ⟨q10, hq11, hz⟩ := e_bd hz
          refine r_callT F dX12_isWord_65 (i := 1) (dc := 0) (ds := 0) (As := [.int v5.2]) (S0 := [.int (A73 (tn (a72_4 + v5.2)))]) lkX12_143 mJ0_charAt_5068e (tJ0_charAt_5068e_9 hG (la := x_l X) (h := e_up h []) hnx  hq11) rfl rfl rfl (e_le rfl) (e_le rfl) (e_le rfl) rfl (by decide) (Nat.zero_le _) (Nat.zero_le _) (e_k ?_)
          refine r_wr0 ?_
          obtain ⟨q12, hq13, hz⟩ := e_bd hz
          have Jq12 : eRun G X 76 [some (.ref 72), some (.ref 9), none, some (.int v5.2)] [.int (e_b q12)] h [] nx 0 0 := by
            refine r_istore_n F dX12_isWord_76 (e_le rfl) (L' := [some (.ref 72), some (.ref 9), some (.int (e_b q12)), some (.int v5.2)]) rfl ?_
            refine r_inc F dX12_isWord_77 (k9 := 1) (by decide) rfl (L' := [some (.ref 72), some (.ref 9), some (.int (e_b q12)), some (.int (v5.2 + 1))]) rfl ?_
            refine r_goto F dX12_isWord_80 (tgt := 40) (by decide) ?_
            obtain rfl := Option.some.inj hz
            exact ih (q12, v5.2 + 1) rfl
          refine r_icmp_ne F dX12_isWord_68 (tgt := 75) (by decide) (fun hc => ?_) (fun hc => ?_)
          · have hq13 := e_f hc hq13
            refine r_iconst F dX12_isWord_75 (v := 0) (by decide) ?_
            refine r_drop 2 (L' := [some (.ref 72), some (.ref 9), none, some (.int v5.2)]) rfl ?_
            obtain rfl := Option.some.inj hq13
            exact Jq12
          · have hq13 := e_t hc hq13
            refine r_iconst F dX12_isWord_71 (v := 1) (by decide) ?_
            refine r_goto F dX12_isWord_72 (tgt := 76) (by decide) ?_
            refine r_drop 2 (L' := [some (.ref 72), some (.ref 9), none, some (.int v5.2)]) rfl ?_
            obtain rfl := Option.some.inj hq13
            exact Jq12
      · have hz := e_f hc hz
        refine r_drop 0 (L' := [none, some (.ref 9), some (.int (e_b v5.1)), some (.int v5.2)]) rfl ?_
        refine r_drop 1 (L' := [none, none, some (.int (e_b v5.1)), some (.int v5.2)]) rfl ?_
        refine r_drop 3 (L' := [none, none, some (.int (e_b v5.1)), none]) rfl ?_
        obtain rfl := Option.some.inj hz
        exact hx v5.1 rfl
    · show eRun G X 83 [none, none, some (.int (e_b x6)), none] [] h [] nx 0 0
      refine r_iload_n F dX12_isWord_83 rfl ?_
      obtain rfl := Option.some.inj hf
      exact r_zret F hq (v := x6) dX12_isWord_84 rfl rfl (Nat.le_refl _) (Nat.le_refl _) ⟨rfl, rfl⟩
  refine r_icmp_ne F dX12_isWord_5 (tgt := 36) (by decide) (fun hc => ?_) (fun hc => ?_)
  · have hq2 := e_f hc hq2
    refine r_iconst F dX12_isWord_36 (v := 0) (by decide) ?_
    obtain rfl := Option.some.inj hq2
    exact Jq1
  · have hq2 := e_t hc hq2
    refine r_aload_n F dX12_isWord_8 rfl ?_
    refine r_get F dX12_isWord_9 flX12_111 h72 rfl (e_le rfl) (e_lt hnx rfl) ?_
    refine r_iconst F dX12_isWord_12 (v := 1) (by decide) ?_
    refine r_icmp_ne F dX12_isWord_13 (tgt := 36) (by decide) (fun hc => ?_) (fun hc => ?_)
    · have hq2 := e_f hc hq2
      refine r_iconst F dX12_isWord_36 (v := 0) (by decide) ?_
      obtain rfl := Option.some.inj hq2
      exact Jq1
    · have hq2 := e_t hc hq2
      refine r_aload_n F dX12_isWord_16 rfl ?_
      refine r_get F dX12_isWord_17 flX12_101 h72 rfl (e_le rfl) (e_lt hnx rfl) ?_
      refine r_aload_n F dX12_isWord_20 rfl ?_
      refine r_get F dX12_isWord_21 flX12_108 h72 rfl (e_le rfl) (e_lt hnx rfl) ?_
      refine r_isub F dX12_isWord_24 ?_
      refine r_aload_n F dX12_isWord_25 rfl ?_
      obtain ⟨q14, hq15, hq2⟩ := e_bd hq2
      refine r_callT F dX12_isWord_26 (i := 1) (dc := 0) (ds := 0) (As := []) (S0 := [.int (a72_3 - a72_4)]) lkX12_137 mJ0_length_8abf5 (tJ0_length_8abf5_9 hG (la := x_l X) (h := e_up h []) hnx  hq15) rfl rfl rfl (e_le rfl) (e_le rfl) (e_le rfl) rfl (by decide) (Nat.zero_le _) (Nat.zero_le _) (e_k ?_)
      refine r_wr0 ?_
      refine r_icmp_ne F dX12_isWord_29 (tgt := 36) (by decide) (fun hc => ?_) (fun hc => ?_)
      · have hq2 := e_f hc hq2
        refine r_iconst F dX12_isWord_36 (v := 0) (by decide) ?_
        obtain rfl := Option.some.inj hq2
        exact Jq1
      · have hq2 := e_t hc hq2
        refine r_iconst F dX12_isWord_32 (v := 1) (by decide) ?_
        refine r_goto F dX12_isWord_33 (tgt := 37) (by decide) ?_
        obtain rfl := Option.some.inj hq2
        exact Jq1

def fX12_isWord_s10 (a72_3 : Int32) (a72_4 : Int32) (a72_5 : Int32) (a72_6 : Int32) (A73 : Nat → Int32)  : Option (Bool) :=
  Option.bind (α := Bool) (
    if a72_5 = (-1) then
      if a72_6 = 1 then
        (fJ0_length_8abf5_s10 ).bind (fun q14 =>
        if (a72_3 - a72_4) = q14 then
          some true
        else
          some false)
      else
        some false
    else
      some false) (fun q1 =>
  (e_loop (fun (v5 : Bool × Int32) => (
      if v5.1 = true then
        (fJ0_length_8abf5_s10 ).bind (fun q8 =>
        if q8 ≤ v5.2 then
          some (.inr v5.1)
        else
          e_g (e_in (a72_4 + v5.2) 300) (
          (fJ0_charAt_5068e_s10 v5.2).bind (fun q10 =>
          Option.bind (α := Bool) (
            if (A73 (tn (a72_4 + v5.2))) = q10 then
              some true
            else
              some false) (fun q12 =>
          some (.inl (q12, v5.2 + 1))))))
      else
        some (.inr v5.1) : Option ((Bool × Int32) ⊕ (Bool)))) e_fuel (q1, 0)).bind (fun x6 =>
  some x6))
set_option maxRecDepth 100000 in
theorem tX12_isWord_72_10 {G : eG} (hG : e_GS G) {la : Launch} {h : Nat → eO} {nx : Nat} (hnx : 99 ≤ nx) {a72_0 : Int32} {a72_2 : Int32} {a72_3 : Int32} {a72_4 : Int32} {a72_5 : Int32} {a72_6 : Int32} {a72_7 : Int32} {a72_8 : Bool} {a72_9 : Int32} {a72_10 : Int32} {a72_11 : Int32} {a72_17 : Bool} {a72_18 : Bool} {a72_19 : Bool} {a72_21 : Int32} {a72_22 : Int32} {a72_29 : Int32} {a72_31 : Int32} {a72_35 : Int32} {a72_37 : Bool} {a72_38 : Int32} {a72_39 : Int32} {a72_40 : Int32} {a72_41 : Int64} {a72_44 : Int32} {a72_50 : Bool} {A73 : Nat → Int32}  (h72 : h 72 = o72 a72_0 a72_2 a72_3 a72_4 a72_5 a72_6 a72_7 a72_8 a72_9 a72_10 a72_11 a72_17 a72_18 a72_19 a72_21 a72_22 a72_29 a72_31 a72_35 a72_37 a72_38 a72_39 a72_40 a72_41 a72_44 a72_50) (h73 : h 73 = o73 A73) {R9 : Bool} (hf : fX12_isWord_s10 a72_3 a72_4 a72_5 a72_6 A73  = some R9) :
    eSem G la MX12_isWord [.ref 72, .ref 10] h nx 0 0 (fun r9 h9 => r9 = some (.int (e_b R9)) ∧ h9 = h) := by
  refine eSem.of (k := 2) (L := [some (.ref 72), some (.ref 10), none, none]) (by decide +kernel) rfl rfl (fun X F hxl hq hcR hsR => ?_)
  subst hxl
  unfold fX12_isWord_s10 at hf
  refine r_aload_n F dX12_isWord_0 rfl ?_
  refine r_get F dX12_isWord_1 flX12_134 h72 rfl (e_le rfl) (e_lt hnx rfl) ?_
  refine r_iconst F dX12_isWord_4 (v := (-1)) (by decide) ?_
  obtain ⟨q1, hq2, hf⟩ := e_bd hf
  have Jq1 : eRun G X 37 [some (.ref 72), some (.ref 10), none, none] [.int (e_b q1)] h [] nx 0 0 := by
    refine r_istore_n F dX12_isWord_37 (e_le rfl) (L' := [some (.ref 72), some (.ref 10), some (.int (e_b q1)), none]) rfl ?_
    refine r_iconst F dX12_isWord_38 (v := 0) (by decide) ?_
    refine r_istore_n F dX12_isWord_39 (e_le rfl) (L' := [some (.ref 72), some (.ref 10), some (.int (e_b q1)), some (.int 0)]) rfl ?_
    obtain ⟨x6, hx7, hf⟩ := e_bd hf
    refine (e_loop_ok (P := fun (v5 : Bool × Int32) => eRun G X 40 [some (.ref 72), some (.ref 10), some (.int (e_b v5.1)), some (.int v5.2)] [] h [] nx 0 0) (K := fun (x6 : Bool) => eRun G X 83 [none, none, some (.int (e_b x6)), none] [] h [] nx 0 0) ?_ e_fuel (q1, 0) x6 hx7 ?_ : _)
    · intro v5 z hz ih hx
      refine r_iload_n F dX12_isWord_40 rfl ?_
      refine r_z_eq F dX12_isWord_41 (tgt := 83) (by decide) (fun hc => ?_) (fun hc => ?_)
      · have hz := e_t hc hz
        refine r_iload_n F dX12_isWord_44 rfl ?_
        refine r_aload_n F dX12_isWord_45 rfl ?_
        obtain ⟨q8, hq9, hz⟩ := e_bd hz
        refine r_callT F dX12_isWord_46 (i := 2) (dc := 0) (ds := 0) (As := []) (S0 := [.int v5.2]) lkX12_137 mJ0_length_8abf5 (tJ0_length_8abf5_10 hG (la := x_l X) (h := e_up h []) hnx  hq9) rfl rfl rfl (e_le rfl) (e_le rfl) (e_le rfl) rfl (by decide) (Nat.zero_le _) (Nat.zero_le _) (e_k ?_)
        refine r_wr0 ?_
        refine r_icmp_ge F dX12_isWord_49 (tgt := 83) (by decide) (fun hc => ?_) (fun hc => ?_)
        · have hz := e_t hc hz
          refine r_drop 0 (L' := [none, some (.ref 10), some (.int (e_b v5.1)), some (.int v5.2)]) rfl ?_
          refine r_drop 1 (L' := [none, none, some (.int (e_b v5.1)), some (.int v5.2)]) rfl ?_
          refine r_drop 3 (L' := [none, none, some (.int (e_b v5.1)), none]) rfl ?_
          obtain rfl := Option.some.inj hz
          exact hx v5.1 rfl
        · have hz := e_f hc hz
          refine r_aload_n F dX12_isWord_52 rfl ?_
          refine r_get F dX12_isWord_53 flX12_9 h72 rfl (e_le rfl) (e_lt hnx rfl) ?_
          refine r_aload_n F dX12_isWord_56 rfl ?_
          refine r_get F dX12_isWord_57 flX12_108 h72 rfl (e_le rfl) (e_lt hnx rfl) ?_
          refine r_iload_n F dX12_isWord_60 rfl ?_
          refine r_iadd F dX12_isWord_61 ?_
          obtain ⟨hg, hz⟩ := e_gd hz
          refine r_iald F dX12_isWord_62 (i := (a72_4 + v5.2)) h73 (e_le rfl) (e_lt hnx rfl) (e_vp hg) ?_
          refine r_aload_n F dX12_isWord_63 rfl ?_
          refine r_iload_n F dX12_isWord_64 rfl ?_
          obtain ⟨q10, hq11, hz⟩ := e_bd hz
          refine r_callT F dX12_isWord_65 (i := 2) (dc := 0) (ds := 0) (As := [.int v5.2]) (S0 := [.int (A73 (tn (a72_4 + v5.2)))]) lkX12_143 mJ0_charAt_5068e (tJ0_charAt_5068e_10 hG (la := x_l X) (h := e_up h []) hnx  hq11) rfl rfl rfl (e_le rfl) (e_le rfl) (e_le rfl) rfl (by decide) (Nat.zero_le _) (Nat.zero_le _) (e_k ?_)
          refine r_wr0 ?_
          obtain ⟨q12, hq13, hz⟩ := e_bd hz
          have Jq12 : eRun G X 76 [some (.ref 72), some (.ref 10), none, some (.int v5.2)] [.int (e_b q12)] h [] nx 0 0 := by
            refine r_istore_n F dX12_isWord_76 (e_le rfl) (L' := [some (.ref 72), some (.ref 10), some (.int (e_b q12)), some (.int v5.2)]) rfl ?_
            refine r_inc F dX12_isWord_77 (k9 := 1) (by decide) rfl (L' := [some (.ref 72), some (.ref 10), some (.int (e_b q12)), some (.int (v5.2 + 1))]) rfl ?_
            refine r_goto F dX12_isWord_80 (tgt := 40) (by decide) ?_
            obtain rfl := Option.some.inj hz
            exact ih (q12, v5.2 + 1) rfl
          refine r_icmp_ne F dX12_isWord_68 (tgt := 75) (by decide) (fun hc => ?_) (fun hc => ?_)
          · have hq13 := e_f hc hq13
            refine r_iconst F dX12_isWord_75 (v := 0) (by decide) ?_
            refine r_drop 2 (L' := [some (.ref 72), some (.ref 10), none, some (.int v5.2)]) rfl ?_
            obtain rfl := Option.some.inj hq13
            exact Jq12
          · have hq13 := e_t hc hq13
            refine r_iconst F dX12_isWord_71 (v := 1) (by decide) ?_
            refine r_goto F dX12_isWord_72 (tgt := 76) (by decide) ?_
            refine r_drop 2 (L' := [some (.ref 72), some (.ref 10), none, some (.int v5.2)]) rfl ?_
            obtain rfl := Option.some.inj hq13
            exact Jq12
      · have hz := e_f hc hz
        refine r_drop 0 (L' := [none, some (.ref 10), some (.int (e_b v5.1)), some (.int v5.2)]) rfl ?_
        refine r_drop 1 (L' := [none, none, some (.int (e_b v5.1)), some (.int v5.2)]) rfl ?_
        refine r_drop 3 (L' := [none, none, some (.int (e_b v5.1)), none]) rfl ?_
        obtain rfl := Option.some.inj hz
        exact hx v5.1 rfl
    · show eRun G X 83 [none, none, some (.int (e_b x6)), none] [] h [] nx 0 0
      refine r_iload_n F dX12_isWord_83 rfl ?_
      obtain rfl := Option.some.inj hf
      exact r_zret F hq (v := x6) dX12_isWord_84 rfl rfl (Nat.le_refl _) (Nat.le_refl _) ⟨rfl, rfl⟩
  refine r_icmp_ne F dX12_isWord_5 (tgt := 36) (by decide) (fun hc => ?_) (fun hc => ?_)
  · have hq2 := e_f hc hq2
    refine r_iconst F dX12_isWord_36 (v := 0) (by decide) ?_
    obtain rfl := Option.some.inj hq2
    exact Jq1
  · have hq2 := e_t hc hq2
    refine r_aload_n F dX12_isWord_8 rfl ?_
    refine r_get F dX12_isWord_9 flX12_111 h72 rfl (e_le rfl) (e_lt hnx rfl) ?_
    refine r_iconst F dX12_isWord_12 (v := 1) (by decide) ?_
    refine r_icmp_ne F dX12_isWord_13 (tgt := 36) (by decide) (fun hc => ?_) (fun hc => ?_)
    · have hq2 := e_f hc hq2
      refine r_iconst F dX12_isWord_36 (v := 0) (by decide) ?_
      obtain rfl := Option.some.inj hq2
      exact Jq1
    · have hq2 := e_t hc hq2
      refine r_aload_n F dX12_isWord_16 rfl ?_
      refine r_get F dX12_isWord_17 flX12_101 h72 rfl (e_le rfl) (e_lt hnx rfl) ?_
      refine r_aload_n F dX12_isWord_20 rfl ?_
      refine r_get F dX12_isWord_21 flX12_108 h72 rfl (e_le rfl) (e_lt hnx rfl) ?_
      refine r_isub F dX12_isWord_24 ?_
      refine r_aload_n F dX12_isWord_25 rfl ?_
      obtain ⟨q14, hq15, hq2⟩ := e_bd hq2
      refine r_callT F dX12_isWord_26 (i := 2) (dc := 0) (ds := 0) (As := []) (S0 := [.int (a72_3 - a72_4)]) lkX12_137 mJ0_length_8abf5 (tJ0_length_8abf5_10 hG (la := x_l X) (h := e_up h []) hnx  hq15) rfl rfl rfl (e_le rfl) (e_le rfl) (e_le rfl) rfl (by decide) (Nat.zero_le _) (Nat.zero_le _) (e_k ?_)
      refine r_wr0 ?_
      refine r_icmp_ne F dX12_isWord_29 (tgt := 36) (by decide) (fun hc => ?_) (fun hc => ?_)
      · have hq2 := e_f hc hq2
        refine r_iconst F dX12_isWord_36 (v := 0) (by decide) ?_
        obtain rfl := Option.some.inj hq2
        exact Jq1
      · have hq2 := e_t hc hq2
        refine r_iconst F dX12_isWord_32 (v := 1) (by decide) ?_
        refine r_goto F dX12_isWord_33 (tgt := 37) (by decide) ?_
        obtain rfl := Option.some.inj hq2
        exact Jq1

def fX12_isWord_s11 (a72_3 : Int32) (a72_4 : Int32) (a72_5 : Int32) (a72_6 : Int32) (A73 : Nat → Int32)  : Option (Bool) :=
  Option.bind (α := Bool) (
    if a72_5 = (-1) then
      if a72_6 = 1 then
        (fJ0_length_8abf5_s11 ).bind (fun q14 =>
        if (a72_3 - a72_4) = q14 then
          some true
        else
          some false)
      else
        some false
    else
      some false) (fun q1 =>
  (e_loop (fun (v5 : Bool × Int32) => (
      if v5.1 = true then
        (fJ0_length_8abf5_s11 ).bind (fun q8 =>
        if q8 ≤ v5.2 then
          some (.inr v5.1)
        else
          e_g (e_in (a72_4 + v5.2) 300) (
          (fJ0_charAt_5068e_s11 v5.2).bind (fun q10 =>
          Option.bind (α := Bool) (
            if (A73 (tn (a72_4 + v5.2))) = q10 then
              some true
            else
              some false) (fun q12 =>
          some (.inl (q12, v5.2 + 1))))))
      else
        some (.inr v5.1) : Option ((Bool × Int32) ⊕ (Bool)))) e_fuel (q1, 0)).bind (fun x6 =>
  some x6))
set_option maxRecDepth 100000 in
theorem tX12_isWord_72_11 {G : eG} (hG : e_GS G) {la : Launch} {h : Nat → eO} {nx : Nat} (hnx : 99 ≤ nx) {a72_0 : Int32} {a72_2 : Int32} {a72_3 : Int32} {a72_4 : Int32} {a72_5 : Int32} {a72_6 : Int32} {a72_7 : Int32} {a72_8 : Bool} {a72_9 : Int32} {a72_10 : Int32} {a72_11 : Int32} {a72_17 : Bool} {a72_18 : Bool} {a72_19 : Bool} {a72_21 : Int32} {a72_22 : Int32} {a72_29 : Int32} {a72_31 : Int32} {a72_35 : Int32} {a72_37 : Bool} {a72_38 : Int32} {a72_39 : Int32} {a72_40 : Int32} {a72_41 : Int64} {a72_44 : Int32} {a72_50 : Bool} {A73 : Nat → Int32}  (h72 : h 72 = o72 a72_0 a72_2 a72_3 a72_4 a72_5 a72_6 a72_7 a72_8 a72_9 a72_10 a72_11 a72_17 a72_18 a72_19 a72_21 a72_22 a72_29 a72_31 a72_35 a72_37 a72_38 a72_39 a72_40 a72_41 a72_44 a72_50) (h73 : h 73 = o73 A73) {R9 : Bool} (hf : fX12_isWord_s11 a72_3 a72_4 a72_5 a72_6 A73  = some R9) :
    eSem G la MX12_isWord [.ref 72, .ref 11] h nx 0 0 (fun r9 h9 => r9 = some (.int (e_b R9)) ∧ h9 = h) := by
  refine eSem.of (k := 2) (L := [some (.ref 72), some (.ref 11), none, none]) (by decide +kernel) rfl rfl (fun X F hxl hq hcR hsR => ?_)
  subst hxl
  unfold fX12_isWord_s11 at hf
  refine r_aload_n F dX12_isWord_0 rfl ?_
  refine r_get F dX12_isWord_1 flX12_134 h72 rfl (e_le rfl) (e_lt hnx rfl) ?_
  refine r_iconst F dX12_isWord_4 (v := (-1)) (by decide) ?_
  obtain ⟨q1, hq2, hf⟩ := e_bd hf
  have Jq1 : eRun G X 37 [some (.ref 72), some (.ref 11), none, none] [.int (e_b q1)] h [] nx 0 0 := by
    refine r_istore_n F dX12_isWord_37 (e_le rfl) (L' := [some (.ref 72), some (.ref 11), some (.int (e_b q1)), none]) rfl ?_
    refine r_iconst F dX12_isWord_38 (v := 0) (by decide) ?_
    refine r_istore_n F dX12_isWord_39 (e_le rfl) (L' := [some (.ref 72), some (.ref 11), some (.int (e_b q1)), some (.int 0)]) rfl ?_
    obtain ⟨x6, hx7, hf⟩ := e_bd hf
    refine (e_loop_ok (P := fun (v5 : Bool × Int32) => eRun G X 40 [some (.ref 72), some (.ref 11), some (.int (e_b v5.1)), some (.int v5.2)] [] h [] nx 0 0) (K := fun (x6 : Bool) => eRun G X 83 [none, none, some (.int (e_b x6)), none] [] h [] nx 0 0) ?_ e_fuel (q1, 0) x6 hx7 ?_ : _)
    · intro v5 z hz ih hx
      refine r_iload_n F dX12_isWord_40 rfl ?_
      refine r_z_eq F dX12_isWord_41 (tgt := 83) (by decide) (fun hc => ?_) (fun hc => ?_)
      · have hz := e_t hc hz
        refine r_iload_n F dX12_isWord_44 rfl ?_
        refine r_aload_n F dX12_isWord_45 rfl ?_
        obtain ⟨q8, hq9, hz⟩ := e_bd hz
        refine r_callT F dX12_isWord_46 (i := 3) (dc := 0) (ds := 0) (As := []) (S0 := [.int v5.2]) lkX12_137 mJ0_length_8abf5 (tJ0_length_8abf5_11 hG (la := x_l X) (h := e_up h []) hnx  hq9) rfl rfl rfl (e_le rfl) (e_le rfl) (e_le rfl) rfl (by decide) (Nat.zero_le _) (Nat.zero_le _) (e_k ?_)
        refine r_wr0 ?_
        refine r_icmp_ge F dX12_isWord_49 (tgt := 83) (by decide) (fun hc => ?_) (fun hc => ?_)
        · have hz := e_t hc hz
          refine r_drop 0 (L' := [none, some (.ref 11), some (.int (e_b v5.1)), some (.int v5.2)]) rfl ?_
          refine r_drop 1 (L' := [none, none, some (.int (e_b v5.1)), some (.int v5.2)]) rfl ?_
          refine r_drop 3 (L' := [none, none, some (.int (e_b v5.1)), none]) rfl ?_
          obtain rfl := Option.some.inj hz
          exact hx v5.1 rfl
        · have hz := e_f hc hz
          refine r_aload_n F dX12_isWord_52 rfl ?_
          refine r_get F dX12_isWord_53 flX12_9 h72 rfl (e_le rfl) (e_lt hnx rfl) ?_
          refine r_aload_n F dX12_isWord_56 rfl ?_
          refine r_get F dX12_isWord_57 flX12_108 h72 rfl (e_le rfl) (e_lt hnx rfl) ?_
          refine r_iload_n F dX12_isWord_60 rfl ?_
          refine r_iadd F dX12_isWord_61 ?_
          obtain ⟨hg, hz⟩ := e_gd hz
          refine r_iald F dX12_isWord_62 (i := (a72_4 + v5.2)) h73 (e_le rfl) (e_lt hnx rfl) (e_vp hg) ?_
          refine r_aload_n F dX12_isWord_63 rfl ?_
          refine r_iload_n F dX12_isWord_64 rfl ?_
          obtain ⟨q10, hq11, hz⟩ := e_bd hz
          refine r_callT F dX12_isWord_65 (i := 3) (dc := 0) (ds := 0) (As := [.int v5.2]) (S0 := [.int (A73 (tn (a72_4 + v5.2)))]) lkX12_143 mJ0_charAt_5068e (tJ0_charAt_5068e_11 hG (la := x_l X) (h := e_up h []) hnx  hq11) rfl rfl rfl (e_le rfl) (e_le rfl) (e_le rfl) rfl (by decide) (Nat.zero_le _) (Nat.zero_le _) (e_k ?_)
          refine r_wr0 ?_
          obtain ⟨q12, hq13, hz⟩ := e_bd hz
          have Jq12 : eRun G X 76 [some (.ref 72), some (.ref 11), none, some (.int v5.2)] [.int (e_b q12)] h [] nx 0 0 := by
            refine r_istore_n F dX12_isWord_76 (e_le rfl) (L' := [some (.ref 72), some (.ref 11), some (.int (e_b q12)), some (.int v5.2)]) rfl ?_
            refine r_inc F dX12_isWord_77 (k9 := 1) (by decide) rfl (L' := [some (.ref 72), some (.ref 11), some (.int (e_b q12)), some (.int (v5.2 + 1))]) rfl ?_
            refine r_goto F dX12_isWord_80 (tgt := 40) (by decide) ?_
            obtain rfl := Option.some.inj hz
            exact ih (q12, v5.2 + 1) rfl
          refine r_icmp_ne F dX12_isWord_68 (tgt := 75) (by decide) (fun hc => ?_) (fun hc => ?_)
          · have hq13 := e_f hc hq13
            refine r_iconst F dX12_isWord_75 (v := 0) (by decide) ?_
            refine r_drop 2 (L' := [some (.ref 72), some (.ref 11), none, some (.int v5.2)]) rfl ?_
            obtain rfl := Option.some.inj hq13
            exact Jq12
          · have hq13 := e_t hc hq13
            refine r_iconst F dX12_isWord_71 (v := 1) (by decide) ?_
            refine r_goto F dX12_isWord_72 (tgt := 76) (by decide) ?_
            refine r_drop 2 (L' := [some (.ref 72), some (.ref 11), none, some (.int v5.2)]) rfl ?_
            obtain rfl := Option.some.inj hq13
            exact Jq12
      · have hz := e_f hc hz
        refine r_drop 0 (L' := [none, some (.ref 11), some (.int (e_b v5.1)), some (.int v5.2)]) rfl ?_
        refine r_drop 1 (L' := [none, none, some (.int (e_b v5.1)), some (.int v5.2)]) rfl ?_
        refine r_drop 3 (L' := [none, none, some (.int (e_b v5.1)), none]) rfl ?_
        obtain rfl := Option.some.inj hz
        exact hx v5.1 rfl
    · show eRun G X 83 [none, none, some (.int (e_b x6)), none] [] h [] nx 0 0
      refine r_iload_n F dX12_isWord_83 rfl ?_
      obtain rfl := Option.some.inj hf
      exact r_zret F hq (v := x6) dX12_isWord_84 rfl rfl (Nat.le_refl _) (Nat.le_refl _) ⟨rfl, rfl⟩
  refine r_icmp_ne F dX12_isWord_5 (tgt := 36) (by decide) (fun hc => ?_) (fun hc => ?_)
  · have hq2 := e_f hc hq2
    refine r_iconst F dX12_isWord_36 (v := 0) (by decide) ?_
    obtain rfl := Option.some.inj hq2
    exact Jq1
  · have hq2 := e_t hc hq2
    refine r_aload_n F dX12_isWord_8 rfl ?_
    refine r_get F dX12_isWord_9 flX12_111 h72 rfl (e_le rfl) (e_lt hnx rfl) ?_
    refine r_iconst F dX12_isWord_12 (v := 1) (by decide) ?_
    refine r_icmp_ne F dX12_isWord_13 (tgt := 36) (by decide) (fun hc => ?_) (fun hc => ?_)
    · have hq2 := e_f hc hq2
      refine r_iconst F dX12_isWord_36 (v := 0) (by decide) ?_
      obtain rfl := Option.some.inj hq2
      exact Jq1
    · have hq2 := e_t hc hq2
      refine r_aload_n F dX12_isWord_16 rfl ?_
      refine r_get F dX12_isWord_17 flX12_101 h72 rfl (e_le rfl) (e_lt hnx rfl) ?_
      refine r_aload_n F dX12_isWord_20 rfl ?_
      refine r_get F dX12_isWord_21 flX12_108 h72 rfl (e_le rfl) (e_lt hnx rfl) ?_
      refine r_isub F dX12_isWord_24 ?_
      refine r_aload_n F dX12_isWord_25 rfl ?_
      obtain ⟨q14, hq15, hq2⟩ := e_bd hq2
      refine r_callT F dX12_isWord_26 (i := 3) (dc := 0) (ds := 0) (As := []) (S0 := [.int (a72_3 - a72_4)]) lkX12_137 mJ0_length_8abf5 (tJ0_length_8abf5_11 hG (la := x_l X) (h := e_up h []) hnx  hq15) rfl rfl rfl (e_le rfl) (e_le rfl) (e_le rfl) rfl (by decide) (Nat.zero_le _) (Nat.zero_le _) (e_k ?_)
      refine r_wr0 ?_
      refine r_icmp_ne F dX12_isWord_29 (tgt := 36) (by decide) (fun hc => ?_) (fun hc => ?_)
      · have hq2 := e_f hc hq2
        refine r_iconst F dX12_isWord_36 (v := 0) (by decide) ?_
        obtain rfl := Option.some.inj hq2
        exact Jq1
      · have hq2 := e_t hc hq2
        refine r_iconst F dX12_isWord_32 (v := 1) (by decide) ?_
        refine r_goto F dX12_isWord_33 (tgt := 37) (by decide) ?_
        obtain rfl := Option.some.inj hq2
        exact Jq1

def fX12_isWord_s12 (a72_3 : Int32) (a72_4 : Int32) (a72_5 : Int32) (a72_6 : Int32) (A73 : Nat → Int32)  : Option (Bool) :=
  Option.bind (α := Bool) (
    if a72_5 = (-1) then
      if a72_6 = 1 then
        (fJ0_length_8abf5_s12 ).bind (fun q14 =>
        if (a72_3 - a72_4) = q14 then
          some true
        else
          some false)
      else
        some false
    else
      some false) (fun q1 =>
  (e_loop (fun (v5 : Bool × Int32) => (
      if v5.1 = true then
        (fJ0_length_8abf5_s12 ).bind (fun q8 =>
        if q8 ≤ v5.2 then
          some (.inr v5.1)
        else
          e_g (e_in (a72_4 + v5.2) 300) (
          (fJ0_charAt_5068e_s12 v5.2).bind (fun q10 =>
          Option.bind (α := Bool) (
            if (A73 (tn (a72_4 + v5.2))) = q10 then
              some true
            else
              some false) (fun q12 =>
          some (.inl (q12, v5.2 + 1))))))
      else
        some (.inr v5.1) : Option ((Bool × Int32) ⊕ (Bool)))) e_fuel (q1, 0)).bind (fun x6 =>
  some x6))
set_option maxRecDepth 100000 in
theorem tX12_isWord_72_12 {G : eG} (hG : e_GS G) {la : Launch} {h : Nat → eO} {nx : Nat} (hnx : 99 ≤ nx) {a72_0 : Int32} {a72_2 : Int32} {a72_3 : Int32} {a72_4 : Int32} {a72_5 : Int32} {a72_6 : Int32} {a72_7 : Int32} {a72_8 : Bool} {a72_9 : Int32} {a72_10 : Int32} {a72_11 : Int32} {a72_17 : Bool} {a72_18 : Bool} {a72_19 : Bool} {a72_21 : Int32} {a72_22 : Int32} {a72_29 : Int32} {a72_31 : Int32} {a72_35 : Int32} {a72_37 : Bool} {a72_38 : Int32} {a72_39 : Int32} {a72_40 : Int32} {a72_41 : Int64} {a72_44 : Int32} {a72_50 : Bool} {A73 : Nat → Int32}  (h72 : h 72 = o72 a72_0 a72_2 a72_3 a72_4 a72_5 a72_6 a72_7 a72_8 a72_9 a72_10 a72_11 a72_17 a72_18 a72_19 a72_21 a72_22 a72_29 a72_31 a72_35 a72_37 a72_38 a72_39 a72_40 a72_41 a72_44 a72_50) (h73 : h 73 = o73 A73) {R9 : Bool} (hf : fX12_isWord_s12 a72_3 a72_4 a72_5 a72_6 A73  = some R9) :
    eSem G la MX12_isWord [.ref 72, .ref 12] h nx 0 0 (fun r9 h9 => r9 = some (.int (e_b R9)) ∧ h9 = h) := by
  refine eSem.of (k := 2) (L := [some (.ref 72), some (.ref 12), none, none]) (by decide +kernel) rfl rfl (fun X F hxl hq hcR hsR => ?_)
  subst hxl
  unfold fX12_isWord_s12 at hf
  refine r_aload_n F dX12_isWord_0 rfl ?_
  refine r_get F dX12_isWord_1 flX12_134 h72 rfl (e_le rfl) (e_lt hnx rfl) ?_
  refine r_iconst F dX12_isWord_4 (v := (-1)) (by decide) ?_
  obtain ⟨q1, hq2, hf⟩ := e_bd hf
  have Jq1 : eRun G X 37 [some (.ref 72), some (.ref 12), none, none] [.int (e_b q1)] h [] nx 0 0 := by
    refine r_istore_n F dX12_isWord_37 (e_le rfl) (L' := [some (.ref 72), some (.ref 12), some (.int (e_b q1)), none]) rfl ?_
    refine r_iconst F dX12_isWord_38 (v := 0) (by decide) ?_
    refine r_istore_n F dX12_isWord_39 (e_le rfl) (L' := [some (.ref 72), some (.ref 12), some (.int (e_b q1)), some (.int 0)]) rfl ?_
    obtain ⟨x6, hx7, hf⟩ := e_bd hf
    refine (e_loop_ok (P := fun (v5 : Bool × Int32) => eRun G X 40 [some (.ref 72), some (.ref 12), some (.int (e_b v5.1)), some (.int v5.2)] [] h [] nx 0 0) (K := fun (x6 : Bool) => eRun G X 83 [none, none, some (.int (e_b x6)), none] [] h [] nx 0 0) ?_ e_fuel (q1, 0) x6 hx7 ?_ : _)
    · intro v5 z hz ih hx
      refine r_iload_n F dX12_isWord_40 rfl ?_
      refine r_z_eq F dX12_isWord_41 (tgt := 83) (by decide) (fun hc => ?_) (fun hc => ?_)
      · have hz := e_t hc hz
        refine r_iload_n F dX12_isWord_44 rfl ?_
        refine r_aload_n F dX12_isWord_45 rfl ?_
        obtain ⟨q8, hq9, hz⟩ := e_bd hz
        refine r_callT F dX12_isWord_46 (i := 4) (dc := 0) (ds := 0) (As := []) (S0 := [.int v5.2]) lkX12_137 mJ0_length_8abf5 (tJ0_length_8abf5_12 hG (la := x_l X) (h := e_up h []) hnx  hq9) rfl rfl rfl (e_le rfl) (e_le rfl) (e_le rfl) rfl (by decide) (Nat.zero_le _) (Nat.zero_le _) (e_k ?_)
        refine r_wr0 ?_
        refine r_icmp_ge F dX12_isWord_49 (tgt := 83) (by decide) (fun hc => ?_) (fun hc => ?_)
        · have hz := e_t hc hz
          refine r_drop 0 (L' := [none, some (.ref 12), some (.int (e_b v5.1)), some (.int v5.2)]) rfl ?_
          refine r_drop 1 (L' := [none, none, some (.int (e_b v5.1)), some (.int v5.2)]) rfl ?_
          refine r_drop 3 (L' := [none, none, some (.int (e_b v5.1)), none]) rfl ?_
          obtain rfl := Option.some.inj hz
          exact hx v5.1 rfl
        · have hz := e_f hc hz
          refine r_aload_n F dX12_isWord_52 rfl ?_
          refine r_get F dX12_isWord_53 flX12_9 h72 rfl (e_le rfl) (e_lt hnx rfl) ?_
          refine r_aload_n F dX12_isWord_56 rfl ?_
          refine r_get F dX12_isWord_57 flX12_108 h72 rfl (e_le rfl) (e_lt hnx rfl) ?_
          refine r_iload_n F dX12_isWord_60 rfl ?_
          refine r_iadd F dX12_isWord_61 ?_
          obtain ⟨hg, hz⟩ := e_gd hz
          refine r_iald F dX12_isWord_62 (i := (a72_4 + v5.2)) h73 (e_le rfl) (e_lt hnx rfl) (e_vp hg) ?_
          refine r_aload_n F dX12_isWord_63 rfl ?_
          refine r_iload_n F dX12_isWord_64 rfl ?_
          obtain ⟨q10, hq11, hz⟩ := e_bd hz
          refine r_callT F dX12_isWord_65 (i := 4) (dc := 0) (ds := 0) (As := [.int v5.2]) (S0 := [.int (A73 (tn (a72_4 + v5.2)))]) lkX12_143 mJ0_charAt_5068e (tJ0_charAt_5068e_12 hG (la := x_l X) (h := e_up h []) hnx  hq11) rfl rfl rfl (e_le rfl) (e_le rfl) (e_le rfl) rfl (by decide) (Nat.zero_le _) (Nat.zero_le _) (e_k ?_)
          refine r_wr0 ?_
          obtain ⟨q12, hq13, hz⟩ := e_bd hz
          have Jq12 : eRun G X 76 [some (.ref 72), some (.ref 12), none, some (.int v5.2)] [.int (e_b q12)] h [] nx 0 0 := by
            refine r_istore_n F dX12_isWord_76 (e_le rfl) (L' := [some (.ref 72), some (.ref 12), some (.int (e_b q12)), some (.int v5.2)]) rfl ?_
            refine r_inc F dX12_isWord_77 (k9 := 1) (by decide) rfl (L' := [some (.ref 72), some (.ref 12), some (.int (e_b q12)), some (.int (v5.2 + 1))]) rfl ?_
            refine r_goto F dX12_isWord_80 (tgt := 40) (by decide) ?_
            obtain rfl := Option.some.inj hz
            exact ih (q12, v5.2 + 1) rfl
          refine r_icmp_ne F dX12_isWord_68 (tgt := 75) (by decide) (fun hc => ?_) (fun hc => ?_)
          · have hq13 := e_f hc hq13
            refine r_iconst F dX12_isWord_75 (v := 0) (by decide) ?_
            refine r_drop 2 (L' := [some (.ref 72), some (.ref 12), none, some (.int v5.2)]) rfl ?_
            obtain rfl := Option.some.inj hq13
            exact Jq12
          · have hq13 := e_t hc hq13
            refine r_iconst F dX12_isWord_71 (v := 1) (by decide) ?_
            refine r_goto F dX12_isWord_72 (tgt := 76) (by decide) ?_
            refine r_drop 2 (L' := [some (.ref 72), some (.ref 12), none, some (.int v5.2)]) rfl ?_
            obtain rfl := Option.some.inj hq13
            exact Jq12
      · have hz := e_f hc hz
        refine r_drop 0 (L' := [none, some (.ref 12), some (.int (e_b v5.1)), some (.int v5.2)]) rfl ?_
        refine r_drop 1 (L' := [none, none, some (.int (e_b v5.1)), some (.int v5.2)]) rfl ?_
        refine r_drop 3 (L' := [none, none, some (.int (e_b v5.1)), none]) rfl ?_
        obtain rfl := Option.some.inj hz
        exact hx v5.1 rfl
    · show eRun G X 83 [none, none, some (.int (e_b x6)), none] [] h [] nx 0 0
      refine r_iload_n F dX12_isWord_83 rfl ?_
      obtain rfl := Option.some.inj hf
      exact r_zret F hq (v := x6) dX12_isWord_84 rfl rfl (Nat.le_refl _) (Nat.le_refl _) ⟨rfl, rfl⟩
  refine r_icmp_ne F dX12_isWord_5 (tgt := 36) (by decide) (fun hc => ?_) (fun hc => ?_)
  · have hq2 := e_f hc hq2
    refine r_iconst F dX12_isWord_36 (v := 0) (by decide) ?_
    obtain rfl := Option.some.inj hq2
    exact Jq1
  · have hq2 := e_t hc hq2
    refine r_aload_n F dX12_isWord_8 rfl ?_
    refine r_get F dX12_isWord_9 flX12_111 h72 rfl (e_le rfl) (e_lt hnx rfl) ?_
    refine r_iconst F dX12_isWord_12 (v := 1) (by decide) ?_
    refine r_icmp_ne F dX12_isWord_13 (tgt := 36) (by decide) (fun hc => ?_) (fun hc => ?_)
    · have hq2 := e_f hc hq2
      refine r_iconst F dX12_isWord_36 (v := 0) (by decide) ?_
      obtain rfl := Option.some.inj hq2
      exact Jq1
    · have hq2 := e_t hc hq2
      refine r_aload_n F dX12_isWord_16 rfl ?_
      refine r_get F dX12_isWord_17 flX12_101 h72 rfl (e_le rfl) (e_lt hnx rfl) ?_
      refine r_aload_n F dX12_isWord_20 rfl ?_
      refine r_get F dX12_isWord_21 flX12_108 h72 rfl (e_le rfl) (e_lt hnx rfl) ?_
      refine r_isub F dX12_isWord_24 ?_
      refine r_aload_n F dX12_isWord_25 rfl ?_
      obtain ⟨q14, hq15, hq2⟩ := e_bd hq2
      refine r_callT F dX12_isWord_26 (i := 4) (dc := 0) (ds := 0) (As := []) (S0 := [.int (a72_3 - a72_4)]) lkX12_137 mJ0_length_8abf5 (tJ0_length_8abf5_12 hG (la := x_l X) (h := e_up h []) hnx  hq15) rfl rfl rfl (e_le rfl) (e_le rfl) (e_le rfl) rfl (by decide) (Nat.zero_le _) (Nat.zero_le _) (e_k ?_)
      refine r_wr0 ?_
      refine r_icmp_ne F dX12_isWord_29 (tgt := 36) (by decide) (fun hc => ?_) (fun hc => ?_)
      · have hq2 := e_f hc hq2
        refine r_iconst F dX12_isWord_36 (v := 0) (by decide) ?_
        obtain rfl := Option.some.inj hq2
        exact Jq1
      · have hq2 := e_t hc hq2
        refine r_iconst F dX12_isWord_32 (v := 1) (by decide) ?_
        refine r_goto F dX12_isWord_33 (tgt := 37) (by decide) ?_
        obtain rfl := Option.some.inj hq2
        exact Jq1

def fX12_isFaceRead (a72_11 : Int32) (A74 : Nat → Int32) (A75 : Nat → Int32) (p0 : Int32) (p1 : Int32) : Option (Bool) :=
  (e_loop (fun (v3 : Bool × Int32) => (
      if a72_11 ≤ v3.2 then
        some (.inr v3.1)
      else
        Option.bind (α := Bool) (
          if v3.1 = true then
            some true
          else
            e_g (e_in v3.2 10) (
            if (A74 (tn v3.2)) = p0 then
              e_g (e_in v3.2 10) (
              if (A75 (tn v3.2)) = p1 then
                some true
              else
                some false)
            else
              some false)) (fun q6 =>
        some (.inl (q6, v3.2 + 1))) : Option ((Bool × Int32) ⊕ (Bool)))) e_fuel (false, 0)).bind (fun x4 =>
  some x4)
set_option maxRecDepth 100000 in
theorem tX12_isFaceRead_72 {G : eG} (hG : e_GS G) {la : Launch} {h : Nat → eO} {nx : Nat} (hnx : 99 ≤ nx) {a72_0 : Int32} {a72_2 : Int32} {a72_3 : Int32} {a72_4 : Int32} {a72_5 : Int32} {a72_6 : Int32} {a72_7 : Int32} {a72_8 : Bool} {a72_9 : Int32} {a72_10 : Int32} {a72_11 : Int32} {a72_17 : Bool} {a72_18 : Bool} {a72_19 : Bool} {a72_21 : Int32} {a72_22 : Int32} {a72_29 : Int32} {a72_31 : Int32} {a72_35 : Int32} {a72_37 : Bool} {a72_38 : Int32} {a72_39 : Int32} {a72_40 : Int32} {a72_41 : Int64} {a72_44 : Int32} {a72_50 : Bool} {A74 : Nat → Int32} {A75 : Nat → Int32} {p0 : Int32} {p1 : Int32} (h72 : h 72 = o72 a72_0 a72_2 a72_3 a72_4 a72_5 a72_6 a72_7 a72_8 a72_9 a72_10 a72_11 a72_17 a72_18 a72_19 a72_21 a72_22 a72_29 a72_31 a72_35 a72_37 a72_38 a72_39 a72_40 a72_41 a72_44 a72_50) (h74 : h 74 = o74 A74) (h75 : h 75 = o75 A75) {R9 : Bool} (hf : fX12_isFaceRead a72_11 A74 A75 p0 p1 = some R9) :
    eSem G la MX12_isFaceRead [.ref 72, .int p0, .int p1] h nx 0 0 (fun r9 h9 => r9 = some (.int (e_b R9)) ∧ h9 = h) := by
  refine eSem.of (k := 2) (L := [some (.ref 72), some (.int p0), some (.int p1), none, none]) (by decide +kernel) rfl rfl (fun X F hxl hq hcR hsR => ?_)
  subst hxl
  unfold fX12_isFaceRead at hf
  refine r_iconst F dX12_isFaceRead_0 (v := 0) (by decide) ?_
  refine r_istore_n F dX12_isFaceRead_1 (e_le rfl) (L' := [some (.ref 72), some (.int p0), some (.int p1), some (.int 0), none]) rfl ?_
  refine r_iconst F dX12_isFaceRead_2 (v := 0) (by decide) ?_
  refine r_istore F dX12_isFaceRead_3 (e_le rfl) (L' := [some (.ref 72), some (.int p0), some (.int p1), some (.int 0), some (.int 0)]) rfl ?_
  obtain ⟨x4, hx5, hf⟩ := e_bd hf
  refine (e_loop_ok (P := fun (v3 : Bool × Int32) => eRun G X 5 [some (.ref 72), some (.int p0), some (.int p1), some (.int (e_b v3.1)), some (.int v3.2)] [] h [] nx 0 0) (K := fun (x4 : Bool) => eRun G X 52 [none, none, none, some (.int (e_b x4)), none] [] h [] nx 0 0) ?_ e_fuel (false, 0) x4 hx5 ?_ : _)
  · intro v3 z hz ih hx
    refine r_iload F dX12_isFaceRead_5 rfl ?_
    refine r_aload_n F dX12_isFaceRead_7 rfl ?_
    refine r_get F dX12_isFaceRead_8 flX12_153 h72 rfl (e_le rfl) (e_lt hnx rfl) ?_
    refine r_icmp_ge F dX12_isFaceRead_11 (tgt := 52) (by decide) (fun hc => ?_) (fun hc => ?_)
    · have hz := e_t hc hz
      refine r_drop 0 (L' := [none, some (.int p0), some (.int p1), some (.int (e_b v3.1)), some (.int v3.2)]) rfl ?_
      refine r_drop 1 (L' := [none, none, some (.int p1), some (.int (e_b v3.1)), some (.int v3.2)]) rfl ?_
      refine r_drop 2 (L' := [none, none, none, some (.int (e_b v3.1)), some (.int v3.2)]) rfl ?_
      refine r_drop 4 (L' := [none, none, none, some (.int (e_b v3.1)), none]) rfl ?_
      obtain rfl := Option.some.inj hz
      exact hx v3.1 rfl
    · have hz := e_f hc hz
      refine r_iload_n F dX12_isFaceRead_14 rfl ?_
      obtain ⟨q6, hq7, hz⟩ := e_bd hz
      have Jq6 : eRun G X 45 [some (.ref 72), some (.int p0), some (.int p1), none, some (.int v3.2)] [.int (e_b q6)] h [] nx 0 0 := by
        refine r_istore_n F dX12_isFaceRead_45 (e_le rfl) (L' := [some (.ref 72), some (.int p0), some (.int p1), some (.int (e_b q6)), some (.int v3.2)]) rfl ?_
        refine r_inc F dX12_isFaceRead_46 (k9 := 1) (by decide) rfl (L' := [some (.ref 72), some (.int p0), some (.int p1), some (.int (e_b q6)), some (.int (v3.2 + 1))]) rfl ?_
        refine r_goto F dX12_isFaceRead_49 (tgt := 5) (by decide) ?_
        obtain rfl := Option.some.inj hz
        exact ih (q6, v3.2 + 1) rfl
      refine r_z_ne F dX12_isFaceRead_15 (tgt := 40) (by decide) (fun hc => ?_) (fun hc => ?_)
      · have hq7 := e_t hc hq7
        refine r_iconst F dX12_isFaceRead_40 (v := 1) (by decide) ?_
        refine r_goto F dX12_isFaceRead_41 (tgt := 45) (by decide) ?_
        refine r_drop 3 (L' := [some (.ref 72), some (.int p0), some (.int p1), none, some (.int v3.2)]) rfl ?_
        obtain rfl := Option.some.inj hq7
        exact Jq6
      · have hq7 := e_f hc hq7
        refine r_aload_n F dX12_isFaceRead_18 rfl ?_
        refine r_get F dX12_isFaceRead_19 flX12_13 h72 rfl (e_le rfl) (e_lt hnx rfl) ?_
        refine r_iload F dX12_isFaceRead_22 rfl ?_
        obtain ⟨hg, hq7⟩ := e_gd hq7
        refine r_iald F dX12_isFaceRead_24 (i := v3.2) h74 (e_le rfl) (e_lt hnx rfl) (e_vp hg) ?_
        refine r_iload_n F dX12_isFaceRead_25 rfl ?_
        refine r_icmp_ne F dX12_isFaceRead_26 (tgt := 44) (by decide) (fun hc => ?_) (fun hc => ?_)
        · have hq7 := e_f hc hq7
          refine r_iconst F dX12_isFaceRead_44 (v := 0) (by decide) ?_
          refine r_drop 3 (L' := [some (.ref 72), some (.int p0), some (.int p1), none, some (.int v3.2)]) rfl ?_
          obtain rfl := Option.some.inj hq7
          exact Jq6
        · have hq7 := e_t hc hq7
          refine r_aload_n F dX12_isFaceRead_29 rfl ?_
          refine r_get F dX12_isFaceRead_30 flX12_16 h72 rfl (e_le rfl) (e_lt hnx rfl) ?_
          refine r_iload F dX12_isFaceRead_33 rfl ?_
          obtain ⟨hg, hq7⟩ := e_gd hq7
          refine r_iald F dX12_isFaceRead_35 (i := v3.2) h75 (e_le rfl) (e_lt hnx rfl) (e_vp hg) ?_
          refine r_iload_n F dX12_isFaceRead_36 rfl ?_
          refine r_icmp_ne F dX12_isFaceRead_37 (tgt := 44) (by decide) (fun hc => ?_) (fun hc => ?_)
          · have hq7 := e_f hc hq7
            refine r_iconst F dX12_isFaceRead_44 (v := 0) (by decide) ?_
            refine r_drop 3 (L' := [some (.ref 72), some (.int p0), some (.int p1), none, some (.int v3.2)]) rfl ?_
            obtain rfl := Option.some.inj hq7
            exact Jq6
          · have hq7 := e_t hc hq7
            refine r_iconst F dX12_isFaceRead_40 (v := 1) (by decide) ?_
            refine r_goto F dX12_isFaceRead_41 (tgt := 45) (by decide) ?_
            refine r_drop 3 (L' := [some (.ref 72), some (.int p0), some (.int p1), none, some (.int v3.2)]) rfl ?_
            obtain rfl := Option.some.inj hq7
            exact Jq6
  · show eRun G X 52 [none, none, none, some (.int (e_b x4)), none] [] h [] nx 0 0
    refine r_iload_n F dX12_isFaceRead_52 rfl ?_
    obtain rfl := Option.some.inj hf
    exact r_zret F hq (v := x4) dX12_isFaceRead_53 rfl rfl (Nat.le_refl _) (Nat.le_refl _) ⟨rfl, rfl⟩

def fX12_readsCore (a72_2 : Int32) (a72_3 : Int32) (a72_4 : Int32) (a72_5 : Int32) (a72_6 : Int32) (a72_7 : Int32) (a72_9 : Int32) (a72_10 : Int32) (a72_11 : Int32) (A73 : Nat → Int32) (A74 : Nat → Int32) (A75 : Nat → Int32) (A76 : Nat → Int32) (A77 : Nat → Int32)  : Option (Int32 × Int32 × Int32 × Int32 × Int32 × Int32 × (Nat → Int32) × (Nat → Int32) × (Nat → Int32) × (Nat → Int32)) :=
  (fX12_next a72_2 a72_3 a72_4 a72_6 a72_7 A73).bind (fun q1 =>
  (fX12_takesNumber a72_2 q1.1 q1.2.1 a72_5 q1.2.2.1 q1.2.2.2 A73 0 (a72_9 - 2)).bind (fun q3 =>
  Option.bind (α := Int32) (
    if q3.2.2.2.1 = (-1) then
      if q3.2.2.2.2.1 = 2 then
        (fX12_isFaceRead a72_11 A74 A75 q3.1 q3.2.2.2.2.2).bind (fun q17 =>
        if q17 = true then
          (fX12_bad q3.2.2.1 q3.2.2.2.1).bind (fun q19 =>
          some q19)
        else
          some q3.2.2.2.1)
      else
        some q3.2.2.2.1
    else
      some q3.2.2.2.1) (fun q5 =>
  (fX12_takesNumber a72_2 q3.2.1 q3.2.2.1 q5 q3.2.2.2.2.1 q3.2.2.2.2.2 A73 0 (a72_10 - 2)).bind (fun q7 =>
  (fX12_takesNumber a72_2 q7.2.1 q7.2.2.1 q7.2.2.2.1 q7.2.2.2.2.1 q7.2.2.2.2.2 A73 (-2) 2).bind (fun q9 =>
  Option.bind (α := Int32) (
    if q9.2.2.2.1 = (-1) then
      if q9.2.2.2.2.1 = 2 then
        if q9.1 = 0 then
          if q9.2.2.2.2.2 = 0 then
            (fX12_bad q9.2.2.1 q9.2.2.2.1).bind (fun q15 =>
            some q15)
          else
            some q9.2.2.2.1
        else
          some q9.2.2.2.1
      else
        some q9.2.2.2.1
    else
      some q9.2.2.2.1) (fun q11 =>
  (fX12_takesNumber a72_2 q9.2.1 q9.2.2.1 q11 q9.2.2.2.2.1 q9.2.2.2.2.2 A73 (-2) 2).bind (fun q13 =>
  if q13.2.2.2.1 = (-1) then
    e_g (e_in a72_11 10) (
    e_g (e_in a72_11 10) (
    e_g (e_in a72_11 10) (
    e_g (e_in a72_11 10) (
    some (q13.2.1, q13.2.2.1, q13.2.2.2.1, q13.2.2.2.2.1, q13.2.2.2.2.2, a72_11 + 1, upd A74 (tn a72_11) q3.1, upd A75 (tn a72_11) q7.1, upd A76 (tn a72_11) q9.1, upd A77 (tn a72_11) q13.1)))))
  else
    some (q13.2.1, q13.2.2.1, q13.2.2.2.1, q13.2.2.2.2.1, q13.2.2.2.2.2, a72_11, A74, A75, A76, A77))))))))
set_option maxRecDepth 100000 in
theorem tX12_readsCore_72 {G : eG} (hG : e_GS G) {la : Launch} {h : Nat → eO} {nx : Nat} (hnx : 99 ≤ nx) {a72_0 : Int32} {a72_2 : Int32} {a72_3 : Int32} {a72_4 : Int32} {a72_5 : Int32} {a72_6 : Int32} {a72_7 : Int32} {a72_8 : Bool} {a72_9 : Int32} {a72_10 : Int32} {a72_11 : Int32} {a72_17 : Bool} {a72_18 : Bool} {a72_19 : Bool} {a72_21 : Int32} {a72_22 : Int32} {a72_29 : Int32} {a72_31 : Int32} {a72_35 : Int32} {a72_37 : Bool} {a72_38 : Int32} {a72_39 : Int32} {a72_40 : Int32} {a72_41 : Int64} {a72_44 : Int32} {a72_50 : Bool} {A73 : Nat → Int32} {A74 : Nat → Int32} {A75 : Nat → Int32} {A76 : Nat → Int32} {A77 : Nat → Int32}  (h72 : h 72 = o72 a72_0 a72_2 a72_3 a72_4 a72_5 a72_6 a72_7 a72_8 a72_9 a72_10 a72_11 a72_17 a72_18 a72_19 a72_21 a72_22 a72_29 a72_31 a72_35 a72_37 a72_38 a72_39 a72_40 a72_41 a72_44 a72_50) (h73 : h 73 = o73 A73) (h74 : h 74 = o74 A74) (h75 : h 75 = o75 A75) (h76 : h 76 = o76 A76) (h77 : h 77 = o77 A77) {R9 : Int32 × Int32 × Int32 × Int32 × Int32 × Int32 × (Nat → Int32) × (Nat → Int32) × (Nat → Int32) × (Nat → Int32)} (hf : fX12_readsCore a72_2 a72_3 a72_4 a72_5 a72_6 a72_7 a72_9 a72_10 a72_11 A73 A74 A75 A76 A77  = some R9) :
    eSem G la MX12_readsCore [.ref 72] h nx 0 0 (fun r9 h9 => r9 = none ∧ h9 = e_up h [(72, o72 a72_0 a72_2 R9.1 R9.2.1 R9.2.2.1 R9.2.2.2.1 R9.2.2.2.2.1 a72_8 a72_9 a72_10 R9.2.2.2.2.2.1 a72_17 a72_18 a72_19 a72_21 a72_22 a72_29 a72_31 a72_35 a72_37 a72_38 a72_39 a72_40 a72_41 a72_44 a72_50), (74, o74 R9.2.2.2.2.2.2.1), (75, o75 R9.2.2.2.2.2.2.2.1), (76, o76 R9.2.2.2.2.2.2.2.2.1), (77, o77 R9.2.2.2.2.2.2.2.2.2)]) := by
  refine eSem.of (k := 4) (L := [some (.ref 72), none, none, none, none]) (by decide +kernel) rfl rfl (fun X F hxl hq hcR hsR => ?_)
  subst hxl
  unfold fX12_readsCore at hf
  refine r_aload_n F dX12_readsCore_0 rfl ?_
  obtain ⟨q1, hq2, hf⟩ := e_bd hf
  refine r_callV F dX12_readsCore_1 (b := 72) (dc := 0) (ds := 0) (As := []) (S0 := []) lkX12_147 mX12_next (tX12_next_72 hG (la := x_l X) (h := e_up h []) hnx h72 h73 hq2) rfl rfl rfl (e_le rfl) (e_le rfl) (e_le rfl) h72 (ci := 12) e_cl12.1 rfl (e_le rfl) (e_lt hnx rfl) (Nat.zero_le _) (Nat.zero_le _) (e_k ?_)
  refine r_wr (l' := [(72, o72 a72_0 a72_2 q1.1 q1.2.1 a72_5 q1.2.2.1 q1.2.2.2 a72_8 a72_9 a72_10 a72_11 a72_17 a72_18 a72_19 a72_21 a72_22 a72_29 a72_31 a72_35 a72_37 a72_38 a72_39 a72_40 a72_41 a72_44 a72_50)]) rfl rfl ?_
  refine r_aload_n F dX12_readsCore_4 rfl ?_
  refine r_iconst F dX12_readsCore_5 (v := 0) (by decide) ?_
  refine r_aload_n F dX12_readsCore_6 rfl ?_
  refine r_get F dX12_readsCore_7 flX12_156 rfl rfl (e_le rfl) (e_lt hnx rfl) ?_
  refine r_iconst F dX12_readsCore_10 (v := 2) (by decide) ?_
  refine r_isub F dX12_readsCore_11 ?_
  obtain ⟨q3, hq4, hf⟩ := e_bd hf
  refine r_callV F dX12_readsCore_12 (b := 72) (dc := 0) (ds := 0) (As := [.int 0, .int (a72_9 - 2)]) (S0 := []) lkX12_159 mX12_takesNumber (tX12_takesNumber_72 hG (la := x_l X) (h := e_up h [(72, o72 a72_0 a72_2 q1.1 q1.2.1 a72_5 q1.2.2.1 q1.2.2.2 a72_8 a72_9 a72_10 a72_11 a72_17 a72_18 a72_19 a72_21 a72_22 a72_29 a72_31 a72_35 a72_37 a72_38 a72_39 a72_40 a72_41 a72_44 a72_50)]) hnx rfl h73 hq4) rfl rfl rfl (e_le rfl) (e_le rfl) (e_le rfl) rfl (ci := 12) e_cl12.1 rfl (e_le rfl) (e_lt hnx rfl) (Nat.zero_le _) (Nat.zero_le _) (e_k ?_)
  refine r_wr (l' := [(72, o72 a72_0 a72_2 q3.2.1 q3.2.2.1 q3.2.2.2.1 q3.2.2.2.2.1 q3.2.2.2.2.2 a72_8 a72_9 a72_10 a72_11 a72_17 a72_18 a72_19 a72_21 a72_22 a72_29 a72_31 a72_35 a72_37 a72_38 a72_39 a72_40 a72_41 a72_44 a72_50)]) rfl rfl ?_
  refine r_istore_n F dX12_readsCore_15 (e_le rfl) (L' := [some (.ref 72), some (.int q3.1), none, none, none]) rfl ?_
  refine r_aload_n F dX12_readsCore_16 rfl ?_
  refine r_get F dX12_readsCore_17 flX12_134 rfl rfl (e_le rfl) (e_lt hnx rfl) ?_
  refine r_iconst F dX12_readsCore_20 (v := (-1)) (by decide) ?_
  obtain ⟨q5, hq6, hf⟩ := e_bd hf
  have Jq5 : eRun G X 48 [some (.ref 72), some (.int q3.1), none, none, none] [] h [(72, o72 a72_0 a72_2 q3.2.1 q3.2.2.1 q5 q3.2.2.2.2.1 q3.2.2.2.2.2 a72_8 a72_9 a72_10 a72_11 a72_17 a72_18 a72_19 a72_21 a72_22 a72_29 a72_31 a72_35 a72_37 a72_38 a72_39 a72_40 a72_41 a72_44 a72_50)] nx 0 0 := by
    refine r_aload_n F dX12_readsCore_48 rfl ?_
    refine r_iconst F dX12_readsCore_49 (v := 0) (by decide) ?_
    refine r_aload_n F dX12_readsCore_50 rfl ?_
    refine r_get F dX12_readsCore_51 flX12_166 rfl rfl (e_le rfl) (e_lt hnx rfl) ?_
    refine r_iconst F dX12_readsCore_54 (v := 2) (by decide) ?_
    refine r_isub F dX12_readsCore_55 ?_
    obtain ⟨q7, hq8, hf⟩ := e_bd hf
    refine r_callV F dX12_readsCore_56 (b := 72) (dc := 0) (ds := 0) (As := [.int 0, .int (a72_10 - 2)]) (S0 := []) lkX12_159 mX12_takesNumber (tX12_takesNumber_72 hG (la := x_l X) (h := e_up h [(72, o72 a72_0 a72_2 q3.2.1 q3.2.2.1 q5 q3.2.2.2.2.1 q3.2.2.2.2.2 a72_8 a72_9 a72_10 a72_11 a72_17 a72_18 a72_19 a72_21 a72_22 a72_29 a72_31 a72_35 a72_37 a72_38 a72_39 a72_40 a72_41 a72_44 a72_50)]) hnx rfl h73 hq8) rfl rfl rfl (e_le rfl) (e_le rfl) (e_le rfl) rfl (ci := 12) e_cl12.1 rfl (e_le rfl) (e_lt hnx rfl) (Nat.zero_le _) (Nat.zero_le _) (e_k ?_)
    refine r_wr (l' := [(72, o72 a72_0 a72_2 q7.2.1 q7.2.2.1 q7.2.2.2.1 q7.2.2.2.2.1 q7.2.2.2.2.2 a72_8 a72_9 a72_10 a72_11 a72_17 a72_18 a72_19 a72_21 a72_22 a72_29 a72_31 a72_35 a72_37 a72_38 a72_39 a72_40 a72_41 a72_44 a72_50)]) rfl rfl ?_
    refine r_istore_n F dX12_readsCore_59 (e_le rfl) (L' := [some (.ref 72), some (.int q3.1), some (.int q7.1), none, none]) rfl ?_
    refine r_aload_n F dX12_readsCore_60 rfl ?_
    refine r_bipush F dX12_readsCore_61 (v := (-2)) (by decide) ?_
    refine r_iconst F dX12_readsCore_63 (v := 2) (by decide) ?_
    obtain ⟨q9, hq10, hf⟩ := e_bd hf
    refine r_callV F dX12_readsCore_64 (b := 72) (dc := 0) (ds := 0) (As := [.int (-2), .int 2]) (S0 := []) lkX12_159 mX12_takesNumber (tX12_takesNumber_72 hG (la := x_l X) (h := e_up h [(72, o72 a72_0 a72_2 q7.2.1 q7.2.2.1 q7.2.2.2.1 q7.2.2.2.2.1 q7.2.2.2.2.2 a72_8 a72_9 a72_10 a72_11 a72_17 a72_18 a72_19 a72_21 a72_22 a72_29 a72_31 a72_35 a72_37 a72_38 a72_39 a72_40 a72_41 a72_44 a72_50)]) hnx rfl h73 hq10) rfl rfl rfl (e_le rfl) (e_le rfl) (e_le rfl) rfl (ci := 12) e_cl12.1 rfl (e_le rfl) (e_lt hnx rfl) (Nat.zero_le _) (Nat.zero_le _) (e_k ?_)
    refine r_wr (l' := [(72, o72 a72_0 a72_2 q9.2.1 q9.2.2.1 q9.2.2.2.1 q9.2.2.2.2.1 q9.2.2.2.2.2 a72_8 a72_9 a72_10 a72_11 a72_17 a72_18 a72_19 a72_21 a72_22 a72_29 a72_31 a72_35 a72_37 a72_38 a72_39 a72_40 a72_41 a72_44 a72_50)]) rfl rfl ?_
    refine r_istore_n F dX12_readsCore_67 (e_le rfl) (L' := [some (.ref 72), some (.int q3.1), some (.int q7.1), some (.int q9.1), none]) rfl ?_
    refine r_aload_n F dX12_readsCore_68 rfl ?_
    refine r_get F dX12_readsCore_69 flX12_134 rfl rfl (e_le rfl) (e_lt hnx rfl) ?_
    refine r_iconst F dX12_readsCore_72 (v := (-1)) (by decide) ?_
    obtain ⟨q11, hq12, hf⟩ := e_bd hf
    have Jq11 : eRun G X 99 [some (.ref 72), some (.int q3.1), some (.int q7.1), some (.int q9.1), none] [] h [(72, o72 a72_0 a72_2 q9.2.1 q9.2.2.1 q11 q9.2.2.2.2.1 q9.2.2.2.2.2 a72_8 a72_9 a72_10 a72_11 a72_17 a72_18 a72_19 a72_21 a72_22 a72_29 a72_31 a72_35 a72_37 a72_38 a72_39 a72_40 a72_41 a72_44 a72_50)] nx 0 0 := by
      refine r_aload_n F dX12_readsCore_99 rfl ?_
      refine r_bipush F dX12_readsCore_100 (v := (-2)) (by decide) ?_
      refine r_iconst F dX12_readsCore_102 (v := 2) (by decide) ?_
      obtain ⟨q13, hq14, hf⟩ := e_bd hf
      refine r_callV F dX12_readsCore_103 (b := 72) (dc := 0) (ds := 0) (As := [.int (-2), .int 2]) (S0 := []) lkX12_159 mX12_takesNumber (tX12_takesNumber_72 hG (la := x_l X) (h := e_up h [(72, o72 a72_0 a72_2 q9.2.1 q9.2.2.1 q11 q9.2.2.2.2.1 q9.2.2.2.2.2 a72_8 a72_9 a72_10 a72_11 a72_17 a72_18 a72_19 a72_21 a72_22 a72_29 a72_31 a72_35 a72_37 a72_38 a72_39 a72_40 a72_41 a72_44 a72_50)]) hnx rfl h73 hq14) rfl rfl rfl (e_le rfl) (e_le rfl) (e_le rfl) rfl (ci := 12) e_cl12.1 rfl (e_le rfl) (e_lt hnx rfl) (Nat.zero_le _) (Nat.zero_le _) (e_k ?_)
      refine r_wr (l' := [(72, o72 a72_0 a72_2 q13.2.1 q13.2.2.1 q13.2.2.2.1 q13.2.2.2.2.1 q13.2.2.2.2.2 a72_8 a72_9 a72_10 a72_11 a72_17 a72_18 a72_19 a72_21 a72_22 a72_29 a72_31 a72_35 a72_37 a72_38 a72_39 a72_40 a72_41 a72_44 a72_50)]) rfl rfl ?_
      refine r_istore F dX12_readsCore_106 (e_le rfl) (L' := [some (.ref 72), some (.int q3.1), some (.int q7.1), some (.int q9.1), some (.int q13.1)]) rfl ?_
      refine r_aload_n F dX12_readsCore_108 rfl ?_
      refine r_get F dX12_readsCore_109 flX12_134 rfl rfl (e_le rfl) (e_lt hnx rfl) ?_
      refine r_iconst F dX12_readsCore_112 (v := (-1)) (by decide) ?_
      refine r_icmp_ne F dX12_readsCore_113 (tgt := 167) (by decide) (fun hc => ?_) (fun hc => ?_)
      · have hf := e_f hc hf
        refine r_mat (k := 74) h74 (l' := [(72, o72 a72_0 a72_2 q13.2.1 q13.2.2.1 q13.2.2.2.1 q13.2.2.2.2.1 q13.2.2.2.2.2 a72_8 a72_9 a72_10 a72_11 a72_17 a72_18 a72_19 a72_21 a72_22 a72_29 a72_31 a72_35 a72_37 a72_38 a72_39 a72_40 a72_41 a72_44 a72_50), (74, o74 A74)]) rfl ?_
        refine r_mat (k := 75) h75 (l' := [(72, o72 a72_0 a72_2 q13.2.1 q13.2.2.1 q13.2.2.2.1 q13.2.2.2.2.1 q13.2.2.2.2.2 a72_8 a72_9 a72_10 a72_11 a72_17 a72_18 a72_19 a72_21 a72_22 a72_29 a72_31 a72_35 a72_37 a72_38 a72_39 a72_40 a72_41 a72_44 a72_50), (74, o74 A74), (75, o75 A75)]) rfl ?_
        refine r_mat (k := 76) h76 (l' := [(72, o72 a72_0 a72_2 q13.2.1 q13.2.2.1 q13.2.2.2.1 q13.2.2.2.2.1 q13.2.2.2.2.2 a72_8 a72_9 a72_10 a72_11 a72_17 a72_18 a72_19 a72_21 a72_22 a72_29 a72_31 a72_35 a72_37 a72_38 a72_39 a72_40 a72_41 a72_44 a72_50), (74, o74 A74), (75, o75 A75), (76, o76 A76)]) rfl ?_
        refine r_mat (k := 77) h77 (l' := [(72, o72 a72_0 a72_2 q13.2.1 q13.2.2.1 q13.2.2.2.1 q13.2.2.2.2.1 q13.2.2.2.2.2 a72_8 a72_9 a72_10 a72_11 a72_17 a72_18 a72_19 a72_21 a72_22 a72_29 a72_31 a72_35 a72_37 a72_38 a72_39 a72_40 a72_41 a72_44 a72_50), (74, o74 A74), (75, o75 A75), (76, o76 A76), (77, o77 A77)]) rfl ?_
        obtain rfl := Option.some.inj hf
        exact r_vret F hq dX12_readsCore_167 rfl rfl (Nat.le_refl _) (Nat.le_refl _) ⟨rfl, rfl⟩
      · have hf := e_t hc hf
        refine r_aload_n F dX12_readsCore_116 rfl ?_
        refine r_get F dX12_readsCore_117 flX12_13 rfl rfl (e_le rfl) (e_lt hnx rfl) ?_
        refine r_aload_n F dX12_readsCore_120 rfl ?_
        refine r_get F dX12_readsCore_121 flX12_153 rfl rfl (e_le rfl) (e_lt hnx rfl) ?_
        refine r_iload_n F dX12_readsCore_124 rfl ?_
        obtain ⟨hg, hf⟩ := e_gd hf
        refine r_iast F dX12_readsCore_125 h74 (e_le rfl) (e_lt hnx rfl) (e_vp hg) (l' := [(72, o72 a72_0 a72_2 q13.2.1 q13.2.2.1 q13.2.2.2.1 q13.2.2.2.2.1 q13.2.2.2.2.2 a72_8 a72_9 a72_10 a72_11 a72_17 a72_18 a72_19 a72_21 a72_22 a72_29 a72_31 a72_35 a72_37 a72_38 a72_39 a72_40 a72_41 a72_44 a72_50), (74, o74 (upd A74 (tn a72_11) q3.1))]) rfl ?_
        refine r_aload_n F dX12_readsCore_126 rfl ?_
        refine r_get F dX12_readsCore_127 flX12_16 rfl rfl (e_le rfl) (e_lt hnx rfl) ?_
        refine r_aload_n F dX12_readsCore_130 rfl ?_
        refine r_get F dX12_readsCore_131 flX12_153 rfl rfl (e_le rfl) (e_lt hnx rfl) ?_
        refine r_iload_n F dX12_readsCore_134 rfl ?_
        obtain ⟨hg, hf⟩ := e_gd hf
        refine r_iast F dX12_readsCore_135 h75 (e_le rfl) (e_lt hnx rfl) (e_vp hg) (l' := [(72, o72 a72_0 a72_2 q13.2.1 q13.2.2.1 q13.2.2.2.1 q13.2.2.2.2.1 q13.2.2.2.2.2 a72_8 a72_9 a72_10 a72_11 a72_17 a72_18 a72_19 a72_21 a72_22 a72_29 a72_31 a72_35 a72_37 a72_38 a72_39 a72_40 a72_41 a72_44 a72_50), (74, o74 (upd A74 (tn a72_11) q3.1)), (75, o75 (upd A75 (tn a72_11) q7.1))]) rfl ?_
        refine r_aload_n F dX12_readsCore_136 rfl ?_
        refine r_get F dX12_readsCore_137 flX12_19 rfl rfl (e_le rfl) (e_lt hnx rfl) ?_
        refine r_aload_n F dX12_readsCore_140 rfl ?_
        refine r_get F dX12_readsCore_141 flX12_153 rfl rfl (e_le rfl) (e_lt hnx rfl) ?_
        refine r_iload_n F dX12_readsCore_144 rfl ?_
        obtain ⟨hg, hf⟩ := e_gd hf
        refine r_iast F dX12_readsCore_145 h76 (e_le rfl) (e_lt hnx rfl) (e_vp hg) (l' := [(72, o72 a72_0 a72_2 q13.2.1 q13.2.2.1 q13.2.2.2.1 q13.2.2.2.2.1 q13.2.2.2.2.2 a72_8 a72_9 a72_10 a72_11 a72_17 a72_18 a72_19 a72_21 a72_22 a72_29 a72_31 a72_35 a72_37 a72_38 a72_39 a72_40 a72_41 a72_44 a72_50), (74, o74 (upd A74 (tn a72_11) q3.1)), (75, o75 (upd A75 (tn a72_11) q7.1)), (76, o76 (upd A76 (tn a72_11) q9.1))]) rfl ?_
        refine r_aload_n F dX12_readsCore_146 rfl ?_
        refine r_get F dX12_readsCore_147 flX12_22 rfl rfl (e_le rfl) (e_lt hnx rfl) ?_
        refine r_aload_n F dX12_readsCore_150 rfl ?_
        refine r_get F dX12_readsCore_151 flX12_153 rfl rfl (e_le rfl) (e_lt hnx rfl) ?_
        refine r_iload F dX12_readsCore_154 rfl ?_
        obtain ⟨hg, hf⟩ := e_gd hf
        refine r_iast F dX12_readsCore_156 h77 (e_le rfl) (e_lt hnx rfl) (e_vp hg) (l' := [(72, o72 a72_0 a72_2 q13.2.1 q13.2.2.1 q13.2.2.2.1 q13.2.2.2.2.1 q13.2.2.2.2.2 a72_8 a72_9 a72_10 a72_11 a72_17 a72_18 a72_19 a72_21 a72_22 a72_29 a72_31 a72_35 a72_37 a72_38 a72_39 a72_40 a72_41 a72_44 a72_50), (74, o74 (upd A74 (tn a72_11) q3.1)), (75, o75 (upd A75 (tn a72_11) q7.1)), (76, o76 (upd A76 (tn a72_11) q9.1)), (77, o77 (upd A77 (tn a72_11) q13.1))]) rfl ?_
        refine r_aload_n F dX12_readsCore_157 rfl ?_
        refine r_dup F dX12_readsCore_158 rfl ?_
        refine r_get F dX12_readsCore_159 flX12_153 rfl rfl (e_le rfl) (e_lt hnx rfl) ?_
        refine r_iconst F dX12_readsCore_162 (v := 1) (by decide) ?_
        refine r_iadd F dX12_readsCore_163 ?_
        refine r_put F dX12_readsCore_164 flX12_153 rfl rfl rfl rfl (e_le rfl) (e_le rfl) (e_lt hnx rfl) (l' := [(72, o72 a72_0 a72_2 q13.2.1 q13.2.2.1 q13.2.2.2.1 q13.2.2.2.2.1 q13.2.2.2.2.2 a72_8 a72_9 a72_10 (a72_11 + 1) a72_17 a72_18 a72_19 a72_21 a72_22 a72_29 a72_31 a72_35 a72_37 a72_38 a72_39 a72_40 a72_41 a72_44 a72_50), (74, o74 (upd A74 (tn a72_11) q3.1)), (75, o75 (upd A75 (tn a72_11) q7.1)), (76, o76 (upd A76 (tn a72_11) q9.1)), (77, o77 (upd A77 (tn a72_11) q13.1))]) rfl ?_
        obtain rfl := Option.some.inj hf
        exact r_vret F hq dX12_readsCore_167 rfl rfl (Nat.le_refl _) (Nat.le_refl _) ⟨rfl, rfl⟩
    refine r_icmp_ne F dX12_readsCore_73 (tgt := 99) (by decide) (fun hc => ?_) (fun hc => ?_)
    · have hq12 := e_f hc hq12
      obtain rfl := Option.some.inj hq12
      exact Jq11
    · have hq12 := e_t hc hq12
      refine r_aload_n F dX12_readsCore_76 rfl ?_
      refine r_get F dX12_readsCore_77 flX12_111 rfl rfl (e_le rfl) (e_lt hnx rfl) ?_
      refine r_iconst F dX12_readsCore_80 (v := 2) (by decide) ?_
      refine r_icmp_ne F dX12_readsCore_81 (tgt := 99) (by decide) (fun hc => ?_) (fun hc => ?_)
      · have hq12 := e_f hc hq12
        obtain rfl := Option.some.inj hq12
        exact Jq11
      · have hq12 := e_t hc hq12
        refine r_iload_n F dX12_readsCore_84 rfl ?_
        refine r_if_ne F dX12_readsCore_85 (tgt := 99) (by decide) (fun hc => ?_) (fun hc => ?_)
        · have hq12 := e_f hc hq12
          obtain rfl := Option.some.inj hq12
          exact Jq11
        · have hq12 := e_t hc hq12
          refine r_aload_n F dX12_readsCore_88 rfl ?_
          refine r_get F dX12_readsCore_89 flX12_125 rfl rfl (e_le rfl) (e_lt hnx rfl) ?_
          refine r_if_ne F dX12_readsCore_92 (tgt := 99) (by decide) (fun hc => ?_) (fun hc => ?_)
          · have hq12 := e_f hc hq12
            obtain rfl := Option.some.inj hq12
            exact Jq11
          · have hq12 := e_t hc hq12
            refine r_aload_n F dX12_readsCore_95 rfl ?_
            obtain ⟨q15, hq16, hq12⟩ := e_bd hq12
            refine r_callV F dX12_readsCore_96 (b := 72) (dc := 0) (ds := 0) (As := []) (S0 := []) lkX12_150 mX12_bad (tX12_bad_72 hG (la := x_l X) (h := e_up h [(72, o72 a72_0 a72_2 q9.2.1 q9.2.2.1 q9.2.2.2.1 q9.2.2.2.2.1 q9.2.2.2.2.2 a72_8 a72_9 a72_10 a72_11 a72_17 a72_18 a72_19 a72_21 a72_22 a72_29 a72_31 a72_35 a72_37 a72_38 a72_39 a72_40 a72_41 a72_44 a72_50)]) hnx rfl hq16) rfl rfl rfl (e_le rfl) (e_le rfl) (e_le rfl) rfl (ci := 12) e_cl12.1 rfl (e_le rfl) (e_lt hnx rfl) (Nat.zero_le _) (Nat.zero_le _) (e_k ?_)
            refine r_wr (l' := [(72, o72 a72_0 a72_2 q9.2.1 q9.2.2.1 q15 q9.2.2.2.2.1 q9.2.2.2.2.2 a72_8 a72_9 a72_10 a72_11 a72_17 a72_18 a72_19 a72_21 a72_22 a72_29 a72_31 a72_35 a72_37 a72_38 a72_39 a72_40 a72_41 a72_44 a72_50)]) rfl rfl ?_
            obtain rfl := Option.some.inj hq12
            exact Jq11
  refine r_icmp_ne F dX12_readsCore_21 (tgt := 48) (by decide) (fun hc => ?_) (fun hc => ?_)
  · have hq6 := e_f hc hq6
    obtain rfl := Option.some.inj hq6
    exact Jq5
  · have hq6 := e_t hc hq6
    refine r_aload_n F dX12_readsCore_24 rfl ?_
    refine r_get F dX12_readsCore_25 flX12_111 rfl rfl (e_le rfl) (e_lt hnx rfl) ?_
    refine r_iconst F dX12_readsCore_28 (v := 2) (by decide) ?_
    refine r_icmp_ne F dX12_readsCore_29 (tgt := 48) (by decide) (fun hc => ?_) (fun hc => ?_)
    · have hq6 := e_f hc hq6
      obtain rfl := Option.some.inj hq6
      exact Jq5
    · have hq6 := e_t hc hq6
      refine r_aload_n F dX12_readsCore_32 rfl ?_
      refine r_iload_n F dX12_readsCore_33 rfl ?_
      refine r_aload_n F dX12_readsCore_34 rfl ?_
      refine r_get F dX12_readsCore_35 flX12_125 rfl rfl (e_le rfl) (e_lt hnx rfl) ?_
      obtain ⟨q17, hq18, hq6⟩ := e_bd hq6
      refine r_callV F dX12_readsCore_38 (b := 72) (dc := 0) (ds := 0) (As := [.int q3.1, .int q3.2.2.2.2.2]) (S0 := []) lkX12_162 mX12_isFaceRead (tX12_isFaceRead_72 hG (la := x_l X) (h := e_up h [(72, o72 a72_0 a72_2 q3.2.1 q3.2.2.1 q3.2.2.2.1 q3.2.2.2.2.1 q3.2.2.2.2.2 a72_8 a72_9 a72_10 a72_11 a72_17 a72_18 a72_19 a72_21 a72_22 a72_29 a72_31 a72_35 a72_37 a72_38 a72_39 a72_40 a72_41 a72_44 a72_50)]) hnx rfl h74 h75 hq18) rfl rfl rfl (e_le rfl) (e_le rfl) (e_le rfl) rfl (ci := 12) e_cl12.1 rfl (e_le rfl) (e_lt hnx rfl) (Nat.zero_le _) (Nat.zero_le _) (e_k ?_)
      refine r_wr0 ?_
      refine r_z_eq F dX12_readsCore_41 (tgt := 48) (by decide) (fun hc => ?_) (fun hc => ?_)
      · have hq6 := e_t hc hq6
        refine r_aload_n F dX12_readsCore_44 rfl ?_
        obtain ⟨q19, hq20, hq6⟩ := e_bd hq6
        refine r_callV F dX12_readsCore_45 (b := 72) (dc := 0) (ds := 0) (As := []) (S0 := []) lkX12_150 mX12_bad (tX12_bad_72 hG (la := x_l X) (h := e_up h [(72, o72 a72_0 a72_2 q3.2.1 q3.2.2.1 q3.2.2.2.1 q3.2.2.2.2.1 q3.2.2.2.2.2 a72_8 a72_9 a72_10 a72_11 a72_17 a72_18 a72_19 a72_21 a72_22 a72_29 a72_31 a72_35 a72_37 a72_38 a72_39 a72_40 a72_41 a72_44 a72_50)]) hnx rfl hq20) rfl rfl rfl (e_le rfl) (e_le rfl) (e_le rfl) rfl (ci := 12) e_cl12.1 rfl (e_le rfl) (e_lt hnx rfl) (Nat.zero_le _) (Nat.zero_le _) (e_k ?_)
        refine r_wr (l' := [(72, o72 a72_0 a72_2 q3.2.1 q3.2.2.1 q19 q3.2.2.2.2.1 q3.2.2.2.2.2 a72_8 a72_9 a72_10 a72_11 a72_17 a72_18 a72_19 a72_21 a72_22 a72_29 a72_31 a72_35 a72_37 a72_38 a72_39 a72_40 a72_41 a72_44 a72_50)]) rfl rfl ?_
        obtain rfl := Option.some.inj hq6
        exact Jq5
      · have hq6 := e_f hc hq6
        obtain rfl := Option.some.inj hq6
        exact Jq5

def fX12_readsPiece (a72_2 : Int32) (a72_3 : Int32) (a72_4 : Int32) (a72_5 : Int32) (a72_6 : Int32) (a72_7 : Int32) (a72_9 : Int32) (a72_10 : Int32) (a72_11 : Int32) (a72_17 : Bool) (a72_18 : Bool) (a72_19 : Bool) (A73 : Nat → Int32) (A74 : Nat → Int32) (A75 : Nat → Int32) (A76 : Nat → Int32) (A77 : Nat → Int32) (A78 : Nat → Int32)  : Option (Int32 × Int32 × Int32 × Int32 × Int32 × Int32 × Bool × Bool × Bool × (Nat → Int32) × (Nat → Int32) × (Nat → Int32) × (Nat → Int32) × (Nat → Int32)) :=
  (fX12_isWord_s9 a72_3 a72_4 a72_5 a72_6 A73).bind (fun q1 =>
  if q1 = true then
    if 10 ≤ a72_11 then
      (fX12_isWord_s10 a72_3 a72_4 a72_5 a72_6 A73).bind (fun q3 =>
      if q3 = true then
        if a72_17 = true then
          (fX12_isWord_s11 a72_3 a72_4 a72_5 a72_6 A73).bind (fun q5 =>
          if q5 = true then
            if a72_18 = true then
              (fX12_isWord_s12 a72_3 a72_4 a72_5 a72_6 A73).bind (fun q7 =>
              if q7 = true then
                if a72_19 = true then
                  (fX12_bad a72_4 a72_5).bind (fun q9 =>
                  some (a72_3, a72_4, q9, a72_6, a72_7, a72_11, a72_17, a72_18, a72_19, A74, A75, A76, A77, A78))
                else
                  (fX12_next a72_2 a72_3 a72_4 a72_6 a72_7 A73).bind (fun q11 =>
                  (fX12_takesNumber a72_2 q11.1 q11.2.1 a72_5 q11.2.2.1 q11.2.2.2 A73 0 2).bind (fun q13 =>
                  some (q13.2.1, q13.2.2.1, q13.2.2.2.1, q13.2.2.2.2.1, q13.2.2.2.2.2, a72_11, a72_17, a72_18, true, A74, A75, A76, A77, upd A78 (tn 3) q13.1)))
              else
                (fX12_bad a72_4 a72_5).bind (fun q15 =>
                some (a72_3, a72_4, q15, a72_6, a72_7, a72_11, a72_17, a72_18, a72_19, A74, A75, A76, A77, A78)))
            else
              (fX12_next a72_2 a72_3 a72_4 a72_6 a72_7 A73).bind (fun q17 =>
              (fX12_takesNumber a72_2 q17.1 q17.2.1 a72_5 q17.2.2.1 q17.2.2.2 A73 0 99).bind (fun q19 =>
              some (q19.2.1, q19.2.2.1, q19.2.2.2.1, q19.2.2.2.2.1, q19.2.2.2.2.2, a72_11, a72_17, true, a72_19, A74, A75, A76, A77, upd A78 (tn 2) q19.1)))
          else
            (fX12_isWord_s12 a72_3 a72_4 a72_5 a72_6 A73).bind (fun q21 =>
            if q21 = true then
              if a72_19 = true then
                (fX12_bad a72_4 a72_5).bind (fun q23 =>
                some (a72_3, a72_4, q23, a72_6, a72_7, a72_11, a72_17, a72_18, a72_19, A74, A75, A76, A77, A78))
              else
                (fX12_next a72_2 a72_3 a72_4 a72_6 a72_7 A73).bind (fun q25 =>
                (fX12_takesNumber a72_2 q25.1 q25.2.1 a72_5 q25.2.2.1 q25.2.2.2 A73 0 2).bind (fun q27 =>
                some (q27.2.1, q27.2.2.1, q27.2.2.2.1, q27.2.2.2.2.1, q27.2.2.2.2.2, a72_11, a72_17, a72_18, true, A74, A75, A76, A77, upd A78 (tn 3) q27.1)))
            else
              (fX12_bad a72_4 a72_5).bind (fun q29 =>
              some (a72_3, a72_4, q29, a72_6, a72_7, a72_11, a72_17, a72_18, a72_19, A74, A75, A76, A77, A78))))
        else
          (fX12_next a72_2 a72_3 a72_4 a72_6 a72_7 A73).bind (fun q31 =>
          (fX12_takesNumber a72_2 q31.1 q31.2.1 a72_5 q31.2.2.1 q31.2.2.2 A73 (-20) 20).bind (fun q33 =>
          (fX12_takesNumber a72_2 q33.2.1 q33.2.2.1 q33.2.2.2.1 q33.2.2.2.2.1 q33.2.2.2.2.2 A73 (-20) 20).bind (fun q35 =>
          some (q35.2.1, q35.2.2.1, q35.2.2.2.1, q35.2.2.2.2.1, q35.2.2.2.2.2, a72_11, true, a72_18, a72_19, A74, A75, A76, A77, upd (upd A78 (tn 0) q33.1) (tn 1) q35.1))))
      else
        (fX12_isWord_s11 a72_3 a72_4 a72_5 a72_6 A73).bind (fun q37 =>
        if q37 = true then
          if a72_18 = true then
            (fX12_isWord_s12 a72_3 a72_4 a72_5 a72_6 A73).bind (fun q39 =>
            if q39 = true then
              if a72_19 = true then
                (fX12_bad a72_4 a72_5).bind (fun q41 =>
                some (a72_3, a72_4, q41, a72_6, a72_7, a72_11, a72_17, a72_18, a72_19, A74, A75, A76, A77, A78))
              else
                (fX12_next a72_2 a72_3 a72_4 a72_6 a72_7 A73).bind (fun q43 =>
                (fX12_takesNumber a72_2 q43.1 q43.2.1 a72_5 q43.2.2.1 q43.2.2.2 A73 0 2).bind (fun q45 =>
                some (q45.2.1, q45.2.2.1, q45.2.2.2.1, q45.2.2.2.2.1, q45.2.2.2.2.2, a72_11, a72_17, a72_18, true, A74, A75, A76, A77, upd A78 (tn 3) q45.1)))
            else
              (fX12_bad a72_4 a72_5).bind (fun q47 =>
              some (a72_3, a72_4, q47, a72_6, a72_7, a72_11, a72_17, a72_18, a72_19, A74, A75, A76, A77, A78)))
          else
            (fX12_next a72_2 a72_3 a72_4 a72_6 a72_7 A73).bind (fun q49 =>
            (fX12_takesNumber a72_2 q49.1 q49.2.1 a72_5 q49.2.2.1 q49.2.2.2 A73 0 99).bind (fun q51 =>
            some (q51.2.1, q51.2.2.1, q51.2.2.2.1, q51.2.2.2.2.1, q51.2.2.2.2.2, a72_11, a72_17, true, a72_19, A74, A75, A76, A77, upd A78 (tn 2) q51.1)))
        else
          (fX12_isWord_s12 a72_3 a72_4 a72_5 a72_6 A73).bind (fun q53 =>
          if q53 = true then
            if a72_19 = true then
              (fX12_bad a72_4 a72_5).bind (fun q55 =>
              some (a72_3, a72_4, q55, a72_6, a72_7, a72_11, a72_17, a72_18, a72_19, A74, A75, A76, A77, A78))
            else
              (fX12_next a72_2 a72_3 a72_4 a72_6 a72_7 A73).bind (fun q57 =>
              (fX12_takesNumber a72_2 q57.1 q57.2.1 a72_5 q57.2.2.1 q57.2.2.2 A73 0 2).bind (fun q59 =>
              some (q59.2.1, q59.2.2.1, q59.2.2.2.1, q59.2.2.2.2.1, q59.2.2.2.2.2, a72_11, a72_17, a72_18, true, A74, A75, A76, A77, upd A78 (tn 3) q59.1)))
          else
            (fX12_bad a72_4 a72_5).bind (fun q61 =>
            some (a72_3, a72_4, q61, a72_6, a72_7, a72_11, a72_17, a72_18, a72_19, A74, A75, A76, A77, A78)))))
    else
      (fX12_readsCore a72_2 a72_3 a72_4 a72_5 a72_6 a72_7 a72_9 a72_10 a72_11 A73 A74 A75 A76 A77).bind (fun q63 =>
      some (q63.1, q63.2.1, q63.2.2.1, q63.2.2.2.1, q63.2.2.2.2.1, q63.2.2.2.2.2.1, a72_17, a72_18, a72_19, q63.2.2.2.2.2.2.1, q63.2.2.2.2.2.2.2.1, q63.2.2.2.2.2.2.2.2.1, q63.2.2.2.2.2.2.2.2.2, A78))
  else
    (fX12_isWord_s10 a72_3 a72_4 a72_5 a72_6 A73).bind (fun q65 =>
    if q65 = true then
      if a72_17 = true then
        (fX12_isWord_s11 a72_3 a72_4 a72_5 a72_6 A73).bind (fun q67 =>
        if q67 = true then
          if a72_18 = true then
            (fX12_isWord_s12 a72_3 a72_4 a72_5 a72_6 A73).bind (fun q69 =>
            if q69 = true then
              if a72_19 = true then
                (fX12_bad a72_4 a72_5).bind (fun q71 =>
                some (a72_3, a72_4, q71, a72_6, a72_7, a72_11, a72_17, a72_18, a72_19, A74, A75, A76, A77, A78))
              else
                (fX12_next a72_2 a72_3 a72_4 a72_6 a72_7 A73).bind (fun q73 =>
                (fX12_takesNumber a72_2 q73.1 q73.2.1 a72_5 q73.2.2.1 q73.2.2.2 A73 0 2).bind (fun q75 =>
                some (q75.2.1, q75.2.2.1, q75.2.2.2.1, q75.2.2.2.2.1, q75.2.2.2.2.2, a72_11, a72_17, a72_18, true, A74, A75, A76, A77, upd A78 (tn 3) q75.1)))
            else
              (fX12_bad a72_4 a72_5).bind (fun q77 =>
              some (a72_3, a72_4, q77, a72_6, a72_7, a72_11, a72_17, a72_18, a72_19, A74, A75, A76, A77, A78)))
          else
            (fX12_next a72_2 a72_3 a72_4 a72_6 a72_7 A73).bind (fun q79 =>
            (fX12_takesNumber a72_2 q79.1 q79.2.1 a72_5 q79.2.2.1 q79.2.2.2 A73 0 99).bind (fun q81 =>
            some (q81.2.1, q81.2.2.1, q81.2.2.2.1, q81.2.2.2.2.1, q81.2.2.2.2.2, a72_11, a72_17, true, a72_19, A74, A75, A76, A77, upd A78 (tn 2) q81.1)))
        else
          (fX12_isWord_s12 a72_3 a72_4 a72_5 a72_6 A73).bind (fun q83 =>
          if q83 = true then
            if a72_19 = true then
              (fX12_bad a72_4 a72_5).bind (fun q85 =>
              some (a72_3, a72_4, q85, a72_6, a72_7, a72_11, a72_17, a72_18, a72_19, A74, A75, A76, A77, A78))
            else
              (fX12_next a72_2 a72_3 a72_4 a72_6 a72_7 A73).bind (fun q87 =>
              (fX12_takesNumber a72_2 q87.1 q87.2.1 a72_5 q87.2.2.1 q87.2.2.2 A73 0 2).bind (fun q89 =>
              some (q89.2.1, q89.2.2.1, q89.2.2.2.1, q89.2.2.2.2.1, q89.2.2.2.2.2, a72_11, a72_17, a72_18, true, A74, A75, A76, A77, upd A78 (tn 3) q89.1)))
          else
            (fX12_bad a72_4 a72_5).bind (fun q91 =>
            some (a72_3, a72_4, q91, a72_6, a72_7, a72_11, a72_17, a72_18, a72_19, A74, A75, A76, A77, A78))))
      else
        (fX12_next a72_2 a72_3 a72_4 a72_6 a72_7 A73).bind (fun q93 =>
        (fX12_takesNumber a72_2 q93.1 q93.2.1 a72_5 q93.2.2.1 q93.2.2.2 A73 (-20) 20).bind (fun q95 =>
        (fX12_takesNumber a72_2 q95.2.1 q95.2.2.1 q95.2.2.2.1 q95.2.2.2.2.1 q95.2.2.2.2.2 A73 (-20) 20).bind (fun q97 =>
        some (q97.2.1, q97.2.2.1, q97.2.2.2.1, q97.2.2.2.2.1, q97.2.2.2.2.2, a72_11, true, a72_18, a72_19, A74, A75, A76, A77, upd (upd A78 (tn 0) q95.1) (tn 1) q97.1))))
    else
      (fX12_isWord_s11 a72_3 a72_4 a72_5 a72_6 A73).bind (fun q99 =>
      if q99 = true then
        if a72_18 = true then
          (fX12_isWord_s12 a72_3 a72_4 a72_5 a72_6 A73).bind (fun q101 =>
          if q101 = true then
            if a72_19 = true then
              (fX12_bad a72_4 a72_5).bind (fun q103 =>
              some (a72_3, a72_4, q103, a72_6, a72_7, a72_11, a72_17, a72_18, a72_19, A74, A75, A76, A77, A78))
            else
              (fX12_next a72_2 a72_3 a72_4 a72_6 a72_7 A73).bind (fun q105 =>
              (fX12_takesNumber a72_2 q105.1 q105.2.1 a72_5 q105.2.2.1 q105.2.2.2 A73 0 2).bind (fun q107 =>
              some (q107.2.1, q107.2.2.1, q107.2.2.2.1, q107.2.2.2.2.1, q107.2.2.2.2.2, a72_11, a72_17, a72_18, true, A74, A75, A76, A77, upd A78 (tn 3) q107.1)))
          else
            (fX12_bad a72_4 a72_5).bind (fun q109 =>
            some (a72_3, a72_4, q109, a72_6, a72_7, a72_11, a72_17, a72_18, a72_19, A74, A75, A76, A77, A78)))
        else
          (fX12_next a72_2 a72_3 a72_4 a72_6 a72_7 A73).bind (fun q111 =>
          (fX12_takesNumber a72_2 q111.1 q111.2.1 a72_5 q111.2.2.1 q111.2.2.2 A73 0 99).bind (fun q113 =>
          some (q113.2.1, q113.2.2.1, q113.2.2.2.1, q113.2.2.2.2.1, q113.2.2.2.2.2, a72_11, a72_17, true, a72_19, A74, A75, A76, A77, upd A78 (tn 2) q113.1)))
      else
        (fX12_isWord_s12 a72_3 a72_4 a72_5 a72_6 A73).bind (fun q115 =>
        if q115 = true then
          if a72_19 = true then
            (fX12_bad a72_4 a72_5).bind (fun q117 =>
            some (a72_3, a72_4, q117, a72_6, a72_7, a72_11, a72_17, a72_18, a72_19, A74, A75, A76, A77, A78))
          else
            (fX12_next a72_2 a72_3 a72_4 a72_6 a72_7 A73).bind (fun q119 =>
            (fX12_takesNumber a72_2 q119.1 q119.2.1 a72_5 q119.2.2.1 q119.2.2.2 A73 0 2).bind (fun q121 =>
            some (q121.2.1, q121.2.2.1, q121.2.2.2.1, q121.2.2.2.2.1, q121.2.2.2.2.2, a72_11, a72_17, a72_18, true, A74, A75, A76, A77, upd A78 (tn 3) q121.1)))
        else
          (fX12_bad a72_4 a72_5).bind (fun q123 =>
          some (a72_3, a72_4, q123, a72_6, a72_7, a72_11, a72_17, a72_18, a72_19, A74, A75, A76, A77, A78))))))
set_option maxRecDepth 100000 in
theorem tX12_readsPiece_72 {G : eG} (hG : e_GS G) {la : Launch} {h : Nat → eO} {nx : Nat} (hnx : 99 ≤ nx) {a72_0 : Int32} {a72_2 : Int32} {a72_3 : Int32} {a72_4 : Int32} {a72_5 : Int32} {a72_6 : Int32} {a72_7 : Int32} {a72_8 : Bool} {a72_9 : Int32} {a72_10 : Int32} {a72_11 : Int32} {a72_17 : Bool} {a72_18 : Bool} {a72_19 : Bool} {a72_21 : Int32} {a72_22 : Int32} {a72_29 : Int32} {a72_31 : Int32} {a72_35 : Int32} {a72_37 : Bool} {a72_38 : Int32} {a72_39 : Int32} {a72_40 : Int32} {a72_41 : Int64} {a72_44 : Int32} {a72_50 : Bool} {A73 : Nat → Int32} {A74 : Nat → Int32} {A75 : Nat → Int32} {A76 : Nat → Int32} {A77 : Nat → Int32} {A78 : Nat → Int32}  (h72 : h 72 = o72 a72_0 a72_2 a72_3 a72_4 a72_5 a72_6 a72_7 a72_8 a72_9 a72_10 a72_11 a72_17 a72_18 a72_19 a72_21 a72_22 a72_29 a72_31 a72_35 a72_37 a72_38 a72_39 a72_40 a72_41 a72_44 a72_50) (h73 : h 73 = o73 A73) (h74 : h 74 = o74 A74) (h75 : h 75 = o75 A75) (h76 : h 76 = o76 A76) (h77 : h 77 = o77 A77) (h78 : h 78 = o78 A78) {R9 : Int32 × Int32 × Int32 × Int32 × Int32 × Int32 × Bool × Bool × Bool × (Nat → Int32) × (Nat → Int32) × (Nat → Int32) × (Nat → Int32) × (Nat → Int32)} (hf : fX12_readsPiece a72_2 a72_3 a72_4 a72_5 a72_6 a72_7 a72_9 a72_10 a72_11 a72_17 a72_18 a72_19 A73 A74 A75 A76 A77 A78  = some R9) :
    eSem G la MX12_readsPiece [.ref 72] h nx 0 0 (fun r9 h9 => r9 = none ∧ h9 = e_up h [(72, o72 a72_0 a72_2 R9.1 R9.2.1 R9.2.2.1 R9.2.2.2.1 R9.2.2.2.2.1 a72_8 a72_9 a72_10 R9.2.2.2.2.2.1 R9.2.2.2.2.2.2.1 R9.2.2.2.2.2.2.2.1 R9.2.2.2.2.2.2.2.2.1 a72_21 a72_22 a72_29 a72_31 a72_35 a72_37 a72_38 a72_39 a72_40 a72_41 a72_44 a72_50), (74, o74 R9.2.2.2.2.2.2.2.2.2.1), (75, o75 R9.2.2.2.2.2.2.2.2.2.2.1), (76, o76 R9.2.2.2.2.2.2.2.2.2.2.2.1), (77, o77 R9.2.2.2.2.2.2.2.2.2.2.2.2.1), (78, o78 R9.2.2.2.2.2.2.2.2.2.2.2.2.2)]) := by
  refine eSem.of (k := 0) (L := [some (.ref 72)]) (by decide +kernel) rfl rfl (fun X F hxl hq hcR hsR => ?_)
  subst hxl
  unfold fX12_readsPiece at hf
  refine r_aload_n F dX12_readsPiece_0 rfl ?_
  refine r_ldcS F dX12_readsPiece_1 (tx := "core") (a := 9) (by decide +kernel) ?_
  obtain ⟨q1, hq2, hf⟩ := e_bd hf
  refine r_callV F dX12_readsPiece_3 (b := 72) (dc := 0) (ds := 0) (As := [.ref 9]) (S0 := []) lkX12_171 mX12_isWord (tX12_isWord_72_9 hG (la := x_l X) (h := e_up h []) hnx h72 h73 hq2) rfl rfl rfl (e_le rfl) (e_le rfl) (e_le rfl) h72 (ci := 12) e_cl12.1 rfl (e_le rfl) (e_lt hnx rfl) (Nat.zero_le _) (Nat.zero_le _) (e_k ?_)
  refine r_wr0 ?_
  refine r_z_eq F dX12_readsPiece_6 (tgt := 25) (by decide) (fun hc => ?_) (fun hc => ?_)
  · have hf := e_t hc hf
    refine r_aload_n F dX12_readsPiece_9 rfl ?_
    refine r_get F dX12_readsPiece_10 flX12_153 h72 rfl (e_le rfl) (e_lt hnx rfl) ?_
    refine r_bipush F dX12_readsPiece_13 (v := 10) (by decide) ?_
    refine r_icmp_ge F dX12_readsPiece_15 (tgt := 25) (by decide) (fun hc => ?_) (fun hc => ?_)
    · have hf := e_t hc hf
      refine r_aload_n F dX12_readsPiece_25 rfl ?_
      refine r_ldcS F dX12_readsPiece_26 (tx := "stress") (a := 10) (by decide +kernel) ?_
      obtain ⟨q3, hq4, hf⟩ := e_bd hf
      refine r_callV F dX12_readsPiece_28 (b := 72) (dc := 0) (ds := 0) (As := [.ref 10]) (S0 := []) lkX12_171 mX12_isWord (tX12_isWord_72_10 hG (la := x_l X) (h := e_up h []) hnx h72 h73 hq4) rfl rfl rfl (e_le rfl) (e_le rfl) (e_le rfl) h72 (ci := 12) e_cl12.1 rfl (e_le rfl) (e_lt hnx rfl) (Nat.zero_le _) (Nat.zero_le _) (e_k ?_)
      refine r_wr0 ?_
      refine r_z_eq F dX12_readsPiece_31 (tgt := 81) (by decide) (fun hc => ?_) (fun hc => ?_)
      · have hf := e_t hc hf
        refine r_aload_n F dX12_readsPiece_34 rfl ?_
        refine r_get F dX12_readsPiece_35 flX12_180 h72 rfl (e_le rfl) (e_lt hnx rfl) ?_
        refine r_z_ne F dX12_readsPiece_38 (tgt := 81) (by decide) (fun hc => ?_) (fun hc => ?_)
        · have hf := e_t hc hf
          refine r_aload_n F dX12_readsPiece_81 rfl ?_
          refine r_ldcS F dX12_readsPiece_82 (tx := "hold") (a := 11) (by decide +kernel) ?_
          obtain ⟨q5, hq6, hf⟩ := e_bd hf
          refine r_callV F dX12_readsPiece_84 (b := 72) (dc := 0) (ds := 0) (As := [.ref 11]) (S0 := []) lkX12_171 mX12_isWord (tX12_isWord_72_11 hG (la := x_l X) (h := e_up h []) hnx h72 h73 hq6) rfl rfl rfl (e_le rfl) (e_le rfl) (e_le rfl) h72 (ci := 12) e_cl12.1 rfl (e_le rfl) (e_lt hnx rfl) (Nat.zero_le _) (Nat.zero_le _) (e_k ?_)
          refine r_wr0 ?_
          refine r_z_eq F dX12_readsPiece_87 (tgt := 122) (by decide) (fun hc => ?_) (fun hc => ?_)
          · have hf := e_t hc hf
            refine r_aload_n F dX12_readsPiece_90 rfl ?_
            refine r_get F dX12_readsPiece_91 flX12_186 h72 rfl (e_le rfl) (e_lt hnx rfl) ?_
            refine r_z_ne F dX12_readsPiece_94 (tgt := 122) (by decide) (fun hc => ?_) (fun hc => ?_)
            · have hf := e_t hc hf
              refine r_aload_n F dX12_readsPiece_122 rfl ?_
              refine r_ldcS F dX12_readsPiece_123 (tx := "rule") (a := 12) (by decide +kernel) ?_
              obtain ⟨q7, hq8, hf⟩ := e_bd hf
              refine r_callV F dX12_readsPiece_125 (b := 72) (dc := 0) (ds := 0) (As := [.ref 12]) (S0 := []) lkX12_171 mX12_isWord (tX12_isWord_72_12 hG (la := x_l X) (h := e_up h []) hnx h72 h73 hq8) rfl rfl rfl (e_le rfl) (e_le rfl) (e_le rfl) h72 (ci := 12) e_cl12.1 rfl (e_le rfl) (e_lt hnx rfl) (Nat.zero_le _) (Nat.zero_le _) (e_k ?_)
              refine r_wr0 ?_
              refine r_z_eq F dX12_readsPiece_128 (tgt := 162) (by decide) (fun hc => ?_) (fun hc => ?_)
              · have hf := e_t hc hf
                refine r_aload_n F dX12_readsPiece_131 rfl ?_
                refine r_get F dX12_readsPiece_132 flX12_191 h72 rfl (e_le rfl) (e_lt hnx rfl) ?_
                refine r_z_ne F dX12_readsPiece_135 (tgt := 162) (by decide) (fun hc => ?_) (fun hc => ?_)
                · have hf := e_t hc hf
                  refine r_aload_n F dX12_readsPiece_162 rfl ?_
                  obtain ⟨q9, hq10, hf⟩ := e_bd hf
                  refine r_callV F dX12_readsPiece_163 (b := 72) (dc := 0) (ds := 0) (As := []) (S0 := []) lkX12_150 mX12_bad (tX12_bad_72 hG (la := x_l X) (h := e_up h []) hnx h72 hq10) rfl rfl rfl (e_le rfl) (e_le rfl) (e_le rfl) h72 (ci := 12) e_cl12.1 rfl (e_le rfl) (e_lt hnx rfl) (Nat.zero_le _) (Nat.zero_le _) (e_k ?_)
                  refine r_wr (l' := [(72, o72 a72_0 a72_2 a72_3 a72_4 q9 a72_6 a72_7 a72_8 a72_9 a72_10 a72_11 a72_17 a72_18 a72_19 a72_21 a72_22 a72_29 a72_31 a72_35 a72_37 a72_38 a72_39 a72_40 a72_41 a72_44 a72_50)]) rfl rfl ?_
                  refine r_mat (k := 74) h74 (l' := [(72, o72 a72_0 a72_2 a72_3 a72_4 q9 a72_6 a72_7 a72_8 a72_9 a72_10 a72_11 a72_17 a72_18 a72_19 a72_21 a72_22 a72_29 a72_31 a72_35 a72_37 a72_38 a72_39 a72_40 a72_41 a72_44 a72_50), (74, o74 A74)]) rfl ?_
                  refine r_mat (k := 75) h75 (l' := [(72, o72 a72_0 a72_2 a72_3 a72_4 q9 a72_6 a72_7 a72_8 a72_9 a72_10 a72_11 a72_17 a72_18 a72_19 a72_21 a72_22 a72_29 a72_31 a72_35 a72_37 a72_38 a72_39 a72_40 a72_41 a72_44 a72_50), (74, o74 A74), (75, o75 A75)]) rfl ?_
                  refine r_mat (k := 76) h76 (l' := [(72, o72 a72_0 a72_2 a72_3 a72_4 q9 a72_6 a72_7 a72_8 a72_9 a72_10 a72_11 a72_17 a72_18 a72_19 a72_21 a72_22 a72_29 a72_31 a72_35 a72_37 a72_38 a72_39 a72_40 a72_41 a72_44 a72_50), (74, o74 A74), (75, o75 A75), (76, o76 A76)]) rfl ?_
                  refine r_mat (k := 77) h77 (l' := [(72, o72 a72_0 a72_2 a72_3 a72_4 q9 a72_6 a72_7 a72_8 a72_9 a72_10 a72_11 a72_17 a72_18 a72_19 a72_21 a72_22 a72_29 a72_31 a72_35 a72_37 a72_38 a72_39 a72_40 a72_41 a72_44 a72_50), (74, o74 A74), (75, o75 A75), (76, o76 A76), (77, o77 A77)]) rfl ?_
                  refine r_mat (k := 78) h78 (l' := [(72, o72 a72_0 a72_2 a72_3 a72_4 q9 a72_6 a72_7 a72_8 a72_9 a72_10 a72_11 a72_17 a72_18 a72_19 a72_21 a72_22 a72_29 a72_31 a72_35 a72_37 a72_38 a72_39 a72_40 a72_41 a72_44 a72_50), (74, o74 A74), (75, o75 A75), (76, o76 A76), (77, o77 A77), (78, o78 A78)]) rfl ?_
                  obtain rfl := Option.some.inj hf
                  exact r_vret F hq dX12_readsPiece_166 rfl rfl (Nat.le_refl _) (Nat.le_refl _) ⟨rfl, rfl⟩
                · have hf := e_f hc hf
                  refine r_aload_n F dX12_readsPiece_138 rfl ?_
                  refine r_iconst F dX12_readsPiece_139 (v := 1) (by decide) ?_
                  refine r_put F dX12_readsPiece_140 (v := .int (e_b true)) flX12_191 rfl (e_b_nar _) (e_b_fit _) h72 (e_le rfl) (e_le rfl) (e_lt hnx rfl) (l' := [(72, o72 a72_0 a72_2 a72_3 a72_4 a72_5 a72_6 a72_7 a72_8 a72_9 a72_10 a72_11 a72_17 a72_18 true a72_21 a72_22 a72_29 a72_31 a72_35 a72_37 a72_38 a72_39 a72_40 a72_41 a72_44 a72_50)]) rfl ?_
                  refine r_aload_n F dX12_readsPiece_143 rfl ?_
                  obtain ⟨q11, hq12, hf⟩ := e_bd hf
                  refine r_callV F dX12_readsPiece_144 (b := 72) (dc := 0) (ds := 0) (As := []) (S0 := []) lkX12_147 mX12_next (tX12_next_72 hG (la := x_l X) (h := e_up h [(72, o72 a72_0 a72_2 a72_3 a72_4 a72_5 a72_6 a72_7 a72_8 a72_9 a72_10 a72_11 a72_17 a72_18 true a72_21 a72_22 a72_29 a72_31 a72_35 a72_37 a72_38 a72_39 a72_40 a72_41 a72_44 a72_50)]) hnx rfl h73 hq12) rfl rfl rfl (e_le rfl) (e_le rfl) (e_le rfl) rfl (ci := 12) e_cl12.1 rfl (e_le rfl) (e_lt hnx rfl) (Nat.zero_le _) (Nat.zero_le _) (e_k ?_)
                  refine r_wr (l' := [(72, o72 a72_0 a72_2 q11.1 q11.2.1 a72_5 q11.2.2.1 q11.2.2.2 a72_8 a72_9 a72_10 a72_11 a72_17 a72_18 true a72_21 a72_22 a72_29 a72_31 a72_35 a72_37 a72_38 a72_39 a72_40 a72_41 a72_44 a72_50)]) rfl rfl ?_
                  refine r_aload_n F dX12_readsPiece_147 rfl ?_
                  refine r_get F dX12_readsPiece_148 flX12_25 rfl rfl (e_le rfl) (e_lt hnx rfl) ?_
                  refine r_iconst F dX12_readsPiece_151 (v := 3) (by decide) ?_
                  refine r_aload_n F dX12_readsPiece_152 rfl ?_
                  refine r_iconst F dX12_readsPiece_153 (v := 0) (by decide) ?_
                  refine r_iconst F dX12_readsPiece_154 (v := 2) (by decide) ?_
                  obtain ⟨q13, hq14, hf⟩ := e_bd hf
                  refine r_callV F dX12_readsPiece_155 (b := 72) (dc := 0) (ds := 0) (As := [.int 0, .int 2]) (S0 := [.int 3, .ref 78]) lkX12_159 mX12_takesNumber (tX12_takesNumber_72 hG (la := x_l X) (h := e_up h [(72, o72 a72_0 a72_2 q11.1 q11.2.1 a72_5 q11.2.2.1 q11.2.2.2 a72_8 a72_9 a72_10 a72_11 a72_17 a72_18 true a72_21 a72_22 a72_29 a72_31 a72_35 a72_37 a72_38 a72_39 a72_40 a72_41 a72_44 a72_50)]) hnx rfl h73 hq14) rfl rfl rfl (e_le rfl) (e_le rfl) (e_le rfl) rfl (ci := 12) e_cl12.1 rfl (e_le rfl) (e_lt hnx rfl) (Nat.zero_le _) (Nat.zero_le _) (e_k ?_)
                  refine r_wr (l' := [(72, o72 a72_0 a72_2 q13.2.1 q13.2.2.1 q13.2.2.2.1 q13.2.2.2.2.1 q13.2.2.2.2.2 a72_8 a72_9 a72_10 a72_11 a72_17 a72_18 true a72_21 a72_22 a72_29 a72_31 a72_35 a72_37 a72_38 a72_39 a72_40 a72_41 a72_44 a72_50)]) rfl rfl ?_
                  refine r_iast F dX12_readsPiece_158 h78 (e_le rfl) (e_lt hnx rfl) (e_vp (by decide)) (l' := [(72, o72 a72_0 a72_2 q13.2.1 q13.2.2.1 q13.2.2.2.1 q13.2.2.2.2.1 q13.2.2.2.2.2 a72_8 a72_9 a72_10 a72_11 a72_17 a72_18 true a72_21 a72_22 a72_29 a72_31 a72_35 a72_37 a72_38 a72_39 a72_40 a72_41 a72_44 a72_50), (78, o78 (upd A78 (tn 3) q13.1))]) rfl ?_
                  refine r_goto F dX12_readsPiece_159 (tgt := 166) (by decide) ?_
                  refine r_mat (k := 74) h74 (l' := [(72, o72 a72_0 a72_2 q13.2.1 q13.2.2.1 q13.2.2.2.1 q13.2.2.2.2.1 q13.2.2.2.2.2 a72_8 a72_9 a72_10 a72_11 a72_17 a72_18 true a72_21 a72_22 a72_29 a72_31 a72_35 a72_37 a72_38 a72_39 a72_40 a72_41 a72_44 a72_50), (74, o74 A74), (78, o78 (upd A78 (tn 3) q13.1))]) rfl ?_
                  refine r_mat (k := 75) h75 (l' := [(72, o72 a72_0 a72_2 q13.2.1 q13.2.2.1 q13.2.2.2.1 q13.2.2.2.2.1 q13.2.2.2.2.2 a72_8 a72_9 a72_10 a72_11 a72_17 a72_18 true a72_21 a72_22 a72_29 a72_31 a72_35 a72_37 a72_38 a72_39 a72_40 a72_41 a72_44 a72_50), (74, o74 A74), (75, o75 A75), (78, o78 (upd A78 (tn 3) q13.1))]) rfl ?_
                  refine r_mat (k := 76) h76 (l' := [(72, o72 a72_0 a72_2 q13.2.1 q13.2.2.1 q13.2.2.2.1 q13.2.2.2.2.1 q13.2.2.2.2.2 a72_8 a72_9 a72_10 a72_11 a72_17 a72_18 true a72_21 a72_22 a72_29 a72_31 a72_35 a72_37 a72_38 a72_39 a72_40 a72_41 a72_44 a72_50), (74, o74 A74), (75, o75 A75), (76, o76 A76), (78, o78 (upd A78 (tn 3) q13.1))]) rfl ?_
                  refine r_mat (k := 77) h77 (l' := [(72, o72 a72_0 a72_2 q13.2.1 q13.2.2.1 q13.2.2.2.1 q13.2.2.2.2.1 q13.2.2.2.2.2 a72_8 a72_9 a72_10 a72_11 a72_17 a72_18 true a72_21 a72_22 a72_29 a72_31 a72_35 a72_37 a72_38 a72_39 a72_40 a72_41 a72_44 a72_50), (74, o74 A74), (75, o75 A75), (76, o76 A76), (77, o77 A77), (78, o78 (upd A78 (tn 3) q13.1))]) rfl ?_
                  obtain rfl := Option.some.inj hf
                  exact r_vret F hq dX12_readsPiece_166 rfl rfl (Nat.le_refl _) (Nat.le_refl _) ⟨rfl, rfl⟩
              · have hf := e_f hc hf
                refine r_aload_n F dX12_readsPiece_162 rfl ?_
                obtain ⟨q15, hq16, hf⟩ := e_bd hf
                refine r_callV F dX12_readsPiece_163 (b := 72) (dc := 0) (ds := 0) (As := []) (S0 := []) lkX12_150 mX12_bad (tX12_bad_72 hG (la := x_l X) (h := e_up h []) hnx h72 hq16) rfl rfl rfl (e_le rfl) (e_le rfl) (e_le rfl) h72 (ci := 12) e_cl12.1 rfl (e_le rfl) (e_lt hnx rfl) (Nat.zero_le _) (Nat.zero_le _) (e_k ?_)
                refine r_wr (l' := [(72, o72 a72_0 a72_2 a72_3 a72_4 q15 a72_6 a72_7 a72_8 a72_9 a72_10 a72_11 a72_17 a72_18 a72_19 a72_21 a72_22 a72_29 a72_31 a72_35 a72_37 a72_38 a72_39 a72_40 a72_41 a72_44 a72_50)]) rfl rfl ?_
                refine r_mat (k := 74) h74 (l' := [(72, o72 a72_0 a72_2 a72_3 a72_4 q15 a72_6 a72_7 a72_8 a72_9 a72_10 a72_11 a72_17 a72_18 a72_19 a72_21 a72_22 a72_29 a72_31 a72_35 a72_37 a72_38 a72_39 a72_40 a72_41 a72_44 a72_50), (74, o74 A74)]) rfl ?_
                refine r_mat (k := 75) h75 (l' := [(72, o72 a72_0 a72_2 a72_3 a72_4 q15 a72_6 a72_7 a72_8 a72_9 a72_10 a72_11 a72_17 a72_18 a72_19 a72_21 a72_22 a72_29 a72_31 a72_35 a72_37 a72_38 a72_39 a72_40 a72_41 a72_44 a72_50), (74, o74 A74), (75, o75 A75)]) rfl ?_
                refine r_mat (k := 76) h76 (l' := [(72, o72 a72_0 a72_2 a72_3 a72_4 q15 a72_6 a72_7 a72_8 a72_9 a72_10 a72_11 a72_17 a72_18 a72_19 a72_21 a72_22 a72_29 a72_31 a72_35 a72_37 a72_38 a72_39 a72_40 a72_41 a72_44 a72_50), (74, o74 A74), (75, o75 A75), (76, o76 A76)]) rfl ?_
                refine r_mat (k := 77) h77 (l' := [(72, o72 a72_0 a72_2 a72_3 a72_4 q15 a72_6 a72_7 a72_8 a72_9 a72_10 a72_11 a72_17 a72_18 a72_19 a72_21 a72_22 a72_29 a72_31 a72_35 a72_37 a72_38 a72_39 a72_40 a72_41 a72_44 a72_50), (74, o74 A74), (75, o75 A75), (76, o76 A76), (77, o77 A77)]) rfl ?_
                refine r_mat (k := 78) h78 (l' := [(72, o72 a72_0 a72_2 a72_3 a72_4 q15 a72_6 a72_7 a72_8 a72_9 a72_10 a72_11 a72_17 a72_18 a72_19 a72_21 a72_22 a72_29 a72_31 a72_35 a72_37 a72_38 a72_39 a72_40 a72_41 a72_44 a72_50), (74, o74 A74), (75, o75 A75), (76, o76 A76), (77, o77 A77), (78, o78 A78)]) rfl ?_
                obtain rfl := Option.some.inj hf
                exact r_vret F hq dX12_readsPiece_166 rfl rfl (Nat.le_refl _) (Nat.le_refl _) ⟨rfl, rfl⟩
            · have hf := e_f hc hf
              refine r_aload_n F dX12_readsPiece_97 rfl ?_
              refine r_iconst F dX12_readsPiece_98 (v := 1) (by decide) ?_
              refine r_put F dX12_readsPiece_99 (v := .int (e_b true)) flX12_186 rfl (e_b_nar _) (e_b_fit _) h72 (e_le rfl) (e_le rfl) (e_lt hnx rfl) (l' := [(72, o72 a72_0 a72_2 a72_3 a72_4 a72_5 a72_6 a72_7 a72_8 a72_9 a72_10 a72_11 a72_17 true a72_19 a72_21 a72_22 a72_29 a72_31 a72_35 a72_37 a72_38 a72_39 a72_40 a72_41 a72_44 a72_50)]) rfl ?_
              refine r_aload_n F dX12_readsPiece_102 rfl ?_
              obtain ⟨q17, hq18, hf⟩ := e_bd hf
              refine r_callV F dX12_readsPiece_103 (b := 72) (dc := 0) (ds := 0) (As := []) (S0 := []) lkX12_147 mX12_next (tX12_next_72 hG (la := x_l X) (h := e_up h [(72, o72 a72_0 a72_2 a72_3 a72_4 a72_5 a72_6 a72_7 a72_8 a72_9 a72_10 a72_11 a72_17 true a72_19 a72_21 a72_22 a72_29 a72_31 a72_35 a72_37 a72_38 a72_39 a72_40 a72_41 a72_44 a72_50)]) hnx rfl h73 hq18) rfl rfl rfl (e_le rfl) (e_le rfl) (e_le rfl) rfl (ci := 12) e_cl12.1 rfl (e_le rfl) (e_lt hnx rfl) (Nat.zero_le _) (Nat.zero_le _) (e_k ?_)
              refine r_wr (l' := [(72, o72 a72_0 a72_2 q17.1 q17.2.1 a72_5 q17.2.2.1 q17.2.2.2 a72_8 a72_9 a72_10 a72_11 a72_17 true a72_19 a72_21 a72_22 a72_29 a72_31 a72_35 a72_37 a72_38 a72_39 a72_40 a72_41 a72_44 a72_50)]) rfl rfl ?_
              refine r_aload_n F dX12_readsPiece_106 rfl ?_
              refine r_get F dX12_readsPiece_107 flX12_25 rfl rfl (e_le rfl) (e_lt hnx rfl) ?_
              refine r_iconst F dX12_readsPiece_110 (v := 2) (by decide) ?_
              refine r_aload_n F dX12_readsPiece_111 rfl ?_
              refine r_iconst F dX12_readsPiece_112 (v := 0) (by decide) ?_
              refine r_bipush F dX12_readsPiece_113 (v := 99) (by decide) ?_
              obtain ⟨q19, hq20, hf⟩ := e_bd hf
              refine r_callV F dX12_readsPiece_115 (b := 72) (dc := 0) (ds := 0) (As := [.int 0, .int 99]) (S0 := [.int 2, .ref 78]) lkX12_159 mX12_takesNumber (tX12_takesNumber_72 hG (la := x_l X) (h := e_up h [(72, o72 a72_0 a72_2 q17.1 q17.2.1 a72_5 q17.2.2.1 q17.2.2.2 a72_8 a72_9 a72_10 a72_11 a72_17 true a72_19 a72_21 a72_22 a72_29 a72_31 a72_35 a72_37 a72_38 a72_39 a72_40 a72_41 a72_44 a72_50)]) hnx rfl h73 hq20) rfl rfl rfl (e_le rfl) (e_le rfl) (e_le rfl) rfl (ci := 12) e_cl12.1 rfl (e_le rfl) (e_lt hnx rfl) (Nat.zero_le _) (Nat.zero_le _) (e_k ?_)
              refine r_wr (l' := [(72, o72 a72_0 a72_2 q19.2.1 q19.2.2.1 q19.2.2.2.1 q19.2.2.2.2.1 q19.2.2.2.2.2 a72_8 a72_9 a72_10 a72_11 a72_17 true a72_19 a72_21 a72_22 a72_29 a72_31 a72_35 a72_37 a72_38 a72_39 a72_40 a72_41 a72_44 a72_50)]) rfl rfl ?_
              refine r_iast F dX12_readsPiece_118 h78 (e_le rfl) (e_lt hnx rfl) (e_vp (by decide)) (l' := [(72, o72 a72_0 a72_2 q19.2.1 q19.2.2.1 q19.2.2.2.1 q19.2.2.2.2.1 q19.2.2.2.2.2 a72_8 a72_9 a72_10 a72_11 a72_17 true a72_19 a72_21 a72_22 a72_29 a72_31 a72_35 a72_37 a72_38 a72_39 a72_40 a72_41 a72_44 a72_50), (78, o78 (upd A78 (tn 2) q19.1))]) rfl ?_
              refine r_goto F dX12_readsPiece_119 (tgt := 166) (by decide) ?_
              refine r_mat (k := 74) h74 (l' := [(72, o72 a72_0 a72_2 q19.2.1 q19.2.2.1 q19.2.2.2.1 q19.2.2.2.2.1 q19.2.2.2.2.2 a72_8 a72_9 a72_10 a72_11 a72_17 true a72_19 a72_21 a72_22 a72_29 a72_31 a72_35 a72_37 a72_38 a72_39 a72_40 a72_41 a72_44 a72_50), (74, o74 A74), (78, o78 (upd A78 (tn 2) q19.1))]) rfl ?_
              refine r_mat (k := 75) h75 (l' := [(72, o72 a72_0 a72_2 q19.2.1 q19.2.2.1 q19.2.2.2.1 q19.2.2.2.2.1 q19.2.2.2.2.2 a72_8 a72_9 a72_10 a72_11 a72_17 true a72_19 a72_21 a72_22 a72_29 a72_31 a72_35 a72_37 a72_38 a72_39 a72_40 a72_41 a72_44 a72_50), (74, o74 A74), (75, o75 A75), (78, o78 (upd A78 (tn 2) q19.1))]) rfl ?_
              refine r_mat (k := 76) h76 (l' := [(72, o72 a72_0 a72_2 q19.2.1 q19.2.2.1 q19.2.2.2.1 q19.2.2.2.2.1 q19.2.2.2.2.2 a72_8 a72_9 a72_10 a72_11 a72_17 true a72_19 a72_21 a72_22 a72_29 a72_31 a72_35 a72_37 a72_38 a72_39 a72_40 a72_41 a72_44 a72_50), (74, o74 A74), (75, o75 A75), (76, o76 A76), (78, o78 (upd A78 (tn 2) q19.1))]) rfl ?_
              refine r_mat (k := 77) h77 (l' := [(72, o72 a72_0 a72_2 q19.2.1 q19.2.2.1 q19.2.2.2.1 q19.2.2.2.2.1 q19.2.2.2.2.2 a72_8 a72_9 a72_10 a72_11 a72_17 true a72_19 a72_21 a72_22 a72_29 a72_31 a72_35 a72_37 a72_38 a72_39 a72_40 a72_41 a72_44 a72_50), (74, o74 A74), (75, o75 A75), (76, o76 A76), (77, o77 A77), (78, o78 (upd A78 (tn 2) q19.1))]) rfl ?_
              obtain rfl := Option.some.inj hf
              exact r_vret F hq dX12_readsPiece_166 rfl rfl (Nat.le_refl _) (Nat.le_refl _) ⟨rfl, rfl⟩
          · have hf := e_f hc hf
            refine r_aload_n F dX12_readsPiece_122 rfl ?_
            refine r_ldcS F dX12_readsPiece_123 (tx := "rule") (a := 12) (by decide +kernel) ?_
            obtain ⟨q21, hq22, hf⟩ := e_bd hf
            refine r_callV F dX12_readsPiece_125 (b := 72) (dc := 0) (ds := 0) (As := [.ref 12]) (S0 := []) lkX12_171 mX12_isWord (tX12_isWord_72_12 hG (la := x_l X) (h := e_up h []) hnx h72 h73 hq22) rfl rfl rfl (e_le rfl) (e_le rfl) (e_le rfl) h72 (ci := 12) e_cl12.1 rfl (e_le rfl) (e_lt hnx rfl) (Nat.zero_le _) (Nat.zero_le _) (e_k ?_)
            refine r_wr0 ?_
            refine r_z_eq F dX12_readsPiece_128 (tgt := 162) (by decide) (fun hc => ?_) (fun hc => ?_)
            · have hf := e_t hc hf
              refine r_aload_n F dX12_readsPiece_131 rfl ?_
              refine r_get F dX12_readsPiece_132 flX12_191 h72 rfl (e_le rfl) (e_lt hnx rfl) ?_
              refine r_z_ne F dX12_readsPiece_135 (tgt := 162) (by decide) (fun hc => ?_) (fun hc => ?_)
              · have hf := e_t hc hf
                refine r_aload_n F dX12_readsPiece_162 rfl ?_
                obtain ⟨q23, hq24, hf⟩ := e_bd hf
                refine r_callV F dX12_readsPiece_163 (b := 72) (dc := 0) (ds := 0) (As := []) (S0 := []) lkX12_150 mX12_bad (tX12_bad_72 hG (la := x_l X) (h := e_up h []) hnx h72 hq24) rfl rfl rfl (e_le rfl) (e_le rfl) (e_le rfl) h72 (ci := 12) e_cl12.1 rfl (e_le rfl) (e_lt hnx rfl) (Nat.zero_le _) (Nat.zero_le _) (e_k ?_)
                refine r_wr (l' := [(72, o72 a72_0 a72_2 a72_3 a72_4 q23 a72_6 a72_7 a72_8 a72_9 a72_10 a72_11 a72_17 a72_18 a72_19 a72_21 a72_22 a72_29 a72_31 a72_35 a72_37 a72_38 a72_39 a72_40 a72_41 a72_44 a72_50)]) rfl rfl ?_
                refine r_mat (k := 74) h74 (l' := [(72, o72 a72_0 a72_2 a72_3 a72_4 q23 a72_6 a72_7 a72_8 a72_9 a72_10 a72_11 a72_17 a72_18 a72_19 a72_21 a72_22 a72_29 a72_31 a72_35 a72_37 a72_38 a72_39 a72_40 a72_41 a72_44 a72_50), (74, o74 A74)]) rfl ?_
                refine r_mat (k := 75) h75 (l' := [(72, o72 a72_0 a72_2 a72_3 a72_4 q23 a72_6 a72_7 a72_8 a72_9 a72_10 a72_11 a72_17 a72_18 a72_19 a72_21 a72_22 a72_29 a72_31 a72_35 a72_37 a72_38 a72_39 a72_40 a72_41 a72_44 a72_50), (74, o74 A74), (75, o75 A75)]) rfl ?_
                refine r_mat (k := 76) h76 (l' := [(72, o72 a72_0 a72_2 a72_3 a72_4 q23 a72_6 a72_7 a72_8 a72_9 a72_10 a72_11 a72_17 a72_18 a72_19 a72_21 a72_22 a72_29 a72_31 a72_35 a72_37 a72_38 a72_39 a72_40 a72_41 a72_44 a72_50), (74, o74 A74), (75, o75 A75), (76, o76 A76)]) rfl ?_
                refine r_mat (k := 77) h77 (l' := [(72, o72 a72_0 a72_2 a72_3 a72_4 q23 a72_6 a72_7 a72_8 a72_9 a72_10 a72_11 a72_17 a72_18 a72_19 a72_21 a72_22 a72_29 a72_31 a72_35 a72_37 a72_38 a72_39 a72_40 a72_41 a72_44 a72_50), (74, o74 A74), (75, o75 A75), (76, o76 A76), (77, o77 A77)]) rfl ?_
                refine r_mat (k := 78) h78 (l' := [(72, o72 a72_0 a72_2 a72_3 a72_4 q23 a72_6 a72_7 a72_8 a72_9 a72_10 a72_11 a72_17 a72_18 a72_19 a72_21 a72_22 a72_29 a72_31 a72_35 a72_37 a72_38 a72_39 a72_40 a72_41 a72_44 a72_50), (74, o74 A74), (75, o75 A75), (76, o76 A76), (77, o77 A77), (78, o78 A78)]) rfl ?_
                obtain rfl := Option.some.inj hf
                exact r_vret F hq dX12_readsPiece_166 rfl rfl (Nat.le_refl _) (Nat.le_refl _) ⟨rfl, rfl⟩
              · have hf := e_f hc hf
                refine r_aload_n F dX12_readsPiece_138 rfl ?_
                refine r_iconst F dX12_readsPiece_139 (v := 1) (by decide) ?_
                refine r_put F dX12_readsPiece_140 (v := .int (e_b true)) flX12_191 rfl (e_b_nar _) (e_b_fit _) h72 (e_le rfl) (e_le rfl) (e_lt hnx rfl) (l' := [(72, o72 a72_0 a72_2 a72_3 a72_4 a72_5 a72_6 a72_7 a72_8 a72_9 a72_10 a72_11 a72_17 a72_18 true a72_21 a72_22 a72_29 a72_31 a72_35 a72_37 a72_38 a72_39 a72_40 a72_41 a72_44 a72_50)]) rfl ?_
                refine r_aload_n F dX12_readsPiece_143 rfl ?_
                obtain ⟨q25, hq26, hf⟩ := e_bd hf
                refine r_callV F dX12_readsPiece_144 (b := 72) (dc := 0) (ds := 0) (As := []) (S0 := []) lkX12_147 mX12_next (tX12_next_72 hG (la := x_l X) (h := e_up h [(72, o72 a72_0 a72_2 a72_3 a72_4 a72_5 a72_6 a72_7 a72_8 a72_9 a72_10 a72_11 a72_17 a72_18 true a72_21 a72_22 a72_29 a72_31 a72_35 a72_37 a72_38 a72_39 a72_40 a72_41 a72_44 a72_50)]) hnx rfl h73 hq26) rfl rfl rfl (e_le rfl) (e_le rfl) (e_le rfl) rfl (ci := 12) e_cl12.1 rfl (e_le rfl) (e_lt hnx rfl) (Nat.zero_le _) (Nat.zero_le _) (e_k ?_)
                refine r_wr (l' := [(72, o72 a72_0 a72_2 q25.1 q25.2.1 a72_5 q25.2.2.1 q25.2.2.2 a72_8 a72_9 a72_10 a72_11 a72_17 a72_18 true a72_21 a72_22 a72_29 a72_31 a72_35 a72_37 a72_38 a72_39 a72_40 a72_41 a72_44 a72_50)]) rfl rfl ?_
                refine r_aload_n F dX12_readsPiece_147 rfl ?_
                refine r_get F dX12_readsPiece_148 flX12_25 rfl rfl (e_le rfl) (e_lt hnx rfl) ?_
                refine r_iconst F dX12_readsPiece_151 (v := 3) (by decide) ?_
                refine r_aload_n F dX12_readsPiece_152 rfl ?_
                refine r_iconst F dX12_readsPiece_153 (v := 0) (by decide) ?_
                refine r_iconst F dX12_readsPiece_154 (v := 2) (by decide) ?_
                obtain ⟨q27, hq28, hf⟩ := e_bd hf
                refine r_callV F dX12_readsPiece_155 (b := 72) (dc := 0) (ds := 0) (As := [.int 0, .int 2]) (S0 := [.int 3, .ref 78]) lkX12_159 mX12_takesNumber (tX12_takesNumber_72 hG (la := x_l X) (h := e_up h [(72, o72 a72_0 a72_2 q25.1 q25.2.1 a72_5 q25.2.2.1 q25.2.2.2 a72_8 a72_9 a72_10 a72_11 a72_17 a72_18 true a72_21 a72_22 a72_29 a72_31 a72_35 a72_37 a72_38 a72_39 a72_40 a72_41 a72_44 a72_50)]) hnx rfl h73 hq28) rfl rfl rfl (e_le rfl) (e_le rfl) (e_le rfl) rfl (ci := 12) e_cl12.1 rfl (e_le rfl) (e_lt hnx rfl) (Nat.zero_le _) (Nat.zero_le _) (e_k ?_)
                refine r_wr (l' := [(72, o72 a72_0 a72_2 q27.2.1 q27.2.2.1 q27.2.2.2.1 q27.2.2.2.2.1 q27.2.2.2.2.2 a72_8 a72_9 a72_10 a72_11 a72_17 a72_18 true a72_21 a72_22 a72_29 a72_31 a72_35 a72_37 a72_38 a72_39 a72_40 a72_41 a72_44 a72_50)]) rfl rfl ?_
                refine r_iast F dX12_readsPiece_158 h78 (e_le rfl) (e_lt hnx rfl) (e_vp (by decide)) (l' := [(72, o72 a72_0 a72_2 q27.2.1 q27.2.2.1 q27.2.2.2.1 q27.2.2.2.2.1 q27.2.2.2.2.2 a72_8 a72_9 a72_10 a72_11 a72_17 a72_18 true a72_21 a72_22 a72_29 a72_31 a72_35 a72_37 a72_38 a72_39 a72_40 a72_41 a72_44 a72_50), (78, o78 (upd A78 (tn 3) q27.1))]) rfl ?_
                refine r_goto F dX12_readsPiece_159 (tgt := 166) (by decide) ?_
                refine r_mat (k := 74) h74 (l' := [(72, o72 a72_0 a72_2 q27.2.1 q27.2.2.1 q27.2.2.2.1 q27.2.2.2.2.1 q27.2.2.2.2.2 a72_8 a72_9 a72_10 a72_11 a72_17 a72_18 true a72_21 a72_22 a72_29 a72_31 a72_35 a72_37 a72_38 a72_39 a72_40 a72_41 a72_44 a72_50), (74, o74 A74), (78, o78 (upd A78 (tn 3) q27.1))]) rfl ?_
                refine r_mat (k := 75) h75 (l' := [(72, o72 a72_0 a72_2 q27.2.1 q27.2.2.1 q27.2.2.2.1 q27.2.2.2.2.1 q27.2.2.2.2.2 a72_8 a72_9 a72_10 a72_11 a72_17 a72_18 true a72_21 a72_22 a72_29 a72_31 a72_35 a72_37 a72_38 a72_39 a72_40 a72_41 a72_44 a72_50), (74, o74 A74), (75, o75 A75), (78, o78 (upd A78 (tn 3) q27.1))]) rfl ?_
                refine r_mat (k := 76) h76 (l' := [(72, o72 a72_0 a72_2 q27.2.1 q27.2.2.1 q27.2.2.2.1 q27.2.2.2.2.1 q27.2.2.2.2.2 a72_8 a72_9 a72_10 a72_11 a72_17 a72_18 true a72_21 a72_22 a72_29 a72_31 a72_35 a72_37 a72_38 a72_39 a72_40 a72_41 a72_44 a72_50), (74, o74 A74), (75, o75 A75), (76, o76 A76), (78, o78 (upd A78 (tn 3) q27.1))]) rfl ?_
                refine r_mat (k := 77) h77 (l' := [(72, o72 a72_0 a72_2 q27.2.1 q27.2.2.1 q27.2.2.2.1 q27.2.2.2.2.1 q27.2.2.2.2.2 a72_8 a72_9 a72_10 a72_11 a72_17 a72_18 true a72_21 a72_22 a72_29 a72_31 a72_35 a72_37 a72_38 a72_39 a72_40 a72_41 a72_44 a72_50), (74, o74 A74), (75, o75 A75), (76, o76 A76), (77, o77 A77), (78, o78 (upd A78 (tn 3) q27.1))]) rfl ?_
                obtain rfl := Option.some.inj hf
                exact r_vret F hq dX12_readsPiece_166 rfl rfl (Nat.le_refl _) (Nat.le_refl _) ⟨rfl, rfl⟩
            · have hf := e_f hc hf
              refine r_aload_n F dX12_readsPiece_162 rfl ?_
              obtain ⟨q29, hq30, hf⟩ := e_bd hf
              refine r_callV F dX12_readsPiece_163 (b := 72) (dc := 0) (ds := 0) (As := []) (S0 := []) lkX12_150 mX12_bad (tX12_bad_72 hG (la := x_l X) (h := e_up h []) hnx h72 hq30) rfl rfl rfl (e_le rfl) (e_le rfl) (e_le rfl) h72 (ci := 12) e_cl12.1 rfl (e_le rfl) (e_lt hnx rfl) (Nat.zero_le _) (Nat.zero_le _) (e_k ?_)
              refine r_wr (l' := [(72, o72 a72_0 a72_2 a72_3 a72_4 q29 a72_6 a72_7 a72_8 a72_9 a72_10 a72_11 a72_17 a72_18 a72_19 a72_21 a72_22 a72_29 a72_31 a72_35 a72_37 a72_38 a72_39 a72_40 a72_41 a72_44 a72_50)]) rfl rfl ?_
              refine r_mat (k := 74) h74 (l' := [(72, o72 a72_0 a72_2 a72_3 a72_4 q29 a72_6 a72_7 a72_8 a72_9 a72_10 a72_11 a72_17 a72_18 a72_19 a72_21 a72_22 a72_29 a72_31 a72_35 a72_37 a72_38 a72_39 a72_40 a72_41 a72_44 a72_50), (74, o74 A74)]) rfl ?_
              refine r_mat (k := 75) h75 (l' := [(72, o72 a72_0 a72_2 a72_3 a72_4 q29 a72_6 a72_7 a72_8 a72_9 a72_10 a72_11 a72_17 a72_18 a72_19 a72_21 a72_22 a72_29 a72_31 a72_35 a72_37 a72_38 a72_39 a72_40 a72_41 a72_44 a72_50), (74, o74 A74), (75, o75 A75)]) rfl ?_
              refine r_mat (k := 76) h76 (l' := [(72, o72 a72_0 a72_2 a72_3 a72_4 q29 a72_6 a72_7 a72_8 a72_9 a72_10 a72_11 a72_17 a72_18 a72_19 a72_21 a72_22 a72_29 a72_31 a72_35 a72_37 a72_38 a72_39 a72_40 a72_41 a72_44 a72_50), (74, o74 A74), (75, o75 A75), (76, o76 A76)]) rfl ?_
              refine r_mat (k := 77) h77 (l' := [(72, o72 a72_0 a72_2 a72_3 a72_4 q29 a72_6 a72_7 a72_8 a72_9 a72_10 a72_11 a72_17 a72_18 a72_19 a72_21 a72_22 a72_29 a72_31 a72_35 a72_37 a72_38 a72_39 a72_40 a72_41 a72_44 a72_50), (74, o74 A74), (75, o75 A75), (76, o76 A76), (77, o77 A77)]) rfl ?_
              refine r_mat (k := 78) h78 (l' := [(72, o72 a72_0 a72_2 a72_3 a72_4 q29 a72_6 a72_7 a72_8 a72_9 a72_10 a72_11 a72_17 a72_18 a72_19 a72_21 a72_22 a72_29 a72_31 a72_35 a72_37 a72_38 a72_39 a72_40 a72_41 a72_44 a72_50), (74, o74 A74), (75, o75 A75), (76, o76 A76), (77, o77 A77), (78, o78 A78)]) rfl ?_
              obtain rfl := Option.some.inj hf
              exact r_vret F hq dX12_readsPiece_166 rfl rfl (Nat.le_refl _) (Nat.le_refl _) ⟨rfl, rfl⟩
        · have hf := e_f hc hf
          refine r_aload_n F dX12_readsPiece_41 rfl ?_
          refine r_iconst F dX12_readsPiece_42 (v := 1) (by decide) ?_
          refine r_put F dX12_readsPiece_43 (v := .int (e_b true)) flX12_180 rfl (e_b_nar _) (e_b_fit _) h72 (e_le rfl) (e_le rfl) (e_lt hnx rfl) (l' := [(72, o72 a72_0 a72_2 a72_3 a72_4 a72_5 a72_6 a72_7 a72_8 a72_9 a72_10 a72_11 true a72_18 a72_19 a72_21 a72_22 a72_29 a72_31 a72_35 a72_37 a72_38 a72_39 a72_40 a72_41 a72_44 a72_50)]) rfl ?_
          refine r_aload_n F dX12_readsPiece_46 rfl ?_
          obtain ⟨q31, hq32, hf⟩ := e_bd hf
          refine r_callV F dX12_readsPiece_47 (b := 72) (dc := 0) (ds := 0) (As := []) (S0 := []) lkX12_147 mX12_next (tX12_next_72 hG (la := x_l X) (h := e_up h [(72, o72 a72_0 a72_2 a72_3 a72_4 a72_5 a72_6 a72_7 a72_8 a72_9 a72_10 a72_11 true a72_18 a72_19 a72_21 a72_22 a72_29 a72_31 a72_35 a72_37 a72_38 a72_39 a72_40 a72_41 a72_44 a72_50)]) hnx rfl h73 hq32) rfl rfl rfl (e_le rfl) (e_le rfl) (e_le rfl) rfl (ci := 12) e_cl12.1 rfl (e_le rfl) (e_lt hnx rfl) (Nat.zero_le _) (Nat.zero_le _) (e_k ?_)
          refine r_wr (l' := [(72, o72 a72_0 a72_2 q31.1 q31.2.1 a72_5 q31.2.2.1 q31.2.2.2 a72_8 a72_9 a72_10 a72_11 true a72_18 a72_19 a72_21 a72_22 a72_29 a72_31 a72_35 a72_37 a72_38 a72_39 a72_40 a72_41 a72_44 a72_50)]) rfl rfl ?_
          refine r_aload_n F dX12_readsPiece_50 rfl ?_
          refine r_get F dX12_readsPiece_51 flX12_25 rfl rfl (e_le rfl) (e_lt hnx rfl) ?_
          refine r_iconst F dX12_readsPiece_54 (v := 0) (by decide) ?_
          refine r_aload_n F dX12_readsPiece_55 rfl ?_
          refine r_bipush F dX12_readsPiece_56 (v := (-20)) (by decide) ?_
          refine r_bipush F dX12_readsPiece_58 (v := 20) (by decide) ?_
          obtain ⟨q33, hq34, hf⟩ := e_bd hf
          refine r_callV F dX12_readsPiece_60 (b := 72) (dc := 0) (ds := 0) (As := [.int (-20), .int 20]) (S0 := [.int 0, .ref 78]) lkX12_159 mX12_takesNumber (tX12_takesNumber_72 hG (la := x_l X) (h := e_up h [(72, o72 a72_0 a72_2 q31.1 q31.2.1 a72_5 q31.2.2.1 q31.2.2.2 a72_8 a72_9 a72_10 a72_11 true a72_18 a72_19 a72_21 a72_22 a72_29 a72_31 a72_35 a72_37 a72_38 a72_39 a72_40 a72_41 a72_44 a72_50)]) hnx rfl h73 hq34) rfl rfl rfl (e_le rfl) (e_le rfl) (e_le rfl) rfl (ci := 12) e_cl12.1 rfl (e_le rfl) (e_lt hnx rfl) (Nat.zero_le _) (Nat.zero_le _) (e_k ?_)
          refine r_wr (l' := [(72, o72 a72_0 a72_2 q33.2.1 q33.2.2.1 q33.2.2.2.1 q33.2.2.2.2.1 q33.2.2.2.2.2 a72_8 a72_9 a72_10 a72_11 true a72_18 a72_19 a72_21 a72_22 a72_29 a72_31 a72_35 a72_37 a72_38 a72_39 a72_40 a72_41 a72_44 a72_50)]) rfl rfl ?_
          refine r_iast F dX12_readsPiece_63 h78 (e_le rfl) (e_lt hnx rfl) (e_vp (by decide)) (l' := [(72, o72 a72_0 a72_2 q33.2.1 q33.2.2.1 q33.2.2.2.1 q33.2.2.2.2.1 q33.2.2.2.2.2 a72_8 a72_9 a72_10 a72_11 true a72_18 a72_19 a72_21 a72_22 a72_29 a72_31 a72_35 a72_37 a72_38 a72_39 a72_40 a72_41 a72_44 a72_50), (78, o78 (upd A78 (tn 0) q33.1))]) rfl ?_
          refine r_aload_n F dX12_readsPiece_64 rfl ?_
          refine r_get F dX12_readsPiece_65 flX12_25 rfl rfl (e_le rfl) (e_lt hnx rfl) ?_
          refine r_iconst F dX12_readsPiece_68 (v := 1) (by decide) ?_
          refine r_aload_n F dX12_readsPiece_69 rfl ?_
          refine r_bipush F dX12_readsPiece_70 (v := (-20)) (by decide) ?_
          refine r_bipush F dX12_readsPiece_72 (v := 20) (by decide) ?_
          obtain ⟨q35, hq36, hf⟩ := e_bd hf
          refine r_callV F dX12_readsPiece_74 (b := 72) (dc := 0) (ds := 0) (As := [.int (-20), .int 20]) (S0 := [.int 1, .ref 78]) lkX12_159 mX12_takesNumber (tX12_takesNumber_72 hG (la := x_l X) (h := e_up h [(72, o72 a72_0 a72_2 q33.2.1 q33.2.2.1 q33.2.2.2.1 q33.2.2.2.2.1 q33.2.2.2.2.2 a72_8 a72_9 a72_10 a72_11 true a72_18 a72_19 a72_21 a72_22 a72_29 a72_31 a72_35 a72_37 a72_38 a72_39 a72_40 a72_41 a72_44 a72_50), (78, o78 (upd A78 (tn 0) q33.1))]) hnx rfl h73 hq36) rfl rfl rfl (e_le rfl) (e_le rfl) (e_le rfl) rfl (ci := 12) e_cl12.1 rfl (e_le rfl) (e_lt hnx rfl) (Nat.zero_le _) (Nat.zero_le _) (e_k ?_)
          refine r_wr (l' := [(72, o72 a72_0 a72_2 q35.2.1 q35.2.2.1 q35.2.2.2.1 q35.2.2.2.2.1 q35.2.2.2.2.2 a72_8 a72_9 a72_10 a72_11 true a72_18 a72_19 a72_21 a72_22 a72_29 a72_31 a72_35 a72_37 a72_38 a72_39 a72_40 a72_41 a72_44 a72_50), (78, o78 (upd A78 (tn 0) q33.1))]) rfl rfl ?_
          refine r_iast F dX12_readsPiece_77 rfl (e_le rfl) (e_lt hnx rfl) (e_vp (by decide)) (l' := [(72, o72 a72_0 a72_2 q35.2.1 q35.2.2.1 q35.2.2.2.1 q35.2.2.2.2.1 q35.2.2.2.2.2 a72_8 a72_9 a72_10 a72_11 true a72_18 a72_19 a72_21 a72_22 a72_29 a72_31 a72_35 a72_37 a72_38 a72_39 a72_40 a72_41 a72_44 a72_50), (78, o78 (upd (upd A78 (tn 0) q33.1) (tn 1) q35.1))]) rfl ?_
          refine r_goto F dX12_readsPiece_78 (tgt := 166) (by decide) ?_
          refine r_mat (k := 74) h74 (l' := [(72, o72 a72_0 a72_2 q35.2.1 q35.2.2.1 q35.2.2.2.1 q35.2.2.2.2.1 q35.2.2.2.2.2 a72_8 a72_9 a72_10 a72_11 true a72_18 a72_19 a72_21 a72_22 a72_29 a72_31 a72_35 a72_37 a72_38 a72_39 a72_40 a72_41 a72_44 a72_50), (74, o74 A74), (78, o78 (upd (upd A78 (tn 0) q33.1) (tn 1) q35.1))]) rfl ?_
          refine r_mat (k := 75) h75 (l' := [(72, o72 a72_0 a72_2 q35.2.1 q35.2.2.1 q35.2.2.2.1 q35.2.2.2.2.1 q35.2.2.2.2.2 a72_8 a72_9 a72_10 a72_11 true a72_18 a72_19 a72_21 a72_22 a72_29 a72_31 a72_35 a72_37 a72_38 a72_39 a72_40 a72_41 a72_44 a72_50), (74, o74 A74), (75, o75 A75), (78, o78 (upd (upd A78 (tn 0) q33.1) (tn 1) q35.1))]) rfl ?_
          refine r_mat (k := 76) h76 (l' := [(72, o72 a72_0 a72_2 q35.2.1 q35.2.2.1 q35.2.2.2.1 q35.2.2.2.2.1 q35.2.2.2.2.2 a72_8 a72_9 a72_10 a72_11 true a72_18 a72_19 a72_21 a72_22 a72_29 a72_31 a72_35 a72_37 a72_38 a72_39 a72_40 a72_41 a72_44 a72_50), (74, o74 A74), (75, o75 A75), (76, o76 A76), (78, o78 (upd (upd A78 (tn 0) q33.1) (tn 1) q35.1))]) rfl ?_
          refine r_mat (k := 77) h77 (l' := [(72, o72 a72_0 a72_2 q35.2.1 q35.2.2.1 q35.2.2.2.1 q35.2.2.2.2.1 q35.2.2.2.2.2 a72_8 a72_9 a72_10 a72_11 true a72_18 a72_19 a72_21 a72_22 a72_29 a72_31 a72_35 a72_37 a72_38 a72_39 a72_40 a72_41 a72_44 a72_50), (74, o74 A74), (75, o75 A75), (76, o76 A76), (77, o77 A77), (78, o78 (upd (upd A78 (tn 0) q33.1) (tn 1) q35.1))]) rfl ?_
          obtain rfl := Option.some.inj hf
          exact r_vret F hq dX12_readsPiece_166 rfl rfl (Nat.le_refl _) (Nat.le_refl _) ⟨rfl, rfl⟩
      · have hf := e_f hc hf
        refine r_aload_n F dX12_readsPiece_81 rfl ?_
        refine r_ldcS F dX12_readsPiece_82 (tx := "hold") (a := 11) (by decide +kernel) ?_
        obtain ⟨q37, hq38, hf⟩ := e_bd hf
        refine r_callV F dX12_readsPiece_84 (b := 72) (dc := 0) (ds := 0) (As := [.ref 11]) (S0 := []) lkX12_171 mX12_isWord (tX12_isWord_72_11 hG (la := x_l X) (h := e_up h []) hnx h72 h73 hq38) rfl rfl rfl (e_le rfl) (e_le rfl) (e_le rfl) h72 (ci := 12) e_cl12.1 rfl (e_le rfl) (e_lt hnx rfl) (Nat.zero_le _) (Nat.zero_le _) (e_k ?_)
        refine r_wr0 ?_
        refine r_z_eq F dX12_readsPiece_87 (tgt := 122) (by decide) (fun hc => ?_) (fun hc => ?_)
        · have hf := e_t hc hf
          refine r_aload_n F dX12_readsPiece_90 rfl ?_
          refine r_get F dX12_readsPiece_91 flX12_186 h72 rfl (e_le rfl) (e_lt hnx rfl) ?_
          refine r_z_ne F dX12_readsPiece_94 (tgt := 122) (by decide) (fun hc => ?_) (fun hc => ?_)
          · have hf := e_t hc hf
            refine r_aload_n F dX12_readsPiece_122 rfl ?_
            refine r_ldcS F dX12_readsPiece_123 (tx := "rule") (a := 12) (by decide +kernel) ?_
            obtain ⟨q39, hq40, hf⟩ := e_bd hf
            refine r_callV F dX12_readsPiece_125 (b := 72) (dc := 0) (ds := 0) (As := [.ref 12]) (S0 := []) lkX12_171 mX12_isWord (tX12_isWord_72_12 hG (la := x_l X) (h := e_up h []) hnx h72 h73 hq40) rfl rfl rfl (e_le rfl) (e_le rfl) (e_le rfl) h72 (ci := 12) e_cl12.1 rfl (e_le rfl) (e_lt hnx rfl) (Nat.zero_le _) (Nat.zero_le _) (e_k ?_)
            refine r_wr0 ?_
            refine r_z_eq F dX12_readsPiece_128 (tgt := 162) (by decide) (fun hc => ?_) (fun hc => ?_)
            · have hf := e_t hc hf
              refine r_aload_n F dX12_readsPiece_131 rfl ?_
              refine r_get F dX12_readsPiece_132 flX12_191 h72 rfl (e_le rfl) (e_lt hnx rfl) ?_
              refine r_z_ne F dX12_readsPiece_135 (tgt := 162) (by decide) (fun hc => ?_) (fun hc => ?_)
              · have hf := e_t hc hf
                refine r_aload_n F dX12_readsPiece_162 rfl ?_
                obtain ⟨q41, hq42, hf⟩ := e_bd hf
                refine r_callV F dX12_readsPiece_163 (b := 72) (dc := 0) (ds := 0) (As := []) (S0 := []) lkX12_150 mX12_bad (tX12_bad_72 hG (la := x_l X) (h := e_up h []) hnx h72 hq42) rfl rfl rfl (e_le rfl) (e_le rfl) (e_le rfl) h72 (ci := 12) e_cl12.1 rfl (e_le rfl) (e_lt hnx rfl) (Nat.zero_le _) (Nat.zero_le _) (e_k ?_)
                refine r_wr (l' := [(72, o72 a72_0 a72_2 a72_3 a72_4 q41 a72_6 a72_7 a72_8 a72_9 a72_10 a72_11 a72_17 a72_18 a72_19 a72_21 a72_22 a72_29 a72_31 a72_35 a72_37 a72_38 a72_39 a72_40 a72_41 a72_44 a72_50)]) rfl rfl ?_
                refine r_mat (k := 74) h74 (l' := [(72, o72 a72_0 a72_2 a72_3 a72_4 q41 a72_6 a72_7 a72_8 a72_9 a72_10 a72_11 a72_17 a72_18 a72_19 a72_21 a72_22 a72_29 a72_31 a72_35 a72_37 a72_38 a72_39 a72_40 a72_41 a72_44 a72_50), (74, o74 A74)]) rfl ?_
                refine r_mat (k := 75) h75 (l' := [(72, o72 a72_0 a72_2 a72_3 a72_4 q41 a72_6 a72_7 a72_8 a72_9 a72_10 a72_11 a72_17 a72_18 a72_19 a72_21 a72_22 a72_29 a72_31 a72_35 a72_37 a72_38 a72_39 a72_40 a72_41 a72_44 a72_50), (74, o74 A74), (75, o75 A75)]) rfl ?_
                refine r_mat (k := 76) h76 (l' := [(72, o72 a72_0 a72_2 a72_3 a72_4 q41 a72_6 a72_7 a72_8 a72_9 a72_10 a72_11 a72_17 a72_18 a72_19 a72_21 a72_22 a72_29 a72_31 a72_35 a72_37 a72_38 a72_39 a72_40 a72_41 a72_44 a72_50), (74, o74 A74), (75, o75 A75), (76, o76 A76)]) rfl ?_
                refine r_mat (k := 77) h77 (l' := [(72, o72 a72_0 a72_2 a72_3 a72_4 q41 a72_6 a72_7 a72_8 a72_9 a72_10 a72_11 a72_17 a72_18 a72_19 a72_21 a72_22 a72_29 a72_31 a72_35 a72_37 a72_38 a72_39 a72_40 a72_41 a72_44 a72_50), (74, o74 A74), (75, o75 A75), (76, o76 A76), (77, o77 A77)]) rfl ?_
                refine r_mat (k := 78) h78 (l' := [(72, o72 a72_0 a72_2 a72_3 a72_4 q41 a72_6 a72_7 a72_8 a72_9 a72_10 a72_11 a72_17 a72_18 a72_19 a72_21 a72_22 a72_29 a72_31 a72_35 a72_37 a72_38 a72_39 a72_40 a72_41 a72_44 a72_50), (74, o74 A74), (75, o75 A75), (76, o76 A76), (77, o77 A77), (78, o78 A78)]) rfl ?_
                obtain rfl := Option.some.inj hf
                exact r_vret F hq dX12_readsPiece_166 rfl rfl (Nat.le_refl _) (Nat.le_refl _) ⟨rfl, rfl⟩
              · have hf := e_f hc hf
                refine r_aload_n F dX12_readsPiece_138 rfl ?_
                refine r_iconst F dX12_readsPiece_139 (v := 1) (by decide) ?_
                refine r_put F dX12_readsPiece_140 (v := .int (e_b true)) flX12_191 rfl (e_b_nar _) (e_b_fit _) h72 (e_le rfl) (e_le rfl) (e_lt hnx rfl) (l' := [(72, o72 a72_0 a72_2 a72_3 a72_4 a72_5 a72_6 a72_7 a72_8 a72_9 a72_10 a72_11 a72_17 a72_18 true a72_21 a72_22 a72_29 a72_31 a72_35 a72_37 a72_38 a72_39 a72_40 a72_41 a72_44 a72_50)]) rfl ?_
                refine r_aload_n F dX12_readsPiece_143 rfl ?_
                obtain ⟨q43, hq44, hf⟩ := e_bd hf
                refine r_callV F dX12_readsPiece_144 (b := 72) (dc := 0) (ds := 0) (As := []) (S0 := []) lkX12_147 mX12_next (tX12_next_72 hG (la := x_l X) (h := e_up h [(72, o72 a72_0 a72_2 a72_3 a72_4 a72_5 a72_6 a72_7 a72_8 a72_9 a72_10 a72_11 a72_17 a72_18 true a72_21 a72_22 a72_29 a72_31 a72_35 a72_37 a72_38 a72_39 a72_40 a72_41 a72_44 a72_50)]) hnx rfl h73 hq44) rfl rfl rfl (e_le rfl) (e_le rfl) (e_le rfl) rfl (ci := 12) e_cl12.1 rfl (e_le rfl) (e_lt hnx rfl) (Nat.zero_le _) (Nat.zero_le _) (e_k ?_)
                refine r_wr (l' := [(72, o72 a72_0 a72_2 q43.1 q43.2.1 a72_5 q43.2.2.1 q43.2.2.2 a72_8 a72_9 a72_10 a72_11 a72_17 a72_18 true a72_21 a72_22 a72_29 a72_31 a72_35 a72_37 a72_38 a72_39 a72_40 a72_41 a72_44 a72_50)]) rfl rfl ?_
                refine r_aload_n F dX12_readsPiece_147 rfl ?_
                refine r_get F dX12_readsPiece_148 flX12_25 rfl rfl (e_le rfl) (e_lt hnx rfl) ?_
                refine r_iconst F dX12_readsPiece_151 (v := 3) (by decide) ?_
                refine r_aload_n F dX12_readsPiece_152 rfl ?_
                refine r_iconst F dX12_readsPiece_153 (v := 0) (by decide) ?_
                refine r_iconst F dX12_readsPiece_154 (v := 2) (by decide) ?_
                obtain ⟨q45, hq46, hf⟩ := e_bd hf
                refine r_callV F dX12_readsPiece_155 (b := 72) (dc := 0) (ds := 0) (As := [.int 0, .int 2]) (S0 := [.int 3, .ref 78]) lkX12_159 mX12_takesNumber (tX12_takesNumber_72 hG (la := x_l X) (h := e_up h [(72, o72 a72_0 a72_2 q43.1 q43.2.1 a72_5 q43.2.2.1 q43.2.2.2 a72_8 a72_9 a72_10 a72_11 a72_17 a72_18 true a72_21 a72_22 a72_29 a72_31 a72_35 a72_37 a72_38 a72_39 a72_40 a72_41 a72_44 a72_50)]) hnx rfl h73 hq46) rfl rfl rfl (e_le rfl) (e_le rfl) (e_le rfl) rfl (ci := 12) e_cl12.1 rfl (e_le rfl) (e_lt hnx rfl) (Nat.zero_le _) (Nat.zero_le _) (e_k ?_)
                refine r_wr (l' := [(72, o72 a72_0 a72_2 q45.2.1 q45.2.2.1 q45.2.2.2.1 q45.2.2.2.2.1 q45.2.2.2.2.2 a72_8 a72_9 a72_10 a72_11 a72_17 a72_18 true a72_21 a72_22 a72_29 a72_31 a72_35 a72_37 a72_38 a72_39 a72_40 a72_41 a72_44 a72_50)]) rfl rfl ?_
                refine r_iast F dX12_readsPiece_158 h78 (e_le rfl) (e_lt hnx rfl) (e_vp (by decide)) (l' := [(72, o72 a72_0 a72_2 q45.2.1 q45.2.2.1 q45.2.2.2.1 q45.2.2.2.2.1 q45.2.2.2.2.2 a72_8 a72_9 a72_10 a72_11 a72_17 a72_18 true a72_21 a72_22 a72_29 a72_31 a72_35 a72_37 a72_38 a72_39 a72_40 a72_41 a72_44 a72_50), (78, o78 (upd A78 (tn 3) q45.1))]) rfl ?_
                refine r_goto F dX12_readsPiece_159 (tgt := 166) (by decide) ?_
                refine r_mat (k := 74) h74 (l' := [(72, o72 a72_0 a72_2 q45.2.1 q45.2.2.1 q45.2.2.2.1 q45.2.2.2.2.1 q45.2.2.2.2.2 a72_8 a72_9 a72_10 a72_11 a72_17 a72_18 true a72_21 a72_22 a72_29 a72_31 a72_35 a72_37 a72_38 a72_39 a72_40 a72_41 a72_44 a72_50), (74, o74 A74), (78, o78 (upd A78 (tn 3) q45.1))]) rfl ?_
                refine r_mat (k := 75) h75 (l' := [(72, o72 a72_0 a72_2 q45.2.1 q45.2.2.1 q45.2.2.2.1 q45.2.2.2.2.1 q45.2.2.2.2.2 a72_8 a72_9 a72_10 a72_11 a72_17 a72_18 true a72_21 a72_22 a72_29 a72_31 a72_35 a72_37 a72_38 a72_39 a72_40 a72_41 a72_44 a72_50), (74, o74 A74), (75, o75 A75), (78, o78 (upd A78 (tn 3) q45.1))]) rfl ?_
                refine r_mat (k := 76) h76 (l' := [(72, o72 a72_0 a72_2 q45.2.1 q45.2.2.1 q45.2.2.2.1 q45.2.2.2.2.1 q45.2.2.2.2.2 a72_8 a72_9 a72_10 a72_11 a72_17 a72_18 true a72_21 a72_22 a72_29 a72_31 a72_35 a72_37 a72_38 a72_39 a72_40 a72_41 a72_44 a72_50), (74, o74 A74), (75, o75 A75), (76, o76 A76), (78, o78 (upd A78 (tn 3) q45.1))]) rfl ?_
                refine r_mat (k := 77) h77 (l' := [(72, o72 a72_0 a72_2 q45.2.1 q45.2.2.1 q45.2.2.2.1 q45.2.2.2.2.1 q45.2.2.2.2.2 a72_8 a72_9 a72_10 a72_11 a72_17 a72_18 true a72_21 a72_22 a72_29 a72_31 a72_35 a72_37 a72_38 a72_39 a72_40 a72_41 a72_44 a72_50), (74, o74 A74), (75, o75 A75), (76, o76 A76), (77, o77 A77), (78, o78 (upd A78 (tn 3) q45.1))]) rfl ?_
                obtain rfl := Option.some.inj hf
                exact r_vret F hq dX12_readsPiece_166 rfl rfl (Nat.le_refl _) (Nat.le_refl _) ⟨rfl, rfl⟩
            · have hf := e_f hc hf
              refine r_aload_n F dX12_readsPiece_162 rfl ?_
              obtain ⟨q47, hq48, hf⟩ := e_bd hf
              refine r_callV F dX12_readsPiece_163 (b := 72) (dc := 0) (ds := 0) (As := []) (S0 := []) lkX12_150 mX12_bad (tX12_bad_72 hG (la := x_l X) (h := e_up h []) hnx h72 hq48) rfl rfl rfl (e_le rfl) (e_le rfl) (e_le rfl) h72 (ci := 12) e_cl12.1 rfl (e_le rfl) (e_lt hnx rfl) (Nat.zero_le _) (Nat.zero_le _) (e_k ?_)
              refine r_wr (l' := [(72, o72 a72_0 a72_2 a72_3 a72_4 q47 a72_6 a72_7 a72_8 a72_9 a72_10 a72_11 a72_17 a72_18 a72_19 a72_21 a72_22 a72_29 a72_31 a72_35 a72_37 a72_38 a72_39 a72_40 a72_41 a72_44 a72_50)]) rfl rfl ?_
              refine r_mat (k := 74) h74 (l' := [(72, o72 a72_0 a72_2 a72_3 a72_4 q47 a72_6 a72_7 a72_8 a72_9 a72_10 a72_11 a72_17 a72_18 a72_19 a72_21 a72_22 a72_29 a72_31 a72_35 a72_37 a72_38 a72_39 a72_40 a72_41 a72_44 a72_50), (74, o74 A74)]) rfl ?_
              refine r_mat (k := 75) h75 (l' := [(72, o72 a72_0 a72_2 a72_3 a72_4 q47 a72_6 a72_7 a72_8 a72_9 a72_10 a72_11 a72_17 a72_18 a72_19 a72_21 a72_22 a72_29 a72_31 a72_35 a72_37 a72_38 a72_39 a72_40 a72_41 a72_44 a72_50), (74, o74 A74), (75, o75 A75)]) rfl ?_
              refine r_mat (k := 76) h76 (l' := [(72, o72 a72_0 a72_2 a72_3 a72_4 q47 a72_6 a72_7 a72_8 a72_9 a72_10 a72_11 a72_17 a72_18 a72_19 a72_21 a72_22 a72_29 a72_31 a72_35 a72_37 a72_38 a72_39 a72_40 a72_41 a72_44 a72_50), (74, o74 A74), (75, o75 A75), (76, o76 A76)]) rfl ?_
              refine r_mat (k := 77) h77 (l' := [(72, o72 a72_0 a72_2 a72_3 a72_4 q47 a72_6 a72_7 a72_8 a72_9 a72_10 a72_11 a72_17 a72_18 a72_19 a72_21 a72_22 a72_29 a72_31 a72_35 a72_37 a72_38 a72_39 a72_40 a72_41 a72_44 a72_50), (74, o74 A74), (75, o75 A75), (76, o76 A76), (77, o77 A77)]) rfl ?_
              refine r_mat (k := 78) h78 (l' := [(72, o72 a72_0 a72_2 a72_3 a72_4 q47 a72_6 a72_7 a72_8 a72_9 a72_10 a72_11 a72_17 a72_18 a72_19 a72_21 a72_22 a72_29 a72_31 a72_35 a72_37 a72_38 a72_39 a72_40 a72_41 a72_44 a72_50), (74, o74 A74), (75, o75 A75), (76, o76 A76), (77, o77 A77), (78, o78 A78)]) rfl ?_
              obtain rfl := Option.some.inj hf
              exact r_vret F hq dX12_readsPiece_166 rfl rfl (Nat.le_refl _) (Nat.le_refl _) ⟨rfl, rfl⟩
          · have hf := e_f hc hf
            refine r_aload_n F dX12_readsPiece_97 rfl ?_
            refine r_iconst F dX12_readsPiece_98 (v := 1) (by decide) ?_
            refine r_put F dX12_readsPiece_99 (v := .int (e_b true)) flX12_186 rfl (e_b_nar _) (e_b_fit _) h72 (e_le rfl) (e_le rfl) (e_lt hnx rfl) (l' := [(72, o72 a72_0 a72_2 a72_3 a72_4 a72_5 a72_6 a72_7 a72_8 a72_9 a72_10 a72_11 a72_17 true a72_19 a72_21 a72_22 a72_29 a72_31 a72_35 a72_37 a72_38 a72_39 a72_40 a72_41 a72_44 a72_50)]) rfl ?_
            refine r_aload_n F dX12_readsPiece_102 rfl ?_
            obtain ⟨q49, hq50, hf⟩ := e_bd hf
            refine r_callV F dX12_readsPiece_103 (b := 72) (dc := 0) (ds := 0) (As := []) (S0 := []) lkX12_147 mX12_next (tX12_next_72 hG (la := x_l X) (h := e_up h [(72, o72 a72_0 a72_2 a72_3 a72_4 a72_5 a72_6 a72_7 a72_8 a72_9 a72_10 a72_11 a72_17 true a72_19 a72_21 a72_22 a72_29 a72_31 a72_35 a72_37 a72_38 a72_39 a72_40 a72_41 a72_44 a72_50)]) hnx rfl h73 hq50) rfl rfl rfl (e_le rfl) (e_le rfl) (e_le rfl) rfl (ci := 12) e_cl12.1 rfl (e_le rfl) (e_lt hnx rfl) (Nat.zero_le _) (Nat.zero_le _) (e_k ?_)
            refine r_wr (l' := [(72, o72 a72_0 a72_2 q49.1 q49.2.1 a72_5 q49.2.2.1 q49.2.2.2 a72_8 a72_9 a72_10 a72_11 a72_17 true a72_19 a72_21 a72_22 a72_29 a72_31 a72_35 a72_37 a72_38 a72_39 a72_40 a72_41 a72_44 a72_50)]) rfl rfl ?_
            refine r_aload_n F dX12_readsPiece_106 rfl ?_
            refine r_get F dX12_readsPiece_107 flX12_25 rfl rfl (e_le rfl) (e_lt hnx rfl) ?_
            refine r_iconst F dX12_readsPiece_110 (v := 2) (by decide) ?_
            refine r_aload_n F dX12_readsPiece_111 rfl ?_
            refine r_iconst F dX12_readsPiece_112 (v := 0) (by decide) ?_
            refine r_bipush F dX12_readsPiece_113 (v := 99) (by decide) ?_
            obtain ⟨q51, hq52, hf⟩ := e_bd hf
            refine r_callV F dX12_readsPiece_115 (b := 72) (dc := 0) (ds := 0) (As := [.int 0, .int 99]) (S0 := [.int 2, .ref 78]) lkX12_159 mX12_takesNumber (tX12_takesNumber_72 hG (la := x_l X) (h := e_up h [(72, o72 a72_0 a72_2 q49.1 q49.2.1 a72_5 q49.2.2.1 q49.2.2.2 a72_8 a72_9 a72_10 a72_11 a72_17 true a72_19 a72_21 a72_22 a72_29 a72_31 a72_35 a72_37 a72_38 a72_39 a72_40 a72_41 a72_44 a72_50)]) hnx rfl h73 hq52) rfl rfl rfl (e_le rfl) (e_le rfl) (e_le rfl) rfl (ci := 12) e_cl12.1 rfl (e_le rfl) (e_lt hnx rfl) (Nat.zero_le _) (Nat.zero_le _) (e_k ?_)
            refine r_wr (l' := [(72, o72 a72_0 a72_2 q51.2.1 q51.2.2.1 q51.2.2.2.1 q51.2.2.2.2.1 q51.2.2.2.2.2 a72_8 a72_9 a72_10 a72_11 a72_17 true a72_19 a72_21 a72_22 a72_29 a72_31 a72_35 a72_37 a72_38 a72_39 a72_40 a72_41 a72_44 a72_50)]) rfl rfl ?_
            refine r_iast F dX12_readsPiece_118 h78 (e_le rfl) (e_lt hnx rfl) (e_vp (by decide)) (l' := [(72, o72 a72_0 a72_2 q51.2.1 q51.2.2.1 q51.2.2.2.1 q51.2.2.2.2.1 q51.2.2.2.2.2 a72_8 a72_9 a72_10 a72_11 a72_17 true a72_19 a72_21 a72_22 a72_29 a72_31 a72_35 a72_37 a72_38 a72_39 a72_40 a72_41 a72_44 a72_50), (78, o78 (upd A78 (tn 2) q51.1))]) rfl ?_
            refine r_goto F dX12_readsPiece_119 (tgt := 166) (by decide) ?_
            refine r_mat (k := 74) h74 (l' := [(72, o72 a72_0 a72_2 q51.2.1 q51.2.2.1 q51.2.2.2.1 q51.2.2.2.2.1 q51.2.2.2.2.2 a72_8 a72_9 a72_10 a72_11 a72_17 true a72_19 a72_21 a72_22 a72_29 a72_31 a72_35 a72_37 a72_38 a72_39 a72_40 a72_41 a72_44 a72_50), (74, o74 A74), (78, o78 (upd A78 (tn 2) q51.1))]) rfl ?_
            refine r_mat (k := 75) h75 (l' := [(72, o72 a72_0 a72_2 q51.2.1 q51.2.2.1 q51.2.2.2.1 q51.2.2.2.2.1 q51.2.2.2.2.2 a72_8 a72_9 a72_10 a72_11 a72_17 true a72_19 a72_21 a72_22 a72_29 a72_31 a72_35 a72_37 a72_38 a72_39 a72_40 a72_41 a72_44 a72_50), (74, o74 A74), (75, o75 A75), (78, o78 (upd A78 (tn 2) q51.1))]) rfl ?_
            refine r_mat (k := 76) h76 (l' := [(72, o72 a72_0 a72_2 q51.2.1 q51.2.2.1 q51.2.2.2.1 q51.2.2.2.2.1 q51.2.2.2.2.2 a72_8 a72_9 a72_10 a72_11 a72_17 true a72_19 a72_21 a72_22 a72_29 a72_31 a72_35 a72_37 a72_38 a72_39 a72_40 a72_41 a72_44 a72_50), (74, o74 A74), (75, o75 A75), (76, o76 A76), (78, o78 (upd A78 (tn 2) q51.1))]) rfl ?_
            refine r_mat (k := 77) h77 (l' := [(72, o72 a72_0 a72_2 q51.2.1 q51.2.2.1 q51.2.2.2.1 q51.2.2.2.2.1 q51.2.2.2.2.2 a72_8 a72_9 a72_10 a72_11 a72_17 true a72_19 a72_21 a72_22 a72_29 a72_31 a72_35 a72_37 a72_38 a72_39 a72_40 a72_41 a72_44 a72_50), (74, o74 A74), (75, o75 A75), (76, o76 A76), (77, o77 A77), (78, o78 (upd A78 (tn 2) q51.1))]) rfl ?_
            obtain rfl := Option.some.inj hf
            exact r_vret F hq dX12_readsPiece_166 rfl rfl (Nat.le_refl _) (Nat.le_refl _) ⟨rfl, rfl⟩
        · have hf := e_f hc hf
          refine r_aload_n F dX12_readsPiece_122 rfl ?_
          refine r_ldcS F dX12_readsPiece_123 (tx := "rule") (a := 12) (by decide +kernel) ?_
          obtain ⟨q53, hq54, hf⟩ := e_bd hf
          refine r_callV F dX12_readsPiece_125 (b := 72) (dc := 0) (ds := 0) (As := [.ref 12]) (S0 := []) lkX12_171 mX12_isWord (tX12_isWord_72_12 hG (la := x_l X) (h := e_up h []) hnx h72 h73 hq54) rfl rfl rfl (e_le rfl) (e_le rfl) (e_le rfl) h72 (ci := 12) e_cl12.1 rfl (e_le rfl) (e_lt hnx rfl) (Nat.zero_le _) (Nat.zero_le _) (e_k ?_)
          refine r_wr0 ?_
          refine r_z_eq F dX12_readsPiece_128 (tgt := 162) (by decide) (fun hc => ?_) (fun hc => ?_)
          · have hf := e_t hc hf
            refine r_aload_n F dX12_readsPiece_131 rfl ?_
            refine r_get F dX12_readsPiece_132 flX12_191 h72 rfl (e_le rfl) (e_lt hnx rfl) ?_
            refine r_z_ne F dX12_readsPiece_135 (tgt := 162) (by decide) (fun hc => ?_) (fun hc => ?_)
            · have hf := e_t hc hf
              refine r_aload_n F dX12_readsPiece_162 rfl ?_
              obtain ⟨q55, hq56, hf⟩ := e_bd hf
              refine r_callV F dX12_readsPiece_163 (b := 72) (dc := 0) (ds := 0) (As := []) (S0 := []) lkX12_150 mX12_bad (tX12_bad_72 hG (la := x_l X) (h := e_up h []) hnx h72 hq56) rfl rfl rfl (e_le rfl) (e_le rfl) (e_le rfl) h72 (ci := 12) e_cl12.1 rfl (e_le rfl) (e_lt hnx rfl) (Nat.zero_le _) (Nat.zero_le _) (e_k ?_)
              refine r_wr (l' := [(72, o72 a72_0 a72_2 a72_3 a72_4 q55 a72_6 a72_7 a72_8 a72_9 a72_10 a72_11 a72_17 a72_18 a72_19 a72_21 a72_22 a72_29 a72_31 a72_35 a72_37 a72_38 a72_39 a72_40 a72_41 a72_44 a72_50)]) rfl rfl ?_
              refine r_mat (k := 74) h74 (l' := [(72, o72 a72_0 a72_2 a72_3 a72_4 q55 a72_6 a72_7 a72_8 a72_9 a72_10 a72_11 a72_17 a72_18 a72_19 a72_21 a72_22 a72_29 a72_31 a72_35 a72_37 a72_38 a72_39 a72_40 a72_41 a72_44 a72_50), (74, o74 A74)]) rfl ?_
              refine r_mat (k := 75) h75 (l' := [(72, o72 a72_0 a72_2 a72_3 a72_4 q55 a72_6 a72_7 a72_8 a72_9 a72_10 a72_11 a72_17 a72_18 a72_19 a72_21 a72_22 a72_29 a72_31 a72_35 a72_37 a72_38 a72_39 a72_40 a72_41 a72_44 a72_50), (74, o74 A74), (75, o75 A75)]) rfl ?_
              refine r_mat (k := 76) h76 (l' := [(72, o72 a72_0 a72_2 a72_3 a72_4 q55 a72_6 a72_7 a72_8 a72_9 a72_10 a72_11 a72_17 a72_18 a72_19 a72_21 a72_22 a72_29 a72_31 a72_35 a72_37 a72_38 a72_39 a72_40 a72_41 a72_44 a72_50), (74, o74 A74), (75, o75 A75), (76, o76 A76)]) rfl ?_
              refine r_mat (k := 77) h77 (l' := [(72, o72 a72_0 a72_2 a72_3 a72_4 q55 a72_6 a72_7 a72_8 a72_9 a72_10 a72_11 a72_17 a72_18 a72_19 a72_21 a72_22 a72_29 a72_31 a72_35 a72_37 a72_38 a72_39 a72_40 a72_41 a72_44 a72_50), (74, o74 A74), (75, o75 A75), (76, o76 A76), (77, o77 A77)]) rfl ?_
              refine r_mat (k := 78) h78 (l' := [(72, o72 a72_0 a72_2 a72_3 a72_4 q55 a72_6 a72_7 a72_8 a72_9 a72_10 a72_11 a72_17 a72_18 a72_19 a72_21 a72_22 a72_29 a72_31 a72_35 a72_37 a72_38 a72_39 a72_40 a72_41 a72_44 a72_50), (74, o74 A74), (75, o75 A75), (76, o76 A76), (77, o77 A77), (78, o78 A78)]) rfl ?_
              obtain rfl := Option.some.inj hf
              exact r_vret F hq dX12_readsPiece_166 rfl rfl (Nat.le_refl _) (Nat.le_refl _) ⟨rfl, rfl⟩
            · have hf := e_f hc hf
              refine r_aload_n F dX12_readsPiece_138 rfl ?_
              refine r_iconst F dX12_readsPiece_139 (v := 1) (by decide) ?_
              refine r_put F dX12_readsPiece_140 (v := .int (e_b true)) flX12_191 rfl (e_b_nar _) (e_b_fit _) h72 (e_le rfl) (e_le rfl) (e_lt hnx rfl) (l' := [(72, o72 a72_0 a72_2 a72_3 a72_4 a72_5 a72_6 a72_7 a72_8 a72_9 a72_10 a72_11 a72_17 a72_18 true a72_21 a72_22 a72_29 a72_31 a72_35 a72_37 a72_38 a72_39 a72_40 a72_41 a72_44 a72_50)]) rfl ?_
              refine r_aload_n F dX12_readsPiece_143 rfl ?_
              obtain ⟨q57, hq58, hf⟩ := e_bd hf
              refine r_callV F dX12_readsPiece_144 (b := 72) (dc := 0) (ds := 0) (As := []) (S0 := []) lkX12_147 mX12_next (tX12_next_72 hG (la := x_l X) (h := e_up h [(72, o72 a72_0 a72_2 a72_3 a72_4 a72_5 a72_6 a72_7 a72_8 a72_9 a72_10 a72_11 a72_17 a72_18 true a72_21 a72_22 a72_29 a72_31 a72_35 a72_37 a72_38 a72_39 a72_40 a72_41 a72_44 a72_50)]) hnx rfl h73 hq58) rfl rfl rfl (e_le rfl) (e_le rfl) (e_le rfl) rfl (ci := 12) e_cl12.1 rfl (e_le rfl) (e_lt hnx rfl) (Nat.zero_le _) (Nat.zero_le _) (e_k ?_)
              refine r_wr (l' := [(72, o72 a72_0 a72_2 q57.1 q57.2.1 a72_5 q57.2.2.1 q57.2.2.2 a72_8 a72_9 a72_10 a72_11 a72_17 a72_18 true a72_21 a72_22 a72_29 a72_31 a72_35 a72_37 a72_38 a72_39 a72_40 a72_41 a72_44 a72_50)]) rfl rfl ?_
              refine r_aload_n F dX12_readsPiece_147 rfl ?_
              refine r_get F dX12_readsPiece_148 flX12_25 rfl rfl (e_le rfl) (e_lt hnx rfl) ?_
              refine r_iconst F dX12_readsPiece_151 (v := 3) (by decide) ?_
              refine r_aload_n F dX12_readsPiece_152 rfl ?_
              refine r_iconst F dX12_readsPiece_153 (v := 0) (by decide) ?_
              refine r_iconst F dX12_readsPiece_154 (v := 2) (by decide) ?_
              obtain ⟨q59, hq60, hf⟩ := e_bd hf
              refine r_callV F dX12_readsPiece_155 (b := 72) (dc := 0) (ds := 0) (As := [.int 0, .int 2]) (S0 := [.int 3, .ref 78]) lkX12_159 mX12_takesNumber (tX12_takesNumber_72 hG (la := x_l X) (h := e_up h [(72, o72 a72_0 a72_2 q57.1 q57.2.1 a72_5 q57.2.2.1 q57.2.2.2 a72_8 a72_9 a72_10 a72_11 a72_17 a72_18 true a72_21 a72_22 a72_29 a72_31 a72_35 a72_37 a72_38 a72_39 a72_40 a72_41 a72_44 a72_50)]) hnx rfl h73 hq60) rfl rfl rfl (e_le rfl) (e_le rfl) (e_le rfl) rfl (ci := 12) e_cl12.1 rfl (e_le rfl) (e_lt hnx rfl) (Nat.zero_le _) (Nat.zero_le _) (e_k ?_)
              refine r_wr (l' := [(72, o72 a72_0 a72_2 q59.2.1 q59.2.2.1 q59.2.2.2.1 q59.2.2.2.2.1 q59.2.2.2.2.2 a72_8 a72_9 a72_10 a72_11 a72_17 a72_18 true a72_21 a72_22 a72_29 a72_31 a72_35 a72_37 a72_38 a72_39 a72_40 a72_41 a72_44 a72_50)]) rfl rfl ?_
              refine r_iast F dX12_readsPiece_158 h78 (e_le rfl) (e_lt hnx rfl) (e_vp (by decide)) (l' := [(72, o72 a72_0 a72_2 q59.2.1 q59.2.2.1 q59.2.2.2.1 q59.2.2.2.2.1 q59.2.2.2.2.2 a72_8 a72_9 a72_10 a72_11 a72_17 a72_18 true a72_21 a72_22 a72_29 a72_31 a72_35 a72_37 a72_38 a72_39 a72_40 a72_41 a72_44 a72_50), (78, o78 (upd A78 (tn 3) q59.1))]) rfl ?_
              refine r_goto F dX12_readsPiece_159 (tgt := 166) (by decide) ?_
              refine r_mat (k := 74) h74 (l' := [(72, o72 a72_0 a72_2 q59.2.1 q59.2.2.1 q59.2.2.2.1 q59.2.2.2.2.1 q59.2.2.2.2.2 a72_8 a72_9 a72_10 a72_11 a72_17 a72_18 true a72_21 a72_22 a72_29 a72_31 a72_35 a72_37 a72_38 a72_39 a72_40 a72_41 a72_44 a72_50), (74, o74 A74), (78, o78 (upd A78 (tn 3) q59.1))]) rfl ?_
              refine r_mat (k := 75) h75 (l' := [(72, o72 a72_0 a72_2 q59.2.1 q59.2.2.1 q59.2.2.2.1 q59.2.2.2.2.1 q59.2.2.2.2.2 a72_8 a72_9 a72_10 a72_11 a72_17 a72_18 true a72_21 a72_22 a72_29 a72_31 a72_35 a72_37 a72_38 a72_39 a72_40 a72_41 a72_44 a72_50), (74, o74 A74), (75, o75 A75), (78, o78 (upd A78 (tn 3) q59.1))]) rfl ?_
              refine r_mat (k := 76) h76 (l' := [(72, o72 a72_0 a72_2 q59.2.1 q59.2.2.1 q59.2.2.2.1 q59.2.2.2.2.1 q59.2.2.2.2.2 a72_8 a72_9 a72_10 a72_11 a72_17 a72_18 true a72_21 a72_22 a72_29 a72_31 a72_35 a72_37 a72_38 a72_39 a72_40 a72_41 a72_44 a72_50), (74, o74 A74), (75, o75 A75), (76, o76 A76), (78, o78 (upd A78 (tn 3) q59.1))]) rfl ?_
              refine r_mat (k := 77) h77 (l' := [(72, o72 a72_0 a72_2 q59.2.1 q59.2.2.1 q59.2.2.2.1 q59.2.2.2.2.1 q59.2.2.2.2.2 a72_8 a72_9 a72_10 a72_11 a72_17 a72_18 true a72_21 a72_22 a72_29 a72_31 a72_35 a72_37 a72_38 a72_39 a72_40 a72_41 a72_44 a72_50), (74, o74 A74), (75, o75 A75), (76, o76 A76), (77, o77 A77), (78, o78 (upd A78 (tn 3) q59.1))]) rfl ?_
              obtain rfl := Option.some.inj hf
              exact r_vret F hq dX12_readsPiece_166 rfl rfl (Nat.le_refl _) (Nat.le_refl _) ⟨rfl, rfl⟩
          · have hf := e_f hc hf
            refine r_aload_n F dX12_readsPiece_162 rfl ?_
            obtain ⟨q61, hq62, hf⟩ := e_bd hf
            refine r_callV F dX12_readsPiece_163 (b := 72) (dc := 0) (ds := 0) (As := []) (S0 := []) lkX12_150 mX12_bad (tX12_bad_72 hG (la := x_l X) (h := e_up h []) hnx h72 hq62) rfl rfl rfl (e_le rfl) (e_le rfl) (e_le rfl) h72 (ci := 12) e_cl12.1 rfl (e_le rfl) (e_lt hnx rfl) (Nat.zero_le _) (Nat.zero_le _) (e_k ?_)
            refine r_wr (l' := [(72, o72 a72_0 a72_2 a72_3 a72_4 q61 a72_6 a72_7 a72_8 a72_9 a72_10 a72_11 a72_17 a72_18 a72_19 a72_21 a72_22 a72_29 a72_31 a72_35 a72_37 a72_38 a72_39 a72_40 a72_41 a72_44 a72_50)]) rfl rfl ?_
            refine r_mat (k := 74) h74 (l' := [(72, o72 a72_0 a72_2 a72_3 a72_4 q61 a72_6 a72_7 a72_8 a72_9 a72_10 a72_11 a72_17 a72_18 a72_19 a72_21 a72_22 a72_29 a72_31 a72_35 a72_37 a72_38 a72_39 a72_40 a72_41 a72_44 a72_50), (74, o74 A74)]) rfl ?_
            refine r_mat (k := 75) h75 (l' := [(72, o72 a72_0 a72_2 a72_3 a72_4 q61 a72_6 a72_7 a72_8 a72_9 a72_10 a72_11 a72_17 a72_18 a72_19 a72_21 a72_22 a72_29 a72_31 a72_35 a72_37 a72_38 a72_39 a72_40 a72_41 a72_44 a72_50), (74, o74 A74), (75, o75 A75)]) rfl ?_
            refine r_mat (k := 76) h76 (l' := [(72, o72 a72_0 a72_2 a72_3 a72_4 q61 a72_6 a72_7 a72_8 a72_9 a72_10 a72_11 a72_17 a72_18 a72_19 a72_21 a72_22 a72_29 a72_31 a72_35 a72_37 a72_38 a72_39 a72_40 a72_41 a72_44 a72_50), (74, o74 A74), (75, o75 A75), (76, o76 A76)]) rfl ?_
            refine r_mat (k := 77) h77 (l' := [(72, o72 a72_0 a72_2 a72_3 a72_4 q61 a72_6 a72_7 a72_8 a72_9 a72_10 a72_11 a72_17 a72_18 a72_19 a72_21 a72_22 a72_29 a72_31 a72_35 a72_37 a72_38 a72_39 a72_40 a72_41 a72_44 a72_50), (74, o74 A74), (75, o75 A75), (76, o76 A76), (77, o77 A77)]) rfl ?_
            refine r_mat (k := 78) h78 (l' := [(72, o72 a72_0 a72_2 a72_3 a72_4 q61 a72_6 a72_7 a72_8 a72_9 a72_10 a72_11 a72_17 a72_18 a72_19 a72_21 a72_22 a72_29 a72_31 a72_35 a72_37 a72_38 a72_39 a72_40 a72_41 a72_44 a72_50), (74, o74 A74), (75, o75 A75), (76, o76 A76), (77, o77 A77), (78, o78 A78)]) rfl ?_
            obtain rfl := Option.some.inj hf
            exact r_vret F hq dX12_readsPiece_166 rfl rfl (Nat.le_refl _) (Nat.le_refl _) ⟨rfl, rfl⟩
    · have hf := e_f hc hf
      refine r_aload_n F dX12_readsPiece_18 rfl ?_
      obtain ⟨q63, hq64, hf⟩ := e_bd hf
      refine r_callV F dX12_readsPiece_19 (b := 72) (dc := 0) (ds := 0) (As := []) (S0 := []) lkX12_175 mX12_readsCore (tX12_readsCore_72 hG (la := x_l X) (h := e_up h []) hnx h72 h73 h74 h75 h76 h77 hq64) rfl rfl rfl (e_le rfl) (e_le rfl) (e_le rfl) h72 (ci := 12) e_cl12.1 rfl (e_le rfl) (e_lt hnx rfl) (Nat.zero_le _) (Nat.zero_le _) (e_k ?_)
      refine r_wr (l' := [(72, o72 a72_0 a72_2 q63.1 q63.2.1 q63.2.2.1 q63.2.2.2.1 q63.2.2.2.2.1 a72_8 a72_9 a72_10 q63.2.2.2.2.2.1 a72_17 a72_18 a72_19 a72_21 a72_22 a72_29 a72_31 a72_35 a72_37 a72_38 a72_39 a72_40 a72_41 a72_44 a72_50), (74, o74 q63.2.2.2.2.2.2.1), (75, o75 q63.2.2.2.2.2.2.2.1), (76, o76 q63.2.2.2.2.2.2.2.2.1), (77, o77 q63.2.2.2.2.2.2.2.2.2)]) rfl rfl ?_
      refine r_goto F dX12_readsPiece_22 (tgt := 166) (by decide) ?_
      refine r_mat (k := 78) h78 (l' := [(72, o72 a72_0 a72_2 q63.1 q63.2.1 q63.2.2.1 q63.2.2.2.1 q63.2.2.2.2.1 a72_8 a72_9 a72_10 q63.2.2.2.2.2.1 a72_17 a72_18 a72_19 a72_21 a72_22 a72_29 a72_31 a72_35 a72_37 a72_38 a72_39 a72_40 a72_41 a72_44 a72_50), (74, o74 q63.2.2.2.2.2.2.1), (75, o75 q63.2.2.2.2.2.2.2.1), (76, o76 q63.2.2.2.2.2.2.2.2.1), (77, o77 q63.2.2.2.2.2.2.2.2.2), (78, o78 A78)]) rfl ?_
      obtain rfl := Option.some.inj hf
      exact r_vret F hq dX12_readsPiece_166 rfl rfl (Nat.le_refl _) (Nat.le_refl _) ⟨rfl, rfl⟩
  · have hf := e_f hc hf
    refine r_aload_n F dX12_readsPiece_25 rfl ?_
    refine r_ldcS F dX12_readsPiece_26 (tx := "stress") (a := 10) (by decide +kernel) ?_
    obtain ⟨q65, hq66, hf⟩ := e_bd hf
    refine r_callV F dX12_readsPiece_28 (b := 72) (dc := 0) (ds := 0) (As := [.ref 10]) (S0 := []) lkX12_171 mX12_isWord (tX12_isWord_72_10 hG (la := x_l X) (h := e_up h []) hnx h72 h73 hq66) rfl rfl rfl (e_le rfl) (e_le rfl) (e_le rfl) h72 (ci := 12) e_cl12.1 rfl (e_le rfl) (e_lt hnx rfl) (Nat.zero_le _) (Nat.zero_le _) (e_k ?_)
    refine r_wr0 ?_
    refine r_z_eq F dX12_readsPiece_31 (tgt := 81) (by decide) (fun hc => ?_) (fun hc => ?_)
    · have hf := e_t hc hf
      refine r_aload_n F dX12_readsPiece_34 rfl ?_
      refine r_get F dX12_readsPiece_35 flX12_180 h72 rfl (e_le rfl) (e_lt hnx rfl) ?_
      refine r_z_ne F dX12_readsPiece_38 (tgt := 81) (by decide) (fun hc => ?_) (fun hc => ?_)
      · have hf := e_t hc hf
        refine r_aload_n F dX12_readsPiece_81 rfl ?_
        refine r_ldcS F dX12_readsPiece_82 (tx := "hold") (a := 11) (by decide +kernel) ?_
        obtain ⟨q67, hq68, hf⟩ := e_bd hf
        refine r_callV F dX12_readsPiece_84 (b := 72) (dc := 0) (ds := 0) (As := [.ref 11]) (S0 := []) lkX12_171 mX12_isWord (tX12_isWord_72_11 hG (la := x_l X) (h := e_up h []) hnx h72 h73 hq68) rfl rfl rfl (e_le rfl) (e_le rfl) (e_le rfl) h72 (ci := 12) e_cl12.1 rfl (e_le rfl) (e_lt hnx rfl) (Nat.zero_le _) (Nat.zero_le _) (e_k ?_)
        refine r_wr0 ?_
        refine r_z_eq F dX12_readsPiece_87 (tgt := 122) (by decide) (fun hc => ?_) (fun hc => ?_)
        · have hf := e_t hc hf
          refine r_aload_n F dX12_readsPiece_90 rfl ?_
          refine r_get F dX12_readsPiece_91 flX12_186 h72 rfl (e_le rfl) (e_lt hnx rfl) ?_
          refine r_z_ne F dX12_readsPiece_94 (tgt := 122) (by decide) (fun hc => ?_) (fun hc => ?_)
          · have hf := e_t hc hf
            refine r_aload_n F dX12_readsPiece_122 rfl ?_
            refine r_ldcS F dX12_readsPiece_123 (tx := "rule") (a := 12) (by decide +kernel) ?_
            obtain ⟨q69, hq70, hf⟩ := e_bd hf
            refine r_callV F dX12_readsPiece_125 (b := 72) (dc := 0) (ds := 0) (As := [.ref 12]) (S0 := []) lkX12_171 mX12_isWord (tX12_isWord_72_12 hG (la := x_l X) (h := e_up h []) hnx h72 h73 hq70) rfl rfl rfl (e_le rfl) (e_le rfl) (e_le rfl) h72 (ci := 12) e_cl12.1 rfl (e_le rfl) (e_lt hnx rfl) (Nat.zero_le _) (Nat.zero_le _) (e_k ?_)
            refine r_wr0 ?_
            refine r_z_eq F dX12_readsPiece_128 (tgt := 162) (by decide) (fun hc => ?_) (fun hc => ?_)
            · have hf := e_t hc hf
              refine r_aload_n F dX12_readsPiece_131 rfl ?_
              refine r_get F dX12_readsPiece_132 flX12_191 h72 rfl (e_le rfl) (e_lt hnx rfl) ?_
              refine r_z_ne F dX12_readsPiece_135 (tgt := 162) (by decide) (fun hc => ?_) (fun hc => ?_)
              · have hf := e_t hc hf
                refine r_aload_n F dX12_readsPiece_162 rfl ?_
                obtain ⟨q71, hq72, hf⟩ := e_bd hf
                refine r_callV F dX12_readsPiece_163 (b := 72) (dc := 0) (ds := 0) (As := []) (S0 := []) lkX12_150 mX12_bad (tX12_bad_72 hG (la := x_l X) (h := e_up h []) hnx h72 hq72) rfl rfl rfl (e_le rfl) (e_le rfl) (e_le rfl) h72 (ci := 12) e_cl12.1 rfl (e_le rfl) (e_lt hnx rfl) (Nat.zero_le _) (Nat.zero_le _) (e_k ?_)
                refine r_wr (l' := [(72, o72 a72_0 a72_2 a72_3 a72_4 q71 a72_6 a72_7 a72_8 a72_9 a72_10 a72_11 a72_17 a72_18 a72_19 a72_21 a72_22 a72_29 a72_31 a72_35 a72_37 a72_38 a72_39 a72_40 a72_41 a72_44 a72_50)]) rfl rfl ?_
                refine r_mat (k := 74) h74 (l' := [(72, o72 a72_0 a72_2 a72_3 a72_4 q71 a72_6 a72_7 a72_8 a72_9 a72_10 a72_11 a72_17 a72_18 a72_19 a72_21 a72_22 a72_29 a72_31 a72_35 a72_37 a72_38 a72_39 a72_40 a72_41 a72_44 a72_50), (74, o74 A74)]) rfl ?_
                refine r_mat (k := 75) h75 (l' := [(72, o72 a72_0 a72_2 a72_3 a72_4 q71 a72_6 a72_7 a72_8 a72_9 a72_10 a72_11 a72_17 a72_18 a72_19 a72_21 a72_22 a72_29 a72_31 a72_35 a72_37 a72_38 a72_39 a72_40 a72_41 a72_44 a72_50), (74, o74 A74), (75, o75 A75)]) rfl ?_
                refine r_mat (k := 76) h76 (l' := [(72, o72 a72_0 a72_2 a72_3 a72_4 q71 a72_6 a72_7 a72_8 a72_9 a72_10 a72_11 a72_17 a72_18 a72_19 a72_21 a72_22 a72_29 a72_31 a72_35 a72_37 a72_38 a72_39 a72_40 a72_41 a72_44 a72_50), (74, o74 A74), (75, o75 A75), (76, o76 A76)]) rfl ?_
                refine r_mat (k := 77) h77 (l' := [(72, o72 a72_0 a72_2 a72_3 a72_4 q71 a72_6 a72_7 a72_8 a72_9 a72_10 a72_11 a72_17 a72_18 a72_19 a72_21 a72_22 a72_29 a72_31 a72_35 a72_37 a72_38 a72_39 a72_40 a72_41 a72_44 a72_50), (74, o74 A74), (75, o75 A75), (76, o76 A76), (77, o77 A77)]) rfl ?_
                refine r_mat (k := 78) h78 (l' := [(72, o72 a72_0 a72_2 a72_3 a72_4 q71 a72_6 a72_7 a72_8 a72_9 a72_10 a72_11 a72_17 a72_18 a72_19 a72_21 a72_22 a72_29 a72_31 a72_35 a72_37 a72_38 a72_39 a72_40 a72_41 a72_44 a72_50), (74, o74 A74), (75, o75 A75), (76, o76 A76), (77, o77 A77), (78, o78 A78)]) rfl ?_
                obtain rfl := Option.some.inj hf
                exact r_vret F hq dX12_readsPiece_166 rfl rfl (Nat.le_refl _) (Nat.le_refl _) ⟨rfl, rfl⟩
              · have hf := e_f hc hf
                refine r_aload_n F dX12_readsPiece_138 rfl ?_
                refine r_iconst F dX12_readsPiece_139 (v := 1) (by decide) ?_
                refine r_put F dX12_readsPiece_140 (v := .int (e_b true)) flX12_191 rfl (e_b_nar _) (e_b_fit _) h72 (e_le rfl) (e_le rfl) (e_lt hnx rfl) (l' := [(72, o72 a72_0 a72_2 a72_3 a72_4 a72_5 a72_6 a72_7 a72_8 a72_9 a72_10 a72_11 a72_17 a72_18 true a72_21 a72_22 a72_29 a72_31 a72_35 a72_37 a72_38 a72_39 a72_40 a72_41 a72_44 a72_50)]) rfl ?_
                refine r_aload_n F dX12_readsPiece_143 rfl ?_
                obtain ⟨q73, hq74, hf⟩ := e_bd hf
                refine r_callV F dX12_readsPiece_144 (b := 72) (dc := 0) (ds := 0) (As := []) (S0 := []) lkX12_147 mX12_next (tX12_next_72 hG (la := x_l X) (h := e_up h [(72, o72 a72_0 a72_2 a72_3 a72_4 a72_5 a72_6 a72_7 a72_8 a72_9 a72_10 a72_11 a72_17 a72_18 true a72_21 a72_22 a72_29 a72_31 a72_35 a72_37 a72_38 a72_39 a72_40 a72_41 a72_44 a72_50)]) hnx rfl h73 hq74) rfl rfl rfl (e_le rfl) (e_le rfl) (e_le rfl) rfl (ci := 12) e_cl12.1 rfl (e_le rfl) (e_lt hnx rfl) (Nat.zero_le _) (Nat.zero_le _) (e_k ?_)
                refine r_wr (l' := [(72, o72 a72_0 a72_2 q73.1 q73.2.1 a72_5 q73.2.2.1 q73.2.2.2 a72_8 a72_9 a72_10 a72_11 a72_17 a72_18 true a72_21 a72_22 a72_29 a72_31 a72_35 a72_37 a72_38 a72_39 a72_40 a72_41 a72_44 a72_50)]) rfl rfl ?_
                refine r_aload_n F dX12_readsPiece_147 rfl ?_
                refine r_get F dX12_readsPiece_148 flX12_25 rfl rfl (e_le rfl) (e_lt hnx rfl) ?_
                refine r_iconst F dX12_readsPiece_151 (v := 3) (by decide) ?_
                refine r_aload_n F dX12_readsPiece_152 rfl ?_
                refine r_iconst F dX12_readsPiece_153 (v := 0) (by decide) ?_
                refine r_iconst F dX12_readsPiece_154 (v := 2) (by decide) ?_
                obtain ⟨q75, hq76, hf⟩ := e_bd hf
                refine r_callV F dX12_readsPiece_155 (b := 72) (dc := 0) (ds := 0) (As := [.int 0, .int 2]) (S0 := [.int 3, .ref 78]) lkX12_159 mX12_takesNumber (tX12_takesNumber_72 hG (la := x_l X) (h := e_up h [(72, o72 a72_0 a72_2 q73.1 q73.2.1 a72_5 q73.2.2.1 q73.2.2.2 a72_8 a72_9 a72_10 a72_11 a72_17 a72_18 true a72_21 a72_22 a72_29 a72_31 a72_35 a72_37 a72_38 a72_39 a72_40 a72_41 a72_44 a72_50)]) hnx rfl h73 hq76) rfl rfl rfl (e_le rfl) (e_le rfl) (e_le rfl) rfl (ci := 12) e_cl12.1 rfl (e_le rfl) (e_lt hnx rfl) (Nat.zero_le _) (Nat.zero_le _) (e_k ?_)
                refine r_wr (l' := [(72, o72 a72_0 a72_2 q75.2.1 q75.2.2.1 q75.2.2.2.1 q75.2.2.2.2.1 q75.2.2.2.2.2 a72_8 a72_9 a72_10 a72_11 a72_17 a72_18 true a72_21 a72_22 a72_29 a72_31 a72_35 a72_37 a72_38 a72_39 a72_40 a72_41 a72_44 a72_50)]) rfl rfl ?_
                refine r_iast F dX12_readsPiece_158 h78 (e_le rfl) (e_lt hnx rfl) (e_vp (by decide)) (l' := [(72, o72 a72_0 a72_2 q75.2.1 q75.2.2.1 q75.2.2.2.1 q75.2.2.2.2.1 q75.2.2.2.2.2 a72_8 a72_9 a72_10 a72_11 a72_17 a72_18 true a72_21 a72_22 a72_29 a72_31 a72_35 a72_37 a72_38 a72_39 a72_40 a72_41 a72_44 a72_50), (78, o78 (upd A78 (tn 3) q75.1))]) rfl ?_
                refine r_goto F dX12_readsPiece_159 (tgt := 166) (by decide) ?_
                refine r_mat (k := 74) h74 (l' := [(72, o72 a72_0 a72_2 q75.2.1 q75.2.2.1 q75.2.2.2.1 q75.2.2.2.2.1 q75.2.2.2.2.2 a72_8 a72_9 a72_10 a72_11 a72_17 a72_18 true a72_21 a72_22 a72_29 a72_31 a72_35 a72_37 a72_38 a72_39 a72_40 a72_41 a72_44 a72_50), (74, o74 A74), (78, o78 (upd A78 (tn 3) q75.1))]) rfl ?_
                refine r_mat (k := 75) h75 (l' := [(72, o72 a72_0 a72_2 q75.2.1 q75.2.2.1 q75.2.2.2.1 q75.2.2.2.2.1 q75.2.2.2.2.2 a72_8 a72_9 a72_10 a72_11 a72_17 a72_18 true a72_21 a72_22 a72_29 a72_31 a72_35 a72_37 a72_38 a72_39 a72_40 a72_41 a72_44 a72_50), (74, o74 A74), (75, o75 A75), (78, o78 (upd A78 (tn 3) q75.1))]) rfl ?_
                refine r_mat (k := 76) h76 (l' := [(72, o72 a72_0 a72_2 q75.2.1 q75.2.2.1 q75.2.2.2.1 q75.2.2.2.2.1 q75.2.2.2.2.2 a72_8 a72_9 a72_10 a72_11 a72_17 a72_18 true a72_21 a72_22 a72_29 a72_31 a72_35 a72_37 a72_38 a72_39 a72_40 a72_41 a72_44 a72_50), (74, o74 A74), (75, o75 A75), (76, o76 A76), (78, o78 (upd A78 (tn 3) q75.1))]) rfl ?_
                refine r_mat (k := 77) h77 (l' := [(72, o72 a72_0 a72_2 q75.2.1 q75.2.2.1 q75.2.2.2.1 q75.2.2.2.2.1 q75.2.2.2.2.2 a72_8 a72_9 a72_10 a72_11 a72_17 a72_18 true a72_21 a72_22 a72_29 a72_31 a72_35 a72_37 a72_38 a72_39 a72_40 a72_41 a72_44 a72_50), (74, o74 A74), (75, o75 A75), (76, o76 A76), (77, o77 A77), (78, o78 (upd A78 (tn 3) q75.1))]) rfl ?_
                obtain rfl := Option.some.inj hf
                exact r_vret F hq dX12_readsPiece_166 rfl rfl (Nat.le_refl _) (Nat.le_refl _) ⟨rfl, rfl⟩
            · have hf := e_f hc hf
              refine r_aload_n F dX12_readsPiece_162 rfl ?_
              obtain ⟨q77, hq78, hf⟩ := e_bd hf
              refine r_callV F dX12_readsPiece_163 (b := 72) (dc := 0) (ds := 0) (As := []) (S0 := []) lkX12_150 mX12_bad (tX12_bad_72 hG (la := x_l X) (h := e_up h []) hnx h72 hq78) rfl rfl rfl (e_le rfl) (e_le rfl) (e_le rfl) h72 (ci := 12) e_cl12.1 rfl (e_le rfl) (e_lt hnx rfl) (Nat.zero_le _) (Nat.zero_le _) (e_k ?_)
              refine r_wr (l' := [(72, o72 a72_0 a72_2 a72_3 a72_4 q77 a72_6 a72_7 a72_8 a72_9 a72_10 a72_11 a72_17 a72_18 a72_19 a72_21 a72_22 a72_29 a72_31 a72_35 a72_37 a72_38 a72_39 a72_40 a72_41 a72_44 a72_50)]) rfl rfl ?_
              refine r_mat (k := 74) h74 (l' := [(72, o72 a72_0 a72_2 a72_3 a72_4 q77 a72_6 a72_7 a72_8 a72_9 a72_10 a72_11 a72_17 a72_18 a72_19 a72_21 a72_22 a72_29 a72_31 a72_35 a72_37 a72_38 a72_39 a72_40 a72_41 a72_44 a72_50), (74, o74 A74)]) rfl ?_
              refine r_mat (k := 75) h75 (l' := [(72, o72 a72_0 a72_2 a72_3 a72_4 q77 a72_6 a72_7 a72_8 a72_9 a72_10 a72_11 a72_17 a72_18 a72_19 a72_21 a72_22 a72_29 a72_31 a72_35 a72_37 a72_38 a72_39 a72_40 a72_41 a72_44 a72_50), (74, o74 A74), (75, o75 A75)]) rfl ?_
              refine r_mat (k := 76) h76 (l' := [(72, o72 a72_0 a72_2 a72_3 a72_4 q77 a72_6 a72_7 a72_8 a72_9 a72_10 a72_11 a72_17 a72_18 a72_19 a72_21 a72_22 a72_29 a72_31 a72_35 a72_37 a72_38 a72_39 a72_40 a72_41 a72_44 a72_50), (74, o74 A74), (75, o75 A75), (76, o76 A76)]) rfl ?_
              refine r_mat (k := 77) h77 (l' := [(72, o72 a72_0 a72_2 a72_3 a72_4 q77 a72_6 a72_7 a72_8 a72_9 a72_10 a72_11 a72_17 a72_18 a72_19 a72_21 a72_22 a72_29 a72_31 a72_35 a72_37 a72_38 a72_39 a72_40 a72_41 a72_44 a72_50), (74, o74 A74), (75, o75 A75), (76, o76 A76), (77, o77 A77)]) rfl ?_
              refine r_mat (k := 78) h78 (l' := [(72, o72 a72_0 a72_2 a72_3 a72_4 q77 a72_6 a72_7 a72_8 a72_9 a72_10 a72_11 a72_17 a72_18 a72_19 a72_21 a72_22 a72_29 a72_31 a72_35 a72_37 a72_38 a72_39 a72_40 a72_41 a72_44 a72_50), (74, o74 A74), (75, o75 A75), (76, o76 A76), (77, o77 A77), (78, o78 A78)]) rfl ?_
              obtain rfl := Option.some.inj hf
              exact r_vret F hq dX12_readsPiece_166 rfl rfl (Nat.le_refl _) (Nat.le_refl _) ⟨rfl, rfl⟩
          · have hf := e_f hc hf
            refine r_aload_n F dX12_readsPiece_97 rfl ?_
            refine r_iconst F dX12_readsPiece_98 (v := 1) (by decide) ?_
            refine r_put F dX12_readsPiece_99 (v := .int (e_b true)) flX12_186 rfl (e_b_nar _) (e_b_fit _) h72 (e_le rfl) (e_le rfl) (e_lt hnx rfl) (l' := [(72, o72 a72_0 a72_2 a72_3 a72_4 a72_5 a72_6 a72_7 a72_8 a72_9 a72_10 a72_11 a72_17 true a72_19 a72_21 a72_22 a72_29 a72_31 a72_35 a72_37 a72_38 a72_39 a72_40 a72_41 a72_44 a72_50)]) rfl ?_
            refine r_aload_n F dX12_readsPiece_102 rfl ?_
            obtain ⟨q79, hq80, hf⟩ := e_bd hf
            refine r_callV F dX12_readsPiece_103 (b := 72) (dc := 0) (ds := 0) (As := []) (S0 := []) lkX12_147 mX12_next (tX12_next_72 hG (la := x_l X) (h := e_up h [(72, o72 a72_0 a72_2 a72_3 a72_4 a72_5 a72_6 a72_7 a72_8 a72_9 a72_10 a72_11 a72_17 true a72_19 a72_21 a72_22 a72_29 a72_31 a72_35 a72_37 a72_38 a72_39 a72_40 a72_41 a72_44 a72_50)]) hnx rfl h73 hq80) rfl rfl rfl (e_le rfl) (e_le rfl) (e_le rfl) rfl (ci := 12) e_cl12.1 rfl (e_le rfl) (e_lt hnx rfl) (Nat.zero_le _) (Nat.zero_le _) (e_k ?_)
            refine r_wr (l' := [(72, o72 a72_0 a72_2 q79.1 q79.2.1 a72_5 q79.2.2.1 q79.2.2.2 a72_8 a72_9 a72_10 a72_11 a72_17 true a72_19 a72_21 a72_22 a72_29 a72_31 a72_35 a72_37 a72_38 a72_39 a72_40 a72_41 a72_44 a72_50)]) rfl rfl ?_
            refine r_aload_n F dX12_readsPiece_106 rfl ?_
            refine r_get F dX12_readsPiece_107 flX12_25 rfl rfl (e_le rfl) (e_lt hnx rfl) ?_
            refine r_iconst F dX12_readsPiece_110 (v := 2) (by decide) ?_
            refine r_aload_n F dX12_readsPiece_111 rfl ?_
            refine r_iconst F dX12_readsPiece_112 (v := 0) (by decide) ?_
            refine r_bipush F dX12_readsPiece_113 (v := 99) (by decide) ?_
            obtain ⟨q81, hq82, hf⟩ := e_bd hf
            refine r_callV F dX12_readsPiece_115 (b := 72) (dc := 0) (ds := 0) (As := [.int 0, .int 99]) (S0 := [.int 2, .ref 78]) lkX12_159 mX12_takesNumber (tX12_takesNumber_72 hG (la := x_l X) (h := e_up h [(72, o72 a72_0 a72_2 q79.1 q79.2.1 a72_5 q79.2.2.1 q79.2.2.2 a72_8 a72_9 a72_10 a72_11 a72_17 true a72_19 a72_21 a72_22 a72_29 a72_31 a72_35 a72_37 a72_38 a72_39 a72_40 a72_41 a72_44 a72_50)]) hnx rfl h73 hq82) rfl rfl rfl (e_le rfl) (e_le rfl) (e_le rfl) rfl (ci := 12) e_cl12.1 rfl (e_le rfl) (e_lt hnx rfl) (Nat.zero_le _) (Nat.zero_le _) (e_k ?_)
            refine r_wr (l' := [(72, o72 a72_0 a72_2 q81.2.1 q81.2.2.1 q81.2.2.2.1 q81.2.2.2.2.1 q81.2.2.2.2.2 a72_8 a72_9 a72_10 a72_11 a72_17 true a72_19 a72_21 a72_22 a72_29 a72_31 a72_35 a72_37 a72_38 a72_39 a72_40 a72_41 a72_44 a72_50)]) rfl rfl ?_
            refine r_iast F dX12_readsPiece_118 h78 (e_le rfl) (e_lt hnx rfl) (e_vp (by decide)) (l' := [(72, o72 a72_0 a72_2 q81.2.1 q81.2.2.1 q81.2.2.2.1 q81.2.2.2.2.1 q81.2.2.2.2.2 a72_8 a72_9 a72_10 a72_11 a72_17 true a72_19 a72_21 a72_22 a72_29 a72_31 a72_35 a72_37 a72_38 a72_39 a72_40 a72_41 a72_44 a72_50), (78, o78 (upd A78 (tn 2) q81.1))]) rfl ?_
            refine r_goto F dX12_readsPiece_119 (tgt := 166) (by decide) ?_
            refine r_mat (k := 74) h74 (l' := [(72, o72 a72_0 a72_2 q81.2.1 q81.2.2.1 q81.2.2.2.1 q81.2.2.2.2.1 q81.2.2.2.2.2 a72_8 a72_9 a72_10 a72_11 a72_17 true a72_19 a72_21 a72_22 a72_29 a72_31 a72_35 a72_37 a72_38 a72_39 a72_40 a72_41 a72_44 a72_50), (74, o74 A74), (78, o78 (upd A78 (tn 2) q81.1))]) rfl ?_
            refine r_mat (k := 75) h75 (l' := [(72, o72 a72_0 a72_2 q81.2.1 q81.2.2.1 q81.2.2.2.1 q81.2.2.2.2.1 q81.2.2.2.2.2 a72_8 a72_9 a72_10 a72_11 a72_17 true a72_19 a72_21 a72_22 a72_29 a72_31 a72_35 a72_37 a72_38 a72_39 a72_40 a72_41 a72_44 a72_50), (74, o74 A74), (75, o75 A75), (78, o78 (upd A78 (tn 2) q81.1))]) rfl ?_
            refine r_mat (k := 76) h76 (l' := [(72, o72 a72_0 a72_2 q81.2.1 q81.2.2.1 q81.2.2.2.1 q81.2.2.2.2.1 q81.2.2.2.2.2 a72_8 a72_9 a72_10 a72_11 a72_17 true a72_19 a72_21 a72_22 a72_29 a72_31 a72_35 a72_37 a72_38 a72_39 a72_40 a72_41 a72_44 a72_50), (74, o74 A74), (75, o75 A75), (76, o76 A76), (78, o78 (upd A78 (tn 2) q81.1))]) rfl ?_
            refine r_mat (k := 77) h77 (l' := [(72, o72 a72_0 a72_2 q81.2.1 q81.2.2.1 q81.2.2.2.1 q81.2.2.2.2.1 q81.2.2.2.2.2 a72_8 a72_9 a72_10 a72_11 a72_17 true a72_19 a72_21 a72_22 a72_29 a72_31 a72_35 a72_37 a72_38 a72_39 a72_40 a72_41 a72_44 a72_50), (74, o74 A74), (75, o75 A75), (76, o76 A76), (77, o77 A77), (78, o78 (upd A78 (tn 2) q81.1))]) rfl ?_
            obtain rfl := Option.some.inj hf
            exact r_vret F hq dX12_readsPiece_166 rfl rfl (Nat.le_refl _) (Nat.le_refl _) ⟨rfl, rfl⟩
        · have hf := e_f hc hf
          refine r_aload_n F dX12_readsPiece_122 rfl ?_
          refine r_ldcS F dX12_readsPiece_123 (tx := "rule") (a := 12) (by decide +kernel) ?_
          obtain ⟨q83, hq84, hf⟩ := e_bd hf
          refine r_callV F dX12_readsPiece_125 (b := 72) (dc := 0) (ds := 0) (As := [.ref 12]) (S0 := []) lkX12_171 mX12_isWord (tX12_isWord_72_12 hG (la := x_l X) (h := e_up h []) hnx h72 h73 hq84) rfl rfl rfl (e_le rfl) (e_le rfl) (e_le rfl) h72 (ci := 12) e_cl12.1 rfl (e_le rfl) (e_lt hnx rfl) (Nat.zero_le _) (Nat.zero_le _) (e_k ?_)
          refine r_wr0 ?_
          refine r_z_eq F dX12_readsPiece_128 (tgt := 162) (by decide) (fun hc => ?_) (fun hc => ?_)
          · have hf := e_t hc hf
            refine r_aload_n F dX12_readsPiece_131 rfl ?_
            refine r_get F dX12_readsPiece_132 flX12_191 h72 rfl (e_le rfl) (e_lt hnx rfl) ?_
            refine r_z_ne F dX12_readsPiece_135 (tgt := 162) (by decide) (fun hc => ?_) (fun hc => ?_)
            · have hf := e_t hc hf
              refine r_aload_n F dX12_readsPiece_162 rfl ?_
              obtain ⟨q85, hq86, hf⟩ := e_bd hf
              refine r_callV F dX12_readsPiece_163 (b := 72) (dc := 0) (ds := 0) (As := []) (S0 := []) lkX12_150 mX12_bad (tX12_bad_72 hG (la := x_l X) (h := e_up h []) hnx h72 hq86) rfl rfl rfl (e_le rfl) (e_le rfl) (e_le rfl) h72 (ci := 12) e_cl12.1 rfl (e_le rfl) (e_lt hnx rfl) (Nat.zero_le _) (Nat.zero_le _) (e_k ?_)
              refine r_wr (l' := [(72, o72 a72_0 a72_2 a72_3 a72_4 q85 a72_6 a72_7 a72_8 a72_9 a72_10 a72_11 a72_17 a72_18 a72_19 a72_21 a72_22 a72_29 a72_31 a72_35 a72_37 a72_38 a72_39 a72_40 a72_41 a72_44 a72_50)]) rfl rfl ?_
              refine r_mat (k := 74) h74 (l' := [(72, o72 a72_0 a72_2 a72_3 a72_4 q85 a72_6 a72_7 a72_8 a72_9 a72_10 a72_11 a72_17 a72_18 a72_19 a72_21 a72_22 a72_29 a72_31 a72_35 a72_37 a72_38 a72_39 a72_40 a72_41 a72_44 a72_50), (74, o74 A74)]) rfl ?_
              refine r_mat (k := 75) h75 (l' := [(72, o72 a72_0 a72_2 a72_3 a72_4 q85 a72_6 a72_7 a72_8 a72_9 a72_10 a72_11 a72_17 a72_18 a72_19 a72_21 a72_22 a72_29 a72_31 a72_35 a72_37 a72_38 a72_39 a72_40 a72_41 a72_44 a72_50), (74, o74 A74), (75, o75 A75)]) rfl ?_
              refine r_mat (k := 76) h76 (l' := [(72, o72 a72_0 a72_2 a72_3 a72_4 q85 a72_6 a72_7 a72_8 a72_9 a72_10 a72_11 a72_17 a72_18 a72_19 a72_21 a72_22 a72_29 a72_31 a72_35 a72_37 a72_38 a72_39 a72_40 a72_41 a72_44 a72_50), (74, o74 A74), (75, o75 A75), (76, o76 A76)]) rfl ?_
              refine r_mat (k := 77) h77 (l' := [(72, o72 a72_0 a72_2 a72_3 a72_4 q85 a72_6 a72_7 a72_8 a72_9 a72_10 a72_11 a72_17 a72_18 a72_19 a72_21 a72_22 a72_29 a72_31 a72_35 a72_37 a72_38 a72_39 a72_40 a72_41 a72_44 a72_50), (74, o74 A74), (75, o75 A75), (76, o76 A76), (77, o77 A77)]) rfl ?_
              refine r_mat (k := 78) h78 (l' := [(72, o72 a72_0 a72_2 a72_3 a72_4 q85 a72_6 a72_7 a72_8 a72_9 a72_10 a72_11 a72_17 a72_18 a72_19 a72_21 a72_22 a72_29 a72_31 a72_35 a72_37 a72_38 a72_39 a72_40 a72_41 a72_44 a72_50), (74, o74 A74), (75, o75 A75), (76, o76 A76), (77, o77 A77), (78, o78 A78)]) rfl ?_
              obtain rfl := Option.some.inj hf
              exact r_vret F hq dX12_readsPiece_166 rfl rfl (Nat.le_refl _) (Nat.le_refl _) ⟨rfl, rfl⟩
            · have hf := e_f hc hf
              refine r_aload_n F dX12_readsPiece_138 rfl ?_
              refine r_iconst F dX12_readsPiece_139 (v := 1) (by decide) ?_
              refine r_put F dX12_readsPiece_140 (v := .int (e_b true)) flX12_191 rfl (e_b_nar _) (e_b_fit _) h72 (e_le rfl) (e_le rfl) (e_lt hnx rfl) (l' := [(72, o72 a72_0 a72_2 a72_3 a72_4 a72_5 a72_6 a72_7 a72_8 a72_9 a72_10 a72_11 a72_17 a72_18 true a72_21 a72_22 a72_29 a72_31 a72_35 a72_37 a72_38 a72_39 a72_40 a72_41 a72_44 a72_50)]) rfl ?_
              refine r_aload_n F dX12_readsPiece_143 rfl ?_
              obtain ⟨q87, hq88, hf⟩ := e_bd hf
              refine r_callV F dX12_readsPiece_144 (b := 72) (dc := 0) (ds := 0) (As := []) (S0 := []) lkX12_147 mX12_next (tX12_next_72 hG (la := x_l X) (h := e_up h [(72, o72 a72_0 a72_2 a72_3 a72_4 a72_5 a72_6 a72_7 a72_8 a72_9 a72_10 a72_11 a72_17 a72_18 true a72_21 a72_22 a72_29 a72_31 a72_35 a72_37 a72_38 a72_39 a72_40 a72_41 a72_44 a72_50)]) hnx rfl h73 hq88) rfl rfl rfl (e_le rfl) (e_le rfl) (e_le rfl) rfl (ci := 12) e_cl12.1 rfl (e_le rfl) (e_lt hnx rfl) (Nat.zero_le _) (Nat.zero_le _) (e_k ?_)
              refine r_wr (l' := [(72, o72 a72_0 a72_2 q87.1 q87.2.1 a72_5 q87.2.2.1 q87.2.2.2 a72_8 a72_9 a72_10 a72_11 a72_17 a72_18 true a72_21 a72_22 a72_29 a72_31 a72_35 a72_37 a72_38 a72_39 a72_40 a72_41 a72_44 a72_50)]) rfl rfl ?_
              refine r_aload_n F dX12_readsPiece_147 rfl ?_
              refine r_get F dX12_readsPiece_148 flX12_25 rfl rfl (e_le rfl) (e_lt hnx rfl) ?_
              refine r_iconst F dX12_readsPiece_151 (v := 3) (by decide) ?_
              refine r_aload_n F dX12_readsPiece_152 rfl ?_
              refine r_iconst F dX12_readsPiece_153 (v := 0) (by decide) ?_
              refine r_iconst F dX12_readsPiece_154 (v := 2) (by decide) ?_
              obtain ⟨q89, hq90, hf⟩ := e_bd hf
              refine r_callV F dX12_readsPiece_155 (b := 72) (dc := 0) (ds := 0) (As := [.int 0, .int 2]) (S0 := [.int 3, .ref 78]) lkX12_159 mX12_takesNumber (tX12_takesNumber_72 hG (la := x_l X) (h := e_up h [(72, o72 a72_0 a72_2 q87.1 q87.2.1 a72_5 q87.2.2.1 q87.2.2.2 a72_8 a72_9 a72_10 a72_11 a72_17 a72_18 true a72_21 a72_22 a72_29 a72_31 a72_35 a72_37 a72_38 a72_39 a72_40 a72_41 a72_44 a72_50)]) hnx rfl h73 hq90) rfl rfl rfl (e_le rfl) (e_le rfl) (e_le rfl) rfl (ci := 12) e_cl12.1 rfl (e_le rfl) (e_lt hnx rfl) (Nat.zero_le _) (Nat.zero_le _) (e_k ?_)
              refine r_wr (l' := [(72, o72 a72_0 a72_2 q89.2.1 q89.2.2.1 q89.2.2.2.1 q89.2.2.2.2.1 q89.2.2.2.2.2 a72_8 a72_9 a72_10 a72_11 a72_17 a72_18 true a72_21 a72_22 a72_29 a72_31 a72_35 a72_37 a72_38 a72_39 a72_40 a72_41 a72_44 a72_50)]) rfl rfl ?_
              refine r_iast F dX12_readsPiece_158 h78 (e_le rfl) (e_lt hnx rfl) (e_vp (by decide)) (l' := [(72, o72 a72_0 a72_2 q89.2.1 q89.2.2.1 q89.2.2.2.1 q89.2.2.2.2.1 q89.2.2.2.2.2 a72_8 a72_9 a72_10 a72_11 a72_17 a72_18 true a72_21 a72_22 a72_29 a72_31 a72_35 a72_37 a72_38 a72_39 a72_40 a72_41 a72_44 a72_50), (78, o78 (upd A78 (tn 3) q89.1))]) rfl ?_
              refine r_goto F dX12_readsPiece_159 (tgt := 166) (by decide) ?_
              refine r_mat (k := 74) h74 (l' := [(72, o72 a72_0 a72_2 q89.2.1 q89.2.2.1 q89.2.2.2.1 q89.2.2.2.2.1 q89.2.2.2.2.2 a72_8 a72_9 a72_10 a72_11 a72_17 a72_18 true a72_21 a72_22 a72_29 a72_31 a72_35 a72_37 a72_38 a72_39 a72_40 a72_41 a72_44 a72_50), (74, o74 A74), (78, o78 (upd A78 (tn 3) q89.1))]) rfl ?_
              refine r_mat (k := 75) h75 (l' := [(72, o72 a72_0 a72_2 q89.2.1 q89.2.2.1 q89.2.2.2.1 q89.2.2.2.2.1 q89.2.2.2.2.2 a72_8 a72_9 a72_10 a72_11 a72_17 a72_18 true a72_21 a72_22 a72_29 a72_31 a72_35 a72_37 a72_38 a72_39 a72_40 a72_41 a72_44 a72_50), (74, o74 A74), (75, o75 A75), (78, o78 (upd A78 (tn 3) q89.1))]) rfl ?_
              refine r_mat (k := 76) h76 (l' := [(72, o72 a72_0 a72_2 q89.2.1 q89.2.2.1 q89.2.2.2.1 q89.2.2.2.2.1 q89.2.2.2.2.2 a72_8 a72_9 a72_10 a72_11 a72_17 a72_18 true a72_21 a72_22 a72_29 a72_31 a72_35 a72_37 a72_38 a72_39 a72_40 a72_41 a72_44 a72_50), (74, o74 A74), (75, o75 A75), (76, o76 A76), (78, o78 (upd A78 (tn 3) q89.1))]) rfl ?_
              refine r_mat (k := 77) h77 (l' := [(72, o72 a72_0 a72_2 q89.2.1 q89.2.2.1 q89.2.2.2.1 q89.2.2.2.2.1 q89.2.2.2.2.2 a72_8 a72_9 a72_10 a72_11 a72_17 a72_18 true a72_21 a72_22 a72_29 a72_31 a72_35 a72_37 a72_38 a72_39 a72_40 a72_41 a72_44 a72_50), (74, o74 A74), (75, o75 A75), (76, o76 A76), (77, o77 A77), (78, o78 (upd A78 (tn 3) q89.1))]) rfl ?_
              obtain rfl := Option.some.inj hf
              exact r_vret F hq dX12_readsPiece_166 rfl rfl (Nat.le_refl _) (Nat.le_refl _) ⟨rfl, rfl⟩
          · have hf := e_f hc hf
            refine r_aload_n F dX12_readsPiece_162 rfl ?_
            obtain ⟨q91, hq92, hf⟩ := e_bd hf
            refine r_callV F dX12_readsPiece_163 (b := 72) (dc := 0) (ds := 0) (As := []) (S0 := []) lkX12_150 mX12_bad (tX12_bad_72 hG (la := x_l X) (h := e_up h []) hnx h72 hq92) rfl rfl rfl (e_le rfl) (e_le rfl) (e_le rfl) h72 (ci := 12) e_cl12.1 rfl (e_le rfl) (e_lt hnx rfl) (Nat.zero_le _) (Nat.zero_le _) (e_k ?_)
            refine r_wr (l' := [(72, o72 a72_0 a72_2 a72_3 a72_4 q91 a72_6 a72_7 a72_8 a72_9 a72_10 a72_11 a72_17 a72_18 a72_19 a72_21 a72_22 a72_29 a72_31 a72_35 a72_37 a72_38 a72_39 a72_40 a72_41 a72_44 a72_50)]) rfl rfl ?_
            refine r_mat (k := 74) h74 (l' := [(72, o72 a72_0 a72_2 a72_3 a72_4 q91 a72_6 a72_7 a72_8 a72_9 a72_10 a72_11 a72_17 a72_18 a72_19 a72_21 a72_22 a72_29 a72_31 a72_35 a72_37 a72_38 a72_39 a72_40 a72_41 a72_44 a72_50), (74, o74 A74)]) rfl ?_
            refine r_mat (k := 75) h75 (l' := [(72, o72 a72_0 a72_2 a72_3 a72_4 q91 a72_6 a72_7 a72_8 a72_9 a72_10 a72_11 a72_17 a72_18 a72_19 a72_21 a72_22 a72_29 a72_31 a72_35 a72_37 a72_38 a72_39 a72_40 a72_41 a72_44 a72_50), (74, o74 A74), (75, o75 A75)]) rfl ?_
            refine r_mat (k := 76) h76 (l' := [(72, o72 a72_0 a72_2 a72_3 a72_4 q91 a72_6 a72_7 a72_8 a72_9 a72_10 a72_11 a72_17 a72_18 a72_19 a72_21 a72_22 a72_29 a72_31 a72_35 a72_37 a72_38 a72_39 a72_40 a72_41 a72_44 a72_50), (74, o74 A74), (75, o75 A75), (76, o76 A76)]) rfl ?_
            refine r_mat (k := 77) h77 (l' := [(72, o72 a72_0 a72_2 a72_3 a72_4 q91 a72_6 a72_7 a72_8 a72_9 a72_10 a72_11 a72_17 a72_18 a72_19 a72_21 a72_22 a72_29 a72_31 a72_35 a72_37 a72_38 a72_39 a72_40 a72_41 a72_44 a72_50), (74, o74 A74), (75, o75 A75), (76, o76 A76), (77, o77 A77)]) rfl ?_
            refine r_mat (k := 78) h78 (l' := [(72, o72 a72_0 a72_2 a72_3 a72_4 q91 a72_6 a72_7 a72_8 a72_9 a72_10 a72_11 a72_17 a72_18 a72_19 a72_21 a72_22 a72_29 a72_31 a72_35 a72_37 a72_38 a72_39 a72_40 a72_41 a72_44 a72_50), (74, o74 A74), (75, o75 A75), (76, o76 A76), (77, o77 A77), (78, o78 A78)]) rfl ?_
            obtain rfl := Option.some.inj hf
            exact r_vret F hq dX12_readsPiece_166 rfl rfl (Nat.le_refl _) (Nat.le_refl _) ⟨rfl, rfl⟩
      · have hf := e_f hc hf
        refine r_aload_n F dX12_readsPiece_41 rfl ?_
        refine r_iconst F dX12_readsPiece_42 (v := 1) (by decide) ?_
        refine r_put F dX12_readsPiece_43 (v := .int (e_b true)) flX12_180 rfl (e_b_nar _) (e_b_fit _) h72 (e_le rfl) (e_le rfl) (e_lt hnx rfl) (l' := [(72, o72 a72_0 a72_2 a72_3 a72_4 a72_5 a72_6 a72_7 a72_8 a72_9 a72_10 a72_11 true a72_18 a72_19 a72_21 a72_22 a72_29 a72_31 a72_35 a72_37 a72_38 a72_39 a72_40 a72_41 a72_44 a72_50)]) rfl ?_
        refine r_aload_n F dX12_readsPiece_46 rfl ?_
        obtain ⟨q93, hq94, hf⟩ := e_bd hf
        refine r_callV F dX12_readsPiece_47 (b := 72) (dc := 0) (ds := 0) (As := []) (S0 := []) lkX12_147 mX12_next (tX12_next_72 hG (la := x_l X) (h := e_up h [(72, o72 a72_0 a72_2 a72_3 a72_4 a72_5 a72_6 a72_7 a72_8 a72_9 a72_10 a72_11 true a72_18 a72_19 a72_21 a72_22 a72_29 a72_31 a72_35 a72_37 a72_38 a72_39 a72_40 a72_41 a72_44 a72_50)]) hnx rfl h73 hq94) rfl rfl rfl (e_le rfl) (e_le rfl) (e_le rfl) rfl (ci := 12) e_cl12.1 rfl (e_le rfl) (e_lt hnx rfl) (Nat.zero_le _) (Nat.zero_le _) (e_k ?_)
        refine r_wr (l' := [(72, o72 a72_0 a72_2 q93.1 q93.2.1 a72_5 q93.2.2.1 q93.2.2.2 a72_8 a72_9 a72_10 a72_11 true a72_18 a72_19 a72_21 a72_22 a72_29 a72_31 a72_35 a72_37 a72_38 a72_39 a72_40 a72_41 a72_44 a72_50)]) rfl rfl ?_
        refine r_aload_n F dX12_readsPiece_50 rfl ?_
        refine r_get F dX12_readsPiece_51 flX12_25 rfl rfl (e_le rfl) (e_lt hnx rfl) ?_
        refine r_iconst F dX12_readsPiece_54 (v := 0) (by decide) ?_
        refine r_aload_n F dX12_readsPiece_55 rfl ?_
        refine r_bipush F dX12_readsPiece_56 (v := (-20)) (by decide) ?_
        refine r_bipush F dX12_readsPiece_58 (v := 20) (by decide) ?_
        obtain ⟨q95, hq96, hf⟩ := e_bd hf
        refine r_callV F dX12_readsPiece_60 (b := 72) (dc := 0) (ds := 0) (As := [.int (-20), .int 20]) (S0 := [.int 0, .ref 78]) lkX12_159 mX12_takesNumber (tX12_takesNumber_72 hG (la := x_l X) (h := e_up h [(72, o72 a72_0 a72_2 q93.1 q93.2.1 a72_5 q93.2.2.1 q93.2.2.2 a72_8 a72_9 a72_10 a72_11 true a72_18 a72_19 a72_21 a72_22 a72_29 a72_31 a72_35 a72_37 a72_38 a72_39 a72_40 a72_41 a72_44 a72_50)]) hnx rfl h73 hq96) rfl rfl rfl (e_le rfl) (e_le rfl) (e_le rfl) rfl (ci := 12) e_cl12.1 rfl (e_le rfl) (e_lt hnx rfl) (Nat.zero_le _) (Nat.zero_le _) (e_k ?_)
        refine r_wr (l' := [(72, o72 a72_0 a72_2 q95.2.1 q95.2.2.1 q95.2.2.2.1 q95.2.2.2.2.1 q95.2.2.2.2.2 a72_8 a72_9 a72_10 a72_11 true a72_18 a72_19 a72_21 a72_22 a72_29 a72_31 a72_35 a72_37 a72_38 a72_39 a72_40 a72_41 a72_44 a72_50)]) rfl rfl ?_
        refine r_iast F dX12_readsPiece_63 h78 (e_le rfl) (e_lt hnx rfl) (e_vp (by decide)) (l' := [(72, o72 a72_0 a72_2 q95.2.1 q95.2.2.1 q95.2.2.2.1 q95.2.2.2.2.1 q95.2.2.2.2.2 a72_8 a72_9 a72_10 a72_11 true a72_18 a72_19 a72_21 a72_22 a72_29 a72_31 a72_35 a72_37 a72_38 a72_39 a72_40 a72_41 a72_44 a72_50), (78, o78 (upd A78 (tn 0) q95.1))]) rfl ?_
        refine r_aload_n F dX12_readsPiece_64 rfl ?_
        refine r_get F dX12_readsPiece_65 flX12_25 rfl rfl (e_le rfl) (e_lt hnx rfl) ?_
        refine r_iconst F dX12_readsPiece_68 (v := 1) (by decide) ?_
        refine r_aload_n F dX12_readsPiece_69 rfl ?_
        refine r_bipush F dX12_readsPiece_70 (v := (-20)) (by decide) ?_
        refine r_bipush F dX12_readsPiece_72 (v := 20) (by decide) ?_
        obtain ⟨q97, hq98, hf⟩ := e_bd hf
        refine r_callV F dX12_readsPiece_74 (b := 72) (dc := 0) (ds := 0) (As := [.int (-20), .int 20]) (S0 := [.int 1, .ref 78]) lkX12_159 mX12_takesNumber (tX12_takesNumber_72 hG (la := x_l X) (h := e_up h [(72, o72 a72_0 a72_2 q95.2.1 q95.2.2.1 q95.2.2.2.1 q95.2.2.2.2.1 q95.2.2.2.2.2 a72_8 a72_9 a72_10 a72_11 true a72_18 a72_19 a72_21 a72_22 a72_29 a72_31 a72_35 a72_37 a72_38 a72_39 a72_40 a72_41 a72_44 a72_50), (78, o78 (upd A78 (tn 0) q95.1))]) hnx rfl h73 hq98) rfl rfl rfl (e_le rfl) (e_le rfl) (e_le rfl) rfl (ci := 12) e_cl12.1 rfl (e_le rfl) (e_lt hnx rfl) (Nat.zero_le _) (Nat.zero_le _) (e_k ?_)
        refine r_wr (l' := [(72, o72 a72_0 a72_2 q97.2.1 q97.2.2.1 q97.2.2.2.1 q97.2.2.2.2.1 q97.2.2.2.2.2 a72_8 a72_9 a72_10 a72_11 true a72_18 a72_19 a72_21 a72_22 a72_29 a72_31 a72_35 a72_37 a72_38 a72_39 a72_40 a72_41 a72_44 a72_50), (78, o78 (upd A78 (tn 0) q95.1))]) rfl rfl ?_
        refine r_iast F dX12_readsPiece_77 rfl (e_le rfl) (e_lt hnx rfl) (e_vp (by decide)) (l' := [(72, o72 a72_0 a72_2 q97.2.1 q97.2.2.1 q97.2.2.2.1 q97.2.2.2.2.1 q97.2.2.2.2.2 a72_8 a72_9 a72_10 a72_11 true a72_18 a72_19 a72_21 a72_22 a72_29 a72_31 a72_35 a72_37 a72_38 a72_39 a72_40 a72_41 a72_44 a72_50), (78, o78 (upd (upd A78 (tn 0) q95.1) (tn 1) q97.1))]) rfl ?_
        refine r_goto F dX12_readsPiece_78 (tgt := 166) (by decide) ?_
        refine r_mat (k := 74) h74 (l' := [(72, o72 a72_0 a72_2 q97.2.1 q97.2.2.1 q97.2.2.2.1 q97.2.2.2.2.1 q97.2.2.2.2.2 a72_8 a72_9 a72_10 a72_11 true a72_18 a72_19 a72_21 a72_22 a72_29 a72_31 a72_35 a72_37 a72_38 a72_39 a72_40 a72_41 a72_44 a72_50), (74, o74 A74), (78, o78 (upd (upd A78 (tn 0) q95.1) (tn 1) q97.1))]) rfl ?_
        refine r_mat (k := 75) h75 (l' := [(72, o72 a72_0 a72_2 q97.2.1 q97.2.2.1 q97.2.2.2.1 q97.2.2.2.2.1 q97.2.2.2.2.2 a72_8 a72_9 a72_10 a72_11 true a72_18 a72_19 a72_21 a72_22 a72_29 a72_31 a72_35 a72_37 a72_38 a72_39 a72_40 a72_41 a72_44 a72_50), (74, o74 A74), (75, o75 A75), (78, o78 (upd (upd A78 (tn 0) q95.1) (tn 1) q97.1))]) rfl ?_
        refine r_mat (k := 76) h76 (l' := [(72, o72 a72_0 a72_2 q97.2.1 q97.2.2.1 q97.2.2.2.1 q97.2.2.2.2.1 q97.2.2.2.2.2 a72_8 a72_9 a72_10 a72_11 true a72_18 a72_19 a72_21 a72_22 a72_29 a72_31 a72_35 a72_37 a72_38 a72_39 a72_40 a72_41 a72_44 a72_50), (74, o74 A74), (75, o75 A75), (76, o76 A76), (78, o78 (upd (upd A78 (tn 0) q95.1) (tn 1) q97.1))]) rfl ?_
        refine r_mat (k := 77) h77 (l' := [(72, o72 a72_0 a72_2 q97.2.1 q97.2.2.1 q97.2.2.2.1 q97.2.2.2.2.1 q97.2.2.2.2.2 a72_8 a72_9 a72_10 a72_11 true a72_18 a72_19 a72_21 a72_22 a72_29 a72_31 a72_35 a72_37 a72_38 a72_39 a72_40 a72_41 a72_44 a72_50), (74, o74 A74), (75, o75 A75), (76, o76 A76), (77, o77 A77), (78, o78 (upd (upd A78 (tn 0) q95.1) (tn 1) q97.1))]) rfl ?_
        obtain rfl := Option.some.inj hf
        exact r_vret F hq dX12_readsPiece_166 rfl rfl (Nat.le_refl _) (Nat.le_refl _) ⟨rfl, rfl⟩
    · have hf := e_f hc hf
      refine r_aload_n F dX12_readsPiece_81 rfl ?_
      refine r_ldcS F dX12_readsPiece_82 (tx := "hold") (a := 11) (by decide +kernel) ?_
      obtain ⟨q99, hq100, hf⟩ := e_bd hf
      refine r_callV F dX12_readsPiece_84 (b := 72) (dc := 0) (ds := 0) (As := [.ref 11]) (S0 := []) lkX12_171 mX12_isWord (tX12_isWord_72_11 hG (la := x_l X) (h := e_up h []) hnx h72 h73 hq100) rfl rfl rfl (e_le rfl) (e_le rfl) (e_le rfl) h72 (ci := 12) e_cl12.1 rfl (e_le rfl) (e_lt hnx rfl) (Nat.zero_le _) (Nat.zero_le _) (e_k ?_)
      refine r_wr0 ?_
      refine r_z_eq F dX12_readsPiece_87 (tgt := 122) (by decide) (fun hc => ?_) (fun hc => ?_)
      · have hf := e_t hc hf
        refine r_aload_n F dX12_readsPiece_90 rfl ?_
        refine r_get F dX12_readsPiece_91 flX12_186 h72 rfl (e_le rfl) (e_lt hnx rfl) ?_
        refine r_z_ne F dX12_readsPiece_94 (tgt := 122) (by decide) (fun hc => ?_) (fun hc => ?_)
        · have hf := e_t hc hf
          refine r_aload_n F dX12_readsPiece_122 rfl ?_
          refine r_ldcS F dX12_readsPiece_123 (tx := "rule") (a := 12) (by decide +kernel) ?_
          obtain ⟨q101, hq102, hf⟩ := e_bd hf
          refine r_callV F dX12_readsPiece_125 (b := 72) (dc := 0) (ds := 0) (As := [.ref 12]) (S0 := []) lkX12_171 mX12_isWord (tX12_isWord_72_12 hG (la := x_l X) (h := e_up h []) hnx h72 h73 hq102) rfl rfl rfl (e_le rfl) (e_le rfl) (e_le rfl) h72 (ci := 12) e_cl12.1 rfl (e_le rfl) (e_lt hnx rfl) (Nat.zero_le _) (Nat.zero_le _) (e_k ?_)
          refine r_wr0 ?_
          refine r_z_eq F dX12_readsPiece_128 (tgt := 162) (by decide) (fun hc => ?_) (fun hc => ?_)
          · have hf := e_t hc hf
            refine r_aload_n F dX12_readsPiece_131 rfl ?_
            refine r_get F dX12_readsPiece_132 flX12_191 h72 rfl (e_le rfl) (e_lt hnx rfl) ?_
            refine r_z_ne F dX12_readsPiece_135 (tgt := 162) (by decide) (fun hc => ?_) (fun hc => ?_)
            · have hf := e_t hc hf
              refine r_aload_n F dX12_readsPiece_162 rfl ?_
              obtain ⟨q103, hq104, hf⟩ := e_bd hf
              refine r_callV F dX12_readsPiece_163 (b := 72) (dc := 0) (ds := 0) (As := []) (S0 := []) lkX12_150 mX12_bad (tX12_bad_72 hG (la := x_l X) (h := e_up h []) hnx h72 hq104) rfl rfl rfl (e_le rfl) (e_le rfl) (e_le rfl) h72 (ci := 12) e_cl12.1 rfl (e_le rfl) (e_lt hnx rfl) (Nat.zero_le _) (Nat.zero_le _) (e_k ?_)
              refine r_wr (l' := [(72, o72 a72_0 a72_2 a72_3 a72_4 q103 a72_6 a72_7 a72_8 a72_9 a72_10 a72_11 a72_17 a72_18 a72_19 a72_21 a72_22 a72_29 a72_31 a72_35 a72_37 a72_38 a72_39 a72_40 a72_41 a72_44 a72_50)]) rfl rfl ?_
              refine r_mat (k := 74) h74 (l' := [(72, o72 a72_0 a72_2 a72_3 a72_4 q103 a72_6 a72_7 a72_8 a72_9 a72_10 a72_11 a72_17 a72_18 a72_19 a72_21 a72_22 a72_29 a72_31 a72_35 a72_37 a72_38 a72_39 a72_40 a72_41 a72_44 a72_50), (74, o74 A74)]) rfl ?_
              refine r_mat (k := 75) h75 (l' := [(72, o72 a72_0 a72_2 a72_3 a72_4 q103 a72_6 a72_7 a72_8 a72_9 a72_10 a72_11 a72_17 a72_18 a72_19 a72_21 a72_22 a72_29 a72_31 a72_35 a72_37 a72_38 a72_39 a72_40 a72_41 a72_44 a72_50), (74, o74 A74), (75, o75 A75)]) rfl ?_
              refine r_mat (k := 76) h76 (l' := [(72, o72 a72_0 a72_2 a72_3 a72_4 q103 a72_6 a72_7 a72_8 a72_9 a72_10 a72_11 a72_17 a72_18 a72_19 a72_21 a72_22 a72_29 a72_31 a72_35 a72_37 a72_38 a72_39 a72_40 a72_41 a72_44 a72_50), (74, o74 A74), (75, o75 A75), (76, o76 A76)]) rfl ?_
              refine r_mat (k := 77) h77 (l' := [(72, o72 a72_0 a72_2 a72_3 a72_4 q103 a72_6 a72_7 a72_8 a72_9 a72_10 a72_11 a72_17 a72_18 a72_19 a72_21 a72_22 a72_29 a72_31 a72_35 a72_37 a72_38 a72_39 a72_40 a72_41 a72_44 a72_50), (74, o74 A74), (75, o75 A75), (76, o76 A76), (77, o77 A77)]) rfl ?_
              refine r_mat (k := 78) h78 (l' := [(72, o72 a72_0 a72_2 a72_3 a72_4 q103 a72_6 a72_7 a72_8 a72_9 a72_10 a72_11 a72_17 a72_18 a72_19 a72_21 a72_22 a72_29 a72_31 a72_35 a72_37 a72_38 a72_39 a72_40 a72_41 a72_44 a72_50), (74, o74 A74), (75, o75 A75), (76, o76 A76), (77, o77 A77), (78, o78 A78)]) rfl ?_
              obtain rfl := Option.some.inj hf
              exact r_vret F hq dX12_readsPiece_166 rfl rfl (Nat.le_refl _) (Nat.le_refl _) ⟨rfl, rfl⟩
            · have hf := e_f hc hf
              refine r_aload_n F dX12_readsPiece_138 rfl ?_
              refine r_iconst F dX12_readsPiece_139 (v := 1) (by decide) ?_
              refine r_put F dX12_readsPiece_140 (v := .int (e_b true)) flX12_191 rfl (e_b_nar _) (e_b_fit _) h72 (e_le rfl) (e_le rfl) (e_lt hnx rfl) (l' := [(72, o72 a72_0 a72_2 a72_3 a72_4 a72_5 a72_6 a72_7 a72_8 a72_9 a72_10 a72_11 a72_17 a72_18 true a72_21 a72_22 a72_29 a72_31 a72_35 a72_37 a72_38 a72_39 a72_40 a72_41 a72_44 a72_50)]) rfl ?_
              refine r_aload_n F dX12_readsPiece_143 rfl ?_
              obtain ⟨q105, hq106, hf⟩ := e_bd hf
              refine r_callV F dX12_readsPiece_144 (b := 72) (dc := 0) (ds := 0) (As := []) (S0 := []) lkX12_147 mX12_next (tX12_next_72 hG (la := x_l X) (h := e_up h [(72, o72 a72_0 a72_2 a72_3 a72_4 a72_5 a72_6 a72_7 a72_8 a72_9 a72_10 a72_11 a72_17 a72_18 true a72_21 a72_22 a72_29 a72_31 a72_35 a72_37 a72_38 a72_39 a72_40 a72_41 a72_44 a72_50)]) hnx rfl h73 hq106) rfl rfl rfl (e_le rfl) (e_le rfl) (e_le rfl) rfl (ci := 12) e_cl12.1 rfl (e_le rfl) (e_lt hnx rfl) (Nat.zero_le _) (Nat.zero_le _) (e_k ?_)
              refine r_wr (l' := [(72, o72 a72_0 a72_2 q105.1 q105.2.1 a72_5 q105.2.2.1 q105.2.2.2 a72_8 a72_9 a72_10 a72_11 a72_17 a72_18 true a72_21 a72_22 a72_29 a72_31 a72_35 a72_37 a72_38 a72_39 a72_40 a72_41 a72_44 a72_50)]) rfl rfl ?_
              refine r_aload_n F dX12_readsPiece_147 rfl ?_
              refine r_get F dX12_readsPiece_148 flX12_25 rfl rfl (e_le rfl) (e_lt hnx rfl) ?_
              refine r_iconst F dX12_readsPiece_151 (v := 3) (by decide) ?_
              refine r_aload_n F dX12_readsPiece_152 rfl ?_
              refine r_iconst F dX12_readsPiece_153 (v := 0) (by decide) ?_
              refine r_iconst F dX12_readsPiece_154 (v := 2) (by decide) ?_
              obtain ⟨q107, hq108, hf⟩ := e_bd hf
              refine r_callV F dX12_readsPiece_155 (b := 72) (dc := 0) (ds := 0) (As := [.int 0, .int 2]) (S0 := [.int 3, .ref 78]) lkX12_159 mX12_takesNumber (tX12_takesNumber_72 hG (la := x_l X) (h := e_up h [(72, o72 a72_0 a72_2 q105.1 q105.2.1 a72_5 q105.2.2.1 q105.2.2.2 a72_8 a72_9 a72_10 a72_11 a72_17 a72_18 true a72_21 a72_22 a72_29 a72_31 a72_35 a72_37 a72_38 a72_39 a72_40 a72_41 a72_44 a72_50)]) hnx rfl h73 hq108) rfl rfl rfl (e_le rfl) (e_le rfl) (e_le rfl) rfl (ci := 12) e_cl12.1 rfl (e_le rfl) (e_lt hnx rfl) (Nat.zero_le _) (Nat.zero_le _) (e_k ?_)
              refine r_wr (l' := [(72, o72 a72_0 a72_2 q107.2.1 q107.2.2.1 q107.2.2.2.1 q107.2.2.2.2.1 q107.2.2.2.2.2 a72_8 a72_9 a72_10 a72_11 a72_17 a72_18 true a72_21 a72_22 a72_29 a72_31 a72_35 a72_37 a72_38 a72_39 a72_40 a72_41 a72_44 a72_50)]) rfl rfl ?_
              refine r_iast F dX12_readsPiece_158 h78 (e_le rfl) (e_lt hnx rfl) (e_vp (by decide)) (l' := [(72, o72 a72_0 a72_2 q107.2.1 q107.2.2.1 q107.2.2.2.1 q107.2.2.2.2.1 q107.2.2.2.2.2 a72_8 a72_9 a72_10 a72_11 a72_17 a72_18 true a72_21 a72_22 a72_29 a72_31 a72_35 a72_37 a72_38 a72_39 a72_40 a72_41 a72_44 a72_50), (78, o78 (upd A78 (tn 3) q107.1))]) rfl ?_
              refine r_goto F dX12_readsPiece_159 (tgt := 166) (by decide) ?_
              refine r_mat (k := 74) h74 (l' := [(72, o72 a72_0 a72_2 q107.2.1 q107.2.2.1 q107.2.2.2.1 q107.2.2.2.2.1 q107.2.2.2.2.2 a72_8 a72_9 a72_10 a72_11 a72_17 a72_18 true a72_21 a72_22 a72_29 a72_31 a72_35 a72_37 a72_38 a72_39 a72_40 a72_41 a72_44 a72_50), (74, o74 A74), (78, o78 (upd A78 (tn 3) q107.1))]) rfl ?_
              refine r_mat (k := 75) h75 (l' := [(72, o72 a72_0 a72_2 q107.2.1 q107.2.2.1 q107.2.2.2.1 q107.2.2.2.2.1 q107.2.2.2.2.2 a72_8 a72_9 a72_10 a72_11 a72_17 a72_18 true a72_21 a72_22 a72_29 a72_31 a72_35 a72_37 a72_38 a72_39 a72_40 a72_41 a72_44 a72_50), (74, o74 A74), (75, o75 A75), (78, o78 (upd A78 (tn 3) q107.1))]) rfl ?_
              refine r_mat (k := 76) h76 (l' := [(72, o72 a72_0 a72_2 q107.2.1 q107.2.2.1 q107.2.2.2.1 q107.2.2.2.2.1 q107.2.2.2.2.2 a72_8 a72_9 a72_10 a72_11 a72_17 a72_18 true a72_21 a72_22 a72_29 a72_31 a72_35 a72_37 a72_38 a72_39 a72_40 a72_41 a72_44 a72_50), (74, o74 A74), (75, o75 A75), (76, o76 A76), (78, o78 (upd A78 (tn 3) q107.1))]) rfl ?_
              refine r_mat (k := 77) h77 (l' := [(72, o72 a72_0 a72_2 q107.2.1 q107.2.2.1 q107.2.2.2.1 q107.2.2.2.2.1 q107.2.2.2.2.2 a72_8 a72_9 a72_10 a72_11 a72_17 a72_18 true a72_21 a72_22 a72_29 a72_31 a72_35 a72_37 a72_38 a72_39 a72_40 a72_41 a72_44 a72_50), (74, o74 A74), (75, o75 A75), (76, o76 A76), (77, o77 A77), (78, o78 (upd A78 (tn 3) q107.1))]) rfl ?_
              obtain rfl := Option.some.inj hf
              exact r_vret F hq dX12_readsPiece_166 rfl rfl (Nat.le_refl _) (Nat.le_refl _) ⟨rfl, rfl⟩
          · have hf := e_f hc hf
            refine r_aload_n F dX12_readsPiece_162 rfl ?_
            obtain ⟨q109, hq110, hf⟩ := e_bd hf
            refine r_callV F dX12_readsPiece_163 (b := 72) (dc := 0) (ds := 0) (As := []) (S0 := []) lkX12_150 mX12_bad (tX12_bad_72 hG (la := x_l X) (h := e_up h []) hnx h72 hq110) rfl rfl rfl (e_le rfl) (e_le rfl) (e_le rfl) h72 (ci := 12) e_cl12.1 rfl (e_le rfl) (e_lt hnx rfl) (Nat.zero_le _) (Nat.zero_le _) (e_k ?_)
            refine r_wr (l' := [(72, o72 a72_0 a72_2 a72_3 a72_4 q109 a72_6 a72_7 a72_8 a72_9 a72_10 a72_11 a72_17 a72_18 a72_19 a72_21 a72_22 a72_29 a72_31 a72_35 a72_37 a72_38 a72_39 a72_40 a72_41 a72_44 a72_50)]) rfl rfl ?_
            refine r_mat (k := 74) h74 (l' := [(72, o72 a72_0 a72_2 a72_3 a72_4 q109 a72_6 a72_7 a72_8 a72_9 a72_10 a72_11 a72_17 a72_18 a72_19 a72_21 a72_22 a72_29 a72_31 a72_35 a72_37 a72_38 a72_39 a72_40 a72_41 a72_44 a72_50), (74, o74 A74)]) rfl ?_
            refine r_mat (k := 75) h75 (l' := [(72, o72 a72_0 a72_2 a72_3 a72_4 q109 a72_6 a72_7 a72_8 a72_9 a72_10 a72_11 a72_17 a72_18 a72_19 a72_21 a72_22 a72_29 a72_31 a72_35 a72_37 a72_38 a72_39 a72_40 a72_41 a72_44 a72_50), (74, o74 A74), (75, o75 A75)]) rfl ?_
            refine r_mat (k := 76) h76 (l' := [(72, o72 a72_0 a72_2 a72_3 a72_4 q109 a72_6 a72_7 a72_8 a72_9 a72_10 a72_11 a72_17 a72_18 a72_19 a72_21 a72_22 a72_29 a72_31 a72_35 a72_37 a72_38 a72_39 a72_40 a72_41 a72_44 a72_50), (74, o74 A74), (75, o75 A75), (76, o76 A76)]) rfl ?_
            refine r_mat (k := 77) h77 (l' := [(72, o72 a72_0 a72_2 a72_3 a72_4 q109 a72_6 a72_7 a72_8 a72_9 a72_10 a72_11 a72_17 a72_18 a72_19 a72_21 a72_22 a72_29 a72_31 a72_35 a72_37 a72_38 a72_39 a72_40 a72_41 a72_44 a72_50), (74, o74 A74), (75, o75 A75), (76, o76 A76), (77, o77 A77)]) rfl ?_
            refine r_mat (k := 78) h78 (l' := [(72, o72 a72_0 a72_2 a72_3 a72_4 q109 a72_6 a72_7 a72_8 a72_9 a72_10 a72_11 a72_17 a72_18 a72_19 a72_21 a72_22 a72_29 a72_31 a72_35 a72_37 a72_38 a72_39 a72_40 a72_41 a72_44 a72_50), (74, o74 A74), (75, o75 A75), (76, o76 A76), (77, o77 A77), (78, o78 A78)]) rfl ?_
            obtain rfl := Option.some.inj hf
            exact r_vret F hq dX12_readsPiece_166 rfl rfl (Nat.le_refl _) (Nat.le_refl _) ⟨rfl, rfl⟩
        · have hf := e_f hc hf
          refine r_aload_n F dX12_readsPiece_97 rfl ?_
          refine r_iconst F dX12_readsPiece_98 (v := 1) (by decide) ?_
          refine r_put F dX12_readsPiece_99 (v := .int (e_b true)) flX12_186 rfl (e_b_nar _) (e_b_fit _) h72 (e_le rfl) (e_le rfl) (e_lt hnx rfl) (l' := [(72, o72 a72_0 a72_2 a72_3 a72_4 a72_5 a72_6 a72_7 a72_8 a72_9 a72_10 a72_11 a72_17 true a72_19 a72_21 a72_22 a72_29 a72_31 a72_35 a72_37 a72_38 a72_39 a72_40 a72_41 a72_44 a72_50)]) rfl ?_
          refine r_aload_n F dX12_readsPiece_102 rfl ?_
          obtain ⟨q111, hq112, hf⟩ := e_bd hf
          refine r_callV F dX12_readsPiece_103 (b := 72) (dc := 0) (ds := 0) (As := []) (S0 := []) lkX12_147 mX12_next (tX12_next_72 hG (la := x_l X) (h := e_up h [(72, o72 a72_0 a72_2 a72_3 a72_4 a72_5 a72_6 a72_7 a72_8 a72_9 a72_10 a72_11 a72_17 true a72_19 a72_21 a72_22 a72_29 a72_31 a72_35 a72_37 a72_38 a72_39 a72_40 a72_41 a72_44 a72_50)]) hnx rfl h73 hq112) rfl rfl rfl (e_le rfl) (e_le rfl) (e_le rfl) rfl (ci := 12) e_cl12.1 rfl (e_le rfl) (e_lt hnx rfl) (Nat.zero_le _) (Nat.zero_le _) (e_k ?_)
          refine r_wr (l' := [(72, o72 a72_0 a72_2 q111.1 q111.2.1 a72_5 q111.2.2.1 q111.2.2.2 a72_8 a72_9 a72_10 a72_11 a72_17 true a72_19 a72_21 a72_22 a72_29 a72_31 a72_35 a72_37 a72_38 a72_39 a72_40 a72_41 a72_44 a72_50)]) rfl rfl ?_
          refine r_aload_n F dX12_readsPiece_106 rfl ?_
          refine r_get F dX12_readsPiece_107 flX12_25 rfl rfl (e_le rfl) (e_lt hnx rfl) ?_
          refine r_iconst F dX12_readsPiece_110 (v := 2) (by decide) ?_
          refine r_aload_n F dX12_readsPiece_111 rfl ?_
          refine r_iconst F dX12_readsPiece_112 (v := 0) (by decide) ?_
          refine r_bipush F dX12_readsPiece_113 (v := 99) (by decide) ?_
          obtain ⟨q113, hq114, hf⟩ := e_bd hf
          refine r_callV F dX12_readsPiece_115 (b := 72) (dc := 0) (ds := 0) (As := [.int 0, .int 99]) (S0 := [.int 2, .ref 78]) lkX12_159 mX12_takesNumber (tX12_takesNumber_72 hG (la := x_l X) (h := e_up h [(72, o72 a72_0 a72_2 q111.1 q111.2.1 a72_5 q111.2.2.1 q111.2.2.2 a72_8 a72_9 a72_10 a72_11 a72_17 true a72_19 a72_21 a72_22 a72_29 a72_31 a72_35 a72_37 a72_38 a72_39 a72_40 a72_41 a72_44 a72_50)]) hnx rfl h73 hq114) rfl rfl rfl (e_le rfl) (e_le rfl) (e_le rfl) rfl (ci := 12) e_cl12.1 rfl (e_le rfl) (e_lt hnx rfl) (Nat.zero_le _) (Nat.zero_le _) (e_k ?_)
          refine r_wr (l' := [(72, o72 a72_0 a72_2 q113.2.1 q113.2.2.1 q113.2.2.2.1 q113.2.2.2.2.1 q113.2.2.2.2.2 a72_8 a72_9 a72_10 a72_11 a72_17 true a72_19 a72_21 a72_22 a72_29 a72_31 a72_35 a72_37 a72_38 a72_39 a72_40 a72_41 a72_44 a72_50)]) rfl rfl ?_
          refine r_iast F dX12_readsPiece_118 h78 (e_le rfl) (e_lt hnx rfl) (e_vp (by decide)) (l' := [(72, o72 a72_0 a72_2 q113.2.1 q113.2.2.1 q113.2.2.2.1 q113.2.2.2.2.1 q113.2.2.2.2.2 a72_8 a72_9 a72_10 a72_11 a72_17 true a72_19 a72_21 a72_22 a72_29 a72_31 a72_35 a72_37 a72_38 a72_39 a72_40 a72_41 a72_44 a72_50), (78, o78 (upd A78 (tn 2) q113.1))]) rfl ?_
          refine r_goto F dX12_readsPiece_119 (tgt := 166) (by decide) ?_
          refine r_mat (k := 74) h74 (l' := [(72, o72 a72_0 a72_2 q113.2.1 q113.2.2.1 q113.2.2.2.1 q113.2.2.2.2.1 q113.2.2.2.2.2 a72_8 a72_9 a72_10 a72_11 a72_17 true a72_19 a72_21 a72_22 a72_29 a72_31 a72_35 a72_37 a72_38 a72_39 a72_40 a72_41 a72_44 a72_50), (74, o74 A74), (78, o78 (upd A78 (tn 2) q113.1))]) rfl ?_
          refine r_mat (k := 75) h75 (l' := [(72, o72 a72_0 a72_2 q113.2.1 q113.2.2.1 q113.2.2.2.1 q113.2.2.2.2.1 q113.2.2.2.2.2 a72_8 a72_9 a72_10 a72_11 a72_17 true a72_19 a72_21 a72_22 a72_29 a72_31 a72_35 a72_37 a72_38 a72_39 a72_40 a72_41 a72_44 a72_50), (74, o74 A74), (75, o75 A75), (78, o78 (upd A78 (tn 2) q113.1))]) rfl ?_
          refine r_mat (k := 76) h76 (l' := [(72, o72 a72_0 a72_2 q113.2.1 q113.2.2.1 q113.2.2.2.1 q113.2.2.2.2.1 q113.2.2.2.2.2 a72_8 a72_9 a72_10 a72_11 a72_17 true a72_19 a72_21 a72_22 a72_29 a72_31 a72_35 a72_37 a72_38 a72_39 a72_40 a72_41 a72_44 a72_50), (74, o74 A74), (75, o75 A75), (76, o76 A76), (78, o78 (upd A78 (tn 2) q113.1))]) rfl ?_
          refine r_mat (k := 77) h77 (l' := [(72, o72 a72_0 a72_2 q113.2.1 q113.2.2.1 q113.2.2.2.1 q113.2.2.2.2.1 q113.2.2.2.2.2 a72_8 a72_9 a72_10 a72_11 a72_17 true a72_19 a72_21 a72_22 a72_29 a72_31 a72_35 a72_37 a72_38 a72_39 a72_40 a72_41 a72_44 a72_50), (74, o74 A74), (75, o75 A75), (76, o76 A76), (77, o77 A77), (78, o78 (upd A78 (tn 2) q113.1))]) rfl ?_
          obtain rfl := Option.some.inj hf
          exact r_vret F hq dX12_readsPiece_166 rfl rfl (Nat.le_refl _) (Nat.le_refl _) ⟨rfl, rfl⟩
      · have hf := e_f hc hf
        refine r_aload_n F dX12_readsPiece_122 rfl ?_
        refine r_ldcS F dX12_readsPiece_123 (tx := "rule") (a := 12) (by decide +kernel) ?_
        obtain ⟨q115, hq116, hf⟩ := e_bd hf
        refine r_callV F dX12_readsPiece_125 (b := 72) (dc := 0) (ds := 0) (As := [.ref 12]) (S0 := []) lkX12_171 mX12_isWord (tX12_isWord_72_12 hG (la := x_l X) (h := e_up h []) hnx h72 h73 hq116) rfl rfl rfl (e_le rfl) (e_le rfl) (e_le rfl) h72 (ci := 12) e_cl12.1 rfl (e_le rfl) (e_lt hnx rfl) (Nat.zero_le _) (Nat.zero_le _) (e_k ?_)
        refine r_wr0 ?_
        refine r_z_eq F dX12_readsPiece_128 (tgt := 162) (by decide) (fun hc => ?_) (fun hc => ?_)
        · have hf := e_t hc hf
          refine r_aload_n F dX12_readsPiece_131 rfl ?_
          refine r_get F dX12_readsPiece_132 flX12_191 h72 rfl (e_le rfl) (e_lt hnx rfl) ?_
          refine r_z_ne F dX12_readsPiece_135 (tgt := 162) (by decide) (fun hc => ?_) (fun hc => ?_)
          · have hf := e_t hc hf
            refine r_aload_n F dX12_readsPiece_162 rfl ?_
            obtain ⟨q117, hq118, hf⟩ := e_bd hf
            refine r_callV F dX12_readsPiece_163 (b := 72) (dc := 0) (ds := 0) (As := []) (S0 := []) lkX12_150 mX12_bad (tX12_bad_72 hG (la := x_l X) (h := e_up h []) hnx h72 hq118) rfl rfl rfl (e_le rfl) (e_le rfl) (e_le rfl) h72 (ci := 12) e_cl12.1 rfl (e_le rfl) (e_lt hnx rfl) (Nat.zero_le _) (Nat.zero_le _) (e_k ?_)
            refine r_wr (l' := [(72, o72 a72_0 a72_2 a72_3 a72_4 q117 a72_6 a72_7 a72_8 a72_9 a72_10 a72_11 a72_17 a72_18 a72_19 a72_21 a72_22 a72_29 a72_31 a72_35 a72_37 a72_38 a72_39 a72_40 a72_41 a72_44 a72_50)]) rfl rfl ?_
            refine r_mat (k := 74) h74 (l' := [(72, o72 a72_0 a72_2 a72_3 a72_4 q117 a72_6 a72_7 a72_8 a72_9 a72_10 a72_11 a72_17 a72_18 a72_19 a72_21 a72_22 a72_29 a72_31 a72_35 a72_37 a72_38 a72_39 a72_40 a72_41 a72_44 a72_50), (74, o74 A74)]) rfl ?_
            refine r_mat (k := 75) h75 (l' := [(72, o72 a72_0 a72_2 a72_3 a72_4 q117 a72_6 a72_7 a72_8 a72_9 a72_10 a72_11 a72_17 a72_18 a72_19 a72_21 a72_22 a72_29 a72_31 a72_35 a72_37 a72_38 a72_39 a72_40 a72_41 a72_44 a72_50), (74, o74 A74), (75, o75 A75)]) rfl ?_
            refine r_mat (k := 76) h76 (l' := [(72, o72 a72_0 a72_2 a72_3 a72_4 q117 a72_6 a72_7 a72_8 a72_9 a72_10 a72_11 a72_17 a72_18 a72_19 a72_21 a72_22 a72_29 a72_31 a72_35 a72_37 a72_38 a72_39 a72_40 a72_41 a72_44 a72_50), (74, o74 A74), (75, o75 A75), (76, o76 A76)]) rfl ?_
            refine r_mat (k := 77) h77 (l' := [(72, o72 a72_0 a72_2 a72_3 a72_4 q117 a72_6 a72_7 a72_8 a72_9 a72_10 a72_11 a72_17 a72_18 a72_19 a72_21 a72_22 a72_29 a72_31 a72_35 a72_37 a72_38 a72_39 a72_40 a72_41 a72_44 a72_50), (74, o74 A74), (75, o75 A75), (76, o76 A76), (77, o77 A77)]) rfl ?_
            refine r_mat (k := 78) h78 (l' := [(72, o72 a72_0 a72_2 a72_3 a72_4 q117 a72_6 a72_7 a72_8 a72_9 a72_10 a72_11 a72_17 a72_18 a72_19 a72_21 a72_22 a72_29 a72_31 a72_35 a72_37 a72_38 a72_39 a72_40 a72_41 a72_44 a72_50), (74, o74 A74), (75, o75 A75), (76, o76 A76), (77, o77 A77), (78, o78 A78)]) rfl ?_
            obtain rfl := Option.some.inj hf
            exact r_vret F hq dX12_readsPiece_166 rfl rfl (Nat.le_refl _) (Nat.le_refl _) ⟨rfl, rfl⟩
          · have hf := e_f hc hf
            refine r_aload_n F dX12_readsPiece_138 rfl ?_
            refine r_iconst F dX12_readsPiece_139 (v := 1) (by decide) ?_
            refine r_put F dX12_readsPiece_140 (v := .int (e_b true)) flX12_191 rfl (e_b_nar _) (e_b_fit _) h72 (e_le rfl) (e_le rfl) (e_lt hnx rfl) (l' := [(72, o72 a72_0 a72_2 a72_3 a72_4 a72_5 a72_6 a72_7 a72_8 a72_9 a72_10 a72_11 a72_17 a72_18 true a72_21 a72_22 a72_29 a72_31 a72_35 a72_37 a72_38 a72_39 a72_40 a72_41 a72_44 a72_50)]) rfl ?_
            refine r_aload_n F dX12_readsPiece_143 rfl ?_
            obtain ⟨q119, hq120, hf⟩ := e_bd hf
            refine r_callV F dX12_readsPiece_144 (b := 72) (dc := 0) (ds := 0) (As := []) (S0 := []) lkX12_147 mX12_next (tX12_next_72 hG (la := x_l X) (h := e_up h [(72, o72 a72_0 a72_2 a72_3 a72_4 a72_5 a72_6 a72_7 a72_8 a72_9 a72_10 a72_11 a72_17 a72_18 true a72_21 a72_22 a72_29 a72_31 a72_35 a72_37 a72_38 a72_39 a72_40 a72_41 a72_44 a72_50)]) hnx rfl h73 hq120) rfl rfl rfl (e_le rfl) (e_le rfl) (e_le rfl) rfl (ci := 12) e_cl12.1 rfl (e_le rfl) (e_lt hnx rfl) (Nat.zero_le _) (Nat.zero_le _) (e_k ?_)
            refine r_wr (l' := [(72, o72 a72_0 a72_2 q119.1 q119.2.1 a72_5 q119.2.2.1 q119.2.2.2 a72_8 a72_9 a72_10 a72_11 a72_17 a72_18 true a72_21 a72_22 a72_29 a72_31 a72_35 a72_37 a72_38 a72_39 a72_40 a72_41 a72_44 a72_50)]) rfl rfl ?_
            refine r_aload_n F dX12_readsPiece_147 rfl ?_
            refine r_get F dX12_readsPiece_148 flX12_25 rfl rfl (e_le rfl) (e_lt hnx rfl) ?_
            refine r_iconst F dX12_readsPiece_151 (v := 3) (by decide) ?_
            refine r_aload_n F dX12_readsPiece_152 rfl ?_
            refine r_iconst F dX12_readsPiece_153 (v := 0) (by decide) ?_
            refine r_iconst F dX12_readsPiece_154 (v := 2) (by decide) ?_
            obtain ⟨q121, hq122, hf⟩ := e_bd hf
            refine r_callV F dX12_readsPiece_155 (b := 72) (dc := 0) (ds := 0) (As := [.int 0, .int 2]) (S0 := [.int 3, .ref 78]) lkX12_159 mX12_takesNumber (tX12_takesNumber_72 hG (la := x_l X) (h := e_up h [(72, o72 a72_0 a72_2 q119.1 q119.2.1 a72_5 q119.2.2.1 q119.2.2.2 a72_8 a72_9 a72_10 a72_11 a72_17 a72_18 true a72_21 a72_22 a72_29 a72_31 a72_35 a72_37 a72_38 a72_39 a72_40 a72_41 a72_44 a72_50)]) hnx rfl h73 hq122) rfl rfl rfl (e_le rfl) (e_le rfl) (e_le rfl) rfl (ci := 12) e_cl12.1 rfl (e_le rfl) (e_lt hnx rfl) (Nat.zero_le _) (Nat.zero_le _) (e_k ?_)
            refine r_wr (l' := [(72, o72 a72_0 a72_2 q121.2.1 q121.2.2.1 q121.2.2.2.1 q121.2.2.2.2.1 q121.2.2.2.2.2 a72_8 a72_9 a72_10 a72_11 a72_17 a72_18 true a72_21 a72_22 a72_29 a72_31 a72_35 a72_37 a72_38 a72_39 a72_40 a72_41 a72_44 a72_50)]) rfl rfl ?_
            refine r_iast F dX12_readsPiece_158 h78 (e_le rfl) (e_lt hnx rfl) (e_vp (by decide)) (l' := [(72, o72 a72_0 a72_2 q121.2.1 q121.2.2.1 q121.2.2.2.1 q121.2.2.2.2.1 q121.2.2.2.2.2 a72_8 a72_9 a72_10 a72_11 a72_17 a72_18 true a72_21 a72_22 a72_29 a72_31 a72_35 a72_37 a72_38 a72_39 a72_40 a72_41 a72_44 a72_50), (78, o78 (upd A78 (tn 3) q121.1))]) rfl ?_
            refine r_goto F dX12_readsPiece_159 (tgt := 166) (by decide) ?_
            refine r_mat (k := 74) h74 (l' := [(72, o72 a72_0 a72_2 q121.2.1 q121.2.2.1 q121.2.2.2.1 q121.2.2.2.2.1 q121.2.2.2.2.2 a72_8 a72_9 a72_10 a72_11 a72_17 a72_18 true a72_21 a72_22 a72_29 a72_31 a72_35 a72_37 a72_38 a72_39 a72_40 a72_41 a72_44 a72_50), (74, o74 A74), (78, o78 (upd A78 (tn 3) q121.1))]) rfl ?_
            refine r_mat (k := 75) h75 (l' := [(72, o72 a72_0 a72_2 q121.2.1 q121.2.2.1 q121.2.2.2.1 q121.2.2.2.2.1 q121.2.2.2.2.2 a72_8 a72_9 a72_10 a72_11 a72_17 a72_18 true a72_21 a72_22 a72_29 a72_31 a72_35 a72_37 a72_38 a72_39 a72_40 a72_41 a72_44 a72_50), (74, o74 A74), (75, o75 A75), (78, o78 (upd A78 (tn 3) q121.1))]) rfl ?_
            refine r_mat (k := 76) h76 (l' := [(72, o72 a72_0 a72_2 q121.2.1 q121.2.2.1 q121.2.2.2.1 q121.2.2.2.2.1 q121.2.2.2.2.2 a72_8 a72_9 a72_10 a72_11 a72_17 a72_18 true a72_21 a72_22 a72_29 a72_31 a72_35 a72_37 a72_38 a72_39 a72_40 a72_41 a72_44 a72_50), (74, o74 A74), (75, o75 A75), (76, o76 A76), (78, o78 (upd A78 (tn 3) q121.1))]) rfl ?_
            refine r_mat (k := 77) h77 (l' := [(72, o72 a72_0 a72_2 q121.2.1 q121.2.2.1 q121.2.2.2.1 q121.2.2.2.2.1 q121.2.2.2.2.2 a72_8 a72_9 a72_10 a72_11 a72_17 a72_18 true a72_21 a72_22 a72_29 a72_31 a72_35 a72_37 a72_38 a72_39 a72_40 a72_41 a72_44 a72_50), (74, o74 A74), (75, o75 A75), (76, o76 A76), (77, o77 A77), (78, o78 (upd A78 (tn 3) q121.1))]) rfl ?_
            obtain rfl := Option.some.inj hf
            exact r_vret F hq dX12_readsPiece_166 rfl rfl (Nat.le_refl _) (Nat.le_refl _) ⟨rfl, rfl⟩
        · have hf := e_f hc hf
          refine r_aload_n F dX12_readsPiece_162 rfl ?_
          obtain ⟨q123, hq124, hf⟩ := e_bd hf
          refine r_callV F dX12_readsPiece_163 (b := 72) (dc := 0) (ds := 0) (As := []) (S0 := []) lkX12_150 mX12_bad (tX12_bad_72 hG (la := x_l X) (h := e_up h []) hnx h72 hq124) rfl rfl rfl (e_le rfl) (e_le rfl) (e_le rfl) h72 (ci := 12) e_cl12.1 rfl (e_le rfl) (e_lt hnx rfl) (Nat.zero_le _) (Nat.zero_le _) (e_k ?_)
          refine r_wr (l' := [(72, o72 a72_0 a72_2 a72_3 a72_4 q123 a72_6 a72_7 a72_8 a72_9 a72_10 a72_11 a72_17 a72_18 a72_19 a72_21 a72_22 a72_29 a72_31 a72_35 a72_37 a72_38 a72_39 a72_40 a72_41 a72_44 a72_50)]) rfl rfl ?_
          refine r_mat (k := 74) h74 (l' := [(72, o72 a72_0 a72_2 a72_3 a72_4 q123 a72_6 a72_7 a72_8 a72_9 a72_10 a72_11 a72_17 a72_18 a72_19 a72_21 a72_22 a72_29 a72_31 a72_35 a72_37 a72_38 a72_39 a72_40 a72_41 a72_44 a72_50), (74, o74 A74)]) rfl ?_
          refine r_mat (k := 75) h75 (l' := [(72, o72 a72_0 a72_2 a72_3 a72_4 q123 a72_6 a72_7 a72_8 a72_9 a72_10 a72_11 a72_17 a72_18 a72_19 a72_21 a72_22 a72_29 a72_31 a72_35 a72_37 a72_38 a72_39 a72_40 a72_41 a72_44 a72_50), (74, o74 A74), (75, o75 A75)]) rfl ?_
          refine r_mat (k := 76) h76 (l' := [(72, o72 a72_0 a72_2 a72_3 a72_4 q123 a72_6 a72_7 a72_8 a72_9 a72_10 a72_11 a72_17 a72_18 a72_19 a72_21 a72_22 a72_29 a72_31 a72_35 a72_37 a72_38 a72_39 a72_40 a72_41 a72_44 a72_50), (74, o74 A74), (75, o75 A75), (76, o76 A76)]) rfl ?_
          refine r_mat (k := 77) h77 (l' := [(72, o72 a72_0 a72_2 a72_3 a72_4 q123 a72_6 a72_7 a72_8 a72_9 a72_10 a72_11 a72_17 a72_18 a72_19 a72_21 a72_22 a72_29 a72_31 a72_35 a72_37 a72_38 a72_39 a72_40 a72_41 a72_44 a72_50), (74, o74 A74), (75, o75 A75), (76, o76 A76), (77, o77 A77)]) rfl ?_
          refine r_mat (k := 78) h78 (l' := [(72, o72 a72_0 a72_2 a72_3 a72_4 q123 a72_6 a72_7 a72_8 a72_9 a72_10 a72_11 a72_17 a72_18 a72_19 a72_21 a72_22 a72_29 a72_31 a72_35 a72_37 a72_38 a72_39 a72_40 a72_41 a72_44 a72_50), (74, o74 A74), (75, o75 A75), (76, o76 A76), (77, o77 A77), (78, o78 A78)]) rfl ?_
          obtain rfl := Option.some.inj hf
          exact r_vret F hq dX12_readsPiece_166 rfl rfl (Nat.le_refl _) (Nat.le_refl _) ⟨rfl, rfl⟩
