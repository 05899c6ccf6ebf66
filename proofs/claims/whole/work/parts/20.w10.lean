def fX12_set (a72_0 : Int32) (a72_21 : Int32) (A80 : Nat → Int32) (A87 : Nat → Int32) (p0 : Int32) (p1 : Int32) : Option (Int32 × Int32 × (Nat → Int32) × (Nat → Int32)) :=
  (fX12_isCrystal a72_21).bind (fun q1 =>
  if q1 = true then
    (fX12_in (Int32.toInt64 p0) 0 3).bind (fun q3 =>
    if q3 = true then
      (fX12_canBe p0 p1).bind (fun q5 =>
      if q5 = true then
        e_g (e_in p0 4) (
        e_g (e_in p0 4) (
        some (A80 (tn p0), 0, upd A80 (tn p0) p1, A87)))
      else
        (fX12_refuses A87 2).bind (fun q7 =>
        some ((-1000000), 0, A80, q7.2)))
    else
      (fX12_refuses A87 2).bind (fun q9 =>
      some ((-1000000), 0, A80, q9.2)))
  else
    (fX12_refuses A87 0).bind (fun q11 =>
    some ((-1000000), 0, A80, q11.2)))
set_option maxRecDepth 100000 in
theorem tX12_set_72 {G : eG} (hG : e_GS G) {la : Launch} {h : Nat → eO} {nx : Nat} (hnx : 99 ≤ nx) {a72_0 : Int32} {a72_2 : Int32} {a72_3 : Int32} {a72_4 : Int32} {a72_5 : Int32} {a72_6 : Int32} {a72_7 : Int32} {a72_8 : Bool} {a72_9 : Int32} {a72_10 : Int32} {a72_11 : Int32} {a72_17 : Bool} {a72_18 : Bool} {a72_19 : Bool} {a72_21 : Int32} {a72_22 : Int32} {a72_29 : Int32} {a72_31 : Int32} {a72_35 : Int32} {a72_37 : Bool} {a72_38 : Int32} {a72_39 : Int32} {a72_40 : Int32} {a72_41 : Int64} {a72_44 : Int32} {a72_50 : Bool} {A80 : Nat → Int32} {A87 : Nat → Int32} {p0 : Int32} {p1 : Int32} (h72 : h 72 = o72 a72_0 a72_2 a72_3 a72_4 a72_5 a72_6 a72_7 a72_8 a72_9 a72_10 a72_11 a72_17 a72_18 a72_19 a72_21 a72_22 a72_29 a72_31 a72_35 a72_37 a72_38 a72_39 a72_40 a72_41 a72_44 a72_50) (h80 : h 80 = o80 A80) (h87 : h 87 = o87 A87) {R9 : Int32 × Int32 × (Nat → Int32) × (Nat → Int32)} (hf : fX12_set a72_0 a72_21 A80 A87 p0 p1 = some R9) :
    eSem G la MX12_set [.ref 72, .int p0, .int p1] h nx 0 0 (fun r9 h9 => r9 = some (.int R9.1) ∧ h9 = e_up h [(72, o72 R9.2.1 a72_2 a72_3 a72_4 a72_5 a72_6 a72_7 a72_8 a72_9 a72_10 a72_11 a72_17 a72_18 a72_19 a72_21 a72_22 a72_29 a72_31 a72_35 a72_37 a72_38 a72_39 a72_40 a72_41 a72_44 a72_50), (80, o80 R9.2.2.1), (87, o87 R9.2.2.2)]) := by
  refine eSem.of (k := 1) (L := [some (.ref 72), some (.int p0), some (.int p1), none]) (by decide +kernel) rfl rfl (fun X F hxl hq hcR hsR => ?_)
  subst hxl
  unfold fX12_set at hf
  refine r_aload_n F dX12_set_0 rfl ?_
  refine r_iconst F dX12_set_1 (v := 0) (by decide) ?_
  refine r_put F dX12_set_2 flX12_86 rfl rfl rfl h72 (e_le rfl) (e_le rfl) (e_lt hnx rfl) (l' := [(72, o72 0 a72_2 a72_3 a72_4 a72_5 a72_6 a72_7 a72_8 a72_9 a72_10 a72_11 a72_17 a72_18 a72_19 a72_21 a72_22 a72_29 a72_31 a72_35 a72_37 a72_38 a72_39 a72_40 a72_41 a72_44 a72_50)]) rfl ?_
  refine r_aload_n F dX12_set_5 rfl ?_
  obtain ⟨q1, hq2, hf⟩ := e_bd hf
  refine r_callV F dX12_set_6 (b := 72) (dc := 0) (ds := 0) (As := []) (S0 := []) lkX12_306 mX12_isCrystal (tX12_isCrystal_72 hG (la := x_l X) (h := e_up h [(72, o72 0 a72_2 a72_3 a72_4 a72_5 a72_6 a72_7 a72_8 a72_9 a72_10 a72_11 a72_17 a72_18 a72_19 a72_21 a72_22 a72_29 a72_31 a72_35 a72_37 a72_38 a72_39 a72_40 a72_41 a72_44 a72_50)]) hnx rfl hq2) rfl rfl rfl (e_le rfl) (e_le rfl) (e_le rfl) rfl (ci := 12) e_cl12.1 rfl (e_le rfl) (e_lt hnx rfl) (Nat.zero_le _) (Nat.zero_le _) (e_k ?_)
  refine r_wr0 ?_
  refine r_z_ne F dX12_set_9 (tgt := 22) (by decide) (fun hc => ?_) (fun hc => ?_)
  · have hf := e_t hc hf
    refine r_iload_n F dX12_set_22 rfl ?_
    refine r_i2l F dX12_set_23 ?_
    refine r_lconst F dX12_set_24 (v := 0) (by decide) ?_
    refine r_ldc2 F dX12_set_25 klX12_291 ?_
    obtain ⟨q3, hq4, hf⟩ := e_bd hf
    refine r_callS F dX12_set_28 (dc := 0) (ds := 0) (As := [.long (Int32.toInt64 p0), .long 0, .long 3]) (S0 := []) lkX12_97 mX12_in (tX12_in hG (la := x_l X) (h := e_up h [(72, o72 0 a72_2 a72_3 a72_4 a72_5 a72_6 a72_7 a72_8 a72_9 a72_10 a72_11 a72_17 a72_18 a72_19 a72_21 a72_22 a72_29 a72_31 a72_35 a72_37 a72_38 a72_39 a72_40 a72_41 a72_44 a72_50)]) hnx  hq4) rfl rfl rfl (e_le rfl) (e_le rfl) (e_le rfl) (Nat.zero_le _) (Nat.zero_le _) (e_k ?_)
    refine r_wr0 ?_
    refine r_z_eq F dX12_set_31 (tgt := 42) (by decide) (fun hc => ?_) (fun hc => ?_)
    · have hf := e_t hc hf
      refine r_iload_n F dX12_set_34 rfl ?_
      refine r_iload_n F dX12_set_35 rfl ?_
      obtain ⟨q5, hq6, hf⟩ := e_bd hf
      refine r_callS F dX12_set_36 (dc := 0) (ds := 0) (As := [.int p0, .int p1]) (S0 := []) lkX12_418 mX12_canBe (tX12_canBe hG (la := x_l X) (h := e_up h [(72, o72 0 a72_2 a72_3 a72_4 a72_5 a72_6 a72_7 a72_8 a72_9 a72_10 a72_11 a72_17 a72_18 a72_19 a72_21 a72_22 a72_29 a72_31 a72_35 a72_37 a72_38 a72_39 a72_40 a72_41 a72_44 a72_50)]) hnx  hq6) rfl rfl rfl (e_le rfl) (e_le rfl) (e_le rfl) (Nat.zero_le _) (Nat.zero_le _) (e_k ?_)
      refine r_wr0 ?_
      refine r_z_ne F dX12_set_39 (tgt := 52) (by decide) (fun hc => ?_) (fun hc => ?_)
      · have hf := e_t hc hf
        refine r_aload_n F dX12_set_52 rfl ?_
        refine r_get F dX12_set_53 flX12_31 rfl rfl (e_le rfl) (e_lt hnx rfl) ?_
        refine r_iload_n F dX12_set_56 rfl ?_
        obtain ⟨hg, hf⟩ := e_gd hf
        refine r_iald F dX12_set_57 (i := p0) h80 (e_le rfl) (e_lt hnx rfl) (e_vp hg) ?_
        refine r_istore_n F dX12_set_58 (e_le rfl) (L' := [some (.ref 72), some (.int p0), some (.int p1), some (.int (A80 (tn p0)))]) rfl ?_
        refine r_aload_n F dX12_set_59 rfl ?_
        refine r_get F dX12_set_60 flX12_31 rfl rfl (e_le rfl) (e_lt hnx rfl) ?_
        refine r_iload_n F dX12_set_63 rfl ?_
        refine r_iload_n F dX12_set_64 rfl ?_
        obtain ⟨hg, hf⟩ := e_gd hf
        refine r_iast F dX12_set_65 h80 (e_le rfl) (e_lt hnx rfl) (e_vp hg) (l' := [(72, o72 0 a72_2 a72_3 a72_4 a72_5 a72_6 a72_7 a72_8 a72_9 a72_10 a72_11 a72_17 a72_18 a72_19 a72_21 a72_22 a72_29 a72_31 a72_35 a72_37 a72_38 a72_39 a72_40 a72_41 a72_44 a72_50), (80, o80 (upd A80 (tn p0) p1))]) rfl ?_
        refine r_iload_n F dX12_set_66 rfl ?_
        refine r_mat (k := 87) h87 (l' := [(72, o72 0 a72_2 a72_3 a72_4 a72_5 a72_6 a72_7 a72_8 a72_9 a72_10 a72_11 a72_17 a72_18 a72_19 a72_21 a72_22 a72_29 a72_31 a72_35 a72_37 a72_38 a72_39 a72_40 a72_41 a72_44 a72_50), (80, o80 (upd A80 (tn p0) p1)), (87, o87 A87)]) rfl ?_
        obtain rfl := Option.some.inj hf
        exact r_iret F hq dX12_set_67 rfl rfl (Nat.le_refl _) (Nat.le_refl _) ⟨rfl, rfl⟩
      · have hf := e_f hc hf
        refine r_aload_n F dX12_set_42 rfl ?_
        refine r_iconst F dX12_set_43 (v := 2) (by decide) ?_
        obtain ⟨q7, hq8, hf⟩ := e_bd hf
        refine r_callV F dX12_set_44 (b := 72) (dc := 0) (ds := 0) (As := [.int 2]) (S0 := []) lkX12_354 mX12_refuses (tX12_refuses_72 hG (la := x_l X) (h := e_up h [(72, o72 0 a72_2 a72_3 a72_4 a72_5 a72_6 a72_7 a72_8 a72_9 a72_10 a72_11 a72_17 a72_18 a72_19 a72_21 a72_22 a72_29 a72_31 a72_35 a72_37 a72_38 a72_39 a72_40 a72_41 a72_44 a72_50)]) hnx rfl h87 hq8) rfl rfl rfl (e_le rfl) (e_le rfl) (e_le rfl) rfl (ci := 12) e_cl12.1 rfl (e_le rfl) (e_lt hnx rfl) (Nat.zero_le _) (Nat.zero_le _) (e_k ?_)
        refine r_wr (l' := [(72, o72 0 a72_2 a72_3 a72_4 a72_5 a72_6 a72_7 a72_8 a72_9 a72_10 a72_11 a72_17 a72_18 a72_19 a72_21 a72_22 a72_29 a72_31 a72_35 a72_37 a72_38 a72_39 a72_40 a72_41 a72_44 a72_50), (87, o87 q7.2)]) rfl rfl ?_
        refine r_pop F dX12_set_47 rfl ?_
        refine r_ldcw F dX12_set_48 kcX12_310 ?_
        refine r_mat (k := 80) h80 (l' := [(72, o72 0 a72_2 a72_3 a72_4 a72_5 a72_6 a72_7 a72_8 a72_9 a72_10 a72_11 a72_17 a72_18 a72_19 a72_21 a72_22 a72_29 a72_31 a72_35 a72_37 a72_38 a72_39 a72_40 a72_41 a72_44 a72_50), (80, o80 A80), (87, o87 q7.2)]) rfl ?_
        obtain rfl := Option.some.inj hf
        exact r_iret F hq dX12_set_51 rfl rfl (Nat.le_refl _) (Nat.le_refl _) ⟨rfl, rfl⟩
    · have hf := e_f hc hf
      refine r_aload_n F dX12_set_42 rfl ?_
      refine r_iconst F dX12_set_43 (v := 2) (by decide) ?_
      obtain ⟨q9, hq10, hf⟩ := e_bd hf
      refine r_callV F dX12_set_44 (b := 72) (dc := 0) (ds := 0) (As := [.int 2]) (S0 := []) lkX12_354 mX12_refuses (tX12_refuses_72 hG (la := x_l X) (h := e_up h [(72, o72 0 a72_2 a72_3 a72_4 a72_5 a72_6 a72_7 a72_8 a72_9 a72_10 a72_11 a72_17 a72_18 a72_19 a72_21 a72_22 a72_29 a72_31 a72_35 a72_37 a72_38 a72_39 a72_40 a72_41 a72_44 a72_50)]) hnx rfl h87 hq10) rfl rfl rfl (e_le rfl) (e_le rfl) (e_le rfl) rfl (ci := 12) e_cl12.1 rfl (e_le rfl) (e_lt hnx rfl) (Nat.zero_le _) (Nat.zero_le _) (e_k ?_)
      refine r_wr (l' := [(72, o72 0 a72_2 a72_3 a72_4 a72_5 a72_6 a72_7 a72_8 a72_9 a72_10 a72_11 a72_17 a72_18 a72_19 a72_21 a72_22 a72_29 a72_31 a72_35 a72_37 a72_38 a72_39 a72_40 a72_41 a72_44 a72_50), (87, o87 q9.2)]) rfl rfl ?_
      refine r_pop F dX12_set_47 rfl ?_
      refine r_ldcw F dX12_set_48 kcX12_310 ?_
      refine r_mat (k := 80) h80 (l' := [(72, o72 0 a72_2 a72_3 a72_4 a72_5 a72_6 a72_7 a72_8 a72_9 a72_10 a72_11 a72_17 a72_18 a72_19 a72_21 a72_22 a72_29 a72_31 a72_35 a72_37 a72_38 a72_39 a72_40 a72_41 a72_44 a72_50), (80, o80 A80), (87, o87 q9.2)]) rfl ?_
      obtain rfl := Option.some.inj hf
      exact r_iret F hq dX12_set_51 rfl rfl (Nat.le_refl _) (Nat.le_refl _) ⟨rfl, rfl⟩
  · have hf := e_f hc hf
    refine r_aload_n F dX12_set_12 rfl ?_
    refine r_iconst F dX12_set_13 (v := 0) (by decide) ?_
    obtain ⟨q11, hq12, hf⟩ := e_bd hf
    refine r_callV F dX12_set_14 (b := 72) (dc := 0) (ds := 0) (As := [.int 0]) (S0 := []) lkX12_354 mX12_refuses (tX12_refuses_72 hG (la := x_l X) (h := e_up h [(72, o72 0 a72_2 a72_3 a72_4 a72_5 a72_6 a72_7 a72_8 a72_9 a72_10 a72_11 a72_17 a72_18 a72_19 a72_21 a72_22 a72_29 a72_31 a72_35 a72_37 a72_38 a72_39 a72_40 a72_41 a72_44 a72_50)]) hnx rfl h87 hq12) rfl rfl rfl (e_le rfl) (e_le rfl) (e_le rfl) rfl (ci := 12) e_cl12.1 rfl (e_le rfl) (e_lt hnx rfl) (Nat.zero_le _) (Nat.zero_le _) (e_k ?_)
    refine r_wr (l' := [(72, o72 0 a72_2 a72_3 a72_4 a72_5 a72_6 a72_7 a72_8 a72_9 a72_10 a72_11 a72_17 a72_18 a72_19 a72_21 a72_22 a72_29 a72_31 a72_35 a72_37 a72_38 a72_39 a72_40 a72_41 a72_44 a72_50), (87, o87 q11.2)]) rfl rfl ?_
    refine r_pop F dX12_set_17 rfl ?_
    refine r_ldcw F dX12_set_18 kcX12_310 ?_
    refine r_mat (k := 80) h80 (l' := [(72, o72 0 a72_2 a72_3 a72_4 a72_5 a72_6 a72_7 a72_8 a72_9 a72_10 a72_11 a72_17 a72_18 a72_19 a72_21 a72_22 a72_29 a72_31 a72_35 a72_37 a72_38 a72_39 a72_40 a72_41 a72_44 a72_50), (80, o80 A80), (87, o87 q11.2)]) rfl ?_
    obtain rfl := Option.some.inj hf
    exact r_iret F hq dX12_set_21 rfl rfl (Nat.le_refl _) (Nat.le_refl _) ⟨rfl, rfl⟩

def fX12_shake (a72_0 : Int32) (a72_21 : Int32) (a72_22 : Int32) (a72_29 : Int32) (a72_31 : Int32) (a72_41 : Int64) (A79 : Nat → Int32) (A80 : Nat → Int32) (A81 : Nat → Int32) (A82 : Nat → Int32) (A83 : Nat → Int32) (A84 : Nat → Int32) (A85 : Nat → Int32) (A86 : Nat → Int32) (A87 : Nat → Int32) (p0 : Int32) (p1 : Int64) : Option (Int32 × Int32 × Int32 × Int32 × Int64 × (Nat → Int32) × (Nat → Int32) × (Nat → Int32) × (Nat → Int32) × (Nat → Int32) × (Nat → Int32) × (Nat → Int32) × (Nat → Int32)) :=
  (fX12_isCrystal a72_21).bind (fun q1 =>
  if q1 = true then
    (fX12_in (Int32.toInt64 p0) 1 60).bind (fun q3 =>
    if q3 = true then
      (fX12_keeps a72_31 A79 A86).bind (fun q5 =>
      (e_loop (fun (v9 : Int32 × Int32 × Int32 × Int64 × (Nat → Int32) × (Nat → Int32) × (Nat → Int32) × (Nat → Int32) × (Nat → Int32) × (Nat → Int32)) => (
          if p0 ≤ v9.2.1 then
            some (.inr (v9.1, v9.2.2.1, v9.2.2.2.1, v9.2.2.2.2.1, v9.2.2.2.2.2.1, v9.2.2.2.2.2.2.1, v9.2.2.2.2.2.2.2.1, v9.2.2.2.2.2.2.2.2.1, v9.2.2.2.2.2.2.2.2.2))
          else
            (fX12_laysCores a72_21 a72_22 v9.2.2.1 v9.2.2.2.2.1 A80 v9.2.2.2.2.2.1 v9.2.2.2.2.2.2.1 v9.2.2.2.2.2.2.2.1 v9.2.2.2.2.2.2.2.2.1 v9.2.2.2.2.2.2.2.2.2).bind (fun q12 =>
            Option.bind (α := Int32 × Int64 × (Nat → Int32)) (
              if q12.2.1 ≤ 0 then
                some (v9.1, v9.2.2.2.1, v9.2.2.2.2.1)
              else
                (fX12_draw v9.2.2.2.1 q12.2.1).bind (fun q16 =>
                (fX12_draw q16.2 2).bind (fun q18 =>
                Option.bind (α := Bool) (
                  if q18.1 = 1 then
                    some true
                  else
                    some false) (fun q20 =>
                (fX12_way q12.2.2.2.2.1 q12.2.2.2.2.2.1 q16.1).bind (fun q22 =>
                if q22 = (-1) then
                  some (v9.1, q18.2, v9.2.2.2.2.1)
                else
                  e_g (e_in q16.1 64) (
                  e_g (e_in q16.1 64) (
                  (fX12_way q12.2.2.2.2.1 q12.2.2.2.2.2.1 q16.1).bind (fun q24 =>
                  (fX12_directionOf q24 q20).bind (fun q26 =>
                  e_g (e_in q16.1 64) (
                  e_g (e_in q16.1 64) (
                  (fX12_moves a72_21 a72_22 v9.2.2.2.2.1 (q12.2.2.1 (tn q16.1)) (q12.2.2.2.1 (tn q16.1)) q26 (q12.2.2.2.2.1 (tn q16.1)) (q12.2.2.2.2.2.1 (tn q16.1))).bind (fun q28 =>
                  some (v9.1 + 1, q18.2, q28.2))))))))))))) (fun q14 =>
            some (.inl (q14.1, v9.2.1 + 1, q12.2.1, q14.2.1, q14.2.2, q12.2.2.1, q12.2.2.2.1, q12.2.2.2.2.1, q12.2.2.2.2.2.1, q12.2.2.2.2.2.2)))) : Option ((Int32 × Int32 × Int32 × Int64 × (Nat → Int32) × (Nat → Int32) × (Nat → Int32) × (Nat → Int32) × (Nat → Int32) × (Nat → Int32)) ⊕ (Int32 × Int32 × Int64 × (Nat → Int32) × (Nat → Int32) × (Nat → Int32) × (Nat → Int32) × (Nat → Int32) × (Nat → Int32))))) e_fuel (0, 0, a72_29, p1, A79, A81, A82, A83, A84, A85)).bind (fun x10 =>
      some (x10.1, 0, x10.2.1, q5.1, x10.2.2.1, x10.2.2.2.1, x10.2.2.2.2.1, x10.2.2.2.2.2.1, x10.2.2.2.2.2.2.1, x10.2.2.2.2.2.2.2.1, x10.2.2.2.2.2.2.2.2, q5.2, A87)))
    else
      (fX12_refuses A87 2).bind (fun q30 =>
      some (q30.1, 0, a72_29, a72_31, a72_41, A79, A81, A82, A83, A84, A85, A86, q30.2)))
  else
    (fX12_refuses A87 0).bind (fun q32 =>
    some (q32.1, 0, a72_29, a72_31, a72_41, A79, A81, A82, A83, A84, A85, A86, q32.2)))
set_option maxRecDepth 100000 in
theorem tX12_shake_72 {G : eG} (hG : e_GS G) {la : Launch} {h : Nat → eO} {nx : Nat} (hnx : 99 ≤ nx) {a72_0 : Int32} {a72_2 : Int32} {a72_3 : Int32} {a72_4 : Int32} {a72_5 : Int32} {a72_6 : Int32} {a72_7 : Int32} {a72_8 : Bool} {a72_9 : Int32} {a72_10 : Int32} {a72_11 : Int32} {a72_17 : Bool} {a72_18 : Bool} {a72_19 : Bool} {a72_21 : Int32} {a72_22 : Int32} {a72_29 : Int32} {a72_31 : Int32} {a72_35 : Int32} {a72_37 : Bool} {a72_38 : Int32} {a72_39 : Int32} {a72_40 : Int32} {a72_41 : Int64} {a72_44 : Int32} {a72_50 : Bool} {A79 : Nat → Int32} {A80 : Nat → Int32} {A81 : Nat → Int32} {A82 : Nat → Int32} {A83 : Nat → Int32} {A84 : Nat → Int32} {A85 : Nat → Int32} {A86 : Nat → Int32} {A87 : Nat → Int32} {p0 : Int32} {p1 : Int64} (h72 : h 72 = o72 a72_0 a72_2 a72_3 a72_4 a72_5 a72_6 a72_7 a72_8 a72_9 a72_10 a72_11 a72_17 a72_18 a72_19 a72_21 a72_22 a72_29 a72_31 a72_35 a72_37 a72_38 a72_39 a72_40 a72_41 a72_44 a72_50) (h79 : h 79 = o79 A79) (h80 : h 80 = o80 A80) (h81 : h 81 = o81 A81) (h82 : h 82 = o82 A82) (h83 : h 83 = o83 A83) (h84 : h 84 = o84 A84) (h85 : h 85 = o85 A85) (h86 : h 86 = o86 A86) (h87 : h 87 = o87 A87) {R9 : Int32 × Int32 × Int32 × Int32 × Int64 × (Nat → Int32) × (Nat → Int32) × (Nat → Int32) × (Nat → Int32) × (Nat → Int32) × (Nat → Int32) × (Nat → Int32) × (Nat → Int32)} (hf : fX12_shake a72_0 a72_21 a72_22 a72_29 a72_31 a72_41 A79 A80 A81 A82 A83 A84 A85 A86 A87 p0 p1 = some R9) :
    eSem G la MX12_shake [.ref 72, .int p0, .long p1] h nx 0 0 (fun r9 h9 => r9 = some (.int R9.1) ∧ h9 = e_up h [(72, o72 R9.2.1 a72_2 a72_3 a72_4 a72_5 a72_6 a72_7 a72_8 a72_9 a72_10 a72_11 a72_17 a72_18 a72_19 a72_21 a72_22 R9.2.2.1 R9.2.2.2.1 a72_35 a72_37 a72_38 a72_39 a72_40 R9.2.2.2.2.1 a72_44 a72_50), (79, o79 R9.2.2.2.2.2.1), (81, o81 R9.2.2.2.2.2.2.1), (82, o82 R9.2.2.2.2.2.2.2.1), (83, o83 R9.2.2.2.2.2.2.2.2.1), (84, o84 R9.2.2.2.2.2.2.2.2.2.1), (85, o85 R9.2.2.2.2.2.2.2.2.2.2.1), (86, o86 R9.2.2.2.2.2.2.2.2.2.2.2.1), (87, o87 R9.2.2.2.2.2.2.2.2.2.2.2.2)]) := by
  refine eSem.of (k := 4) (L := [some (.ref 72), some (.int p0), some (.long p1), none, none, none, none, none]) (by decide +kernel) rfl rfl (fun X F hxl hq hcR hsR => ?_)
  subst hxl
  unfold fX12_shake at hf
  refine r_aload_n F dX12_shake_0 rfl ?_
  refine r_iconst F dX12_shake_1 (v := 0) (by decide) ?_
  refine r_put F dX12_shake_2 flX12_86 rfl rfl rfl h72 (e_le rfl) (e_le rfl) (e_lt hnx rfl) (l' := [(72, o72 0 a72_2 a72_3 a72_4 a72_5 a72_6 a72_7 a72_8 a72_9 a72_10 a72_11 a72_17 a72_18 a72_19 a72_21 a72_22 a72_29 a72_31 a72_35 a72_37 a72_38 a72_39 a72_40 a72_41 a72_44 a72_50)]) rfl ?_
  refine r_aload_n F dX12_shake_5 rfl ?_
  obtain ⟨q1, hq2, hf⟩ := e_bd hf
  refine r_callV F dX12_shake_6 (b := 72) (dc := 0) (ds := 0) (As := []) (S0 := []) lkX12_306 mX12_isCrystal (tX12_isCrystal_72 hG (la := x_l X) (h := e_up h [(72, o72 0 a72_2 a72_3 a72_4 a72_5 a72_6 a72_7 a72_8 a72_9 a72_10 a72_11 a72_17 a72_18 a72_19 a72_21 a72_22 a72_29 a72_31 a72_35 a72_37 a72_38 a72_39 a72_40 a72_41 a72_44 a72_50)]) hnx rfl hq2) rfl rfl rfl (e_le rfl) (e_le rfl) (e_le rfl) rfl (ci := 12) e_cl12.1 rfl (e_le rfl) (e_lt hnx rfl) (Nat.zero_le _) (Nat.zero_le _) (e_k ?_)
  refine r_wr0 ?_
  refine r_z_ne F dX12_shake_9 (tgt := 18) (by decide) (fun hc => ?_) (fun hc => ?_)
  · have hf := e_t hc hf
    refine r_iload_n F dX12_shake_18 rfl ?_
    refine r_i2l F dX12_shake_19 ?_
    refine r_lconst F dX12_shake_20 (v := 1) (by decide) ?_
    refine r_ldc2 F dX12_shake_21 klX12_267 ?_
    obtain ⟨q3, hq4, hf⟩ := e_bd hf
    refine r_callS F dX12_shake_24 (dc := 0) (ds := 0) (As := [.long (Int32.toInt64 p0), .long 1, .long 60]) (S0 := []) lkX12_97 mX12_in (tX12_in hG (la := x_l X) (h := e_up h [(72, o72 0 a72_2 a72_3 a72_4 a72_5 a72_6 a72_7 a72_8 a72_9 a72_10 a72_11 a72_17 a72_18 a72_19 a72_21 a72_22 a72_29 a72_31 a72_35 a72_37 a72_38 a72_39 a72_40 a72_41 a72_44 a72_50)]) hnx  hq4) rfl rfl rfl (e_le rfl) (e_le rfl) (e_le rfl) (Nat.zero_le _) (Nat.zero_le _) (e_k ?_)
    refine r_wr0 ?_
    refine r_z_ne F dX12_shake_27 (tgt := 36) (by decide) (fun hc => ?_) (fun hc => ?_)
    · have hf := e_t hc hf
      refine r_aload_n F dX12_shake_36 rfl ?_
      obtain ⟨q5, hq6, hf⟩ := e_bd hf
      refine r_callV F dX12_shake_37 (b := 72) (dc := 0) (ds := 0) (As := []) (S0 := []) lkX12_364 mX12_keeps (tX12_keeps_72 hG (la := x_l X) (h := e_up h [(72, o72 0 a72_2 a72_3 a72_4 a72_5 a72_6 a72_7 a72_8 a72_9 a72_10 a72_11 a72_17 a72_18 a72_19 a72_21 a72_22 a72_29 a72_31 a72_35 a72_37 a72_38 a72_39 a72_40 a72_41 a72_44 a72_50)]) hnx rfl h79 h86 hq6) rfl rfl rfl (e_le rfl) (e_le rfl) (e_le rfl) rfl (ci := 12) e_cl12.1 rfl (e_le rfl) (e_lt hnx rfl) (Nat.zero_le _) (Nat.zero_le _) (e_k ?_)
      refine r_wr (l' := [(72, o72 0 a72_2 a72_3 a72_4 a72_5 a72_6 a72_7 a72_8 a72_9 a72_10 a72_11 a72_17 a72_18 a72_19 a72_21 a72_22 a72_29 q5.1 a72_35 a72_37 a72_38 a72_39 a72_40 a72_41 a72_44 a72_50), (86, o86 q5.2)]) rfl rfl ?_
      refine r_aload_n F dX12_shake_40 rfl ?_
      refine r_lload_n F dX12_shake_41 rfl ?_
      refine r_put F dX12_shake_42 flX12_401 rfl rfl rfl rfl (e_le rfl) (e_le rfl) (e_lt hnx rfl) (l' := [(72, o72 0 a72_2 a72_3 a72_4 a72_5 a72_6 a72_7 a72_8 a72_9 a72_10 a72_11 a72_17 a72_18 a72_19 a72_21 a72_22 a72_29 q5.1 a72_35 a72_37 a72_38 a72_39 a72_40 p1 a72_44 a72_50), (86, o86 q5.2)]) rfl ?_
      refine r_iconst F dX12_shake_45 (v := 0) (by decide) ?_
      refine r_istore F dX12_shake_46 (e_le rfl) (L' := [some (.ref 72), some (.int p0), some (.long p1), none, some (.int 0), none, none, none]) rfl ?_
      refine r_iconst F dX12_shake_48 (v := 0) (by decide) ?_
      refine r_istore F dX12_shake_49 (e_le rfl) (L' := [some (.ref 72), some (.int p0), some (.long p1), none, some (.int 0), some (.int 0), none, none]) rfl ?_
      refine r_drop 2 (L' := [some (.ref 72), some (.int p0), none, none, some (.int 0), some (.int 0), none, none]) rfl ?_
      refine r_mat (k := 79) h79 (l' := [(72, o72 0 a72_2 a72_3 a72_4 a72_5 a72_6 a72_7 a72_8 a72_9 a72_10 a72_11 a72_17 a72_18 a72_19 a72_21 a72_22 a72_29 q5.1 a72_35 a72_37 a72_38 a72_39 a72_40 p1 a72_44 a72_50), (79, o79 A79), (86, o86 q5.2)]) rfl ?_
      refine r_mat (k := 81) h81 (l' := [(72, o72 0 a72_2 a72_3 a72_4 a72_5 a72_6 a72_7 a72_8 a72_9 a72_10 a72_11 a72_17 a72_18 a72_19 a72_21 a72_22 a72_29 q5.1 a72_35 a72_37 a72_38 a72_39 a72_40 p1 a72_44 a72_50), (79, o79 A79), (81, o81 A81), (86, o86 q5.2)]) rfl ?_
      refine r_mat (k := 82) h82 (l' := [(72, o72 0 a72_2 a72_3 a72_4 a72_5 a72_6 a72_7 a72_8 a72_9 a72_10 a72_11 a72_17 a72_18 a72_19 a72_21 a72_22 a72_29 q5.1 a72_35 a72_37 a72_38 a72_39 a72_40 p1 a72_44 a72_50), (79, o79 A79), (81, o81 A81), (82, o82 A82), (86, o86 q5.2)]) rfl ?_
      refine r_mat (k := 83) h83 (l' := [(72, o72 0 a72_2 a72_3 a72_4 a72_5 a72_6 a72_7 a72_8 a72_9 a72_10 a72_11 a72_17 a72_18 a72_19 a72_21 a72_22 a72_29 q5.1 a72_35 a72_37 a72_38 a72_39 a72_40 p1 a72_44 a72_50), (79, o79 A79), (81, o81 A81), (82, o82 A82), (83, o83 A83), (86, o86 q5.2)]) rfl ?_
      refine r_mat (k := 84) h84 (l' := [(72, o72 0 a72_2 a72_3 a72_4 a72_5 a72_6 a72_7 a72_8 a72_9 a72_10 a72_11 a72_17 a72_18 a72_19 a72_21 a72_22 a72_29 q5.1 a72_35 a72_37 a72_38 a72_39 a72_40 p1 a72_44 a72_50), (79, o79 A79), (81, o81 A81), (82, o82 A82), (83, o83 A83), (84, o84 A84), (86, o86 q5.2)]) rfl ?_
      refine r_mat (k := 85) h85 (l' := [(72, o72 0 a72_2 a72_3 a72_4 a72_5 a72_6 a72_7 a72_8 a72_9 a72_10 a72_11 a72_17 a72_18 a72_19 a72_21 a72_22 a72_29 q5.1 a72_35 a72_37 a72_38 a72_39 a72_40 p1 a72_44 a72_50), (79, o79 A79), (81, o81 A81), (82, o82 A82), (83, o83 A83), (84, o84 A84), (85, o85 A85), (86, o86 q5.2)]) rfl ?_
      obtain ⟨x10, hx11, hf⟩ := e_bd hf
      refine (e_loop_ok (P := fun (v9 : Int32 × Int32 × Int32 × Int64 × (Nat → Int32) × (Nat → Int32) × (Nat → Int32) × (Nat → Int32) × (Nat → Int32) × (Nat → Int32)) => eRun G X 51 [some (.ref 72), some (.int p0), none, none, some (.int v9.1), some (.int v9.2.1), none, none] [] h [(72, o72 0 a72_2 a72_3 a72_4 a72_5 a72_6 a72_7 a72_8 a72_9 a72_10 a72_11 a72_17 a72_18 a72_19 a72_21 a72_22 v9.2.2.1 q5.1 a72_35 a72_37 a72_38 a72_39 a72_40 v9.2.2.2.1 a72_44 a72_50), (79, o79 v9.2.2.2.2.1), (81, o81 v9.2.2.2.2.2.1), (82, o82 v9.2.2.2.2.2.2.1), (83, o83 v9.2.2.2.2.2.2.2.1), (84, o84 v9.2.2.2.2.2.2.2.2.1), (85, o85 v9.2.2.2.2.2.2.2.2.2), (86, o86 q5.2)] nx 0 0) (K := fun (x10 : Int32 × Int32 × Int64 × (Nat → Int32) × (Nat → Int32) × (Nat → Int32) × (Nat → Int32) × (Nat → Int32) × (Nat → Int32)) => eRun G X 158 [none, none, none, none, some (.int x10.1), none, none, none] [] h [(72, o72 0 a72_2 a72_3 a72_4 a72_5 a72_6 a72_7 a72_8 a72_9 a72_10 a72_11 a72_17 a72_18 a72_19 a72_21 a72_22 x10.2.1 q5.1 a72_35 a72_37 a72_38 a72_39 a72_40 x10.2.2.1 a72_44 a72_50), (79, o79 x10.2.2.2.1), (81, o81 x10.2.2.2.2.1), (82, o82 x10.2.2.2.2.2.1), (83, o83 x10.2.2.2.2.2.2.1), (84, o84 x10.2.2.2.2.2.2.2.1), (85, o85 x10.2.2.2.2.2.2.2.2), (86, o86 q5.2)] nx 0 0) ?_ e_fuel (0, 0, a72_29, p1, A79, A81, A82, A83, A84, A85) x10 hx11 ?_ : _)
      · intro v9 z hz ih hx
        refine r_iload F dX12_shake_51 rfl ?_
        refine r_iload_n F dX12_shake_53 rfl ?_
        refine r_icmp_ge F dX12_shake_54 (tgt := 158) (by decide) (fun hc => ?_) (fun hc => ?_)
        · have hz := e_t hc hz
          refine r_drop 0 (L' := [none, some (.int p0), none, none, some (.int v9.1), some (.int v9.2.1), none, none]) rfl ?_
          refine r_drop 1 (L' := [none, none, none, none, some (.int v9.1), some (.int v9.2.1), none, none]) rfl ?_
          refine r_drop 5 (L' := [none, none, none, none, some (.int v9.1), none, none, none]) rfl ?_
          obtain rfl := Option.some.inj hz
          exact hx (v9.1, v9.2.2.1, v9.2.2.2.1, v9.2.2.2.2.1, v9.2.2.2.2.2.1, v9.2.2.2.2.2.2.1, v9.2.2.2.2.2.2.2.1, v9.2.2.2.2.2.2.2.2.1, v9.2.2.2.2.2.2.2.2.2) rfl
        · have hz := e_f hc hz
          refine r_aload_n F dX12_shake_57 rfl ?_
          obtain ⟨q12, hq13, hz⟩ := e_bd hz
          refine r_callV F dX12_shake_58 (b := 72) (dc := 0) (ds := 0) (As := []) (S0 := []) lkX12_238 mX12_laysCores (tX12_laysCores_72 hG (la := x_l X) (h := e_up h [(72, o72 0 a72_2 a72_3 a72_4 a72_5 a72_6 a72_7 a72_8 a72_9 a72_10 a72_11 a72_17 a72_18 a72_19 a72_21 a72_22 v9.2.2.1 q5.1 a72_35 a72_37 a72_38 a72_39 a72_40 v9.2.2.2.1 a72_44 a72_50), (79, o79 v9.2.2.2.2.1), (81, o81 v9.2.2.2.2.2.1), (82, o82 v9.2.2.2.2.2.2.1), (83, o83 v9.2.2.2.2.2.2.2.1), (84, o84 v9.2.2.2.2.2.2.2.2.1), (85, o85 v9.2.2.2.2.2.2.2.2.2), (86, o86 q5.2)]) hnx rfl rfl h80 rfl rfl rfl rfl rfl hq13) rfl rfl rfl (e_le rfl) (e_le rfl) (e_le rfl) rfl (ci := 12) e_cl12.1 rfl (e_le rfl) (e_lt hnx rfl) (Nat.zero_le _) (Nat.zero_le _) (e_k ?_)
          refine r_wr (l' := [(72, o72 0 a72_2 a72_3 a72_4 a72_5 a72_6 a72_7 a72_8 a72_9 a72_10 a72_11 a72_17 a72_18 a72_19 a72_21 a72_22 q12.2.1 q5.1 a72_35 a72_37 a72_38 a72_39 a72_40 v9.2.2.2.1 a72_44 a72_50), (79, o79 v9.2.2.2.2.1), (81, o81 q12.2.2.1), (82, o82 q12.2.2.2.1), (83, o83 q12.2.2.2.2.1), (84, o84 q12.2.2.2.2.2.1), (85, o85 q12.2.2.2.2.2.2), (86, o86 q5.2)]) rfl rfl ?_
          refine r_pop F dX12_shake_61 rfl ?_
          refine r_aload_n F dX12_shake_62 rfl ?_
          refine r_get F dX12_shake_63 flX12_241 rfl rfl (e_le rfl) (e_lt hnx rfl) ?_
          obtain ⟨q14, hq15, hz⟩ := e_bd hz
          have Jq14 : eRun G X 152 [some (.ref 72), some (.int p0), none, none, some (.int q14.1), some (.int v9.2.1), none, none] [] h [(72, o72 0 a72_2 a72_3 a72_4 a72_5 a72_6 a72_7 a72_8 a72_9 a72_10 a72_11 a72_17 a72_18 a72_19 a72_21 a72_22 q12.2.1 q5.1 a72_35 a72_37 a72_38 a72_39 a72_40 q14.2.1 a72_44 a72_50), (79, o79 q14.2.2), (81, o81 q12.2.2.1), (82, o82 q12.2.2.2.1), (83, o83 q12.2.2.2.2.1), (84, o84 q12.2.2.2.2.2.1), (85, o85 q12.2.2.2.2.2.2), (86, o86 q5.2)] nx 0 0 := by
            refine r_inc F dX12_shake_152 (k9 := 1) (by decide) rfl (L' := [some (.ref 72), some (.int p0), none, none, some (.int q14.1), some (.int (v9.2.1 + 1)), none, none]) rfl ?_
            refine r_goto F dX12_shake_155 (tgt := 51) (by decide) ?_
            obtain rfl := Option.some.inj hz
            exact ih (q14.1, v9.2.1 + 1, q12.2.1, q14.2.1, q14.2.2, q12.2.2.1, q12.2.2.2.1, q12.2.2.2.2.1, q12.2.2.2.2.2.1, q12.2.2.2.2.2.2) rfl
          refine r_if_le F dX12_shake_66 (tgt := 152) (by decide) (fun hc => ?_) (fun hc => ?_)
          · have hq15 := e_t hc hq15
            obtain rfl := Option.some.inj hq15
            exact Jq14
          · have hq15 := e_f hc hq15
            refine r_aload_n F dX12_shake_69 rfl ?_
            refine r_aload_n F dX12_shake_70 rfl ?_
            refine r_get F dX12_shake_71 flX12_241 rfl rfl (e_le rfl) (e_lt hnx rfl) ?_
            obtain ⟨q16, hq17, hq15⟩ := e_bd hq15
            refine r_callV F dX12_shake_74 (b := 72) (dc := 0) (ds := 0) (As := [.int q12.2.1]) (S0 := []) lkX12_409 mX12_draw (tX12_draw_72 hG (la := x_l X) (h := e_up h [(72, o72 0 a72_2 a72_3 a72_4 a72_5 a72_6 a72_7 a72_8 a72_9 a72_10 a72_11 a72_17 a72_18 a72_19 a72_21 a72_22 q12.2.1 q5.1 a72_35 a72_37 a72_38 a72_39 a72_40 v9.2.2.2.1 a72_44 a72_50), (79, o79 v9.2.2.2.2.1), (81, o81 q12.2.2.1), (82, o82 q12.2.2.2.1), (83, o83 q12.2.2.2.2.1), (84, o84 q12.2.2.2.2.2.1), (85, o85 q12.2.2.2.2.2.2), (86, o86 q5.2)]) hnx rfl hq17) rfl rfl rfl (e_le rfl) (e_le rfl) (e_le rfl) rfl (ci := 12) e_cl12.1 rfl (e_le rfl) (e_lt hnx rfl) (Nat.zero_le _) (Nat.zero_le _) (e_k ?_)
            refine r_wr (l' := [(72, o72 0 a72_2 a72_3 a72_4 a72_5 a72_6 a72_7 a72_8 a72_9 a72_10 a72_11 a72_17 a72_18 a72_19 a72_21 a72_22 q12.2.1 q5.1 a72_35 a72_37 a72_38 a72_39 a72_40 q16.2 a72_44 a72_50), (79, o79 v9.2.2.2.2.1), (81, o81 q12.2.2.1), (82, o82 q12.2.2.2.1), (83, o83 q12.2.2.2.2.1), (84, o84 q12.2.2.2.2.2.1), (85, o85 q12.2.2.2.2.2.2), (86, o86 q5.2)]) rfl rfl ?_
            refine r_istore F dX12_shake_77 (e_le rfl) (L' := [some (.ref 72), some (.int p0), none, none, some (.int v9.1), some (.int v9.2.1), some (.int q16.1), none]) rfl ?_
            refine r_aload_n F dX12_shake_79 rfl ?_
            refine r_iconst F dX12_shake_80 (v := 2) (by decide) ?_
            obtain ⟨q18, hq19, hq15⟩ := e_bd hq15
            refine r_callV F dX12_shake_81 (b := 72) (dc := 0) (ds := 0) (As := [.int 2]) (S0 := []) lkX12_409 mX12_draw (tX12_draw_72 hG (la := x_l X) (h := e_up h [(72, o72 0 a72_2 a72_3 a72_4 a72_5 a72_6 a72_7 a72_8 a72_9 a72_10 a72_11 a72_17 a72_18 a72_19 a72_21 a72_22 q12.2.1 q5.1 a72_35 a72_37 a72_38 a72_39 a72_40 q16.2 a72_44 a72_50), (79, o79 v9.2.2.2.2.1), (81, o81 q12.2.2.1), (82, o82 q12.2.2.2.1), (83, o83 q12.2.2.2.2.1), (84, o84 q12.2.2.2.2.2.1), (85, o85 q12.2.2.2.2.2.2), (86, o86 q5.2)]) hnx rfl hq19) rfl rfl rfl (e_le rfl) (e_le rfl) (e_le rfl) rfl (ci := 12) e_cl12.1 rfl (e_le rfl) (e_lt hnx rfl) (Nat.zero_le _) (Nat.zero_le _) (e_k ?_)
            refine r_wr (l' := [(72, o72 0 a72_2 a72_3 a72_4 a72_5 a72_6 a72_7 a72_8 a72_9 a72_10 a72_11 a72_17 a72_18 a72_19 a72_21 a72_22 q12.2.1 q5.1 a72_35 a72_37 a72_38 a72_39 a72_40 q18.2 a72_44 a72_50), (79, o79 v9.2.2.2.2.1), (81, o81 q12.2.2.1), (82, o82 q12.2.2.2.1), (83, o83 q12.2.2.2.2.1), (84, o84 q12.2.2.2.2.2.1), (85, o85 q12.2.2.2.2.2.2), (86, o86 q5.2)]) rfl rfl ?_
            refine r_iconst F dX12_shake_84 (v := 1) (by decide) ?_
            obtain ⟨q20, hq21, hq15⟩ := e_bd hq15
            have Jq20 : eRun G X 93 [some (.ref 72), some (.int p0), none, none, some (.int v9.1), some (.int v9.2.1), some (.int q16.1), none] [.int (e_b q20)] h [(72, o72 0 a72_2 a72_3 a72_4 a72_5 a72_6 a72_7 a72_8 a72_9 a72_10 a72_11 a72_17 a72_18 a72_19 a72_21 a72_22 q12.2.1 q5.1 a72_35 a72_37 a72_38 a72_39 a72_40 q18.2 a72_44 a72_50), (79, o79 v9.2.2.2.2.1), (81, o81 q12.2.2.1), (82, o82 q12.2.2.2.1), (83, o83 q12.2.2.2.2.1), (84, o84 q12.2.2.2.2.2.1), (85, o85 q12.2.2.2.2.2.2), (86, o86 q5.2)] nx 0 0 := by
              refine r_istore F dX12_shake_93 (e_le rfl) (L' := [some (.ref 72), some (.int p0), none, none, some (.int v9.1), some (.int v9.2.1), some (.int q16.1), some (.int (e_b q20))]) rfl ?_
              refine r_aload_n F dX12_shake_95 rfl ?_
              refine r_iload F dX12_shake_96 rfl ?_
              obtain ⟨q22, hq23, hq15⟩ := e_bd hq15
              refine r_callV F dX12_shake_98 (b := 72) (dc := 0) (ds := 0) (As := [.int q16.1]) (S0 := []) lkX12_269 mX12_way (tX12_way_72 hG (la := x_l X) (h := e_up h [(72, o72 0 a72_2 a72_3 a72_4 a72_5 a72_6 a72_7 a72_8 a72_9 a72_10 a72_11 a72_17 a72_18 a72_19 a72_21 a72_22 q12.2.1 q5.1 a72_35 a72_37 a72_38 a72_39 a72_40 q18.2 a72_44 a72_50), (79, o79 v9.2.2.2.2.1), (81, o81 q12.2.2.1), (82, o82 q12.2.2.2.1), (83, o83 q12.2.2.2.2.1), (84, o84 q12.2.2.2.2.2.1), (85, o85 q12.2.2.2.2.2.2), (86, o86 q5.2)]) hnx rfl rfl rfl hq23) rfl rfl rfl (e_le rfl) (e_le rfl) (e_le rfl) rfl (ci := 12) e_cl12.1 rfl (e_le rfl) (e_lt hnx rfl) (Nat.zero_le _) (Nat.zero_le _) (e_k ?_)
              refine r_wr0 ?_
              refine r_iconst F dX12_shake_101 (v := (-1)) (by decide) ?_
              refine r_icmp_eq F dX12_shake_102 (tgt := 152) (by decide) (fun hc => ?_) (fun hc => ?_)
              · have hq15 := e_t hc hq15
                refine r_drop 6 (L' := [some (.ref 72), some (.int p0), none, none, some (.int v9.1), some (.int v9.2.1), none, some (.int (e_b q20))]) rfl ?_
                refine r_drop 7 (L' := [some (.ref 72), some (.int p0), none, none, some (.int v9.1), some (.int v9.2.1), none, none]) rfl ?_
                obtain rfl := Option.some.inj hq15
                exact Jq14
              · have hq15 := e_f hc hq15
                refine r_aload_n F dX12_shake_105 rfl ?_
                refine r_aload_n F dX12_shake_106 rfl ?_
                refine r_get F dX12_shake_107 flX12_34 rfl rfl (e_le rfl) (e_lt hnx rfl) ?_
                refine r_iload F dX12_shake_110 rfl ?_
                obtain ⟨hg, hq15⟩ := e_gd hq15
                refine r_iald F dX12_shake_112 (i := q16.1) rfl (e_le rfl) (e_lt hnx rfl) (e_vp hg) ?_
                refine r_aload_n F dX12_shake_113 rfl ?_
                refine r_get F dX12_shake_114 flX12_37 rfl rfl (e_le rfl) (e_lt hnx rfl) ?_
                refine r_iload F dX12_shake_117 rfl ?_
                obtain ⟨hg, hq15⟩ := e_gd hq15
                refine r_iald F dX12_shake_119 (i := q16.1) rfl (e_le rfl) (e_lt hnx rfl) (e_vp hg) ?_
                refine r_aload_n F dX12_shake_120 rfl ?_
                refine r_iload F dX12_shake_121 rfl ?_
                obtain ⟨q24, hq25, hq15⟩ := e_bd hq15
                refine r_callV F dX12_shake_123 (b := 72) (dc := 0) (ds := 0) (As := [.int q16.1]) (S0 := [.int (q12.2.2.2.1 (tn q16.1)), .int (q12.2.2.1 (tn q16.1)), .ref 72]) lkX12_269 mX12_way (tX12_way_72 hG (la := x_l X) (h := e_up h [(72, o72 0 a72_2 a72_3 a72_4 a72_5 a72_6 a72_7 a72_8 a72_9 a72_10 a72_11 a72_17 a72_18 a72_19 a72_21 a72_22 q12.2.1 q5.1 a72_35 a72_37 a72_38 a72_39 a72_40 q18.2 a72_44 a72_50), (79, o79 v9.2.2.2.2.1), (81, o81 q12.2.2.1), (82, o82 q12.2.2.2.1), (83, o83 q12.2.2.2.2.1), (84, o84 q12.2.2.2.2.2.1), (85, o85 q12.2.2.2.2.2.2), (86, o86 q5.2)]) hnx rfl rfl rfl hq25) rfl rfl rfl (e_le rfl) (e_le rfl) (e_le rfl) rfl (ci := 12) e_cl12.1 rfl (e_le rfl) (e_lt hnx rfl) (Nat.zero_le _) (Nat.zero_le _) (e_k ?_)
                refine r_wr0 ?_
                refine r_iload F dX12_shake_126 rfl ?_
                obtain ⟨q26, hq27, hq15⟩ := e_bd hq15
                refine r_callS F dX12_shake_128 (dc := 0) (ds := 0) (As := [.int q24, .int (e_b q20)]) (S0 := [.int (q12.2.2.2.1 (tn q16.1)), .int (q12.2.2.1 (tn q16.1)), .ref 72]) lkX12_372 mX12_directionOf (tX12_directionOf hG (la := x_l X) (h := e_up h [(72, o72 0 a72_2 a72_3 a72_4 a72_5 a72_6 a72_7 a72_8 a72_9 a72_10 a72_11 a72_17 a72_18 a72_19 a72_21 a72_22 q12.2.1 q5.1 a72_35 a72_37 a72_38 a72_39 a72_40 q18.2 a72_44 a72_50), (79, o79 v9.2.2.2.2.1), (81, o81 q12.2.2.1), (82, o82 q12.2.2.2.1), (83, o83 q12.2.2.2.2.1), (84, o84 q12.2.2.2.2.2.1), (85, o85 q12.2.2.2.2.2.2), (86, o86 q5.2)]) hnx  hq27) rfl rfl rfl (e_le rfl) (e_le rfl) (e_le rfl) (Nat.zero_le _) (Nat.zero_le _) (e_k ?_)
                refine r_wr0 ?_
                refine r_aload_n F dX12_shake_131 rfl ?_
                refine r_get F dX12_shake_132 flX12_40 rfl rfl (e_le rfl) (e_lt hnx rfl) ?_
                refine r_iload F dX12_shake_135 rfl ?_
                obtain ⟨hg, hq15⟩ := e_gd hq15
                refine r_iald F dX12_shake_137 (i := q16.1) rfl (e_le rfl) (e_lt hnx rfl) (e_vp hg) ?_
                refine r_aload_n F dX12_shake_138 rfl ?_
                refine r_get F dX12_shake_139 flX12_43 rfl rfl (e_le rfl) (e_lt hnx rfl) ?_
                refine r_iload F dX12_shake_142 rfl ?_
                obtain ⟨hg, hq15⟩ := e_gd hq15
                refine r_iald F dX12_shake_144 (i := q16.1) rfl (e_le rfl) (e_lt hnx rfl) (e_vp hg) ?_
                obtain ⟨q28, hq29, hq15⟩ := e_bd hq15
                refine r_callV F dX12_shake_145 (b := 72) (dc := 0) (ds := 0) (As := [.int (q12.2.2.1 (tn q16.1)), .int (q12.2.2.2.1 (tn q16.1)), .int q26, .int (q12.2.2.2.2.1 (tn q16.1)), .int (q12.2.2.2.2.2.1 (tn q16.1))]) (S0 := []) lkX12_367 mX12_moves (tX12_moves_72 hG (la := x_l X) (h := e_up h [(72, o72 0 a72_2 a72_3 a72_4 a72_5 a72_6 a72_7 a72_8 a72_9 a72_10 a72_11 a72_17 a72_18 a72_19 a72_21 a72_22 q12.2.1 q5.1 a72_35 a72_37 a72_38 a72_39 a72_40 q18.2 a72_44 a72_50), (79, o79 v9.2.2.2.2.1), (81, o81 q12.2.2.1), (82, o82 q12.2.2.2.1), (83, o83 q12.2.2.2.2.1), (84, o84 q12.2.2.2.2.2.1), (85, o85 q12.2.2.2.2.2.2), (86, o86 q5.2)]) hnx rfl rfl hq29) rfl rfl rfl (e_le rfl) (e_le rfl) (e_le rfl) rfl (ci := 12) e_cl12.1 rfl (e_le rfl) (e_lt hnx rfl) (Nat.zero_le _) (Nat.zero_le _) (e_k ?_)
                refine r_wr (l' := [(72, o72 0 a72_2 a72_3 a72_4 a72_5 a72_6 a72_7 a72_8 a72_9 a72_10 a72_11 a72_17 a72_18 a72_19 a72_21 a72_22 q12.2.1 q5.1 a72_35 a72_37 a72_38 a72_39 a72_40 q18.2 a72_44 a72_50), (79, o79 q28.2), (81, o81 q12.2.2.1), (82, o82 q12.2.2.2.1), (83, o83 q12.2.2.2.2.1), (84, o84 q12.2.2.2.2.2.1), (85, o85 q12.2.2.2.2.2.2), (86, o86 q5.2)]) rfl rfl ?_
                refine r_pop F dX12_shake_148 rfl ?_
                refine r_inc F dX12_shake_149 (k9 := 1) (by decide) rfl (L' := [some (.ref 72), some (.int p0), none, none, some (.int (v9.1 + 1)), some (.int v9.2.1), some (.int q16.1), some (.int (e_b q20))]) rfl ?_
                refine r_drop 6 (L' := [some (.ref 72), some (.int p0), none, none, some (.int (v9.1 + 1)), some (.int v9.2.1), none, some (.int (e_b q20))]) rfl ?_
                refine r_drop 7 (L' := [some (.ref 72), some (.int p0), none, none, some (.int (v9.1 + 1)), some (.int v9.2.1), none, none]) rfl ?_
                obtain rfl := Option.some.inj hq15
                exact Jq14
            refine r_icmp_ne F dX12_shake_85 (tgt := 92) (by decide) (fun hc => ?_) (fun hc => ?_)
            · have hq21 := e_f hc hq21
              refine r_iconst F dX12_shake_92 (v := 0) (by decide) ?_
              obtain rfl := Option.some.inj hq21
              exact Jq20
            · have hq21 := e_t hc hq21
              refine r_iconst F dX12_shake_88 (v := 1) (by decide) ?_
              refine r_goto F dX12_shake_89 (tgt := 93) (by decide) ?_
              obtain rfl := Option.some.inj hq21
              exact Jq20
      · show eRun G X 158 [none, none, none, none, some (.int x10.1), none, none, none] [] h [(72, o72 0 a72_2 a72_3 a72_4 a72_5 a72_6 a72_7 a72_8 a72_9 a72_10 a72_11 a72_17 a72_18 a72_19 a72_21 a72_22 x10.2.1 q5.1 a72_35 a72_37 a72_38 a72_39 a72_40 x10.2.2.1 a72_44 a72_50), (79, o79 x10.2.2.2.1), (81, o81 x10.2.2.2.2.1), (82, o82 x10.2.2.2.2.2.1), (83, o83 x10.2.2.2.2.2.2.1), (84, o84 x10.2.2.2.2.2.2.2.1), (85, o85 x10.2.2.2.2.2.2.2.2), (86, o86 q5.2)] nx 0 0
        refine r_iload F dX12_shake_158 rfl ?_
        refine r_mat (k := 87) h87 (l' := [(72, o72 0 a72_2 a72_3 a72_4 a72_5 a72_6 a72_7 a72_8 a72_9 a72_10 a72_11 a72_17 a72_18 a72_19 a72_21 a72_22 x10.2.1 q5.1 a72_35 a72_37 a72_38 a72_39 a72_40 x10.2.2.1 a72_44 a72_50), (79, o79 x10.2.2.2.1), (81, o81 x10.2.2.2.2.1), (82, o82 x10.2.2.2.2.2.1), (83, o83 x10.2.2.2.2.2.2.1), (84, o84 x10.2.2.2.2.2.2.2.1), (85, o85 x10.2.2.2.2.2.2.2.2), (86, o86 q5.2), (87, o87 A87)]) rfl ?_
        obtain rfl := Option.some.inj hf
        exact r_iret F hq dX12_shake_160 rfl rfl (Nat.le_refl _) (Nat.le_refl _) ⟨rfl, rfl⟩
    · have hf := e_f hc hf
      refine r_aload_n F dX12_shake_30 rfl ?_
      refine r_iconst F dX12_shake_31 (v := 2) (by decide) ?_
      obtain ⟨q30, hq31, hf⟩ := e_bd hf
      refine r_callV F dX12_shake_32 (b := 72) (dc := 0) (ds := 0) (As := [.int 2]) (S0 := []) lkX12_354 mX12_refuses (tX12_refuses_72 hG (la := x_l X) (h := e_up h [(72, o72 0 a72_2 a72_3 a72_4 a72_5 a72_6 a72_7 a72_8 a72_9 a72_10 a72_11 a72_17 a72_18 a72_19 a72_21 a72_22 a72_29 a72_31 a72_35 a72_37 a72_38 a72_39 a72_40 a72_41 a72_44 a72_50)]) hnx rfl h87 hq31) rfl rfl rfl (e_le rfl) (e_le rfl) (e_le rfl) rfl (ci := 12) e_cl12.1 rfl (e_le rfl) (e_lt hnx rfl) (Nat.zero_le _) (Nat.zero_le _) (e_k ?_)
      refine r_wr (l' := [(72, o72 0 a72_2 a72_3 a72_4 a72_5 a72_6 a72_7 a72_8 a72_9 a72_10 a72_11 a72_17 a72_18 a72_19 a72_21 a72_22 a72_29 a72_31 a72_35 a72_37 a72_38 a72_39 a72_40 a72_41 a72_44 a72_50), (87, o87 q30.2)]) rfl rfl ?_
      refine r_mat (k := 79) h79 (l' := [(72, o72 0 a72_2 a72_3 a72_4 a72_5 a72_6 a72_7 a72_8 a72_9 a72_10 a72_11 a72_17 a72_18 a72_19 a72_21 a72_22 a72_29 a72_31 a72_35 a72_37 a72_38 a72_39 a72_40 a72_41 a72_44 a72_50), (79, o79 A79), (87, o87 q30.2)]) rfl ?_
      refine r_mat (k := 81) h81 (l' := [(72, o72 0 a72_2 a72_3 a72_4 a72_5 a72_6 a72_7 a72_8 a72_9 a72_10 a72_11 a72_17 a72_18 a72_19 a72_21 a72_22 a72_29 a72_31 a72_35 a72_37 a72_38 a72_39 a72_40 a72_41 a72_44 a72_50), (79, o79 A79), (81, o81 A81), (87, o87 q30.2)]) rfl ?_
      refine r_mat (k := 82) h82 (l' := [(72, o72 0 a72_2 a72_3 a72_4 a72_5 a72_6 a72_7 a72_8 a72_9 a72_10 a72_11 a72_17 a72_18 a72_19 a72_21 a72_22 a72_29 a72_31 a72_35 a72_37 a72_38 a72_39 a72_40 a72_41 a72_44 a72_50), (79, o79 A79), (81, o81 A81), (82, o82 A82), (87, o87 q30.2)]) rfl ?_
      refine r_mat (k := 83) h83 (l' := [(72, o72 0 a72_2 a72_3 a72_4 a72_5 a72_6 a72_7 a72_8 a72_9 a72_10 a72_11 a72_17 a72_18 a72_19 a72_21 a72_22 a72_29 a72_31 a72_35 a72_37 a72_38 a72_39 a72_40 a72_41 a72_44 a72_50), (79, o79 A79), (81, o81 A81), (82, o82 A82), (83, o83 A83), (87, o87 q30.2)]) rfl ?_
      refine r_mat (k := 84) h84 (l' := [(72, o72 0 a72_2 a72_3 a72_4 a72_5 a72_6 a72_7 a72_8 a72_9 a72_10 a72_11 a72_17 a72_18 a72_19 a72_21 a72_22 a72_29 a72_31 a72_35 a72_37 a72_38 a72_39 a72_40 a72_41 a72_44 a72_50), (79, o79 A79), (81, o81 A81), (82, o82 A82), (83, o83 A83), (84, o84 A84), (87, o87 q30.2)]) rfl ?_
      refine r_mat (k := 85) h85 (l' := [(72, o72 0 a72_2 a72_3 a72_4 a72_5 a72_6 a72_7 a72_8 a72_9 a72_10 a72_11 a72_17 a72_18 a72_19 a72_21 a72_22 a72_29 a72_31 a72_35 a72_37 a72_38 a72_39 a72_40 a72_41 a72_44 a72_50), (79, o79 A79), (81, o81 A81), (82, o82 A82), (83, o83 A83), (84, o84 A84), (85, o85 A85), (87, o87 q30.2)]) rfl ?_
      refine r_mat (k := 86) h86 (l' := [(72, o72 0 a72_2 a72_3 a72_4 a72_5 a72_6 a72_7 a72_8 a72_9 a72_10 a72_11 a72_17 a72_18 a72_19 a72_21 a72_22 a72_29 a72_31 a72_35 a72_37 a72_38 a72_39 a72_40 a72_41 a72_44 a72_50), (79, o79 A79), (81, o81 A81), (82, o82 A82), (83, o83 A83), (84, o84 A84), (85, o85 A85), (86, o86 A86), (87, o87 q30.2)]) rfl ?_
      obtain rfl := Option.some.inj hf
      exact r_iret F hq dX12_shake_35 rfl rfl (Nat.le_refl _) (Nat.le_refl _) ⟨rfl, rfl⟩
  · have hf := e_f hc hf
    refine r_aload_n F dX12_shake_12 rfl ?_
    refine r_iconst F dX12_shake_13 (v := 0) (by decide) ?_
    obtain ⟨q32, hq33, hf⟩ := e_bd hf
    refine r_callV F dX12_shake_14 (b := 72) (dc := 0) (ds := 0) (As := [.int 0]) (S0 := []) lkX12_354 mX12_refuses (tX12_refuses_72 hG (la := x_l X) (h := e_up h [(72, o72 0 a72_2 a72_3 a72_4 a72_5 a72_6 a72_7 a72_8 a72_9 a72_10 a72_11 a72_17 a72_18 a72_19 a72_21 a72_22 a72_29 a72_31 a72_35 a72_37 a72_38 a72_39 a72_40 a72_41 a72_44 a72_50)]) hnx rfl h87 hq33) rfl rfl rfl (e_le rfl) (e_le rfl) (e_le rfl) rfl (ci := 12) e_cl12.1 rfl (e_le rfl) (e_lt hnx rfl) (Nat.zero_le _) (Nat.zero_le _) (e_k ?_)
    refine r_wr (l' := [(72, o72 0 a72_2 a72_3 a72_4 a72_5 a72_6 a72_7 a72_8 a72_9 a72_10 a72_11 a72_17 a72_18 a72_19 a72_21 a72_22 a72_29 a72_31 a72_35 a72_37 a72_38 a72_39 a72_40 a72_41 a72_44 a72_50), (87, o87 q32.2)]) rfl rfl ?_
    refine r_mat (k := 79) h79 (l' := [(72, o72 0 a72_2 a72_3 a72_4 a72_5 a72_6 a72_7 a72_8 a72_9 a72_10 a72_11 a72_17 a72_18 a72_19 a72_21 a72_22 a72_29 a72_31 a72_35 a72_37 a72_38 a72_39 a72_40 a72_41 a72_44 a72_50), (79, o79 A79), (87, o87 q32.2)]) rfl ?_
    refine r_mat (k := 81) h81 (l' := [(72, o72 0 a72_2 a72_3 a72_4 a72_5 a72_6 a72_7 a72_8 a72_9 a72_10 a72_11 a72_17 a72_18 a72_19 a72_21 a72_22 a72_29 a72_31 a72_35 a72_37 a72_38 a72_39 a72_40 a72_41 a72_44 a72_50), (79, o79 A79), (81, o81 A81), (87, o87 q32.2)]) rfl ?_
    refine r_mat (k := 82) h82 (l' := [(72, o72 0 a72_2 a72_3 a72_4 a72_5 a72_6 a72_7 a72_8 a72_9 a72_10 a72_11 a72_17 a72_18 a72_19 a72_21 a72_22 a72_29 a72_31 a72_35 a72_37 a72_38 a72_39 a72_40 a72_41 a72_44 a72_50), (79, o79 A79), (81, o81 A81), (82, o82 A82), (87, o87 q32.2)]) rfl ?_
    refine r_mat (k := 83) h83 (l' := [(72, o72 0 a72_2 a72_3 a72_4 a72_5 a72_6 a72_7 a72_8 a72_9 a72_10 a72_11 a72_17 a72_18 a72_19 a72_21 a72_22 a72_29 a72_31 a72_35 a72_37 a72_38 a72_39 a72_40 a72_41 a72_44 a72_50), (79, o79 A79), (81, o81 A81), (82, o82 A82), (83, o83 A83), (87, o87 q32.2)]) rfl ?_
    refine r_mat (k := 84) h84 (l' := [(72, o72 0 a72_2 a72_3 a72_4 a72_5 a72_6 a72_7 a72_8 a72_9 a72_10 a72_11 a72_17 a72_18 a72_19 a72_21 a72_22 a72_29 a72_31 a72_35 a72_37 a72_38 a72_39 a72_40 a72_41 a72_44 a72_50), (79, o79 A79), (81, o81 A81), (82, o82 A82), (83, o83 A83), (84, o84 A84), (87, o87 q32.2)]) rfl ?_
    refine r_mat (k := 85) h85 (l' := [(72, o72 0 a72_2 a72_3 a72_4 a72_5 a72_6 a72_7 a72_8 a72_9 a72_10 a72_11 a72_17 a72_18 a72_19 a72_21 a72_22 a72_29 a72_31 a72_35 a72_37 a72_38 a72_39 a72_40 a72_41 a72_44 a72_50), (79, o79 A79), (81, o81 A81), (82, o82 A82), (83, o83 A83), (84, o84 A84), (85, o85 A85), (87, o87 q32.2)]) rfl ?_
    refine r_mat (k := 86) h86 (l' := [(72, o72 0 a72_2 a72_3 a72_4 a72_5 a72_6 a72_7 a72_8 a72_9 a72_10 a72_11 a72_17 a72_18 a72_19 a72_21 a72_22 a72_29 a72_31 a72_35 a72_37 a72_38 a72_39 a72_40 a72_41 a72_44 a72_50), (79, o79 A79), (81, o81 A81), (82, o82 A82), (83, o83 A83), (84, o84 A84), (85, o85 A85), (86, o86 A86), (87, o87 q32.2)]) rfl ?_
    obtain rfl := Option.some.inj hf
    exact r_iret F hq dX12_shake_17 rfl rfl (Nat.le_refl _) (Nat.le_refl _) ⟨rfl, rfl⟩

def fX12_shift (a72_0 : Int32) (a72_21 : Int32) (a72_22 : Int32) (a72_31 : Int32) (A79 : Nat → Int32) (A86 : Nat → Int32) (A87 : Nat → Int32) (p0 : Int32) (p1 : Int32) (p2 : Int32) (p3 : Int32) : Option (Int32 × Int32 × Int32 × (Nat → Int32) × (Nat → Int32) × (Nat → Int32)) :=
  (fX12_isCrystal a72_21).bind (fun q1 =>
  if q1 = true then
    (fX12_isSite a72_21 a72_22 p0 p1).bind (fun q3 =>
    if q3 = true then
      (fX12_in (Int32.toInt64 p2) (-9) 9).bind (fun q5 =>
      if q5 = true then
        (fX12_in (Int32.toInt64 p3) (-9) 9).bind (fun q7 =>
        if q7 = true then
          if p2 = 0 then
            if p3 = 0 then
              (fX12_refuses A87 2).bind (fun q57 =>
              some (q57.1, 0, a72_31, A79, A86, q57.2))
            else
              (fX12_keeps a72_31 A79 A86).bind (fun q33 =>
              (fX12_isLink a72_21 a72_22 p0 p1 false).bind (fun q35 =>
              Option.bind (α := (Nat → Int32)) (
                if q35 = true then
                  (fX12_changes A79 p0 p1 false ((0 : Int32) - p2) ((0 : Int32) - p3)).bind (fun q55 =>
                  some q55)
                else
                  some A79) (fun q37 =>
              (fX12_isLink a72_21 a72_22 p0 p1 true).bind (fun q39 =>
              Option.bind (α := (Nat → Int32)) (
                if q39 = true then
                  (fX12_changes q37 p0 p1 true ((0 : Int32) - p2) ((0 : Int32) - p3)).bind (fun q53 =>
                  some q53)
                else
                  some q37) (fun q41 =>
              Option.bind (α := (Nat → Int32)) (
                if p0 ≤ 0 then
                  some q41
                else
                  (fX12_changes q41 (p0 - 1) p1 false p2 p3).bind (fun q51 =>
                  some q51)) (fun q43 =>
              Option.bind (α := (Nat → Int32)) (
                if p1 ≤ 0 then
                  some q43
                else
                  (fX12_changes q43 p0 (p1 - 1) true p2 p3).bind (fun q49 =>
                  some q49)) (fun q45 =>
              (fX12_slipped a72_21 a72_22 q45).bind (fun q47 =>
              some (q47, 0, q33.1, q45, q33.2, A87)))))))))
          else
            (fX12_keeps a72_31 A79 A86).bind (fun q9 =>
            (fX12_isLink a72_21 a72_22 p0 p1 false).bind (fun q11 =>
            Option.bind (α := (Nat → Int32)) (
              if q11 = true then
                (fX12_changes A79 p0 p1 false ((0 : Int32) - p2) ((0 : Int32) - p3)).bind (fun q31 =>
                some q31)
              else
                some A79) (fun q13 =>
            (fX12_isLink a72_21 a72_22 p0 p1 true).bind (fun q15 =>
            Option.bind (α := (Nat → Int32)) (
              if q15 = true then
                (fX12_changes q13 p0 p1 true ((0 : Int32) - p2) ((0 : Int32) - p3)).bind (fun q29 =>
                some q29)
              else
                some q13) (fun q17 =>
            Option.bind (α := (Nat → Int32)) (
              if p0 ≤ 0 then
                some q17
              else
                (fX12_changes q17 (p0 - 1) p1 false p2 p3).bind (fun q27 =>
                some q27)) (fun q19 =>
            Option.bind (α := (Nat → Int32)) (
              if p1 ≤ 0 then
                some q19
              else
                (fX12_changes q19 p0 (p1 - 1) true p2 p3).bind (fun q25 =>
                some q25)) (fun q21 =>
            (fX12_slipped a72_21 a72_22 q21).bind (fun q23 =>
            some (q23, 0, q9.1, q21, q9.2, A87)))))))))
        else
          (fX12_refuses A87 2).bind (fun q59 =>
          some (q59.1, 0, a72_31, A79, A86, q59.2)))
      else
        (fX12_refuses A87 2).bind (fun q61 =>
        some (q61.1, 0, a72_31, A79, A86, q61.2)))
    else
      (fX12_refuses A87 1).bind (fun q63 =>
      some (q63.1, 0, a72_31, A79, A86, q63.2)))
  else
    (fX12_refuses A87 0).bind (fun q65 =>
    some (q65.1, 0, a72_31, A79, A86, q65.2)))
set_option maxRecDepth 100000 in
theorem tX12_shift_72 {G : eG} (hG : e_GS G) {la : Launch} {h : Nat → eO} {nx : Nat} (hnx : 99 ≤ nx) {a72_0 : Int32} {a72_2 : Int32} {a72_3 : Int32} {a72_4 : Int32} {a72_5 : Int32} {a72_6 : Int32} {a72_7 : Int32} {a72_8 : Bool} {a72_9 : Int32} {a72_10 : Int32} {a72_11 : Int32} {a72_17 : Bool} {a72_18 : Bool} {a72_19 : Bool} {a72_21 : Int32} {a72_22 : Int32} {a72_29 : Int32} {a72_31 : Int32} {a72_35 : Int32} {a72_37 : Bool} {a72_38 : Int32} {a72_39 : Int32} {a72_40 : Int32} {a72_41 : Int64} {a72_44 : Int32} {a72_50 : Bool} {A79 : Nat → Int32} {A86 : Nat → Int32} {A87 : Nat → Int32} {p0 : Int32} {p1 : Int32} {p2 : Int32} {p3 : Int32} (h72 : h 72 = o72 a72_0 a72_2 a72_3 a72_4 a72_5 a72_6 a72_7 a72_8 a72_9 a72_10 a72_11 a72_17 a72_18 a72_19 a72_21 a72_22 a72_29 a72_31 a72_35 a72_37 a72_38 a72_39 a72_40 a72_41 a72_44 a72_50) (h79 : h 79 = o79 A79) (h86 : h 86 = o86 A86) (h87 : h 87 = o87 A87) {R9 : Int32 × Int32 × Int32 × (Nat → Int32) × (Nat → Int32) × (Nat → Int32)} (hf : fX12_shift a72_0 a72_21 a72_22 a72_31 A79 A86 A87 p0 p1 p2 p3 = some R9) :
    eSem G la MX12_shift [.ref 72, .int p0, .int p1, .int p2, .int p3] h nx 0 0 (fun r9 h9 => r9 = some (.int R9.1) ∧ h9 = e_up h [(72, o72 R9.2.1 a72_2 a72_3 a72_4 a72_5 a72_6 a72_7 a72_8 a72_9 a72_10 a72_11 a72_17 a72_18 a72_19 a72_21 a72_22 a72_29 R9.2.2.1 a72_35 a72_37 a72_38 a72_39 a72_40 a72_41 a72_44 a72_50), (79, o79 R9.2.2.2.1), (86, o86 R9.2.2.2.2.1), (87, o87 R9.2.2.2.2.2)]) := by
  refine eSem.of (k := 0) (L := [some (.ref 72), some (.int p0), some (.int p1), some (.int p2), some (.int p3)]) (by decide +kernel) rfl rfl (fun X F hxl hq hcR hsR => ?_)
  subst hxl
  unfold fX12_shift at hf
  refine r_aload_n F dX12_shift_0 rfl ?_
  refine r_iconst F dX12_shift_1 (v := 0) (by decide) ?_
  refine r_put F dX12_shift_2 flX12_86 rfl rfl rfl h72 (e_le rfl) (e_le rfl) (e_lt hnx rfl) (l' := [(72, o72 0 a72_2 a72_3 a72_4 a72_5 a72_6 a72_7 a72_8 a72_9 a72_10 a72_11 a72_17 a72_18 a72_19 a72_21 a72_22 a72_29 a72_31 a72_35 a72_37 a72_38 a72_39 a72_40 a72_41 a72_44 a72_50)]) rfl ?_
  refine r_aload_n F dX12_shift_5 rfl ?_
  obtain ⟨q1, hq2, hf⟩ := e_bd hf
  refine r_callV F dX12_shift_6 (b := 72) (dc := 0) (ds := 0) (As := []) (S0 := []) lkX12_306 mX12_isCrystal (tX12_isCrystal_72 hG (la := x_l X) (h := e_up h [(72, o72 0 a72_2 a72_3 a72_4 a72_5 a72_6 a72_7 a72_8 a72_9 a72_10 a72_11 a72_17 a72_18 a72_19 a72_21 a72_22 a72_29 a72_31 a72_35 a72_37 a72_38 a72_39 a72_40 a72_41 a72_44 a72_50)]) hnx rfl hq2) rfl rfl rfl (e_le rfl) (e_le rfl) (e_le rfl) rfl (ci := 12) e_cl12.1 rfl (e_le rfl) (e_lt hnx rfl) (Nat.zero_le _) (Nat.zero_le _) (e_k ?_)
  refine r_wr0 ?_
  refine r_z_ne F dX12_shift_9 (tgt := 18) (by decide) (fun hc => ?_) (fun hc => ?_)
  · have hf := e_t hc hf
    refine r_aload_n F dX12_shift_18 rfl ?_
    refine r_iload_n F dX12_shift_19 rfl ?_
    refine r_iload_n F dX12_shift_20 rfl ?_
    obtain ⟨q3, hq4, hf⟩ := e_bd hf
    refine r_callV F dX12_shift_21 (b := 72) (dc := 0) (ds := 0) (As := [.int p0, .int p1]) (S0 := []) lkX12_215 mX12_isSite (tX12_isSite_72 hG (la := x_l X) (h := e_up h [(72, o72 0 a72_2 a72_3 a72_4 a72_5 a72_6 a72_7 a72_8 a72_9 a72_10 a72_11 a72_17 a72_18 a72_19 a72_21 a72_22 a72_29 a72_31 a72_35 a72_37 a72_38 a72_39 a72_40 a72_41 a72_44 a72_50)]) hnx rfl hq4) rfl rfl rfl (e_le rfl) (e_le rfl) (e_le rfl) rfl (ci := 12) e_cl12.1 rfl (e_le rfl) (e_lt hnx rfl) (Nat.zero_le _) (Nat.zero_le _) (e_k ?_)
    refine r_wr0 ?_
    refine r_z_ne F dX12_shift_24 (tgt := 33) (by decide) (fun hc => ?_) (fun hc => ?_)
    · have hf := e_t hc hf
      refine r_iload_n F dX12_shift_33 rfl ?_
      refine r_i2l F dX12_shift_34 ?_
      refine r_ldc2 F dX12_shift_35 klX12_397 ?_
      refine r_ldc2 F dX12_shift_38 klX12_399 ?_
      obtain ⟨q5, hq6, hf⟩ := e_bd hf
      refine r_callS F dX12_shift_41 (dc := 0) (ds := 0) (As := [.long (Int32.toInt64 p2), .long (-9), .long 9]) (S0 := []) lkX12_97 mX12_in (tX12_in hG (la := x_l X) (h := e_up h [(72, o72 0 a72_2 a72_3 a72_4 a72_5 a72_6 a72_7 a72_8 a72_9 a72_10 a72_11 a72_17 a72_18 a72_19 a72_21 a72_22 a72_29 a72_31 a72_35 a72_37 a72_38 a72_39 a72_40 a72_41 a72_44 a72_50)]) hnx  hq6) rfl rfl rfl (e_le rfl) (e_le rfl) (e_le rfl) (Nat.zero_le _) (Nat.zero_le _) (e_k ?_)
      refine r_wr0 ?_
      refine r_z_eq F dX12_shift_44 (tgt := 71) (by decide) (fun hc => ?_) (fun hc => ?_)
      · have hf := e_t hc hf
        refine r_iload F dX12_shift_47 rfl ?_
        refine r_i2l F dX12_shift_49 ?_
        refine r_ldc2 F dX12_shift_50 klX12_397 ?_
        refine r_ldc2 F dX12_shift_53 klX12_399 ?_
        obtain ⟨q7, hq8, hf⟩ := e_bd hf
        refine r_callS F dX12_shift_56 (dc := 0) (ds := 0) (As := [.long (Int32.toInt64 p3), .long (-9), .long 9]) (S0 := []) lkX12_97 mX12_in (tX12_in hG (la := x_l X) (h := e_up h [(72, o72 0 a72_2 a72_3 a72_4 a72_5 a72_6 a72_7 a72_8 a72_9 a72_10 a72_11 a72_17 a72_18 a72_19 a72_21 a72_22 a72_29 a72_31 a72_35 a72_37 a72_38 a72_39 a72_40 a72_41 a72_44 a72_50)]) hnx  hq8) rfl rfl rfl (e_le rfl) (e_le rfl) (e_le rfl) (Nat.zero_le _) (Nat.zero_le _) (e_k ?_)
        refine r_wr0 ?_
        refine r_z_eq F dX12_shift_59 (tgt := 71) (by decide) (fun hc => ?_) (fun hc => ?_)
        · have hf := e_t hc hf
          refine r_iload_n F dX12_shift_62 rfl ?_
          refine r_if_ne F dX12_shift_63 (tgt := 77) (by decide) (fun hc => ?_) (fun hc => ?_)
          · have hf := e_f hc hf
            refine r_aload_n F dX12_shift_77 rfl ?_
            obtain ⟨q9, hq10, hf⟩ := e_bd hf
            refine r_callV F dX12_shift_78 (b := 72) (dc := 0) (ds := 0) (As := []) (S0 := []) lkX12_364 mX12_keeps (tX12_keeps_72 hG (la := x_l X) (h := e_up h [(72, o72 0 a72_2 a72_3 a72_4 a72_5 a72_6 a72_7 a72_8 a72_9 a72_10 a72_11 a72_17 a72_18 a72_19 a72_21 a72_22 a72_29 a72_31 a72_35 a72_37 a72_38 a72_39 a72_40 a72_41 a72_44 a72_50)]) hnx rfl h79 h86 hq10) rfl rfl rfl (e_le rfl) (e_le rfl) (e_le rfl) rfl (ci := 12) e_cl12.1 rfl (e_le rfl) (e_lt hnx rfl) (Nat.zero_le _) (Nat.zero_le _) (e_k ?_)
            refine r_wr (l' := [(72, o72 0 a72_2 a72_3 a72_4 a72_5 a72_6 a72_7 a72_8 a72_9 a72_10 a72_11 a72_17 a72_18 a72_19 a72_21 a72_22 a72_29 q9.1 a72_35 a72_37 a72_38 a72_39 a72_40 a72_41 a72_44 a72_50), (86, o86 q9.2)]) rfl rfl ?_
            refine r_aload_n F dX12_shift_81 rfl ?_
            refine r_iload_n F dX12_shift_82 rfl ?_
            refine r_iload_n F dX12_shift_83 rfl ?_
            refine r_iconst F dX12_shift_84 (v := 0) (by decide) ?_
            obtain ⟨q11, hq12, hf⟩ := e_bd hf
            refine r_callV F dX12_shift_85 (b := 72) (dc := 0) (ds := 0) (As := [.int p0, .int p1, .int 0]) (S0 := []) lkX12_296 mX12_isLink (tX12_isLink_72 hG (la := x_l X) (h := e_up h [(72, o72 0 a72_2 a72_3 a72_4 a72_5 a72_6 a72_7 a72_8 a72_9 a72_10 a72_11 a72_17 a72_18 a72_19 a72_21 a72_22 a72_29 q9.1 a72_35 a72_37 a72_38 a72_39 a72_40 a72_41 a72_44 a72_50), (86, o86 q9.2)]) hnx rfl hq12) rfl rfl rfl (e_le rfl) (e_le rfl) (e_le rfl) rfl (ci := 12) e_cl12.1 rfl (e_le rfl) (e_lt hnx rfl) (Nat.zero_le _) (Nat.zero_le _) (e_k ?_)
            refine r_wr0 ?_
            obtain ⟨q13, hq14, hf⟩ := e_bd hf
            have Jq13 : eRun G X 103 [some (.ref 72), some (.int p0), some (.int p1), some (.int p2), some (.int p3)] [] h [(72, o72 0 a72_2 a72_3 a72_4 a72_5 a72_6 a72_7 a72_8 a72_9 a72_10 a72_11 a72_17 a72_18 a72_19 a72_21 a72_22 a72_29 q9.1 a72_35 a72_37 a72_38 a72_39 a72_40 a72_41 a72_44 a72_50), (79, o79 q13), (86, o86 q9.2)] nx 0 0 := by
              refine r_aload_n F dX12_shift_103 rfl ?_
              refine r_iload_n F dX12_shift_104 rfl ?_
              refine r_iload_n F dX12_shift_105 rfl ?_
              refine r_iconst F dX12_shift_106 (v := 1) (by decide) ?_
              obtain ⟨q15, hq16, hf⟩ := e_bd hf
              refine r_callV F dX12_shift_107 (b := 72) (dc := 0) (ds := 0) (As := [.int p0, .int p1, .int 1]) (S0 := []) lkX12_296 mX12_isLink (tX12_isLink_72 hG (la := x_l X) (h := e_up h [(72, o72 0 a72_2 a72_3 a72_4 a72_5 a72_6 a72_7 a72_8 a72_9 a72_10 a72_11 a72_17 a72_18 a72_19 a72_21 a72_22 a72_29 q9.1 a72_35 a72_37 a72_38 a72_39 a72_40 a72_41 a72_44 a72_50), (79, o79 q13), (86, o86 q9.2)]) hnx rfl hq16) rfl rfl rfl (e_le rfl) (e_le rfl) (e_le rfl) rfl (ci := 12) e_cl12.1 rfl (e_le rfl) (e_lt hnx rfl) (Nat.zero_le _) (Nat.zero_le _) (e_k ?_)
              refine r_wr0 ?_
              obtain ⟨q17, hq18, hf⟩ := e_bd hf
              have Jq17 : eRun G X 125 [some (.ref 72), some (.int p0), some (.int p1), some (.int p2), some (.int p3)] [] h [(72, o72 0 a72_2 a72_3 a72_4 a72_5 a72_6 a72_7 a72_8 a72_9 a72_10 a72_11 a72_17 a72_18 a72_19 a72_21 a72_22 a72_29 q9.1 a72_35 a72_37 a72_38 a72_39 a72_40 a72_41 a72_44 a72_50), (79, o79 q17), (86, o86 q9.2)] nx 0 0 := by
                refine r_iload_n F dX12_shift_125 rfl ?_
                obtain ⟨q19, hq20, hf⟩ := e_bd hf
                have Jq19 : eRun G X 141 [some (.ref 72), some (.int p0), some (.int p1), some (.int p2), some (.int p3)] [] h [(72, o72 0 a72_2 a72_3 a72_4 a72_5 a72_6 a72_7 a72_8 a72_9 a72_10 a72_11 a72_17 a72_18 a72_19 a72_21 a72_22 a72_29 q9.1 a72_35 a72_37 a72_38 a72_39 a72_40 a72_41 a72_44 a72_50), (79, o79 q19), (86, o86 q9.2)] nx 0 0 := by
                  refine r_iload_n F dX12_shift_141 rfl ?_
                  obtain ⟨q21, hq22, hf⟩ := e_bd hf
                  have Jq21 : eRun G X 157 [some (.ref 72), none, none, none, none] [] h [(72, o72 0 a72_2 a72_3 a72_4 a72_5 a72_6 a72_7 a72_8 a72_9 a72_10 a72_11 a72_17 a72_18 a72_19 a72_21 a72_22 a72_29 q9.1 a72_35 a72_37 a72_38 a72_39 a72_40 a72_41 a72_44 a72_50), (79, o79 q21), (86, o86 q9.2)] nx 0 0 := by
                    refine r_aload_n F dX12_shift_157 rfl ?_
                    obtain ⟨q23, hq24, hf⟩ := e_bd hf
                    refine r_callV F dX12_shift_158 (b := 72) (dc := 0) (ds := 0) (As := []) (S0 := []) lkX12_311 mX12_slipped (tX12_slipped_72 hG (la := x_l X) (h := e_up h [(72, o72 0 a72_2 a72_3 a72_4 a72_5 a72_6 a72_7 a72_8 a72_9 a72_10 a72_11 a72_17 a72_18 a72_19 a72_21 a72_22 a72_29 q9.1 a72_35 a72_37 a72_38 a72_39 a72_40 a72_41 a72_44 a72_50), (79, o79 q21), (86, o86 q9.2)]) hnx rfl rfl hq24) rfl rfl rfl (e_le rfl) (e_le rfl) (e_le rfl) rfl (ci := 12) e_cl12.1 rfl (e_le rfl) (e_lt hnx rfl) (Nat.zero_le _) (Nat.zero_le _) (e_k ?_)
                    refine r_wr0 ?_
                    refine r_mat (k := 87) h87 (l' := [(72, o72 0 a72_2 a72_3 a72_4 a72_5 a72_6 a72_7 a72_8 a72_9 a72_10 a72_11 a72_17 a72_18 a72_19 a72_21 a72_22 a72_29 q9.1 a72_35 a72_37 a72_38 a72_39 a72_40 a72_41 a72_44 a72_50), (79, o79 q21), (86, o86 q9.2), (87, o87 A87)]) rfl ?_
                    obtain rfl := Option.some.inj hf
                    exact r_iret F hq dX12_shift_161 rfl rfl (Nat.le_refl _) (Nat.le_refl _) ⟨rfl, rfl⟩
                  refine r_if_le F dX12_shift_142 (tgt := 157) (by decide) (fun hc => ?_) (fun hc => ?_)
                  · have hq22 := e_t hc hq22
                    refine r_drop 1 (L' := [some (.ref 72), none, some (.int p1), some (.int p2), some (.int p3)]) rfl ?_
                    refine r_drop 2 (L' := [some (.ref 72), none, none, some (.int p2), some (.int p3)]) rfl ?_
                    refine r_drop 3 (L' := [some (.ref 72), none, none, none, some (.int p3)]) rfl ?_
                    refine r_drop 4 (L' := [some (.ref 72), none, none, none, none]) rfl ?_
                    obtain rfl := Option.some.inj hq22
                    exact Jq21
                  · have hq22 := e_f hc hq22
                    refine r_aload_n F dX12_shift_145 rfl ?_
                    refine r_iload_n F dX12_shift_146 rfl ?_
                    refine r_iload_n F dX12_shift_147 rfl ?_
                    refine r_iconst F dX12_shift_148 (v := 1) (by decide) ?_
                    refine r_isub F dX12_shift_149 ?_
                    refine r_iconst F dX12_shift_150 (v := 1) (by decide) ?_
                    refine r_iload_n F dX12_shift_151 rfl ?_
                    refine r_iload F dX12_shift_152 rfl ?_
                    obtain ⟨q25, hq26, hq22⟩ := e_bd hq22
                    refine r_callV F dX12_shift_154 (b := 72) (dc := 0) (ds := 0) (As := [.int p0, .int (p1 - 1), .int 1, .int p2, .int p3]) (S0 := []) lkX12_225 mX12_changes (tX12_changes_72 hG (la := x_l X) (h := e_up h [(72, o72 0 a72_2 a72_3 a72_4 a72_5 a72_6 a72_7 a72_8 a72_9 a72_10 a72_11 a72_17 a72_18 a72_19 a72_21 a72_22 a72_29 q9.1 a72_35 a72_37 a72_38 a72_39 a72_40 a72_41 a72_44 a72_50), (79, o79 q19), (86, o86 q9.2)]) hnx rfl rfl hq26) rfl rfl rfl (e_le rfl) (e_le rfl) (e_le rfl) rfl (ci := 12) e_cl12.1 rfl (e_le rfl) (e_lt hnx rfl) (Nat.zero_le _) (Nat.zero_le _) (e_k ?_)
                    refine r_wr (l' := [(72, o72 0 a72_2 a72_3 a72_4 a72_5 a72_6 a72_7 a72_8 a72_9 a72_10 a72_11 a72_17 a72_18 a72_19 a72_21 a72_22 a72_29 q9.1 a72_35 a72_37 a72_38 a72_39 a72_40 a72_41 a72_44 a72_50), (79, o79 q25), (86, o86 q9.2)]) rfl rfl ?_
                    refine r_drop 1 (L' := [some (.ref 72), none, some (.int p1), some (.int p2), some (.int p3)]) rfl ?_
                    refine r_drop 2 (L' := [some (.ref 72), none, none, some (.int p2), some (.int p3)]) rfl ?_
                    refine r_drop 3 (L' := [some (.ref 72), none, none, none, some (.int p3)]) rfl ?_
                    refine r_drop 4 (L' := [some (.ref 72), none, none, none, none]) rfl ?_
                    obtain rfl := Option.some.inj hq22
                    exact Jq21
                refine r_if_le F dX12_shift_126 (tgt := 141) (by decide) (fun hc => ?_) (fun hc => ?_)
                · have hq20 := e_t hc hq20
                  obtain rfl := Option.some.inj hq20
                  exact Jq19
                · have hq20 := e_f hc hq20
                  refine r_aload_n F dX12_shift_129 rfl ?_
                  refine r_iload_n F dX12_shift_130 rfl ?_
                  refine r_iconst F dX12_shift_131 (v := 1) (by decide) ?_
                  refine r_isub F dX12_shift_132 ?_
                  refine r_iload_n F dX12_shift_133 rfl ?_
                  refine r_iconst F dX12_shift_134 (v := 0) (by decide) ?_
                  refine r_iload_n F dX12_shift_135 rfl ?_
                  refine r_iload F dX12_shift_136 rfl ?_
                  obtain ⟨q27, hq28, hq20⟩ := e_bd hq20
                  refine r_callV F dX12_shift_138 (b := 72) (dc := 0) (ds := 0) (As := [.int (p0 - 1), .int p1, .int 0, .int p2, .int p3]) (S0 := []) lkX12_225 mX12_changes (tX12_changes_72 hG (la := x_l X) (h := e_up h [(72, o72 0 a72_2 a72_3 a72_4 a72_5 a72_6 a72_7 a72_8 a72_9 a72_10 a72_11 a72_17 a72_18 a72_19 a72_21 a72_22 a72_29 q9.1 a72_35 a72_37 a72_38 a72_39 a72_40 a72_41 a72_44 a72_50), (79, o79 q17), (86, o86 q9.2)]) hnx rfl rfl hq28) rfl rfl rfl (e_le rfl) (e_le rfl) (e_le rfl) rfl (ci := 12) e_cl12.1 rfl (e_le rfl) (e_lt hnx rfl) (Nat.zero_le _) (Nat.zero_le _) (e_k ?_)
                  refine r_wr (l' := [(72, o72 0 a72_2 a72_3 a72_4 a72_5 a72_6 a72_7 a72_8 a72_9 a72_10 a72_11 a72_17 a72_18 a72_19 a72_21 a72_22 a72_29 q9.1 a72_35 a72_37 a72_38 a72_39 a72_40 a72_41 a72_44 a72_50), (79, o79 q27), (86, o86 q9.2)]) rfl rfl ?_
                  obtain rfl := Option.some.inj hq20
                  exact Jq19
              refine r_z_eq F dX12_shift_110 (tgt := 125) (by decide) (fun hc => ?_) (fun hc => ?_)
              · have hq18 := e_t hc hq18
                refine r_aload_n F dX12_shift_113 rfl ?_
                refine r_iload_n F dX12_shift_114 rfl ?_
                refine r_iload_n F dX12_shift_115 rfl ?_
                refine r_iconst F dX12_shift_116 (v := 1) (by decide) ?_
                refine r_iload_n F dX12_shift_117 rfl ?_
                refine r_ineg F dX12_shift_118 ?_
                refine r_iload F dX12_shift_119 rfl ?_
                refine r_ineg F dX12_shift_121 ?_
                obtain ⟨q29, hq30, hq18⟩ := e_bd hq18
                refine r_callV F dX12_shift_122 (b := 72) (dc := 0) (ds := 0) (As := [.int p0, .int p1, .int 1, .int ((0 : Int32) - p2), .int ((0 : Int32) - p3)]) (S0 := []) lkX12_225 mX12_changes (tX12_changes_72 hG (la := x_l X) (h := e_up h [(72, o72 0 a72_2 a72_3 a72_4 a72_5 a72_6 a72_7 a72_8 a72_9 a72_10 a72_11 a72_17 a72_18 a72_19 a72_21 a72_22 a72_29 q9.1 a72_35 a72_37 a72_38 a72_39 a72_40 a72_41 a72_44 a72_50), (79, o79 q13), (86, o86 q9.2)]) hnx rfl rfl hq30) rfl rfl rfl (e_le rfl) (e_le rfl) (e_le rfl) rfl (ci := 12) e_cl12.1 rfl (e_le rfl) (e_lt hnx rfl) (Nat.zero_le _) (Nat.zero_le _) (e_k ?_)
                refine r_wr (l' := [(72, o72 0 a72_2 a72_3 a72_4 a72_5 a72_6 a72_7 a72_8 a72_9 a72_10 a72_11 a72_17 a72_18 a72_19 a72_21 a72_22 a72_29 q9.1 a72_35 a72_37 a72_38 a72_39 a72_40 a72_41 a72_44 a72_50), (79, o79 q29), (86, o86 q9.2)]) rfl rfl ?_
                obtain rfl := Option.some.inj hq18
                exact Jq17
              · have hq18 := e_f hc hq18
                obtain rfl := Option.some.inj hq18
                exact Jq17
            refine r_z_eq F dX12_shift_88 (tgt := 103) (by decide) (fun hc => ?_) (fun hc => ?_)
            · have hq14 := e_t hc hq14
              refine r_aload_n F dX12_shift_91 rfl ?_
              refine r_iload_n F dX12_shift_92 rfl ?_
              refine r_iload_n F dX12_shift_93 rfl ?_
              refine r_iconst F dX12_shift_94 (v := 0) (by decide) ?_
              refine r_iload_n F dX12_shift_95 rfl ?_
              refine r_ineg F dX12_shift_96 ?_
              refine r_iload F dX12_shift_97 rfl ?_
              refine r_ineg F dX12_shift_99 ?_
              obtain ⟨q31, hq32, hq14⟩ := e_bd hq14
              refine r_callV F dX12_shift_100 (b := 72) (dc := 0) (ds := 0) (As := [.int p0, .int p1, .int 0, .int ((0 : Int32) - p2), .int ((0 : Int32) - p3)]) (S0 := []) lkX12_225 mX12_changes (tX12_changes_72 hG (la := x_l X) (h := e_up h [(72, o72 0 a72_2 a72_3 a72_4 a72_5 a72_6 a72_7 a72_8 a72_9 a72_10 a72_11 a72_17 a72_18 a72_19 a72_21 a72_22 a72_29 q9.1 a72_35 a72_37 a72_38 a72_39 a72_40 a72_41 a72_44 a72_50), (86, o86 q9.2)]) hnx rfl h79 hq32) rfl rfl rfl (e_le rfl) (e_le rfl) (e_le rfl) rfl (ci := 12) e_cl12.1 rfl (e_le rfl) (e_lt hnx rfl) (Nat.zero_le _) (Nat.zero_le _) (e_k ?_)
              refine r_wr (l' := [(72, o72 0 a72_2 a72_3 a72_4 a72_5 a72_6 a72_7 a72_8 a72_9 a72_10 a72_11 a72_17 a72_18 a72_19 a72_21 a72_22 a72_29 q9.1 a72_35 a72_37 a72_38 a72_39 a72_40 a72_41 a72_44 a72_50), (79, o79 q31), (86, o86 q9.2)]) rfl rfl ?_
              obtain rfl := Option.some.inj hq14
              exact Jq13
            · have hq14 := e_f hc hq14
              refine r_mat (k := 79) h79 (l' := [(72, o72 0 a72_2 a72_3 a72_4 a72_5 a72_6 a72_7 a72_8 a72_9 a72_10 a72_11 a72_17 a72_18 a72_19 a72_21 a72_22 a72_29 q9.1 a72_35 a72_37 a72_38 a72_39 a72_40 a72_41 a72_44 a72_50), (79, o79 A79), (86, o86 q9.2)]) rfl ?_
              obtain rfl := Option.some.inj hq14
              exact Jq13
          · have hf := e_t hc hf
            refine r_iload F dX12_shift_66 rfl ?_
            refine r_if_ne F dX12_shift_68 (tgt := 77) (by decide) (fun hc => ?_) (fun hc => ?_)
            · have hf := e_f hc hf
              refine r_aload_n F dX12_shift_77 rfl ?_
              obtain ⟨q33, hq34, hf⟩ := e_bd hf
              refine r_callV F dX12_shift_78 (b := 72) (dc := 0) (ds := 0) (As := []) (S0 := []) lkX12_364 mX12_keeps (tX12_keeps_72 hG (la := x_l X) (h := e_up h [(72, o72 0 a72_2 a72_3 a72_4 a72_5 a72_6 a72_7 a72_8 a72_9 a72_10 a72_11 a72_17 a72_18 a72_19 a72_21 a72_22 a72_29 a72_31 a72_35 a72_37 a72_38 a72_39 a72_40 a72_41 a72_44 a72_50)]) hnx rfl h79 h86 hq34) rfl rfl rfl (e_le rfl) (e_le rfl) (e_le rfl) rfl (ci := 12) e_cl12.1 rfl (e_le rfl) (e_lt hnx rfl) (Nat.zero_le _) (Nat.zero_le _) (e_k ?_)
              refine r_wr (l' := [(72, o72 0 a72_2 a72_3 a72_4 a72_5 a72_6 a72_7 a72_8 a72_9 a72_10 a72_11 a72_17 a72_18 a72_19 a72_21 a72_22 a72_29 q33.1 a72_35 a72_37 a72_38 a72_39 a72_40 a72_41 a72_44 a72_50), (86, o86 q33.2)]) rfl rfl ?_
              refine r_aload_n F dX12_shift_81 rfl ?_
              refine r_iload_n F dX12_shift_82 rfl ?_
              refine r_iload_n F dX12_shift_83 rfl ?_
              refine r_iconst F dX12_shift_84 (v := 0) (by decide) ?_
              obtain ⟨q35, hq36, hf⟩ := e_bd hf
              refine r_callV F dX12_shift_85 (b := 72) (dc := 0) (ds := 0) (As := [.int p0, .int p1, .int 0]) (S0 := []) lkX12_296 mX12_isLink (tX12_isLink_72 hG (la := x_l X) (h := e_up h [(72, o72 0 a72_2 a72_3 a72_4 a72_5 a72_6 a72_7 a72_8 a72_9 a72_10 a72_11 a72_17 a72_18 a72_19 a72_21 a72_22 a72_29 q33.1 a72_35 a72_37 a72_38 a72_39 a72_40 a72_41 a72_44 a72_50), (86, o86 q33.2)]) hnx rfl hq36) rfl rfl rfl (e_le rfl) (e_le rfl) (e_le rfl) rfl (ci := 12) e_cl12.1 rfl (e_le rfl) (e_lt hnx rfl) (Nat.zero_le _) (Nat.zero_le _) (e_k ?_)
              refine r_wr0 ?_
              obtain ⟨q37, hq38, hf⟩ := e_bd hf
              have Jq37 : eRun G X 103 [some (.ref 72), some (.int p0), some (.int p1), some (.int p2), some (.int p3)] [] h [(72, o72 0 a72_2 a72_3 a72_4 a72_5 a72_6 a72_7 a72_8 a72_9 a72_10 a72_11 a72_17 a72_18 a72_19 a72_21 a72_22 a72_29 q33.1 a72_35 a72_37 a72_38 a72_39 a72_40 a72_41 a72_44 a72_50), (79, o79 q37), (86, o86 q33.2)] nx 0 0 := by
                refine r_aload_n F dX12_shift_103 rfl ?_
                refine r_iload_n F dX12_shift_104 rfl ?_
                refine r_iload_n F dX12_shift_105 rfl ?_
                refine r_iconst F dX12_shift_106 (v := 1) (by decide) ?_
                obtain ⟨q39, hq40, hf⟩ := e_bd hf
                refine r_callV F dX12_shift_107 (b := 72) (dc := 0) (ds := 0) (As := [.int p0, .int p1, .int 1]) (S0 := []) lkX12_296 mX12_isLink (tX12_isLink_72 hG (la := x_l X) (h := e_up h [(72, o72 0 a72_2 a72_3 a72_4 a72_5 a72_6 a72_7 a72_8 a72_9 a72_10 a72_11 a72_17 a72_18 a72_19 a72_21 a72_22 a72_29 q33.1 a72_35 a72_37 a72_38 a72_39 a72_40 a72_41 a72_44 a72_50), (79, o79 q37), (86, o86 q33.2)]) hnx rfl hq40) rfl rfl rfl (e_le rfl) (e_le rfl) (e_le rfl) rfl (ci := 12) e_cl12.1 rfl (e_le rfl) (e_lt hnx rfl) (Nat.zero_le _) (Nat.zero_le _) (e_k ?_)
                refine r_wr0 ?_
                obtain ⟨q41, hq42, hf⟩ := e_bd hf
                have Jq41 : eRun G X 125 [some (.ref 72), some (.int p0), some (.int p1), some (.int p2), some (.int p3)] [] h [(72, o72 0 a72_2 a72_3 a72_4 a72_5 a72_6 a72_7 a72_8 a72_9 a72_10 a72_11 a72_17 a72_18 a72_19 a72_21 a72_22 a72_29 q33.1 a72_35 a72_37 a72_38 a72_39 a72_40 a72_41 a72_44 a72_50), (79, o79 q41), (86, o86 q33.2)] nx 0 0 := by
                  refine r_iload_n F dX12_shift_125 rfl ?_
                  obtain ⟨q43, hq44, hf⟩ := e_bd hf
                  have Jq43 : eRun G X 141 [some (.ref 72), some (.int p0), some (.int p1), some (.int p2), some (.int p3)] [] h [(72, o72 0 a72_2 a72_3 a72_4 a72_5 a72_6 a72_7 a72_8 a72_9 a72_10 a72_11 a72_17 a72_18 a72_19 a72_21 a72_22 a72_29 q33.1 a72_35 a72_37 a72_38 a72_39 a72_40 a72_41 a72_44 a72_50), (79, o79 q43), (86, o86 q33.2)] nx 0 0 := by
                    refine r_iload_n F dX12_shift_141 rfl ?_
                    obtain ⟨q45, hq46, hf⟩ := e_bd hf
                    have Jq45 : eRun G X 157 [some (.ref 72), none, none, none, none] [] h [(72, o72 0 a72_2 a72_3 a72_4 a72_5 a72_6 a72_7 a72_8 a72_9 a72_10 a72_11 a72_17 a72_18 a72_19 a72_21 a72_22 a72_29 q33.1 a72_35 a72_37 a72_38 a72_39 a72_40 a72_41 a72_44 a72_50), (79, o79 q45), (86, o86 q33.2)] nx 0 0 := by
                      refine r_aload_n F dX12_shift_157 rfl ?_
                      obtain ⟨q47, hq48, hf⟩ := e_bd hf
                      refine r_callV F dX12_shift_158 (b := 72) (dc := 0) (ds := 0) (As := []) (S0 := []) lkX12_311 mX12_slipped (tX12_slipped_72 hG (la := x_l X) (h := e_up h [(72, o72 0 a72_2 a72_3 a72_4 a72_5 a72_6 a72_7 a72_8 a72_9 a72_10 a72_11 a72_17 a72_18 a72_19 a72_21 a72_22 a72_29 q33.1 a72_35 a72_37 a72_38 a72_39 a72_40 a72_41 a72_44 a72_50), (79, o79 q45), (86, o86 q33.2)]) hnx rfl rfl hq48) rfl rfl rfl (e_le rfl) (e_le rfl) (e_le rfl) rfl (ci := 12) e_cl12.1 rfl (e_le rfl) (e_lt hnx rfl) (Nat.zero_le _) (Nat.zero_le _) (e_k ?_)
                      refine r_wr0 ?_
                      refine r_mat (k := 87) h87 (l' := [(72, o72 0 a72_2 a72_3 a72_4 a72_5 a72_6 a72_7 a72_8 a72_9 a72_10 a72_11 a72_17 a72_18 a72_19 a72_21 a72_22 a72_29 q33.1 a72_35 a72_37 a72_38 a72_39 a72_40 a72_41 a72_44 a72_50), (79, o79 q45), (86, o86 q33.2), (87, o87 A87)]) rfl ?_
                      obtain rfl := Option.some.inj hf
                      exact r_iret F hq dX12_shift_161 rfl rfl (Nat.le_refl _) (Nat.le_refl _) ⟨rfl, rfl⟩
                    refine r_if_le F dX12_shift_142 (tgt := 157) (by decide) (fun hc => ?_) (fun hc => ?_)
                    · have hq46 := e_t hc hq46
                      refine r_drop 1 (L' := [some (.ref 72), none, some (.int p1), some (.int p2), some (.int p3)]) rfl ?_
                      refine r_drop 2 (L' := [some (.ref 72), none, none, some (.int p2), some (.int p3)]) rfl ?_
                      refine r_drop 3 (L' := [some (.ref 72), none, none, none, some (.int p3)]) rfl ?_
                      refine r_drop 4 (L' := [some (.ref 72), none, none, none, none]) rfl ?_
                      obtain rfl := Option.some.inj hq46
                      exact Jq45
                    · have hq46 := e_f hc hq46
                      refine r_aload_n F dX12_shift_145 rfl ?_
                      refine r_iload_n F dX12_shift_146 rfl ?_
                      refine r_iload_n F dX12_shift_147 rfl ?_
                      refine r_iconst F dX12_shift_148 (v := 1) (by decide) ?_
                      refine r_isub F dX12_shift_149 ?_
                      refine r_iconst F dX12_shift_150 (v := 1) (by decide) ?_
                      refine r_iload_n F dX12_shift_151 rfl ?_
                      refine r_iload F dX12_shift_152 rfl ?_
                      obtain ⟨q49, hq50, hq46⟩ := e_bd hq46
                      refine r_callV F dX12_shift_154 (b := 72) (dc := 0) (ds := 0) (As := [.int p0, .int (p1 - 1), .int 1, .int p2, .int p3]) (S0 := []) lkX12_225 mX12_changes (tX12_changes_72 hG (la := x_l X) (h := e_up h [(72, o72 0 a72_2 a72_3 a72_4 a72_5 a72_6 a72_7 a72_8 a72_9 a72_10 a72_11 a72_17 a72_18 a72_19 a72_21 a72_22 a72_29 q33.1 a72_35 a72_37 a72_38 a72_39 a72_40 a72_41 a72_44 a72_50), (79, o79 q43), (86, o86 q33.2)]) hnx rfl rfl hq50) rfl rfl rfl (e_le rfl) (e_le rfl) (e_le rfl) rfl (ci := 12) e_cl12.1 rfl (e_le rfl) (e_lt hnx rfl) (Nat.zero_le _) (Nat.zero_le _) (e_k ?_)
                      refine r_wr (l' := [(72, o72 0 a72_2 a72_3 a72_4 a72_5 a72_6 a72_7 a72_8 a72_9 a72_10 a72_11 a72_17 a72_18 a72_19 a72_21 a72_22 a72_29 q33.1 a72_35 a72_37 a72_38 a72_39 a72_40 a72_41 a72_44 a72_50), (79, o79 q49), (86, o86 q33.2)]) rfl rfl ?_
                      refine r_drop 1 (L' := [some (.ref 72), none, some (.int p1), some (.int p2), some (.int p3)]) rfl ?_
                      refine r_drop 2 (L' := [some (.ref 72), none, none, some (.int p2), some (.int p3)]) rfl ?_
                      refine r_drop 3 (L' := [some (.ref 72), none, none, none, some (.int p3)]) rfl ?_
                      refine r_drop 4 (L' := [some (.ref 72), none, none, none, none]) rfl ?_
                      obtain rfl := Option.some.inj hq46
                      exact Jq45
                  refine r_if_le F dX12_shift_126 (tgt := 141) (by decide) (fun hc => ?_) (fun hc => ?_)
                  · have hq44 := e_t hc hq44
                    obtain rfl := Option.some.inj hq44
                    exact Jq43
                  · have hq44 := e_f hc hq44
                    refine r_aload_n F dX12_shift_129 rfl ?_
                    refine r_iload_n F dX12_shift_130 rfl ?_
                    refine r_iconst F dX12_shift_131 (v := 1) (by decide) ?_
                    refine r_isub F dX12_shift_132 ?_
                    refine r_iload_n F dX12_shift_133 rfl ?_
                    refine r_iconst F dX12_shift_134 (v := 0) (by decide) ?_
                    refine r_iload_n F dX12_shift_135 rfl ?_
                    refine r_iload F dX12_shift_136 rfl ?_
                    obtain ⟨q51, hq52, hq44⟩ := e_bd hq44
                    refine r_callV F dX12_shift_138 (b := 72) (dc := 0) (ds := 0) (As := [.int (p0 - 1), .int p1, .int 0, .int p2, .int p3]) (S0 := []) lkX12_225 mX12_changes (tX12_changes_72 hG (la := x_l X) (h := e_up h [(72, o72 0 a72_2 a72_3 a72_4 a72_5 a72_6 a72_7 a72_8 a72_9 a72_10 a72_11 a72_17 a72_18 a72_19 a72_21 a72_22 a72_29 q33.1 a72_35 a72_37 a72_38 a72_39 a72_40 a72_41 a72_44 a72_50), (79, o79 q41), (86, o86 q33.2)]) hnx rfl rfl hq52) rfl rfl rfl (e_le rfl) (e_le rfl) (e_le rfl) rfl (ci := 12) e_cl12.1 rfl (e_le rfl) (e_lt hnx rfl) (Nat.zero_le _) (Nat.zero_le _) (e_k ?_)
                    refine r_wr (l' := [(72, o72 0 a72_2 a72_3 a72_4 a72_5 a72_6 a72_7 a72_8 a72_9 a72_10 a72_11 a72_17 a72_18 a72_19 a72_21 a72_22 a72_29 q33.1 a72_35 a72_37 a72_38 a72_39 a72_40 a72_41 a72_44 a72_50), (79, o79 q51), (86, o86 q33.2)]) rfl rfl ?_
                    obtain rfl := Option.some.inj hq44
                    exact Jq43
                refine r_z_eq F dX12_shift_110 (tgt := 125) (by decide) (fun hc => ?_) (fun hc => ?_)
                · have hq42 := e_t hc hq42
                  refine r_aload_n F dX12_shift_113 rfl ?_
                  refine r_iload_n F dX12_shift_114 rfl ?_
                  refine r_iload_n F dX12_shift_115 rfl ?_
                  refine r_iconst F dX12_shift_116 (v := 1) (by decide) ?_
                  refine r_iload_n F dX12_shift_117 rfl ?_
                  refine r_ineg F dX12_shift_118 ?_
                  refine r_iload F dX12_shift_119 rfl ?_
                  refine r_ineg F dX12_shift_121 ?_
                  obtain ⟨q53, hq54, hq42⟩ := e_bd hq42
                  refine r_callV F dX12_shift_122 (b := 72) (dc := 0) (ds := 0) (As := [.int p0, .int p1, .int 1, .int ((0 : Int32) - p2), .int ((0 : Int32) - p3)]) (S0 := []) lkX12_225 mX12_changes (tX12_changes_72 hG (la := x_l X) (h := e_up h [(72, o72 0 a72_2 a72_3 a72_4 a72_5 a72_6 a72_7 a72_8 a72_9 a72_10 a72_11 a72_17 a72_18 a72_19 a72_21 a72_22 a72_29 q33.1 a72_35 a72_37 a72_38 a72_39 a72_40 a72_41 a72_44 a72_50), (79, o79 q37), (86, o86 q33.2)]) hnx rfl rfl hq54) rfl rfl rfl (e_le rfl) (e_le rfl) (e_le rfl) rfl (ci := 12) e_cl12.1 rfl (e_le rfl) (e_lt hnx rfl) (Nat.zero_le _) (Nat.zero_le _) (e_k ?_)
                  refine r_wr (l' := [(72, o72 0 a72_2 a72_3 a72_4 a72_5 a72_6 a72_7 a72_8 a72_9 a72_10 a72_11 a72_17 a72_18 a72_19 a72_21 a72_22 a72_29 q33.1 a72_35 a72_37 a72_38 a72_39 a72_40 a72_41 a72_44 a72_50), (79, o79 q53), (86, o86 q33.2)]) rfl rfl ?_
                  obtain rfl := Option.some.inj hq42
                  exact Jq41
                · have hq42 := e_f hc hq42
                  obtain rfl := Option.some.inj hq42
                  exact Jq41
              refine r_z_eq F dX12_shift_88 (tgt := 103) (by decide) (fun hc => ?_) (fun hc => ?_)
              · have hq38 := e_t hc hq38
                refine r_aload_n F dX12_shift_91 rfl ?_
                refine r_iload_n F dX12_shift_92 rfl ?_
                refine r_iload_n F dX12_shift_93 rfl ?_
                refine r_iconst F dX12_shift_94 (v := 0) (by decide) ?_
                refine r_iload_n F dX12_shift_95 rfl ?_
                refine r_ineg F dX12_shift_96 ?_
                refine r_iload F dX12_shift_97 rfl ?_
                refine r_ineg F dX12_shift_99 ?_
                obtain ⟨q55, hq56, hq38⟩ := e_bd hq38
                refine r_callV F dX12_shift_100 (b := 72) (dc := 0) (ds := 0) (As := [.int p0, .int p1, .int 0, .int ((0 : Int32) - p2), .int ((0 : Int32) - p3)]) (S0 := []) lkX12_225 mX12_changes (tX12_changes_72 hG (la := x_l X) (h := e_up h [(72, o72 0 a72_2 a72_3 a72_4 a72_5 a72_6 a72_7 a72_8 a72_9 a72_10 a72_11 a72_17 a72_18 a72_19 a72_21 a72_22 a72_29 q33.1 a72_35 a72_37 a72_38 a72_39 a72_40 a72_41 a72_44 a72_50), (86, o86 q33.2)]) hnx rfl h79 hq56) rfl rfl rfl (e_le rfl) (e_le rfl) (e_le rfl) rfl (ci := 12) e_cl12.1 rfl (e_le rfl) (e_lt hnx rfl) (Nat.zero_le _) (Nat.zero_le _) (e_k ?_)
                refine r_wr (l' := [(72, o72 0 a72_2 a72_3 a72_4 a72_5 a72_6 a72_7 a72_8 a72_9 a72_10 a72_11 a72_17 a72_18 a72_19 a72_21 a72_22 a72_29 q33.1 a72_35 a72_37 a72_38 a72_39 a72_40 a72_41 a72_44 a72_50), (79, o79 q55), (86, o86 q33.2)]) rfl rfl ?_
                obtain rfl := Option.some.inj hq38
                exact Jq37
              · have hq38 := e_f hc hq38
                refine r_mat (k := 79) h79 (l' := [(72, o72 0 a72_2 a72_3 a72_4 a72_5 a72_6 a72_7 a72_8 a72_9 a72_10 a72_11 a72_17 a72_18 a72_19 a72_21 a72_22 a72_29 q33.1 a72_35 a72_37 a72_38 a72_39 a72_40 a72_41 a72_44 a72_50), (79, o79 A79), (86, o86 q33.2)]) rfl ?_
                obtain rfl := Option.some.inj hq38
                exact Jq37
            · have hf := e_t hc hf
              refine r_aload_n F dX12_shift_71 rfl ?_
              refine r_iconst F dX12_shift_72 (v := 2) (by decide) ?_
              obtain ⟨q57, hq58, hf⟩ := e_bd hf
              refine r_callV F dX12_shift_73 (b := 72) (dc := 0) (ds := 0) (As := [.int 2]) (S0 := []) lkX12_354 mX12_refuses (tX12_refuses_72 hG (la := x_l X) (h := e_up h [(72, o72 0 a72_2 a72_3 a72_4 a72_5 a72_6 a72_7 a72_8 a72_9 a72_10 a72_11 a72_17 a72_18 a72_19 a72_21 a72_22 a72_29 a72_31 a72_35 a72_37 a72_38 a72_39 a72_40 a72_41 a72_44 a72_50)]) hnx rfl h87 hq58) rfl rfl rfl (e_le rfl) (e_le rfl) (e_le rfl) rfl (ci := 12) e_cl12.1 rfl (e_le rfl) (e_lt hnx rfl) (Nat.zero_le _) (Nat.zero_le _) (e_k ?_)
              refine r_wr (l' := [(72, o72 0 a72_2 a72_3 a72_4 a72_5 a72_6 a72_7 a72_8 a72_9 a72_10 a72_11 a72_17 a72_18 a72_19 a72_21 a72_22 a72_29 a72_31 a72_35 a72_37 a72_38 a72_39 a72_40 a72_41 a72_44 a72_50), (87, o87 q57.2)]) rfl rfl ?_
              refine r_mat (k := 79) h79 (l' := [(72, o72 0 a72_2 a72_3 a72_4 a72_5 a72_6 a72_7 a72_8 a72_9 a72_10 a72_11 a72_17 a72_18 a72_19 a72_21 a72_22 a72_29 a72_31 a72_35 a72_37 a72_38 a72_39 a72_40 a72_41 a72_44 a72_50), (79, o79 A79), (87, o87 q57.2)]) rfl ?_
              refine r_mat (k := 86) h86 (l' := [(72, o72 0 a72_2 a72_3 a72_4 a72_5 a72_6 a72_7 a72_8 a72_9 a72_10 a72_11 a72_17 a72_18 a72_19 a72_21 a72_22 a72_29 a72_31 a72_35 a72_37 a72_38 a72_39 a72_40 a72_41 a72_44 a72_50), (79, o79 A79), (86, o86 A86), (87, o87 q57.2)]) rfl ?_
              obtain rfl := Option.some.inj hf
              exact r_iret F hq dX12_shift_76 rfl rfl (Nat.le_refl _) (Nat.le_refl _) ⟨rfl, rfl⟩
        · have hf := e_f hc hf
          refine r_aload_n F dX12_shift_71 rfl ?_
          refine r_iconst F dX12_shift_72 (v := 2) (by decide) ?_
          obtain ⟨q59, hq60, hf⟩ := e_bd hf
          refine r_callV F dX12_shift_73 (b := 72) (dc := 0) (ds := 0) (As := [.int 2]) (S0 := []) lkX12_354 mX12_refuses (tX12_refuses_72 hG (la := x_l X) (h := e_up h [(72, o72 0 a72_2 a72_3 a72_4 a72_5 a72_6 a72_7 a72_8 a72_9 a72_10 a72_11 a72_17 a72_18 a72_19 a72_21 a72_22 a72_29 a72_31 a72_35 a72_37 a72_38 a72_39 a72_40 a72_41 a72_44 a72_50)]) hnx rfl h87 hq60) rfl rfl rfl (e_le rfl) (e_le rfl) (e_le rfl) rfl (ci := 12) e_cl12.1 rfl (e_le rfl) (e_lt hnx rfl) (Nat.zero_le _) (Nat.zero_le _) (e_k ?_)
          refine r_wr (l' := [(72, o72 0 a72_2 a72_3 a72_4 a72_5 a72_6 a72_7 a72_8 a72_9 a72_10 a72_11 a72_17 a72_18 a72_19 a72_21 a72_22 a72_29 a72_31 a72_35 a72_37 a72_38 a72_39 a72_40 a72_41 a72_44 a72_50), (87, o87 q59.2)]) rfl rfl ?_
          refine r_mat (k := 79) h79 (l' := [(72, o72 0 a72_2 a72_3 a72_4 a72_5 a72_6 a72_7 a72_8 a72_9 a72_10 a72_11 a72_17 a72_18 a72_19 a72_21 a72_22 a72_29 a72_31 a72_35 a72_37 a72_38 a72_39 a72_40 a72_41 a72_44 a72_50), (79, o79 A79), (87, o87 q59.2)]) rfl ?_
          refine r_mat (k := 86) h86 (l' := [(72, o72 0 a72_2 a72_3 a72_4 a72_5 a72_6 a72_7 a72_8 a72_9 a72_10 a72_11 a72_17 a72_18 a72_19 a72_21 a72_22 a72_29 a72_31 a72_35 a72_37 a72_38 a72_39 a72_40 a72_41 a72_44 a72_50), (79, o79 A79), (86, o86 A86), (87, o87 q59.2)]) rfl ?_
          obtain rfl := Option.some.inj hf
          exact r_iret F hq dX12_shift_76 rfl rfl (Nat.le_refl _) (Nat.le_refl _) ⟨rfl, rfl⟩
      · have hf := e_f hc hf
        refine r_aload_n F dX12_shift_71 rfl ?_
        refine r_iconst F dX12_shift_72 (v := 2) (by decide) ?_
        obtain ⟨q61, hq62, hf⟩ := e_bd hf
        refine r_callV F dX12_shift_73 (b := 72) (dc := 0) (ds := 0) (As := [.int 2]) (S0 := []) lkX12_354 mX12_refuses (tX12_refuses_72 hG (la := x_l X) (h := e_up h [(72, o72 0 a72_2 a72_3 a72_4 a72_5 a72_6 a72_7 a72_8 a72_9 a72_10 a72_11 a72_17 a72_18 a72_19 a72_21 a72_22 a72_29 a72_31 a72_35 a72_37 a72_38 a72_39 a72_40 a72_41 a72_44 a72_50)]) hnx rfl h87 hq62) rfl rfl rfl (e_le rfl) (e_le rfl) (e_le rfl) rfl (ci := 12) e_cl12.1 rfl (e_le rfl) (e_lt hnx rfl) (Nat.zero_le _) (Nat.zero_le _) (e_k ?_)
        refine r_wr (l' := [(72, o72 0 a72_2 a72_3 a72_4 a72_5 a72_6 a72_7 a72_8 a72_9 a72_10 a72_11 a72_17 a72_18 a72_19 a72_21 a72_22 a72_29 a72_31 a72_35 a72_37 a72_38 a72_39 a72_40 a72_41 a72_44 a72_50), (87, o87 q61.2)]) rfl rfl ?_
        refine r_mat (k := 79) h79 (l' := [(72, o72 0 a72_2 a72_3 a72_4 a72_5 a72_6 a72_7 a72_8 a72_9 a72_10 a72_11 a72_17 a72_18 a72_19 a72_21 a72_22 a72_29 a72_31 a72_35 a72_37 a72_38 a72_39 a72_40 a72_41 a72_44 a72_50), (79, o79 A79), (87, o87 q61.2)]) rfl ?_
        refine r_mat (k := 86) h86 (l' := [(72, o72 0 a72_2 a72_3 a72_4 a72_5 a72_6 a72_7 a72_8 a72_9 a72_10 a72_11 a72_17 a72_18 a72_19 a72_21 a72_22 a72_29 a72_31 a72_35 a72_37 a72_38 a72_39 a72_40 a72_41 a72_44 a72_50), (79, o79 A79), (86, o86 A86), (87, o87 q61.2)]) rfl ?_
        obtain rfl := Option.some.inj hf
        exact r_iret F hq dX12_shift_76 rfl rfl (Nat.le_refl _) (Nat.le_refl _) ⟨rfl, rfl⟩
    · have hf := e_f hc hf
      refine r_aload_n F dX12_shift_27 rfl ?_
      refine r_iconst F dX12_shift_28 (v := 1) (by decide) ?_
      obtain ⟨q63, hq64, hf⟩ := e_bd hf
      refine r_callV F dX12_shift_29 (b := 72) (dc := 0) (ds := 0) (As := [.int 1]) (S0 := []) lkX12_354 mX12_refuses (tX12_refuses_72 hG (la := x_l X) (h := e_up h [(72, o72 0 a72_2 a72_3 a72_4 a72_5 a72_6 a72_7 a72_8 a72_9 a72_10 a72_11 a72_17 a72_18 a72_19 a72_21 a72_22 a72_29 a72_31 a72_35 a72_37 a72_38 a72_39 a72_40 a72_41 a72_44 a72_50)]) hnx rfl h87 hq64) rfl rfl rfl (e_le rfl) (e_le rfl) (e_le rfl) rfl (ci := 12) e_cl12.1 rfl (e_le rfl) (e_lt hnx rfl) (Nat.zero_le _) (Nat.zero_le _) (e_k ?_)
      refine r_wr (l' := [(72, o72 0 a72_2 a72_3 a72_4 a72_5 a72_6 a72_7 a72_8 a72_9 a72_10 a72_11 a72_17 a72_18 a72_19 a72_21 a72_22 a72_29 a72_31 a72_35 a72_37 a72_38 a72_39 a72_40 a72_41 a72_44 a72_50), (87, o87 q63.2)]) rfl rfl ?_
      refine r_mat (k := 79) h79 (l' := [(72, o72 0 a72_2 a72_3 a72_4 a72_5 a72_6 a72_7 a72_8 a72_9 a72_10 a72_11 a72_17 a72_18 a72_19 a72_21 a72_22 a72_29 a72_31 a72_35 a72_37 a72_38 a72_39 a72_40 a72_41 a72_44 a72_50), (79, o79 A79), (87, o87 q63.2)]) rfl ?_
      refine r_mat (k := 86) h86 (l' := [(72, o72 0 a72_2 a72_3 a72_4 a72_5 a72_6 a72_7 a72_8 a72_9 a72_10 a72_11 a72_17 a72_18 a72_19 a72_21 a72_22 a72_29 a72_31 a72_35 a72_37 a72_38 a72_39 a72_40 a72_41 a72_44 a72_50), (79, o79 A79), (86, o86 A86), (87, o87 q63.2)]) rfl ?_
      obtain rfl := Option.some.inj hf
      exact r_iret F hq dX12_shift_32 rfl rfl (Nat.le_refl _) (Nat.le_refl _) ⟨rfl, rfl⟩
  · have hf := e_f hc hf
    refine r_aload_n F dX12_shift_12 rfl ?_
    refine r_iconst F dX12_shift_13 (v := 0) (by decide) ?_
    obtain ⟨q65, hq66, hf⟩ := e_bd hf
    refine r_callV F dX12_shift_14 (b := 72) (dc := 0) (ds := 0) (As := [.int 0]) (S0 := []) lkX12_354 mX12_refuses (tX12_refuses_72 hG (la := x_l X) (h := e_up h [(72, o72 0 a72_2 a72_3 a72_4 a72_5 a72_6 a72_7 a72_8 a72_9 a72_10 a72_11 a72_17 a72_18 a72_19 a72_21 a72_22 a72_29 a72_31 a72_35 a72_37 a72_38 a72_39 a72_40 a72_41 a72_44 a72_50)]) hnx rfl h87 hq66) rfl rfl rfl (e_le rfl) (e_le rfl) (e_le rfl) rfl (ci := 12) e_cl12.1 rfl (e_le rfl) (e_lt hnx rfl) (Nat.zero_le _) (Nat.zero_le _) (e_k ?_)
    refine r_wr (l' := [(72, o72 0 a72_2 a72_3 a72_4 a72_5 a72_6 a72_7 a72_8 a72_9 a72_10 a72_11 a72_17 a72_18 a72_19 a72_21 a72_22 a72_29 a72_31 a72_35 a72_37 a72_38 a72_39 a72_40 a72_41 a72_44 a72_50), (87, o87 q65.2)]) rfl rfl ?_
    refine r_mat (k := 79) h79 (l' := [(72, o72 0 a72_2 a72_3 a72_4 a72_5 a72_6 a72_7 a72_8 a72_9 a72_10 a72_11 a72_17 a72_18 a72_19 a72_21 a72_22 a72_29 a72_31 a72_35 a72_37 a72_38 a72_39 a72_40 a72_41 a72_44 a72_50), (79, o79 A79), (87, o87 q65.2)]) rfl ?_
    refine r_mat (k := 86) h86 (l' := [(72, o72 0 a72_2 a72_3 a72_4 a72_5 a72_6 a72_7 a72_8 a72_9 a72_10 a72_11 a72_17 a72_18 a72_19 a72_21 a72_22 a72_29 a72_31 a72_35 a72_37 a72_38 a72_39 a72_40 a72_41 a72_44 a72_50), (79, o79 A79), (86, o86 A86), (87, o87 q65.2)]) rfl ?_
    obtain rfl := Option.some.inj hf
    exact r_iret F hq dX12_shift_17 rfl rfl (Nat.le_refl _) (Nat.le_refl _) ⟨rfl, rfl⟩

def fX12_status (a72_0 : Int32) (A87 : Nat → Int32) (p0 : Int32) : Option (Int32 × Int32) :=
  (fX12_in (Int32.toInt64 p0) 0 3).bind (fun q1 =>
  if q1 = true then
    e_g (e_in p0 4) (
    some (A87 (tn p0), 0))
  else
    some ((-1), 0))
set_option maxRecDepth 100000 in
theorem tX12_status_72 {G : eG} (hG : e_GS G) {la : Launch} {h : Nat → eO} {nx : Nat} (hnx : 99 ≤ nx) {a72_0 : Int32} {a72_2 : Int32} {a72_3 : Int32} {a72_4 : Int32} {a72_5 : Int32} {a72_6 : Int32} {a72_7 : Int32} {a72_8 : Bool} {a72_9 : Int32} {a72_10 : Int32} {a72_11 : Int32} {a72_17 : Bool} {a72_18 : Bool} {a72_19 : Bool} {a72_21 : Int32} {a72_22 : Int32} {a72_29 : Int32} {a72_31 : Int32} {a72_35 : Int32} {a72_37 : Bool} {a72_38 : Int32} {a72_39 : Int32} {a72_40 : Int32} {a72_41 : Int64} {a72_44 : Int32} {a72_50 : Bool} {A87 : Nat → Int32} {p0 : Int32} (h72 : h 72 = o72 a72_0 a72_2 a72_3 a72_4 a72_5 a72_6 a72_7 a72_8 a72_9 a72_10 a72_11 a72_17 a72_18 a72_19 a72_21 a72_22 a72_29 a72_31 a72_35 a72_37 a72_38 a72_39 a72_40 a72_41 a72_44 a72_50) (h87 : h 87 = o87 A87) {R9 : Int32 × Int32} (hf : fX12_status a72_0 A87 p0 = some R9) :
    eSem G la MX12_status [.ref 72, .int p0] h nx 0 0 (fun r9 h9 => r9 = some (.int R9.1) ∧ h9 = e_up h [(72, o72 R9.2 a72_2 a72_3 a72_4 a72_5 a72_6 a72_7 a72_8 a72_9 a72_10 a72_11 a72_17 a72_18 a72_19 a72_21 a72_22 a72_29 a72_31 a72_35 a72_37 a72_38 a72_39 a72_40 a72_41 a72_44 a72_50)]) := by
  refine eSem.of (k := 0) (L := [some (.ref 72), some (.int p0)]) (by decide +kernel) rfl rfl (fun X F hxl hq hcR hsR => ?_)
  subst hxl
  unfold fX12_status at hf
  refine r_aload_n F dX12_status_0 rfl ?_
  refine r_iconst F dX12_status_1 (v := 0) (by decide) ?_
  refine r_put F dX12_status_2 flX12_86 rfl rfl rfl h72 (e_le rfl) (e_le rfl) (e_lt hnx rfl) (l' := [(72, o72 0 a72_2 a72_3 a72_4 a72_5 a72_6 a72_7 a72_8 a72_9 a72_10 a72_11 a72_17 a72_18 a72_19 a72_21 a72_22 a72_29 a72_31 a72_35 a72_37 a72_38 a72_39 a72_40 a72_41 a72_44 a72_50)]) rfl ?_
  refine r_iload_n F dX12_status_5 rfl ?_
  refine r_i2l F dX12_status_6 ?_
  refine r_lconst F dX12_status_7 (v := 0) (by decide) ?_
  refine r_ldc2 F dX12_status_8 klX12_291 ?_
  obtain ⟨q1, hq2, hf⟩ := e_bd hf
  refine r_callS F dX12_status_11 (dc := 0) (ds := 0) (As := [.long (Int32.toInt64 p0), .long 0, .long 3]) (S0 := []) lkX12_97 mX12_in (tX12_in hG (la := x_l X) (h := e_up h [(72, o72 0 a72_2 a72_3 a72_4 a72_5 a72_6 a72_7 a72_8 a72_9 a72_10 a72_11 a72_17 a72_18 a72_19 a72_21 a72_22 a72_29 a72_31 a72_35 a72_37 a72_38 a72_39 a72_40 a72_41 a72_44 a72_50)]) hnx  hq2) rfl rfl rfl (e_le rfl) (e_le rfl) (e_le rfl) (Nat.zero_le _) (Nat.zero_le _) (e_k ?_)
  refine r_wr0 ?_
  refine r_z_eq F dX12_status_14 (tgt := 26) (by decide) (fun hc => ?_) (fun hc => ?_)
  · have hf := e_t hc hf
    refine r_aload_n F dX12_status_17 rfl ?_
    refine r_get F dX12_status_18 flX12_52 rfl rfl (e_le rfl) (e_lt hnx rfl) ?_
    refine r_iload_n F dX12_status_21 rfl ?_
    obtain ⟨hg, hf⟩ := e_gd hf
    refine r_iald F dX12_status_22 (i := p0) h87 (e_le rfl) (e_lt hnx rfl) (e_vp hg) ?_
    refine r_goto F dX12_status_23 (tgt := 27) (by decide) ?_
    obtain rfl := Option.some.inj hf
    exact r_iret F hq dX12_status_27 rfl rfl (Nat.le_refl _) (Nat.le_refl _) ⟨rfl, rfl⟩
  · have hf := e_f hc hf
    refine r_iconst F dX12_status_26 (v := (-1)) (by decide) ?_
    obtain rfl := Option.some.inj hf
    exact r_iret F hq dX12_status_27 rfl rfl (Nat.le_refl _) (Nat.le_refl _) ⟨rfl, rfl⟩

def fX12_stills (a72_0 : Int32) (a72_21 : Int32) (a72_22 : Int32) (a72_29 : Int32) (A79 : Nat → Int32) (A80 : Nat → Int32) (A81 : Nat → Int32) (A82 : Nat → Int32) (A83 : Nat → Int32) (A84 : Nat → Int32) (A85 : Nat → Int32)  : Option (Int32 × Int32 × Int32 × (Nat → Int32) × (Nat → Int32) × (Nat → Int32) × (Nat → Int32) × (Nat → Int32)) :=
  (fX12_isCrystal a72_21).bind (fun q1 =>
  if q1 = true then
    (fX12_greatestForce a72_21 a72_22 a72_29 A79 A80 A81 A82 A83 A84 A85).bind (fun q3 =>
    if q3.1 ≤ 99 then
      some (q3.1, 0, q3.2.1, q3.2.2.1, q3.2.2.2.1, q3.2.2.2.2.1, q3.2.2.2.2.2.1, q3.2.2.2.2.2.2)
    else
      some ((-1), 0, q3.2.1, q3.2.2.1, q3.2.2.2.1, q3.2.2.2.2.1, q3.2.2.2.2.2.1, q3.2.2.2.2.2.2))
  else
    some ((-1), 0, a72_29, A81, A82, A83, A84, A85))
set_option maxRecDepth 100000 in
theorem tX12_stills_72 {G : eG} (hG : e_GS G) {la : Launch} {h : Nat → eO} {nx : Nat} (hnx : 99 ≤ nx) {a72_0 : Int32} {a72_2 : Int32} {a72_3 : Int32} {a72_4 : Int32} {a72_5 : Int32} {a72_6 : Int32} {a72_7 : Int32} {a72_8 : Bool} {a72_9 : Int32} {a72_10 : Int32} {a72_11 : Int32} {a72_17 : Bool} {a72_18 : Bool} {a72_19 : Bool} {a72_21 : Int32} {a72_22 : Int32} {a72_29 : Int32} {a72_31 : Int32} {a72_35 : Int32} {a72_37 : Bool} {a72_38 : Int32} {a72_39 : Int32} {a72_40 : Int32} {a72_41 : Int64} {a72_44 : Int32} {a72_50 : Bool} {A79 : Nat → Int32} {A80 : Nat → Int32} {A81 : Nat → Int32} {A82 : Nat → Int32} {A83 : Nat → Int32} {A84 : Nat → Int32} {A85 : Nat → Int32}  (h72 : h 72 = o72 a72_0 a72_2 a72_3 a72_4 a72_5 a72_6 a72_7 a72_8 a72_9 a72_10 a72_11 a72_17 a72_18 a72_19 a72_21 a72_22 a72_29 a72_31 a72_35 a72_37 a72_38 a72_39 a72_40 a72_41 a72_44 a72_50) (h79 : h 79 = o79 A79) (h80 : h 80 = o80 A80) (h81 : h 81 = o81 A81) (h82 : h 82 = o82 A82) (h83 : h 83 = o83 A83) (h84 : h 84 = o84 A84) (h85 : h 85 = o85 A85) {R9 : Int32 × Int32 × Int32 × (Nat → Int32) × (Nat → Int32) × (Nat → Int32) × (Nat → Int32) × (Nat → Int32)} (hf : fX12_stills a72_0 a72_21 a72_22 a72_29 A79 A80 A81 A82 A83 A84 A85  = some R9) :
    eSem G la MX12_stills [.ref 72] h nx 0 0 (fun r9 h9 => r9 = some (.int R9.1) ∧ h9 = e_up h [(72, o72 R9.2.1 a72_2 a72_3 a72_4 a72_5 a72_6 a72_7 a72_8 a72_9 a72_10 a72_11 a72_17 a72_18 a72_19 a72_21 a72_22 R9.2.2.1 a72_31 a72_35 a72_37 a72_38 a72_39 a72_40 a72_41 a72_44 a72_50), (81, o81 R9.2.2.2.1), (82, o82 R9.2.2.2.2.1), (83, o83 R9.2.2.2.2.2.1), (84, o84 R9.2.2.2.2.2.2.1), (85, o85 R9.2.2.2.2.2.2.2)]) := by
  refine eSem.of (k := 1) (L := [some (.ref 72), none]) (by decide +kernel) rfl rfl (fun X F hxl hq hcR hsR => ?_)
  subst hxl
  unfold fX12_stills at hf
  refine r_aload_n F dX12_stills_0 rfl ?_
  refine r_iconst F dX12_stills_1 (v := 0) (by decide) ?_
  refine r_put F dX12_stills_2 flX12_86 rfl rfl rfl h72 (e_le rfl) (e_le rfl) (e_lt hnx rfl) (l' := [(72, o72 0 a72_2 a72_3 a72_4 a72_5 a72_6 a72_7 a72_8 a72_9 a72_10 a72_11 a72_17 a72_18 a72_19 a72_21 a72_22 a72_29 a72_31 a72_35 a72_37 a72_38 a72_39 a72_40 a72_41 a72_44 a72_50)]) rfl ?_
  refine r_aload_n F dX12_stills_5 rfl ?_
  obtain ⟨q1, hq2, hf⟩ := e_bd hf
  refine r_callV F dX12_stills_6 (b := 72) (dc := 0) (ds := 0) (As := []) (S0 := []) lkX12_306 mX12_isCrystal (tX12_isCrystal_72 hG (la := x_l X) (h := e_up h [(72, o72 0 a72_2 a72_3 a72_4 a72_5 a72_6 a72_7 a72_8 a72_9 a72_10 a72_11 a72_17 a72_18 a72_19 a72_21 a72_22 a72_29 a72_31 a72_35 a72_37 a72_38 a72_39 a72_40 a72_41 a72_44 a72_50)]) hnx rfl hq2) rfl rfl rfl (e_le rfl) (e_le rfl) (e_le rfl) rfl (ci := 12) e_cl12.1 rfl (e_le rfl) (e_lt hnx rfl) (Nat.zero_le _) (Nat.zero_le _) (e_k ?_)
  refine r_wr0 ?_
  refine r_z_ne F dX12_stills_9 (tgt := 14) (by decide) (fun hc => ?_) (fun hc => ?_)
  · have hf := e_t hc hf
    refine r_aload_n F dX12_stills_14 rfl ?_
    obtain ⟨q3, hq4, hf⟩ := e_bd hf
    refine r_callV F dX12_stills_15 (b := 72) (dc := 0) (ds := 0) (As := []) (S0 := []) lkX12_467 mX12_greatestForce (tX12_greatestForce_72 hG (la := x_l X) (h := e_up h [(72, o72 0 a72_2 a72_3 a72_4 a72_5 a72_6 a72_7 a72_8 a72_9 a72_10 a72_11 a72_17 a72_18 a72_19 a72_21 a72_22 a72_29 a72_31 a72_35 a72_37 a72_38 a72_39 a72_40 a72_41 a72_44 a72_50)]) hnx rfl h79 h80 h81 h82 h83 h84 h85 hq4) rfl rfl rfl (e_le rfl) (e_le rfl) (e_le rfl) rfl (ci := 12) e_cl12.1 rfl (e_le rfl) (e_lt hnx rfl) (Nat.zero_le _) (Nat.zero_le _) (e_k ?_)
    refine r_wr (l' := [(72, o72 0 a72_2 a72_3 a72_4 a72_5 a72_6 a72_7 a72_8 a72_9 a72_10 a72_11 a72_17 a72_18 a72_19 a72_21 a72_22 q3.2.1 a72_31 a72_35 a72_37 a72_38 a72_39 a72_40 a72_41 a72_44 a72_50), (81, o81 q3.2.2.1), (82, o82 q3.2.2.2.1), (83, o83 q3.2.2.2.2.1), (84, o84 q3.2.2.2.2.2.1), (85, o85 q3.2.2.2.2.2.2)]) rfl rfl ?_
    refine r_istore_n F dX12_stills_18 (e_le rfl) (L' := [some (.ref 72), some (.int q3.1)]) rfl ?_
    refine r_iload_n F dX12_stills_19 rfl ?_
    refine r_bipush F dX12_stills_20 (v := 99) (by decide) ?_
    refine r_icmp_le F dX12_stills_22 (tgt := 29) (by decide) (fun hc => ?_) (fun hc => ?_)
    · have hf := e_t hc hf
      refine r_iload_n F dX12_stills_29 rfl ?_
      obtain rfl := Option.some.inj hf
      exact r_iret F hq dX12_stills_30 rfl rfl (Nat.le_refl _) (Nat.le_refl _) ⟨rfl, rfl⟩
    · have hf := e_f hc hf
      refine r_iconst F dX12_stills_25 (v := (-1)) (by decide) ?_
      refine r_goto F dX12_stills_26 (tgt := 30) (by decide) ?_
      obtain rfl := Option.some.inj hf
      exact r_iret F hq dX12_stills_30 rfl rfl (Nat.le_refl _) (Nat.le_refl _) ⟨rfl, rfl⟩
  · have hf := e_f hc hf
    refine r_iconst F dX12_stills_12 (v := (-1)) (by decide) ?_
    refine r_mat (k := 81) h81 (l' := [(72, o72 0 a72_2 a72_3 a72_4 a72_5 a72_6 a72_7 a72_8 a72_9 a72_10 a72_11 a72_17 a72_18 a72_19 a72_21 a72_22 a72_29 a72_31 a72_35 a72_37 a72_38 a72_39 a72_40 a72_41 a72_44 a72_50), (81, o81 A81)]) rfl ?_
    refine r_mat (k := 82) h82 (l' := [(72, o72 0 a72_2 a72_3 a72_4 a72_5 a72_6 a72_7 a72_8 a72_9 a72_10 a72_11 a72_17 a72_18 a72_19 a72_21 a72_22 a72_29 a72_31 a72_35 a72_37 a72_38 a72_39 a72_40 a72_41 a72_44 a72_50), (81, o81 A81), (82, o82 A82)]) rfl ?_
    refine r_mat (k := 83) h83 (l' := [(72, o72 0 a72_2 a72_3 a72_4 a72_5 a72_6 a72_7 a72_8 a72_9 a72_10 a72_11 a72_17 a72_18 a72_19 a72_21 a72_22 a72_29 a72_31 a72_35 a72_37 a72_38 a72_39 a72_40 a72_41 a72_44 a72_50), (81, o81 A81), (82, o82 A82), (83, o83 A83)]) rfl ?_
    refine r_mat (k := 84) h84 (l' := [(72, o72 0 a72_2 a72_3 a72_4 a72_5 a72_6 a72_7 a72_8 a72_9 a72_10 a72_11 a72_17 a72_18 a72_19 a72_21 a72_22 a72_29 a72_31 a72_35 a72_37 a72_38 a72_39 a72_40 a72_41 a72_44 a72_50), (81, o81 A81), (82, o82 A82), (83, o83 A83), (84, o84 A84)]) rfl ?_
    refine r_mat (k := 85) h85 (l' := [(72, o72 0 a72_2 a72_3 a72_4 a72_5 a72_6 a72_7 a72_8 a72_9 a72_10 a72_11 a72_17 a72_18 a72_19 a72_21 a72_22 a72_29 a72_31 a72_35 a72_37 a72_38 a72_39 a72_40 a72_41 a72_44 a72_50), (81, o81 A81), (82, o82 A82), (83, o83 A83), (84, o84 A84), (85, o85 A85)]) rfl ?_
    obtain rfl := Option.some.inj hf
    exact r_iret F hq dX12_stills_13 rfl rfl (Nat.le_refl _) (Nat.le_refl _) ⟨rfl, rfl⟩

def fX12_takesSign (a72_2 : Int32) (a72_3 : Int32) (a72_4 : Int32) (a72_5 : Int32) (a72_6 : Int32) (a72_7 : Int32) (A73 : Nat → Int32) (p0 : Int32) : Option (Bool × Int32 × Int32 × Int32 × Int32) :=
  Option.bind (α := Bool) (
    if a72_5 = (-1) then
      if a72_6 = 3 then
        e_g (e_in a72_4 300) (
        if (A73 (tn a72_4)) = p0 then
          some true
        else
          some false)
      else
        some false
    else
      some false) (fun q1 =>
  if q1 = true then
    (fX12_next a72_2 a72_3 a72_4 a72_6 a72_7 A73).bind (fun q3 =>
    some (q1, q3.1, q3.2.1, q3.2.2.1, q3.2.2.2))
  else
    some (q1, a72_3, a72_4, a72_6, a72_7))
set_option maxRecDepth 100000 in
theorem tX12_takesSign_72 {G : eG} (hG : e_GS G) {la : Launch} {h : Nat → eO} {nx : Nat} (hnx : 99 ≤ nx) {a72_0 : Int32} {a72_2 : Int32} {a72_3 : Int32} {a72_4 : Int32} {a72_5 : Int32} {a72_6 : Int32} {a72_7 : Int32} {a72_8 : Bool} {a72_9 : Int32} {a72_10 : Int32} {a72_11 : Int32} {a72_17 : Bool} {a72_18 : Bool} {a72_19 : Bool} {a72_21 : Int32} {a72_22 : Int32} {a72_29 : Int32} {a72_31 : Int32} {a72_35 : Int32} {a72_37 : Bool} {a72_38 : Int32} {a72_39 : Int32} {a72_40 : Int32} {a72_41 : Int64} {a72_44 : Int32} {a72_50 : Bool} {A73 : Nat → Int32} {p0 : Int32} (h72 : h 72 = o72 a72_0 a72_2 a72_3 a72_4 a72_5 a72_6 a72_7 a72_8 a72_9 a72_10 a72_11 a72_17 a72_18 a72_19 a72_21 a72_22 a72_29 a72_31 a72_35 a72_37 a72_38 a72_39 a72_40 a72_41 a72_44 a72_50) (h73 : h 73 = o73 A73) {R9 : Bool × Int32 × Int32 × Int32 × Int32} (hf : fX12_takesSign a72_2 a72_3 a72_4 a72_5 a72_6 a72_7 A73 p0 = some R9) :
    eSem G la MX12_takesSign [.ref 72, .int p0] h nx 0 0 (fun r9 h9 => r9 = some (.int (e_b R9.1)) ∧ h9 = e_up h [(72, o72 a72_0 a72_2 R9.2.1 R9.2.2.1 a72_5 R9.2.2.2.1 R9.2.2.2.2 a72_8 a72_9 a72_10 a72_11 a72_17 a72_18 a72_19 a72_21 a72_22 a72_29 a72_31 a72_35 a72_37 a72_38 a72_39 a72_40 a72_41 a72_44 a72_50)]) := by
  refine eSem.of (k := 1) (L := [some (.ref 72), some (.int p0), none]) (by decide +kernel) rfl rfl (fun X F hxl hq hcR hsR => ?_)
  subst hxl
  unfold fX12_takesSign at hf
  refine r_aload_n F dX12_takesSign_0 rfl ?_
  refine r_get F dX12_takesSign_1 flX12_134 h72 rfl (e_le rfl) (e_lt hnx rfl) ?_
  refine r_iconst F dX12_takesSign_4 (v := (-1)) (by decide) ?_
  obtain ⟨q1, hq2, hf⟩ := e_bd hf
  have Jq1 : eRun G X 34 [some (.ref 72), none, none] [.int (e_b q1)] h [] nx 0 0 := by
    refine r_istore_n F dX12_takesSign_34 (e_le rfl) (L' := [some (.ref 72), none, some (.int (e_b q1))]) rfl ?_
    refine r_iload_n F dX12_takesSign_35 rfl ?_
    refine r_z_eq F dX12_takesSign_36 (tgt := 43) (by decide) (fun hc => ?_) (fun hc => ?_)
    · have hf := e_t hc hf
      refine r_aload_n F dX12_takesSign_39 rfl ?_
      obtain ⟨q3, hq4, hf⟩ := e_bd hf
      refine r_callV F dX12_takesSign_40 (b := 72) (dc := 0) (ds := 0) (As := []) (S0 := []) lkX12_147 mX12_next (tX12_next_72 hG (la := x_l X) (h := e_up h []) hnx h72 h73 hq4) rfl rfl rfl (e_le rfl) (e_le rfl) (e_le rfl) h72 (ci := 12) e_cl12.1 rfl (e_le rfl) (e_lt hnx rfl) (Nat.zero_le _) (Nat.zero_le _) (e_k ?_)
      refine r_wr (l' := [(72, o72 a72_0 a72_2 q3.1 q3.2.1 a72_5 q3.2.2.1 q3.2.2.2 a72_8 a72_9 a72_10 a72_11 a72_17 a72_18 a72_19 a72_21 a72_22 a72_29 a72_31 a72_35 a72_37 a72_38 a72_39 a72_40 a72_41 a72_44 a72_50)]) rfl rfl ?_
      refine r_iload_n F dX12_takesSign_43 rfl ?_
      obtain rfl := Option.some.inj hf
      exact r_zret F hq (v := q1) dX12_takesSign_44 rfl rfl (Nat.le_refl _) (Nat.le_refl _) ⟨rfl, rfl⟩
    · have hf := e_f hc hf
      refine r_iload_n F dX12_takesSign_43 rfl ?_
      refine r_mat (k := 72) h72 (l' := [(72, o72 a72_0 a72_2 a72_3 a72_4 a72_5 a72_6 a72_7 a72_8 a72_9 a72_10 a72_11 a72_17 a72_18 a72_19 a72_21 a72_22 a72_29 a72_31 a72_35 a72_37 a72_38 a72_39 a72_40 a72_41 a72_44 a72_50)]) rfl ?_
      obtain rfl := Option.some.inj hf
      exact r_zret F hq (v := q1) dX12_takesSign_44 rfl rfl (Nat.le_refl _) (Nat.le_refl _) ⟨rfl, rfl⟩
  refine r_icmp_ne F dX12_takesSign_5 (tgt := 33) (by decide) (fun hc => ?_) (fun hc => ?_)
  · have hq2 := e_f hc hq2
    refine r_iconst F dX12_takesSign_33 (v := 0) (by decide) ?_
    refine r_drop 1 (L' := [some (.ref 72), none, none]) rfl ?_
    obtain rfl := Option.some.inj hq2
    exact Jq1
  · have hq2 := e_t hc hq2
    refine r_aload_n F dX12_takesSign_8 rfl ?_
    refine r_get F dX12_takesSign_9 flX12_111 h72 rfl (e_le rfl) (e_lt hnx rfl) ?_
    refine r_iconst F dX12_takesSign_12 (v := 3) (by decide) ?_
    refine r_icmp_ne F dX12_takesSign_13 (tgt := 33) (by decide) (fun hc => ?_) (fun hc => ?_)
    · have hq2 := e_f hc hq2
      refine r_iconst F dX12_takesSign_33 (v := 0) (by decide) ?_
      refine r_drop 1 (L' := [some (.ref 72), none, none]) rfl ?_
      obtain rfl := Option.some.inj hq2
      exact Jq1
    · have hq2 := e_t hc hq2
      refine r_aload_n F dX12_takesSign_16 rfl ?_
      refine r_get F dX12_takesSign_17 flX12_9 h72 rfl (e_le rfl) (e_lt hnx rfl) ?_
      refine r_aload_n F dX12_takesSign_20 rfl ?_
      refine r_get F dX12_takesSign_21 flX12_108 h72 rfl (e_le rfl) (e_lt hnx rfl) ?_
      obtain ⟨hg, hq2⟩ := e_gd hq2
      refine r_iald F dX12_takesSign_24 (i := a72_4) h73 (e_le rfl) (e_lt hnx rfl) (e_vp hg) ?_
      refine r_iload_n F dX12_takesSign_25 rfl ?_
      refine r_icmp_ne F dX12_takesSign_26 (tgt := 33) (by decide) (fun hc => ?_) (fun hc => ?_)
      · have hq2 := e_f hc hq2
        refine r_iconst F dX12_takesSign_33 (v := 0) (by decide) ?_
        refine r_drop 1 (L' := [some (.ref 72), none, none]) rfl ?_
        obtain rfl := Option.some.inj hq2
        exact Jq1
      · have hq2 := e_t hc hq2
        refine r_iconst F dX12_takesSign_29 (v := 1) (by decide) ?_
        refine r_goto F dX12_takesSign_30 (tgt := 34) (by decide) ?_
        refine r_drop 1 (L' := [some (.ref 72), none, none]) rfl ?_
        obtain rfl := Option.some.inj hq2
        exact Jq1

def fX12_thrown (a72_0 : Int32)  : Option (Int32) :=
  some a72_0
set_option maxRecDepth 100000 in
theorem tX12_thrown_72 {G : eG} (hG : e_GS G) {la : Launch} {h : Nat → eO} {nx : Nat} (hnx : 99 ≤ nx) {a72_0 : Int32} {a72_2 : Int32} {a72_3 : Int32} {a72_4 : Int32} {a72_5 : Int32} {a72_6 : Int32} {a72_7 : Int32} {a72_8 : Bool} {a72_9 : Int32} {a72_10 : Int32} {a72_11 : Int32} {a72_17 : Bool} {a72_18 : Bool} {a72_19 : Bool} {a72_21 : Int32} {a72_22 : Int32} {a72_29 : Int32} {a72_31 : Int32} {a72_35 : Int32} {a72_37 : Bool} {a72_38 : Int32} {a72_39 : Int32} {a72_40 : Int32} {a72_41 : Int64} {a72_44 : Int32} {a72_50 : Bool}  (h72 : h 72 = o72 a72_0 a72_2 a72_3 a72_4 a72_5 a72_6 a72_7 a72_8 a72_9 a72_10 a72_11 a72_17 a72_18 a72_19 a72_21 a72_22 a72_29 a72_31 a72_35 a72_37 a72_38 a72_39 a72_40 a72_41 a72_44 a72_50) {R9 : Int32} (hf : fX12_thrown a72_0  = some R9) :
    eSem G la MX12_thrown [.ref 72] h nx 0 0 (fun r9 h9 => r9 = some (.int R9) ∧ h9 = h) := by
  refine eSem.of (k := 0) (L := [some (.ref 72)]) (by decide +kernel) rfl rfl (fun X F hxl hq hcR hsR => ?_)
  subst hxl
  unfold fX12_thrown at hf
  refine r_aload_n F dX12_thrown_0 rfl ?_
  refine r_get F dX12_thrown_1 flX12_86 h72 rfl (e_le rfl) (e_lt hnx rfl) ?_
  obtain rfl := Option.some.inj hf
  exact r_iret F hq dX12_thrown_4 rfl rfl (Nat.le_refl _) (Nat.le_refl _) ⟨rfl, rfl⟩

def fX12_undo (a72_0 : Int32) (a72_31 : Int32) (A79 : Nat → Int32) (A86 : Nat → Int32)  : Option (Int32 × Int32 × Int32 × (Nat → Int32)) :=
  if a72_31 = 0 then
    some ((-1), 0, a72_31, A79)
  else
    (e_loop (fun (v3 : Int32 × (Nat → Int32)) => (
        if 486 ≤ v3.1 then
          some (.inr v3.2)
        else
          e_g (e_in (((486 : Int32) * (a72_31 - 1)) + v3.1) 9720) (
          e_g (e_in v3.1 486) (
          some (.inl (v3.1 + 1, upd v3.2 (tn v3.1) (A86 (tn (((486 : Int32) * (a72_31 - 1)) + v3.1))))))) : Option ((Int32 × (Nat → Int32)) ⊕ ((Nat → Int32))))) e_fuel (0, A79)).bind (fun x4 =>
    some (a72_31 - 1, 0, a72_31 - 1, x4))
set_option maxRecDepth 100000 in
theorem tX12_undo_72 {G : eG} (hG : e_GS G) {la : Launch} {h : Nat → eO} {nx : Nat} (hnx : 99 ≤ nx) {a72_0 : Int32} {a72_2 : Int32} {a72_3 : Int32} {a72_4 : Int32} {a72_5 : Int32} {a72_6 : Int32} {a72_7 : Int32} {a72_8 : Bool} {a72_9 : Int32} {a72_10 : Int32} {a72_11 : Int32} {a72_17 : Bool} {a72_18 : Bool} {a72_19 : Bool} {a72_21 : Int32} {a72_22 : Int32} {a72_29 : Int32} {a72_31 : Int32} {a72_35 : Int32} {a72_37 : Bool} {a72_38 : Int32} {a72_39 : Int32} {a72_40 : Int32} {a72_41 : Int64} {a72_44 : Int32} {a72_50 : Bool} {A79 : Nat → Int32} {A86 : Nat → Int32}  (h72 : h 72 = o72 a72_0 a72_2 a72_3 a72_4 a72_5 a72_6 a72_7 a72_8 a72_9 a72_10 a72_11 a72_17 a72_18 a72_19 a72_21 a72_22 a72_29 a72_31 a72_35 a72_37 a72_38 a72_39 a72_40 a72_41 a72_44 a72_50) (h79 : h 79 = o79 A79) (h86 : h 86 = o86 A86) {R9 : Int32 × Int32 × Int32 × (Nat → Int32)} (hf : fX12_undo a72_0 a72_31 A79 A86  = some R9) :
    eSem G la MX12_undo [.ref 72] h nx 0 0 (fun r9 h9 => r9 = some (.int R9.1) ∧ h9 = e_up h [(72, o72 R9.2.1 a72_2 a72_3 a72_4 a72_5 a72_6 a72_7 a72_8 a72_9 a72_10 a72_11 a72_17 a72_18 a72_19 a72_21 a72_22 a72_29 R9.2.2.1 a72_35 a72_37 a72_38 a72_39 a72_40 a72_41 a72_44 a72_50), (79, o79 R9.2.2.2)]) := by
  refine eSem.of (k := 1) (L := [some (.ref 72), none]) (by decide +kernel) rfl rfl (fun X F hxl hq hcR hsR => ?_)
  subst hxl
  unfold fX12_undo at hf
  refine r_aload_n F dX12_undo_0 rfl ?_
  refine r_iconst F dX12_undo_1 (v := 0) (by decide) ?_
  refine r_put F dX12_undo_2 flX12_86 rfl rfl rfl h72 (e_le rfl) (e_le rfl) (e_lt hnx rfl) (l' := [(72, o72 0 a72_2 a72_3 a72_4 a72_5 a72_6 a72_7 a72_8 a72_9 a72_10 a72_11 a72_17 a72_18 a72_19 a72_21 a72_22 a72_29 a72_31 a72_35 a72_37 a72_38 a72_39 a72_40 a72_41 a72_44 a72_50)]) rfl ?_
  refine r_aload_n F dX12_undo_5 rfl ?_
  refine r_get F dX12_undo_6 flX12_229 rfl rfl (e_le rfl) (e_lt hnx rfl) ?_
  refine r_if_ne F dX12_undo_9 (tgt := 14) (by decide) (fun hc => ?_) (fun hc => ?_)
  · have hf := e_f hc hf
    refine r_aload_n F dX12_undo_14 rfl ?_
    refine r_dup F dX12_undo_15 rfl ?_
    refine r_get F dX12_undo_16 flX12_229 rfl rfl (e_le rfl) (e_lt hnx rfl) ?_
    refine r_iconst F dX12_undo_19 (v := 1) (by decide) ?_
    refine r_isub F dX12_undo_20 ?_
    refine r_put F dX12_undo_21 flX12_229 rfl rfl rfl rfl (e_le rfl) (e_le rfl) (e_lt hnx rfl) (l' := [(72, o72 0 a72_2 a72_3 a72_4 a72_5 a72_6 a72_7 a72_8 a72_9 a72_10 a72_11 a72_17 a72_18 a72_19 a72_21 a72_22 a72_29 (a72_31 - 1) a72_35 a72_37 a72_38 a72_39 a72_40 a72_41 a72_44 a72_50)]) rfl ?_
    refine r_iconst F dX12_undo_24 (v := 0) (by decide) ?_
    refine r_istore_n F dX12_undo_25 (e_le rfl) (L' := [some (.ref 72), some (.int 0)]) rfl ?_
    refine r_mat (k := 79) h79 (l' := [(72, o72 0 a72_2 a72_3 a72_4 a72_5 a72_6 a72_7 a72_8 a72_9 a72_10 a72_11 a72_17 a72_18 a72_19 a72_21 a72_22 a72_29 (a72_31 - 1) a72_35 a72_37 a72_38 a72_39 a72_40 a72_41 a72_44 a72_50), (79, o79 A79)]) rfl ?_
    obtain ⟨x4, hx5, hf⟩ := e_bd hf
    refine (e_loop_ok (P := fun (v3 : Int32 × (Nat → Int32)) => eRun G X 26 [some (.ref 72), some (.int v3.1)] [] h [(72, o72 0 a72_2 a72_3 a72_4 a72_5 a72_6 a72_7 a72_8 a72_9 a72_10 a72_11 a72_17 a72_18 a72_19 a72_21 a72_22 a72_29 (a72_31 - 1) a72_35 a72_37 a72_38 a72_39 a72_40 a72_41 a72_44 a72_50), (79, o79 v3.2)] nx 0 0) (K := fun (x4 : (Nat → Int32)) => eRun G X 60 [some (.ref 72), none] [] h [(72, o72 0 a72_2 a72_3 a72_4 a72_5 a72_6 a72_7 a72_8 a72_9 a72_10 a72_11 a72_17 a72_18 a72_19 a72_21 a72_22 a72_29 (a72_31 - 1) a72_35 a72_37 a72_38 a72_39 a72_40 a72_41 a72_44 a72_50), (79, o79 x4)] nx 0 0) ?_ e_fuel (0, A79) x4 hx5 ?_ : _)
    · intro v3 z hz ih hx
      refine r_iload_n F dX12_undo_26 rfl ?_
      refine r_sipush F dX12_undo_27 (v := 486) (by decide) ?_
      refine r_icmp_ge F dX12_undo_30 (tgt := 60) (by decide) (fun hc => ?_) (fun hc => ?_)
      · have hz := e_t hc hz
        refine r_drop 1 (L' := [some (.ref 72), none]) rfl ?_
        obtain rfl := Option.some.inj hz
        exact hx v3.2 rfl
      · have hz := e_f hc hz
        refine r_aload_n F dX12_undo_33 rfl ?_
        refine r_get F dX12_undo_34 flX12_28 rfl rfl (e_le rfl) (e_lt hnx rfl) ?_
        refine r_iload_n F dX12_undo_37 rfl ?_
        refine r_aload_n F dX12_undo_38 rfl ?_
        refine r_get F dX12_undo_39 flX12_49 rfl rfl (e_le rfl) (e_lt hnx rfl) ?_
        refine r_sipush F dX12_undo_42 (v := 486) (by decide) ?_
        refine r_aload_n F dX12_undo_45 rfl ?_
        refine r_get F dX12_undo_46 flX12_229 rfl rfl (e_le rfl) (e_lt hnx rfl) ?_
        refine r_imul F dX12_undo_49 ?_
        refine r_iload_n F dX12_undo_50 rfl ?_
        refine r_iadd F dX12_undo_51 ?_
        obtain ⟨hg, hz⟩ := e_gd hz
        refine r_iald F dX12_undo_52 (i := (((486 : Int32) * (a72_31 - 1)) + v3.1)) h86 (e_le rfl) (e_lt hnx rfl) (e_vp hg) ?_
        obtain ⟨hg, hz⟩ := e_gd hz
        refine r_iast F dX12_undo_53 rfl (e_le rfl) (e_lt hnx rfl) (e_vp hg) (l' := [(72, o72 0 a72_2 a72_3 a72_4 a72_5 a72_6 a72_7 a72_8 a72_9 a72_10 a72_11 a72_17 a72_18 a72_19 a72_21 a72_22 a72_29 (a72_31 - 1) a72_35 a72_37 a72_38 a72_39 a72_40 a72_41 a72_44 a72_50), (79, o79 (upd v3.2 (tn v3.1) (A86 (tn (((486 : Int32) * (a72_31 - 1)) + v3.1)))))]) rfl ?_
        refine r_inc F dX12_undo_54 (k9 := 1) (by decide) rfl (L' := [some (.ref 72), some (.int (v3.1 + 1))]) rfl ?_
        refine r_goto F dX12_undo_57 (tgt := 26) (by decide) ?_
        obtain rfl := Option.some.inj hz
        exact ih (v3.1 + 1, upd v3.2 (tn v3.1) (A86 (tn (((486 : Int32) * (a72_31 - 1)) + v3.1)))) rfl
    · show eRun G X 60 [some (.ref 72), none] [] h [(72, o72 0 a72_2 a72_3 a72_4 a72_5 a72_6 a72_7 a72_8 a72_9 a72_10 a72_11 a72_17 a72_18 a72_19 a72_21 a72_22 a72_29 (a72_31 - 1) a72_35 a72_37 a72_38 a72_39 a72_40 a72_41 a72_44 a72_50), (79, o79 x4)] nx 0 0
      refine r_aload_n F dX12_undo_60 rfl ?_
      refine r_get F dX12_undo_61 flX12_229 rfl rfl (e_le rfl) (e_lt hnx rfl) ?_
      obtain rfl := Option.some.inj hf
      exact r_iret F hq dX12_undo_64 rfl rfl (Nat.le_refl _) (Nat.le_refl _) ⟨rfl, rfl⟩
  · have hf := e_t hc hf
    refine r_iconst F dX12_undo_12 (v := (-1)) (by decide) ?_
    refine r_mat (k := 79) h79 (l' := [(72, o72 0 a72_2 a72_3 a72_4 a72_5 a72_6 a72_7 a72_8 a72_9 a72_10 a72_11 a72_17 a72_18 a72_19 a72_21 a72_22 a72_29 a72_31 a72_35 a72_37 a72_38 a72_39 a72_40 a72_41 a72_44 a72_50), (79, o79 A79)]) rfl ?_
    obtain rfl := Option.some.inj hf
    exact r_iret F hq dX12_undo_13 rfl rfl (Nat.le_refl _) (Nat.le_refl _) ⟨rfl, rfl⟩

def fX12_wall (a72_0 : Int32) (a72_21 : Int32) (a72_22 : Int32) (a72_44 : Int32) (A79 : Nat → Int32) (A91 : Nat → Int32) (A92 : Nat → Int32) (p0 : Int32) (p1 : Int32) : Option (Int32 × Int32 × Int32 × (Nat → Int32) × (Nat → Int32)) :=
  (fX12_isCrystal a72_21).bind (fun q1 =>
  if q1 = true then
    (fX12_laysWalls a72_21 a72_22 a72_44 A79 A91 A92).bind (fun q3 =>
    (fX12_in (Int32.toInt64 p0) 0 (Int32.toInt64 (q3.1 - 1))).bind (fun q5 =>
    if q5 = true then
      (fX12_in (Int32.toInt64 p1) 0 4).bind (fun q7 =>
      if q7 = true then
        e_g (e_in p0 162) (
        if p1 = 0 then
          (fX12_linksOf a72_21 a72_22 A79 q3.2.2.1 (q3.2.2.2 (tn p0))).bind (fun q9 =>
          some (q9, 0, q3.2.1, q3.2.2.1, q3.2.2.2))
        else
          if p1 = 1 then
            some (((q3.2.2.2 (tn p0)) / 2) - ((q3.2.2.2 (tn p0)) / 2) / 9 * 9, 0, q3.2.1, q3.2.2.1, q3.2.2.2)
          else
            if p1 = 2 then
              some (((q3.2.2.2 (tn p0)) / 2) / 9, 0, q3.2.1, q3.2.2.1, q3.2.2.2)
            else
              if p1 = 3 then
                some ((q3.2.2.2 (tn p0)) - (q3.2.2.2 (tn p0)) / 2 * 2, 0, q3.2.1, q3.2.2.1, q3.2.2.2)
              else
                (fX12_coresBeside a72_21 a72_22 A79 q3.2.2.1 (q3.2.2.2 (tn p0))).bind (fun q11 =>
                some (q11, 0, q3.2.1, q3.2.2.1, q3.2.2.2)))
      else
        some ((-1), 0, q3.2.1, q3.2.2.1, q3.2.2.2))
    else
      some ((-1), 0, q3.2.1, q3.2.2.1, q3.2.2.2)))
  else
    some ((-1), 0, a72_44, A91, A92))
set_option maxRecDepth 100000 in
theorem tX12_wall_72 {G : eG} (hG : e_GS G) {la : Launch} {h : Nat → eO} {nx : Nat} (hnx : 99 ≤ nx) {a72_0 : Int32} {a72_2 : Int32} {a72_3 : Int32} {a72_4 : Int32} {a72_5 : Int32} {a72_6 : Int32} {a72_7 : Int32} {a72_8 : Bool} {a72_9 : Int32} {a72_10 : Int32} {a72_11 : Int32} {a72_17 : Bool} {a72_18 : Bool} {a72_19 : Bool} {a72_21 : Int32} {a72_22 : Int32} {a72_29 : Int32} {a72_31 : Int32} {a72_35 : Int32} {a72_37 : Bool} {a72_38 : Int32} {a72_39 : Int32} {a72_40 : Int32} {a72_41 : Int64} {a72_44 : Int32} {a72_50 : Bool} {A79 : Nat → Int32} {A91 : Nat → Int32} {A92 : Nat → Int32} {p0 : Int32} {p1 : Int32} (h72 : h 72 = o72 a72_0 a72_2 a72_3 a72_4 a72_5 a72_6 a72_7 a72_8 a72_9 a72_10 a72_11 a72_17 a72_18 a72_19 a72_21 a72_22 a72_29 a72_31 a72_35 a72_37 a72_38 a72_39 a72_40 a72_41 a72_44 a72_50) (h79 : h 79 = o79 A79) (h91 : h 91 = o91 A91) (h92 : h 92 = o92 A92) {R9 : Int32 × Int32 × Int32 × (Nat → Int32) × (Nat → Int32)} (hf : fX12_wall a72_0 a72_21 a72_22 a72_44 A79 A91 A92 p0 p1 = some R9) :
    eSem G la MX12_wall [.ref 72, .int p0, .int p1] h nx 0 0 (fun r9 h9 => r9 = some (.int R9.1) ∧ h9 = e_up h [(72, o72 R9.2.1 a72_2 a72_3 a72_4 a72_5 a72_6 a72_7 a72_8 a72_9 a72_10 a72_11 a72_17 a72_18 a72_19 a72_21 a72_22 a72_29 a72_31 a72_35 a72_37 a72_38 a72_39 a72_40 a72_41 R9.2.2.1 a72_50), (91, o91 R9.2.2.2.1), (92, o92 R9.2.2.2.2)]) := by
  refine eSem.of (k := 1) (L := [some (.ref 72), some (.int p0), some (.int p1), none]) (by decide +kernel) rfl rfl (fun X F hxl hq hcR hsR => ?_)
  subst hxl
  unfold fX12_wall at hf
  refine r_aload_n F dX12_wall_0 rfl ?_
  refine r_iconst F dX12_wall_1 (v := 0) (by decide) ?_
  refine r_put F dX12_wall_2 flX12_86 rfl rfl rfl h72 (e_le rfl) (e_le rfl) (e_lt hnx rfl) (l' := [(72, o72 0 a72_2 a72_3 a72_4 a72_5 a72_6 a72_7 a72_8 a72_9 a72_10 a72_11 a72_17 a72_18 a72_19 a72_21 a72_22 a72_29 a72_31 a72_35 a72_37 a72_38 a72_39 a72_40 a72_41 a72_44 a72_50)]) rfl ?_
  refine r_aload_n F dX12_wall_5 rfl ?_
  obtain ⟨q1, hq2, hf⟩ := e_bd hf
  refine r_callV F dX12_wall_6 (b := 72) (dc := 0) (ds := 0) (As := []) (S0 := []) lkX12_306 mX12_isCrystal (tX12_isCrystal_72 hG (la := x_l X) (h := e_up h [(72, o72 0 a72_2 a72_3 a72_4 a72_5 a72_6 a72_7 a72_8 a72_9 a72_10 a72_11 a72_17 a72_18 a72_19 a72_21 a72_22 a72_29 a72_31 a72_35 a72_37 a72_38 a72_39 a72_40 a72_41 a72_44 a72_50)]) hnx rfl hq2) rfl rfl rfl (e_le rfl) (e_le rfl) (e_le rfl) rfl (ci := 12) e_cl12.1 rfl (e_le rfl) (e_lt hnx rfl) (Nat.zero_le _) (Nat.zero_le _) (e_k ?_)
  refine r_wr0 ?_
  refine r_z_eq F dX12_wall_9 (tgt := 40) (by decide) (fun hc => ?_) (fun hc => ?_)
  · have hf := e_t hc hf
    refine r_iload_n F dX12_wall_12 rfl ?_
    refine r_i2l F dX12_wall_13 ?_
    refine r_lconst F dX12_wall_14 (v := 0) (by decide) ?_
    refine r_aload_n F dX12_wall_15 rfl ?_
    obtain ⟨q3, hq4, hf⟩ := e_bd hf
    refine r_callV F dX12_wall_16 (b := 72) (dc := 0) (ds := 0) (As := []) (S0 := [.long 0, .long (Int32.toInt64 p0)]) lkX12_321 mX12_laysWalls (tX12_laysWalls_72 hG (la := x_l X) (h := e_up h [(72, o72 0 a72_2 a72_3 a72_4 a72_5 a72_6 a72_7 a72_8 a72_9 a72_10 a72_11 a72_17 a72_18 a72_19 a72_21 a72_22 a72_29 a72_31 a72_35 a72_37 a72_38 a72_39 a72_40 a72_41 a72_44 a72_50)]) hnx rfl h79 h91 h92 hq4) rfl rfl rfl (e_le rfl) (e_le rfl) (e_le rfl) rfl (ci := 12) e_cl12.1 rfl (e_le rfl) (e_lt hnx rfl) (Nat.zero_le _) (Nat.zero_le _) (e_k ?_)
    refine r_wr (l' := [(72, o72 0 a72_2 a72_3 a72_4 a72_5 a72_6 a72_7 a72_8 a72_9 a72_10 a72_11 a72_17 a72_18 a72_19 a72_21 a72_22 a72_29 a72_31 a72_35 a72_37 a72_38 a72_39 a72_40 a72_41 q3.2.1 a72_50), (91, o91 q3.2.2.1), (92, o92 q3.2.2.2)]) rfl rfl ?_
    refine r_iconst F dX12_wall_19 (v := 1) (by decide) ?_
    refine r_isub F dX12_wall_20 ?_
    refine r_i2l F dX12_wall_21 ?_
    obtain ⟨q5, hq6, hf⟩ := e_bd hf
    refine r_callS F dX12_wall_22 (dc := 0) (ds := 0) (As := [.long (Int32.toInt64 p0), .long 0, .long (Int32.toInt64 (q3.1 - 1))]) (S0 := []) lkX12_97 mX12_in (tX12_in hG (la := x_l X) (h := e_up h [(72, o72 0 a72_2 a72_3 a72_4 a72_5 a72_6 a72_7 a72_8 a72_9 a72_10 a72_11 a72_17 a72_18 a72_19 a72_21 a72_22 a72_29 a72_31 a72_35 a72_37 a72_38 a72_39 a72_40 a72_41 q3.2.1 a72_50), (91, o91 q3.2.2.1), (92, o92 q3.2.2.2)]) hnx  hq6) rfl rfl rfl (e_le rfl) (e_le rfl) (e_le rfl) (Nat.zero_le _) (Nat.zero_le _) (e_k ?_)
    refine r_wr0 ?_
    refine r_z_eq F dX12_wall_25 (tgt := 40) (by decide) (fun hc => ?_) (fun hc => ?_)
    · have hf := e_t hc hf
      refine r_iload_n F dX12_wall_28 rfl ?_
      refine r_i2l F dX12_wall_29 ?_
      refine r_lconst F dX12_wall_30 (v := 0) (by decide) ?_
      refine r_ldc2 F dX12_wall_31 klX12_352 ?_
      obtain ⟨q7, hq8, hf⟩ := e_bd hf
      refine r_callS F dX12_wall_34 (dc := 0) (ds := 0) (As := [.long (Int32.toInt64 p1), .long 0, .long 4]) (S0 := []) lkX12_97 mX12_in (tX12_in hG (la := x_l X) (h := e_up h [(72, o72 0 a72_2 a72_3 a72_4 a72_5 a72_6 a72_7 a72_8 a72_9 a72_10 a72_11 a72_17 a72_18 a72_19 a72_21 a72_22 a72_29 a72_31 a72_35 a72_37 a72_38 a72_39 a72_40 a72_41 q3.2.1 a72_50), (91, o91 q3.2.2.1), (92, o92 q3.2.2.2)]) hnx  hq8) rfl rfl rfl (e_le rfl) (e_le rfl) (e_le rfl) (Nat.zero_le _) (Nat.zero_le _) (e_k ?_)
      refine r_wr0 ?_
      refine r_z_ne F dX12_wall_37 (tgt := 42) (by decide) (fun hc => ?_) (fun hc => ?_)
      · have hf := e_t hc hf
        refine r_aload_n F dX12_wall_42 rfl ?_
        refine r_get F dX12_wall_43 flX12_68 rfl rfl (e_le rfl) (e_lt hnx rfl) ?_
        refine r_iload_n F dX12_wall_46 rfl ?_
        obtain ⟨hg, hf⟩ := e_gd hf
        refine r_iald F dX12_wall_47 (i := p0) rfl (e_le rfl) (e_lt hnx rfl) (e_vp hg) ?_
        refine r_istore_n F dX12_wall_48 (e_le rfl) (L' := [some (.ref 72), some (.int p0), some (.int p1), some (.int (q3.2.2.2 (tn p0)))]) rfl ?_
        refine r_iload_n F dX12_wall_49 rfl ?_
        refine Classical.byCases (p := p1 = 0) (fun hc => ?_) (fun hk0 => ?_)
        · have hf := e_t hc hf
          refine r_tsIn F dX12_wall_50 (by rw [hc]; decide) (by rw [hc]; decide) (off := 30) (by rw [hc]; decide) (tgt := 80) (by decide) ?_
          refine r_aload_n F dX12_wall_80 rfl ?_
          refine r_iload_n F dX12_wall_81 rfl ?_
          obtain ⟨q9, hq10, hf⟩ := e_bd hf
          refine r_callV F dX12_wall_82 (b := 72) (dc := 0) (ds := 0) (As := [.int (q3.2.2.2 (tn p0))]) (S0 := []) lkX12_434 mX12_linksOf (tX12_linksOf_72 hG (la := x_l X) (h := e_up h [(72, o72 0 a72_2 a72_3 a72_4 a72_5 a72_6 a72_7 a72_8 a72_9 a72_10 a72_11 a72_17 a72_18 a72_19 a72_21 a72_22 a72_29 a72_31 a72_35 a72_37 a72_38 a72_39 a72_40 a72_41 q3.2.1 a72_50), (91, o91 q3.2.2.1), (92, o92 q3.2.2.2)]) hnx rfl h79 rfl hq10) rfl rfl rfl (e_le rfl) (e_le rfl) (e_le rfl) rfl (ci := 12) e_cl12.1 rfl (e_le rfl) (e_lt hnx rfl) (Nat.zero_le _) (Nat.zero_le _) (e_k ?_)
          refine r_wr0 ?_
          obtain rfl := Option.some.inj hf
          exact r_iret F hq dX12_wall_85 rfl rfl (Nat.le_refl _) (Nat.le_refl _) ⟨rfl, rfl⟩
        have hf := e_f hk0 hf
        refine Classical.byCases (p := p1 = 1) (fun hc => ?_) (fun hk1 => ?_)
        · have hf := e_t hc hf
          refine r_tsIn F dX12_wall_50 (by rw [hc]; decide) (by rw [hc]; decide) (off := 36) (by rw [hc]; decide) (tgt := 86) (by decide) ?_
          refine r_iload_n F dX12_wall_86 rfl ?_
          refine r_iconst F dX12_wall_87 (v := 2) (by decide) ?_
          refine r_idiv F dX12_wall_88 (by decide) ?_
          refine r_bipush F dX12_wall_89 (v := 9) (by decide) ?_
          refine r_irem F dX12_wall_91 (by decide) ?_
          obtain rfl := Option.some.inj hf
          exact r_iret F hq dX12_wall_92 rfl rfl (Nat.le_refl _) (Nat.le_refl _) ⟨rfl, rfl⟩
        have hf := e_f hk1 hf
        refine Classical.byCases (p := p1 = 2) (fun hc => ?_) (fun hk2 => ?_)
        · have hf := e_t hc hf
          refine r_tsIn F dX12_wall_50 (by rw [hc]; decide) (by rw [hc]; decide) (off := 43) (by rw [hc]; decide) (tgt := 93) (by decide) ?_
          refine r_iload_n F dX12_wall_93 rfl ?_
          refine r_iconst F dX12_wall_94 (v := 2) (by decide) ?_
          refine r_idiv F dX12_wall_95 (by decide) ?_
          refine r_bipush F dX12_wall_96 (v := 9) (by decide) ?_
          refine r_idiv F dX12_wall_98 (by decide) ?_
          obtain rfl := Option.some.inj hf
          exact r_iret F hq dX12_wall_99 rfl rfl (Nat.le_refl _) (Nat.le_refl _) ⟨rfl, rfl⟩
        have hf := e_f hk2 hf
        refine Classical.byCases (p := p1 = 3) (fun hc => ?_) (fun hk3 => ?_)
        · have hf := e_t hc hf
          refine r_tsIn F dX12_wall_50 (by rw [hc]; decide) (by rw [hc]; decide) (off := 50) (by rw [hc]; decide) (tgt := 100) (by decide) ?_
          refine r_iload_n F dX12_wall_100 rfl ?_
          refine r_iconst F dX12_wall_101 (v := 2) (by decide) ?_
          refine r_irem F dX12_wall_102 (by decide) ?_
          obtain rfl := Option.some.inj hf
          exact r_iret F hq dX12_wall_103 rfl rfl (Nat.le_refl _) (Nat.le_refl _) ⟨rfl, rfl⟩
        have hf := e_f hk3 hf
        refine r_tsOut F dX12_wall_50 (e_out4 hk0 hk1 hk2 hk3) (tgt := 104) (by decide) ?_
        refine r_aload_n F dX12_wall_104 rfl ?_
        refine r_iload_n F dX12_wall_105 rfl ?_
        obtain ⟨q11, hq12, hf⟩ := e_bd hf
        refine r_callV F dX12_wall_106 (b := 72) (dc := 0) (ds := 0) (As := [.int (q3.2.2.2 (tn p0))]) (S0 := []) lkX12_437 mX12_coresBeside (tX12_coresBeside_72 hG (la := x_l X) (h := e_up h [(72, o72 0 a72_2 a72_3 a72_4 a72_5 a72_6 a72_7 a72_8 a72_9 a72_10 a72_11 a72_17 a72_18 a72_19 a72_21 a72_22 a72_29 a72_31 a72_35 a72_37 a72_38 a72_39 a72_40 a72_41 q3.2.1 a72_50), (91, o91 q3.2.2.1), (92, o92 q3.2.2.2)]) hnx rfl h79 rfl hq12) rfl rfl rfl (e_le rfl) (e_le rfl) (e_le rfl) rfl (ci := 12) e_cl12.1 rfl (e_le rfl) (e_lt hnx rfl) (Nat.zero_le _) (Nat.zero_le _) (e_k ?_)
        refine r_wr0 ?_
        obtain rfl := Option.some.inj hf
        exact r_iret F hq dX12_wall_109 rfl rfl (Nat.le_refl _) (Nat.le_refl _) ⟨rfl, rfl⟩
      · have hf := e_f hc hf
        refine r_iconst F dX12_wall_40 (v := (-1)) (by decide) ?_
        obtain rfl := Option.some.inj hf
        exact r_iret F hq dX12_wall_41 rfl rfl (Nat.le_refl _) (Nat.le_refl _) ⟨rfl, rfl⟩
    · have hf := e_f hc hf
      refine r_iconst F dX12_wall_40 (v := (-1)) (by decide) ?_
      obtain rfl := Option.some.inj hf
      exact r_iret F hq dX12_wall_41 rfl rfl (Nat.le_refl _) (Nat.le_refl _) ⟨rfl, rfl⟩
  · have hf := e_f hc hf
    refine r_iconst F dX12_wall_40 (v := (-1)) (by decide) ?_
    refine r_mat (k := 91) h91 (l' := [(72, o72 0 a72_2 a72_3 a72_4 a72_5 a72_6 a72_7 a72_8 a72_9 a72_10 a72_11 a72_17 a72_18 a72_19 a72_21 a72_22 a72_29 a72_31 a72_35 a72_37 a72_38 a72_39 a72_40 a72_41 a72_44 a72_50), (91, o91 A91)]) rfl ?_
    refine r_mat (k := 92) h92 (l' := [(72, o72 0 a72_2 a72_3 a72_4 a72_5 a72_6 a72_7 a72_8 a72_9 a72_10 a72_11 a72_17 a72_18 a72_19 a72_21 a72_22 a72_29 a72_31 a72_35 a72_37 a72_38 a72_39 a72_40 a72_41 a72_44 a72_50), (91, o91 A91), (92, o92 A92)]) rfl ?_
    obtain rfl := Option.some.inj hf
    exact r_iret F hq dX12_wall_41 rfl rfl (Nat.le_refl _) (Nat.le_refl _) ⟨rfl, rfl⟩
