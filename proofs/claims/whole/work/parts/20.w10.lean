def fX12_readsAll (a72_2 : Int32) (a72_3 : Int32) (a72_4 : Int32) (a72_5 : Int32) (a72_6 : Int32) (a72_7 : Int32) (a72_9 : Int32) (a72_10 : Int32) (a72_11 : Int32) (a72_17 : Bool) (a72_18 : Bool) (a72_19 : Bool) (A73 : Nat → Int32) (A74 : Nat → Int32) (A75 : Nat → Int32) (A76 : Nat → Int32) (A77 : Nat → Int32) (A78 : Nat → Int32)  : Option (Int32 × Int32 × Int32 × Int32 × Int32 × Int32 × Int32 × Int32 × Int32 × Bool × Bool × Bool × (Nat → Int32) × (Nat → Int32) × (Nat → Int32) × (Nat → Int32) × (Nat → Int32)) :=
  (fX12_next a72_2 0 a72_4 a72_6 a72_7 A73).bind (fun q1 =>
  (fX12_isWord_s8 q1.1 q1.2.1 (-1) q1.2.2.1 A73).bind (fun q3 =>
  Option.bind (α := Int32 × Int32 × Int32 × Int32 × Int32) (
    if q3 = true then
      (fX12_next a72_2 q1.1 q1.2.1 q1.2.2.1 q1.2.2.2 A73).bind (fun q22 =>
      some (q22.1, q22.2.1, (-1), q22.2.2.1, q22.2.2.2))
    else
      (fX12_bad q1.2.1 (-1)).bind (fun q24 =>
      some (q1.1, q1.2.1, q24, q1.2.2.1, q1.2.2.2))) (fun q5 =>
  (fX12_takesNumber a72_2 q5.1 q5.2.1 q5.2.2.1 q5.2.2.2.1 q5.2.2.2.2 A73 2 9).bind (fun q7 =>
  (fX12_takesNumber a72_2 q7.2.1 q7.2.2.1 q7.2.2.2.1 q7.2.2.2.2.1 q7.2.2.2.2.2 A73 2 9).bind (fun q9 =>
  (e_loop (fun (v13 : Int32 × Int32 × Int32 × Int32 × Int32 × Int32 × Bool × Bool × Bool × (Nat → Int32) × (Nat → Int32) × (Nat → Int32) × (Nat → Int32) × (Nat → Int32)) => (
      (fX12_takesSign a72_2 v13.1 v13.2.1 v13.2.2.1 v13.2.2.2.1 v13.2.2.2.2.1 A73 59).bind (fun q16 =>
      if q16.1 = true then
        (fX12_readsPiece a72_2 q16.2.1 q16.2.2.1 v13.2.2.1 q16.2.2.2.1 q16.2.2.2.2 q7.1 q9.1 v13.2.2.2.2.2.1 v13.2.2.2.2.2.2.1 v13.2.2.2.2.2.2.2.1 v13.2.2.2.2.2.2.2.2.1 A73 v13.2.2.2.2.2.2.2.2.2.1 v13.2.2.2.2.2.2.2.2.2.2.1 v13.2.2.2.2.2.2.2.2.2.2.2.1 v13.2.2.2.2.2.2.2.2.2.2.2.2.1 v13.2.2.2.2.2.2.2.2.2.2.2.2.2).bind (fun q18 =>
        some (.inl (q18.1, q18.2.1, q18.2.2.1, q18.2.2.2.1, q18.2.2.2.2.1, q18.2.2.2.2.2.1, q18.2.2.2.2.2.2.1, q18.2.2.2.2.2.2.2.1, q18.2.2.2.2.2.2.2.2.1, q18.2.2.2.2.2.2.2.2.2.1, q18.2.2.2.2.2.2.2.2.2.2.1, q18.2.2.2.2.2.2.2.2.2.2.2.1, q18.2.2.2.2.2.2.2.2.2.2.2.2.1, q18.2.2.2.2.2.2.2.2.2.2.2.2.2)))
      else
        some (.inr (v13.2.2.2.2.2.1, v13.2.2.2.2.2.2.1, v13.2.2.2.2.2.2.2.1, v13.2.2.2.2.2.2.2.2.1, q16.2.1, q16.2.2.1, v13.2.2.1, q16.2.2.2.1, q16.2.2.2.2, v13.2.2.2.2.2.2.2.2.2.1, v13.2.2.2.2.2.2.2.2.2.2.1, v13.2.2.2.2.2.2.2.2.2.2.2.1, v13.2.2.2.2.2.2.2.2.2.2.2.2.1, v13.2.2.2.2.2.2.2.2.2.2.2.2.2))) : Option ((Int32 × Int32 × Int32 × Int32 × Int32 × Int32 × Bool × Bool × Bool × (Nat → Int32) × (Nat → Int32) × (Nat → Int32) × (Nat → Int32) × (Nat → Int32)) ⊕ (Int32 × Bool × Bool × Bool × Int32 × Int32 × Int32 × Int32 × Int32 × (Nat → Int32) × (Nat → Int32) × (Nat → Int32) × (Nat → Int32) × (Nat → Int32))))) e_fuel (q9.2.1, q9.2.2.1, q9.2.2.2.1, q9.2.2.2.2.1, q9.2.2.2.2.2, 0, false, false, false, A74, A75, A76, A77, upd (upd (upd (upd A78 (tn 0) 0) (tn 1) 0) (tn 2) 10) (tn 3) 0)).bind (fun x14 =>
  if x14.2.2.2.2.2.2.1 = (-1) then
    if x14.2.2.2.2.2.2.2.1 = 0 then
      some (x14.2.2.2.2.2.2.1, x14.2.2.2.2.1, x14.2.2.2.2.2.1, x14.2.2.2.2.2.2.1, x14.2.2.2.2.2.2.2.1, x14.2.2.2.2.2.2.2.2.1, q7.1, q9.1, x14.1, x14.2.1, x14.2.2.1, x14.2.2.2.1, x14.2.2.2.2.2.2.2.2.2.1, x14.2.2.2.2.2.2.2.2.2.2.1, x14.2.2.2.2.2.2.2.2.2.2.2.1, x14.2.2.2.2.2.2.2.2.2.2.2.2.1, x14.2.2.2.2.2.2.2.2.2.2.2.2.2)
    else
      (fX12_bad x14.2.2.2.2.2.1 x14.2.2.2.2.2.2.1).bind (fun q20 =>
      some (q20, x14.2.2.2.2.1, x14.2.2.2.2.2.1, q20, x14.2.2.2.2.2.2.2.1, x14.2.2.2.2.2.2.2.2.1, q7.1, q9.1, x14.1, x14.2.1, x14.2.2.1, x14.2.2.2.1, x14.2.2.2.2.2.2.2.2.2.1, x14.2.2.2.2.2.2.2.2.2.2.1, x14.2.2.2.2.2.2.2.2.2.2.2.1, x14.2.2.2.2.2.2.2.2.2.2.2.2.1, x14.2.2.2.2.2.2.2.2.2.2.2.2.2))
  else
    some (x14.2.2.2.2.2.2.1, x14.2.2.2.2.1, x14.2.2.2.2.2.1, x14.2.2.2.2.2.2.1, x14.2.2.2.2.2.2.2.1, x14.2.2.2.2.2.2.2.2.1, q7.1, q9.1, x14.1, x14.2.1, x14.2.2.1, x14.2.2.2.1, x14.2.2.2.2.2.2.2.2.2.1, x14.2.2.2.2.2.2.2.2.2.2.1, x14.2.2.2.2.2.2.2.2.2.2.2.1, x14.2.2.2.2.2.2.2.2.2.2.2.2.1, x14.2.2.2.2.2.2.2.2.2.2.2.2.2)))))))
set_option maxRecDepth 100000 in
theorem tX12_readsAll_72 {G : eG} (hG : e_GS G) {la : Launch} {h : Nat → eO} {nx : Nat} (hnx : 99 ≤ nx) {a72_0 : Int32} {a72_2 : Int32} {a72_3 : Int32} {a72_4 : Int32} {a72_5 : Int32} {a72_6 : Int32} {a72_7 : Int32} {a72_8 : Bool} {a72_9 : Int32} {a72_10 : Int32} {a72_11 : Int32} {a72_17 : Bool} {a72_18 : Bool} {a72_19 : Bool} {a72_21 : Int32} {a72_22 : Int32} {a72_29 : Int32} {a72_31 : Int32} {a72_35 : Int32} {a72_37 : Bool} {a72_38 : Int32} {a72_39 : Int32} {a72_40 : Int32} {a72_41 : Int64} {a72_44 : Int32} {a72_50 : Bool} {A73 : Nat → Int32} {A74 : Nat → Int32} {A75 : Nat → Int32} {A76 : Nat → Int32} {A77 : Nat → Int32} {A78 : Nat → Int32}  (h72 : h 72 = o72 a72_0 a72_2 a72_3 a72_4 a72_5 a72_6 a72_7 a72_8 a72_9 a72_10 a72_11 a72_17 a72_18 a72_19 a72_21 a72_22 a72_29 a72_31 a72_35 a72_37 a72_38 a72_39 a72_40 a72_41 a72_44 a72_50) (h73 : h 73 = o73 A73) (h74 : h 74 = o74 A74) (h75 : h 75 = o75 A75) (h76 : h 76 = o76 A76) (h77 : h 77 = o77 A77) (h78 : h 78 = o78 A78) {R9 : Int32 × Int32 × Int32 × Int32 × Int32 × Int32 × Int32 × Int32 × Int32 × Bool × Bool × Bool × (Nat → Int32) × (Nat → Int32) × (Nat → Int32) × (Nat → Int32) × (Nat → Int32)} (hf : fX12_readsAll a72_2 a72_3 a72_4 a72_5 a72_6 a72_7 a72_9 a72_10 a72_11 a72_17 a72_18 a72_19 A73 A74 A75 A76 A77 A78  = some R9) :
    eSem G la MX12_readsAll [.ref 72] h nx 0 0 (fun r9 h9 => r9 = some (.int R9.1) ∧ h9 = e_up h [(72, o72 a72_0 a72_2 R9.2.1 R9.2.2.1 R9.2.2.2.1 R9.2.2.2.2.1 R9.2.2.2.2.2.1 a72_8 R9.2.2.2.2.2.2.1 R9.2.2.2.2.2.2.2.1 R9.2.2.2.2.2.2.2.2.1 R9.2.2.2.2.2.2.2.2.2.1 R9.2.2.2.2.2.2.2.2.2.2.1 R9.2.2.2.2.2.2.2.2.2.2.2.1 a72_21 a72_22 a72_29 a72_31 a72_35 a72_37 a72_38 a72_39 a72_40 a72_41 a72_44 a72_50), (74, o74 R9.2.2.2.2.2.2.2.2.2.2.2.2.1), (75, o75 R9.2.2.2.2.2.2.2.2.2.2.2.2.2.1), (76, o76 R9.2.2.2.2.2.2.2.2.2.2.2.2.2.2.1), (77, o77 R9.2.2.2.2.2.2.2.2.2.2.2.2.2.2.2.1), (78, o78 R9.2.2.2.2.2.2.2.2.2.2.2.2.2.2.2.2)]) := by
  refine eSem.of (k := 0) (L := [some (.ref 72)]) (by decide +kernel) rfl rfl (fun X F hxl hq hcR hsR => ?_)
  subst hxl
  unfold fX12_readsAll at hf
  refine r_aload_n F dX12_readsAll_0 rfl ?_
  refine r_iconst F dX12_readsAll_1 (v := 0) (by decide) ?_
  refine r_put F dX12_readsAll_2 flX12_101 rfl rfl rfl h72 (e_le rfl) (e_le rfl) (e_lt hnx rfl) (l' := [(72, o72 a72_0 a72_2 0 a72_4 a72_5 a72_6 a72_7 a72_8 a72_9 a72_10 a72_11 a72_17 a72_18 a72_19 a72_21 a72_22 a72_29 a72_31 a72_35 a72_37 a72_38 a72_39 a72_40 a72_41 a72_44 a72_50)]) rfl ?_
  refine r_aload_n F dX12_readsAll_5 rfl ?_
  refine r_iconst F dX12_readsAll_6 (v := (-1)) (by decide) ?_
  refine r_put F dX12_readsAll_7 flX12_134 rfl rfl rfl rfl (e_le rfl) (e_le rfl) (e_lt hnx rfl) (l' := [(72, o72 a72_0 a72_2 0 a72_4 (-1) a72_6 a72_7 a72_8 a72_9 a72_10 a72_11 a72_17 a72_18 a72_19 a72_21 a72_22 a72_29 a72_31 a72_35 a72_37 a72_38 a72_39 a72_40 a72_41 a72_44 a72_50)]) rfl ?_
  refine r_aload_n F dX12_readsAll_10 rfl ?_
  refine r_iconst F dX12_readsAll_11 (v := 0) (by decide) ?_
  refine r_put F dX12_readsAll_12 flX12_153 rfl rfl rfl rfl (e_le rfl) (e_le rfl) (e_lt hnx rfl) (l' := [(72, o72 a72_0 a72_2 0 a72_4 (-1) a72_6 a72_7 a72_8 a72_9 a72_10 0 a72_17 a72_18 a72_19 a72_21 a72_22 a72_29 a72_31 a72_35 a72_37 a72_38 a72_39 a72_40 a72_41 a72_44 a72_50)]) rfl ?_
  refine r_aload_n F dX12_readsAll_15 rfl ?_
  refine r_iconst F dX12_readsAll_16 (v := 0) (by decide) ?_
  refine r_put F dX12_readsAll_17 (v := .int (e_b false)) flX12_180 rfl (e_b_nar _) (e_b_fit _) rfl (e_le rfl) (e_le rfl) (e_lt hnx rfl) (l' := [(72, o72 a72_0 a72_2 0 a72_4 (-1) a72_6 a72_7 a72_8 a72_9 a72_10 0 false a72_18 a72_19 a72_21 a72_22 a72_29 a72_31 a72_35 a72_37 a72_38 a72_39 a72_40 a72_41 a72_44 a72_50)]) rfl ?_
  refine r_aload_n F dX12_readsAll_20 rfl ?_
  refine r_iconst F dX12_readsAll_21 (v := 0) (by decide) ?_
  refine r_put F dX12_readsAll_22 (v := .int (e_b false)) flX12_186 rfl (e_b_nar _) (e_b_fit _) rfl (e_le rfl) (e_le rfl) (e_lt hnx rfl) (l' := [(72, o72 a72_0 a72_2 0 a72_4 (-1) a72_6 a72_7 a72_8 a72_9 a72_10 0 false false a72_19 a72_21 a72_22 a72_29 a72_31 a72_35 a72_37 a72_38 a72_39 a72_40 a72_41 a72_44 a72_50)]) rfl ?_
  refine r_aload_n F dX12_readsAll_25 rfl ?_
  refine r_iconst F dX12_readsAll_26 (v := 0) (by decide) ?_
  refine r_put F dX12_readsAll_27 (v := .int (e_b false)) flX12_191 rfl (e_b_nar _) (e_b_fit _) rfl (e_le rfl) (e_le rfl) (e_lt hnx rfl) (l' := [(72, o72 a72_0 a72_2 0 a72_4 (-1) a72_6 a72_7 a72_8 a72_9 a72_10 0 false false false a72_21 a72_22 a72_29 a72_31 a72_35 a72_37 a72_38 a72_39 a72_40 a72_41 a72_44 a72_50)]) rfl ?_
  refine r_aload_n F dX12_readsAll_30 rfl ?_
  refine r_get F dX12_readsAll_31 flX12_25 rfl rfl (e_le rfl) (e_lt hnx rfl) ?_
  refine r_iconst F dX12_readsAll_34 (v := 0) (by decide) ?_
  refine r_iconst F dX12_readsAll_35 (v := 0) (by decide) ?_
  refine r_iast F dX12_readsAll_36 h78 (e_le rfl) (e_lt hnx rfl) (e_vp (by decide)) (l' := [(72, o72 a72_0 a72_2 0 a72_4 (-1) a72_6 a72_7 a72_8 a72_9 a72_10 0 false false false a72_21 a72_22 a72_29 a72_31 a72_35 a72_37 a72_38 a72_39 a72_40 a72_41 a72_44 a72_50), (78, o78 (upd A78 (tn 0) 0))]) rfl ?_
  refine r_aload_n F dX12_readsAll_37 rfl ?_
  refine r_get F dX12_readsAll_38 flX12_25 rfl rfl (e_le rfl) (e_lt hnx rfl) ?_
  refine r_iconst F dX12_readsAll_41 (v := 1) (by decide) ?_
  refine r_iconst F dX12_readsAll_42 (v := 0) (by decide) ?_
  refine r_iast F dX12_readsAll_43 rfl (e_le rfl) (e_lt hnx rfl) (e_vp (by decide)) (l' := [(72, o72 a72_0 a72_2 0 a72_4 (-1) a72_6 a72_7 a72_8 a72_9 a72_10 0 false false false a72_21 a72_22 a72_29 a72_31 a72_35 a72_37 a72_38 a72_39 a72_40 a72_41 a72_44 a72_50), (78, o78 (upd (upd A78 (tn 0) 0) (tn 1) 0))]) rfl ?_
  refine r_aload_n F dX12_readsAll_44 rfl ?_
  refine r_get F dX12_readsAll_45 flX12_25 rfl rfl (e_le rfl) (e_lt hnx rfl) ?_
  refine r_iconst F dX12_readsAll_48 (v := 2) (by decide) ?_
  refine r_bipush F dX12_readsAll_49 (v := 10) (by decide) ?_
  refine r_iast F dX12_readsAll_51 rfl (e_le rfl) (e_lt hnx rfl) (e_vp (by decide)) (l' := [(72, o72 a72_0 a72_2 0 a72_4 (-1) a72_6 a72_7 a72_8 a72_9 a72_10 0 false false false a72_21 a72_22 a72_29 a72_31 a72_35 a72_37 a72_38 a72_39 a72_40 a72_41 a72_44 a72_50), (78, o78 (upd (upd (upd A78 (tn 0) 0) (tn 1) 0) (tn 2) 10))]) rfl ?_
  refine r_aload_n F dX12_readsAll_52 rfl ?_
  refine r_get F dX12_readsAll_53 flX12_25 rfl rfl (e_le rfl) (e_lt hnx rfl) ?_
  refine r_iconst F dX12_readsAll_56 (v := 3) (by decide) ?_
  refine r_iconst F dX12_readsAll_57 (v := 0) (by decide) ?_
  refine r_iast F dX12_readsAll_58 rfl (e_le rfl) (e_lt hnx rfl) (e_vp (by decide)) (l' := [(72, o72 a72_0 a72_2 0 a72_4 (-1) a72_6 a72_7 a72_8 a72_9 a72_10 0 false false false a72_21 a72_22 a72_29 a72_31 a72_35 a72_37 a72_38 a72_39 a72_40 a72_41 a72_44 a72_50), (78, o78 (upd (upd (upd (upd A78 (tn 0) 0) (tn 1) 0) (tn 2) 10) (tn 3) 0))]) rfl ?_
  refine r_aload_n F dX12_readsAll_59 rfl ?_
  obtain ⟨q1, hq2, hf⟩ := e_bd hf
  refine r_callV F dX12_readsAll_60 (b := 72) (dc := 0) (ds := 0) (As := []) (S0 := []) lkX12_147 mX12_next (tX12_next_72 hG (la := x_l X) (h := e_up h [(72, o72 a72_0 a72_2 0 a72_4 (-1) a72_6 a72_7 a72_8 a72_9 a72_10 0 false false false a72_21 a72_22 a72_29 a72_31 a72_35 a72_37 a72_38 a72_39 a72_40 a72_41 a72_44 a72_50), (78, o78 (upd (upd (upd (upd A78 (tn 0) 0) (tn 1) 0) (tn 2) 10) (tn 3) 0))]) hnx rfl h73 hq2) rfl rfl rfl (e_le rfl) (e_le rfl) (e_le rfl) rfl (ci := 12) e_cl12.1 rfl (e_le rfl) (e_lt hnx rfl) (Nat.zero_le _) (Nat.zero_le _) (e_k ?_)
  refine r_wr (l' := [(72, o72 a72_0 a72_2 q1.1 q1.2.1 (-1) q1.2.2.1 q1.2.2.2 a72_8 a72_9 a72_10 0 false false false a72_21 a72_22 a72_29 a72_31 a72_35 a72_37 a72_38 a72_39 a72_40 a72_41 a72_44 a72_50), (78, o78 (upd (upd (upd (upd A78 (tn 0) 0) (tn 1) 0) (tn 2) 10) (tn 3) 0))]) rfl rfl ?_
  refine r_aload_n F dX12_readsAll_63 rfl ?_
  refine r_ldcS F dX12_readsAll_64 (tx := "size") (a := 8) (by decide +kernel) ?_
  obtain ⟨q3, hq4, hf⟩ := e_bd hf
  refine r_callV F dX12_readsAll_66 (b := 72) (dc := 0) (ds := 0) (As := [.ref 8]) (S0 := []) lkX12_171 mX12_isWord (tX12_isWord_72_8 hG (la := x_l X) (h := e_up h [(72, o72 a72_0 a72_2 q1.1 q1.2.1 (-1) q1.2.2.1 q1.2.2.2 a72_8 a72_9 a72_10 0 false false false a72_21 a72_22 a72_29 a72_31 a72_35 a72_37 a72_38 a72_39 a72_40 a72_41 a72_44 a72_50), (78, o78 (upd (upd (upd (upd A78 (tn 0) 0) (tn 1) 0) (tn 2) 10) (tn 3) 0))]) hnx rfl h73 hq4) rfl rfl rfl (e_le rfl) (e_le rfl) (e_le rfl) rfl (ci := 12) e_cl12.1 rfl (e_le rfl) (e_lt hnx rfl) (Nat.zero_le _) (Nat.zero_le _) (e_k ?_)
  refine r_wr0 ?_
  obtain ⟨q5, hq6, hf⟩ := e_bd hf
  have Jq5 : eRun G X 83 [some (.ref 72)] [] h [(72, o72 a72_0 a72_2 q5.1 q5.2.1 q5.2.2.1 q5.2.2.2.1 q5.2.2.2.2 a72_8 a72_9 a72_10 0 false false false a72_21 a72_22 a72_29 a72_31 a72_35 a72_37 a72_38 a72_39 a72_40 a72_41 a72_44 a72_50), (78, o78 (upd (upd (upd (upd A78 (tn 0) 0) (tn 1) 0) (tn 2) 10) (tn 3) 0))] nx 0 0 := by
    refine r_aload_n F dX12_readsAll_83 rfl ?_
    refine r_aload_n F dX12_readsAll_84 rfl ?_
    refine r_iconst F dX12_readsAll_85 (v := 2) (by decide) ?_
    refine r_bipush F dX12_readsAll_86 (v := 9) (by decide) ?_
    obtain ⟨q7, hq8, hf⟩ := e_bd hf
    refine r_callV F dX12_readsAll_88 (b := 72) (dc := 0) (ds := 0) (As := [.int 2, .int 9]) (S0 := [.ref 72]) lkX12_159 mX12_takesNumber (tX12_takesNumber_72 hG (la := x_l X) (h := e_up h [(72, o72 a72_0 a72_2 q5.1 q5.2.1 q5.2.2.1 q5.2.2.2.1 q5.2.2.2.2 a72_8 a72_9 a72_10 0 false false false a72_21 a72_22 a72_29 a72_31 a72_35 a72_37 a72_38 a72_39 a72_40 a72_41 a72_44 a72_50), (78, o78 (upd (upd (upd (upd A78 (tn 0) 0) (tn 1) 0) (tn 2) 10) (tn 3) 0))]) hnx rfl h73 hq8) rfl rfl rfl (e_le rfl) (e_le rfl) (e_le rfl) rfl (ci := 12) e_cl12.1 rfl (e_le rfl) (e_lt hnx rfl) (Nat.zero_le _) (Nat.zero_le _) (e_k ?_)
    refine r_wr (l' := [(72, o72 a72_0 a72_2 q7.2.1 q7.2.2.1 q7.2.2.2.1 q7.2.2.2.2.1 q7.2.2.2.2.2 a72_8 a72_9 a72_10 0 false false false a72_21 a72_22 a72_29 a72_31 a72_35 a72_37 a72_38 a72_39 a72_40 a72_41 a72_44 a72_50), (78, o78 (upd (upd (upd (upd A78 (tn 0) 0) (tn 1) 0) (tn 2) 10) (tn 3) 0))]) rfl rfl ?_
    refine r_put F dX12_readsAll_91 flX12_156 rfl rfl rfl rfl (e_le rfl) (e_le rfl) (e_lt hnx rfl) (l' := [(72, o72 a72_0 a72_2 q7.2.1 q7.2.2.1 q7.2.2.2.1 q7.2.2.2.2.1 q7.2.2.2.2.2 a72_8 q7.1 a72_10 0 false false false a72_21 a72_22 a72_29 a72_31 a72_35 a72_37 a72_38 a72_39 a72_40 a72_41 a72_44 a72_50), (78, o78 (upd (upd (upd (upd A78 (tn 0) 0) (tn 1) 0) (tn 2) 10) (tn 3) 0))]) rfl ?_
    refine r_aload_n F dX12_readsAll_94 rfl ?_
    refine r_aload_n F dX12_readsAll_95 rfl ?_
    refine r_iconst F dX12_readsAll_96 (v := 2) (by decide) ?_
    refine r_bipush F dX12_readsAll_97 (v := 9) (by decide) ?_
    obtain ⟨q9, hq10, hf⟩ := e_bd hf
    refine r_callV F dX12_readsAll_99 (b := 72) (dc := 0) (ds := 0) (As := [.int 2, .int 9]) (S0 := [.ref 72]) lkX12_159 mX12_takesNumber (tX12_takesNumber_72 hG (la := x_l X) (h := e_up h [(72, o72 a72_0 a72_2 q7.2.1 q7.2.2.1 q7.2.2.2.1 q7.2.2.2.2.1 q7.2.2.2.2.2 a72_8 q7.1 a72_10 0 false false false a72_21 a72_22 a72_29 a72_31 a72_35 a72_37 a72_38 a72_39 a72_40 a72_41 a72_44 a72_50), (78, o78 (upd (upd (upd (upd A78 (tn 0) 0) (tn 1) 0) (tn 2) 10) (tn 3) 0))]) hnx rfl h73 hq10) rfl rfl rfl (e_le rfl) (e_le rfl) (e_le rfl) rfl (ci := 12) e_cl12.1 rfl (e_le rfl) (e_lt hnx rfl) (Nat.zero_le _) (Nat.zero_le _) (e_k ?_)
    refine r_wr (l' := [(72, o72 a72_0 a72_2 q9.2.1 q9.2.2.1 q9.2.2.2.1 q9.2.2.2.2.1 q9.2.2.2.2.2 a72_8 q7.1 a72_10 0 false false false a72_21 a72_22 a72_29 a72_31 a72_35 a72_37 a72_38 a72_39 a72_40 a72_41 a72_44 a72_50), (78, o78 (upd (upd (upd (upd A78 (tn 0) 0) (tn 1) 0) (tn 2) 10) (tn 3) 0))]) rfl rfl ?_
    refine r_put F dX12_readsAll_102 flX12_166 rfl rfl rfl rfl (e_le rfl) (e_le rfl) (e_lt hnx rfl) (l' := [(72, o72 a72_0 a72_2 q9.2.1 q9.2.2.1 q9.2.2.2.1 q9.2.2.2.2.1 q9.2.2.2.2.2 a72_8 q7.1 q9.1 0 false false false a72_21 a72_22 a72_29 a72_31 a72_35 a72_37 a72_38 a72_39 a72_40 a72_41 a72_44 a72_50), (78, o78 (upd (upd (upd (upd A78 (tn 0) 0) (tn 1) 0) (tn 2) 10) (tn 3) 0))]) rfl ?_
    refine r_mat (k := 74) h74 (l' := [(72, o72 a72_0 a72_2 q9.2.1 q9.2.2.1 q9.2.2.2.1 q9.2.2.2.2.1 q9.2.2.2.2.2 a72_8 q7.1 q9.1 0 false false false a72_21 a72_22 a72_29 a72_31 a72_35 a72_37 a72_38 a72_39 a72_40 a72_41 a72_44 a72_50), (74, o74 A74), (78, o78 (upd (upd (upd (upd A78 (tn 0) 0) (tn 1) 0) (tn 2) 10) (tn 3) 0))]) rfl ?_
    refine r_mat (k := 75) h75 (l' := [(72, o72 a72_0 a72_2 q9.2.1 q9.2.2.1 q9.2.2.2.1 q9.2.2.2.2.1 q9.2.2.2.2.2 a72_8 q7.1 q9.1 0 false false false a72_21 a72_22 a72_29 a72_31 a72_35 a72_37 a72_38 a72_39 a72_40 a72_41 a72_44 a72_50), (74, o74 A74), (75, o75 A75), (78, o78 (upd (upd (upd (upd A78 (tn 0) 0) (tn 1) 0) (tn 2) 10) (tn 3) 0))]) rfl ?_
    refine r_mat (k := 76) h76 (l' := [(72, o72 a72_0 a72_2 q9.2.1 q9.2.2.1 q9.2.2.2.1 q9.2.2.2.2.1 q9.2.2.2.2.2 a72_8 q7.1 q9.1 0 false false false a72_21 a72_22 a72_29 a72_31 a72_35 a72_37 a72_38 a72_39 a72_40 a72_41 a72_44 a72_50), (74, o74 A74), (75, o75 A75), (76, o76 A76), (78, o78 (upd (upd (upd (upd A78 (tn 0) 0) (tn 1) 0) (tn 2) 10) (tn 3) 0))]) rfl ?_
    refine r_mat (k := 77) h77 (l' := [(72, o72 a72_0 a72_2 q9.2.1 q9.2.2.1 q9.2.2.2.1 q9.2.2.2.2.1 q9.2.2.2.2.2 a72_8 q7.1 q9.1 0 false false false a72_21 a72_22 a72_29 a72_31 a72_35 a72_37 a72_38 a72_39 a72_40 a72_41 a72_44 a72_50), (74, o74 A74), (75, o75 A75), (76, o76 A76), (77, o77 A77), (78, o78 (upd (upd (upd (upd A78 (tn 0) 0) (tn 1) 0) (tn 2) 10) (tn 3) 0))]) rfl ?_
    obtain ⟨x14, hx15, hf⟩ := e_bd hf
    refine (e_loop_ok (P := fun (v13 : Int32 × Int32 × Int32 × Int32 × Int32 × Int32 × Bool × Bool × Bool × (Nat → Int32) × (Nat → Int32) × (Nat → Int32) × (Nat → Int32) × (Nat → Int32)) => eRun G X 105 [some (.ref 72)] [] h [(72, o72 a72_0 a72_2 v13.1 v13.2.1 v13.2.2.1 v13.2.2.2.1 v13.2.2.2.2.1 a72_8 q7.1 q9.1 v13.2.2.2.2.2.1 v13.2.2.2.2.2.2.1 v13.2.2.2.2.2.2.2.1 v13.2.2.2.2.2.2.2.2.1 a72_21 a72_22 a72_29 a72_31 a72_35 a72_37 a72_38 a72_39 a72_40 a72_41 a72_44 a72_50), (74, o74 v13.2.2.2.2.2.2.2.2.2.1), (75, o75 v13.2.2.2.2.2.2.2.2.2.2.1), (76, o76 v13.2.2.2.2.2.2.2.2.2.2.2.1), (77, o77 v13.2.2.2.2.2.2.2.2.2.2.2.2.1), (78, o78 v13.2.2.2.2.2.2.2.2.2.2.2.2.2)] nx 0 0) (K := fun (x14 : Int32 × Bool × Bool × Bool × Int32 × Int32 × Int32 × Int32 × Int32 × (Nat → Int32) × (Nat → Int32) × (Nat → Int32) × (Nat → Int32) × (Nat → Int32)) => eRun G X 121 [some (.ref 72)] [] h [(72, o72 a72_0 a72_2 x14.2.2.2.2.1 x14.2.2.2.2.2.1 x14.2.2.2.2.2.2.1 x14.2.2.2.2.2.2.2.1 x14.2.2.2.2.2.2.2.2.1 a72_8 q7.1 q9.1 x14.1 x14.2.1 x14.2.2.1 x14.2.2.2.1 a72_21 a72_22 a72_29 a72_31 a72_35 a72_37 a72_38 a72_39 a72_40 a72_41 a72_44 a72_50), (74, o74 x14.2.2.2.2.2.2.2.2.2.1), (75, o75 x14.2.2.2.2.2.2.2.2.2.2.1), (76, o76 x14.2.2.2.2.2.2.2.2.2.2.2.1), (77, o77 x14.2.2.2.2.2.2.2.2.2.2.2.2.1), (78, o78 x14.2.2.2.2.2.2.2.2.2.2.2.2.2)] nx 0 0) ?_ e_fuel (q9.2.1, q9.2.2.1, q9.2.2.2.1, q9.2.2.2.2.1, q9.2.2.2.2.2, 0, false, false, false, A74, A75, A76, A77, upd (upd (upd (upd A78 (tn 0) 0) (tn 1) 0) (tn 2) 10) (tn 3) 0) x14 hx15 ?_ : _)
    · intro v13 z hz ih hx
      refine r_aload_n F dX12_readsAll_105 rfl ?_
      refine r_bipush F dX12_readsAll_106 (v := 59) (by decide) ?_
      obtain ⟨q16, hq17, hz⟩ := e_bd hz
      refine r_callV F dX12_readsAll_108 (b := 72) (dc := 0) (ds := 0) (As := [.int 59]) (S0 := []) lkX12_196 mX12_takesSign (tX12_takesSign_72 hG (la := x_l X) (h := e_up h [(72, o72 a72_0 a72_2 v13.1 v13.2.1 v13.2.2.1 v13.2.2.2.1 v13.2.2.2.2.1 a72_8 q7.1 q9.1 v13.2.2.2.2.2.1 v13.2.2.2.2.2.2.1 v13.2.2.2.2.2.2.2.1 v13.2.2.2.2.2.2.2.2.1 a72_21 a72_22 a72_29 a72_31 a72_35 a72_37 a72_38 a72_39 a72_40 a72_41 a72_44 a72_50), (74, o74 v13.2.2.2.2.2.2.2.2.2.1), (75, o75 v13.2.2.2.2.2.2.2.2.2.2.1), (76, o76 v13.2.2.2.2.2.2.2.2.2.2.2.1), (77, o77 v13.2.2.2.2.2.2.2.2.2.2.2.2.1), (78, o78 v13.2.2.2.2.2.2.2.2.2.2.2.2.2)]) hnx rfl h73 hq17) rfl rfl rfl (e_le rfl) (e_le rfl) (e_le rfl) rfl (ci := 12) e_cl12.1 rfl (e_le rfl) (e_lt hnx rfl) (Nat.zero_le _) (Nat.zero_le _) (e_k ?_)
      refine r_wr (l' := [(72, o72 a72_0 a72_2 q16.2.1 q16.2.2.1 v13.2.2.1 q16.2.2.2.1 q16.2.2.2.2 a72_8 q7.1 q9.1 v13.2.2.2.2.2.1 v13.2.2.2.2.2.2.1 v13.2.2.2.2.2.2.2.1 v13.2.2.2.2.2.2.2.2.1 a72_21 a72_22 a72_29 a72_31 a72_35 a72_37 a72_38 a72_39 a72_40 a72_41 a72_44 a72_50), (74, o74 v13.2.2.2.2.2.2.2.2.2.1), (75, o75 v13.2.2.2.2.2.2.2.2.2.2.1), (76, o76 v13.2.2.2.2.2.2.2.2.2.2.2.1), (77, o77 v13.2.2.2.2.2.2.2.2.2.2.2.2.1), (78, o78 v13.2.2.2.2.2.2.2.2.2.2.2.2.2)]) rfl rfl ?_
      refine r_z_eq F dX12_readsAll_111 (tgt := 121) (by decide) (fun hc => ?_) (fun hc => ?_)
      · have hz := e_t hc hz
        refine r_aload_n F dX12_readsAll_114 rfl ?_
        obtain ⟨q18, hq19, hz⟩ := e_bd hz
        refine r_callV F dX12_readsAll_115 (b := 72) (dc := 0) (ds := 0) (As := []) (S0 := []) lkX12_199 mX12_readsPiece (tX12_readsPiece_72 hG (la := x_l X) (h := e_up h [(72, o72 a72_0 a72_2 q16.2.1 q16.2.2.1 v13.2.2.1 q16.2.2.2.1 q16.2.2.2.2 a72_8 q7.1 q9.1 v13.2.2.2.2.2.1 v13.2.2.2.2.2.2.1 v13.2.2.2.2.2.2.2.1 v13.2.2.2.2.2.2.2.2.1 a72_21 a72_22 a72_29 a72_31 a72_35 a72_37 a72_38 a72_39 a72_40 a72_41 a72_44 a72_50), (74, o74 v13.2.2.2.2.2.2.2.2.2.1), (75, o75 v13.2.2.2.2.2.2.2.2.2.2.1), (76, o76 v13.2.2.2.2.2.2.2.2.2.2.2.1), (77, o77 v13.2.2.2.2.2.2.2.2.2.2.2.2.1), (78, o78 v13.2.2.2.2.2.2.2.2.2.2.2.2.2)]) hnx rfl h73 rfl rfl rfl rfl rfl hq19) rfl rfl rfl (e_le rfl) (e_le rfl) (e_le rfl) rfl (ci := 12) e_cl12.1 rfl (e_le rfl) (e_lt hnx rfl) (Nat.zero_le _) (Nat.zero_le _) (e_k ?_)
        refine r_wr (l' := [(72, o72 a72_0 a72_2 q18.1 q18.2.1 q18.2.2.1 q18.2.2.2.1 q18.2.2.2.2.1 a72_8 q7.1 q9.1 q18.2.2.2.2.2.1 q18.2.2.2.2.2.2.1 q18.2.2.2.2.2.2.2.1 q18.2.2.2.2.2.2.2.2.1 a72_21 a72_22 a72_29 a72_31 a72_35 a72_37 a72_38 a72_39 a72_40 a72_41 a72_44 a72_50), (74, o74 q18.2.2.2.2.2.2.2.2.2.1), (75, o75 q18.2.2.2.2.2.2.2.2.2.2.1), (76, o76 q18.2.2.2.2.2.2.2.2.2.2.2.1), (77, o77 q18.2.2.2.2.2.2.2.2.2.2.2.2.1), (78, o78 q18.2.2.2.2.2.2.2.2.2.2.2.2.2)]) rfl rfl ?_
        refine r_goto F dX12_readsAll_118 (tgt := 105) (by decide) ?_
        obtain rfl := Option.some.inj hz
        exact ih (q18.1, q18.2.1, q18.2.2.1, q18.2.2.2.1, q18.2.2.2.2.1, q18.2.2.2.2.2.1, q18.2.2.2.2.2.2.1, q18.2.2.2.2.2.2.2.1, q18.2.2.2.2.2.2.2.2.1, q18.2.2.2.2.2.2.2.2.2.1, q18.2.2.2.2.2.2.2.2.2.2.1, q18.2.2.2.2.2.2.2.2.2.2.2.1, q18.2.2.2.2.2.2.2.2.2.2.2.2.1, q18.2.2.2.2.2.2.2.2.2.2.2.2.2) rfl
      · have hz := e_f hc hz
        obtain rfl := Option.some.inj hz
        exact hx (v13.2.2.2.2.2.1, v13.2.2.2.2.2.2.1, v13.2.2.2.2.2.2.2.1, v13.2.2.2.2.2.2.2.2.1, q16.2.1, q16.2.2.1, v13.2.2.1, q16.2.2.2.1, q16.2.2.2.2, v13.2.2.2.2.2.2.2.2.2.1, v13.2.2.2.2.2.2.2.2.2.2.1, v13.2.2.2.2.2.2.2.2.2.2.2.1, v13.2.2.2.2.2.2.2.2.2.2.2.2.1, v13.2.2.2.2.2.2.2.2.2.2.2.2.2) rfl
    · show eRun G X 121 [some (.ref 72)] [] h [(72, o72 a72_0 a72_2 x14.2.2.2.2.1 x14.2.2.2.2.2.1 x14.2.2.2.2.2.2.1 x14.2.2.2.2.2.2.2.1 x14.2.2.2.2.2.2.2.2.1 a72_8 q7.1 q9.1 x14.1 x14.2.1 x14.2.2.1 x14.2.2.2.1 a72_21 a72_22 a72_29 a72_31 a72_35 a72_37 a72_38 a72_39 a72_40 a72_41 a72_44 a72_50), (74, o74 x14.2.2.2.2.2.2.2.2.2.1), (75, o75 x14.2.2.2.2.2.2.2.2.2.2.1), (76, o76 x14.2.2.2.2.2.2.2.2.2.2.2.1), (77, o77 x14.2.2.2.2.2.2.2.2.2.2.2.2.1), (78, o78 x14.2.2.2.2.2.2.2.2.2.2.2.2.2)] nx 0 0
      refine r_aload_n F dX12_readsAll_121 rfl ?_
      refine r_get F dX12_readsAll_122 flX12_134 rfl rfl (e_le rfl) (e_lt hnx rfl) ?_
      refine r_iconst F dX12_readsAll_125 (v := (-1)) (by decide) ?_
      refine r_icmp_ne F dX12_readsAll_126 (tgt := 140) (by decide) (fun hc => ?_) (fun hc => ?_)
      · have hf := e_f hc hf
        refine r_aload_n F dX12_readsAll_140 rfl ?_
        refine r_get F dX12_readsAll_141 flX12_134 rfl rfl (e_le rfl) (e_lt hnx rfl) ?_
        obtain rfl := Option.some.inj hf
        exact r_iret F hq dX12_readsAll_144 rfl rfl (Nat.le_refl _) (Nat.le_refl _) ⟨rfl, rfl⟩
      · have hf := e_t hc hf
        refine r_aload_n F dX12_readsAll_129 rfl ?_
        refine r_get F dX12_readsAll_130 flX12_111 rfl rfl (e_le rfl) (e_lt hnx rfl) ?_
        refine r_if_eq F dX12_readsAll_133 (tgt := 140) (by decide) (fun hc => ?_) (fun hc => ?_)
        · have hf := e_t hc hf
          refine r_aload_n F dX12_readsAll_140 rfl ?_
          refine r_get F dX12_readsAll_141 flX12_134 rfl rfl (e_le rfl) (e_lt hnx rfl) ?_
          obtain rfl := Option.some.inj hf
          exact r_iret F hq dX12_readsAll_144 rfl rfl (Nat.le_refl _) (Nat.le_refl _) ⟨rfl, rfl⟩
        · have hf := e_f hc hf
          refine r_aload_n F dX12_readsAll_136 rfl ?_
          obtain ⟨q20, hq21, hf⟩ := e_bd hf
          refine r_callV F dX12_readsAll_137 (b := 72) (dc := 0) (ds := 0) (As := []) (S0 := []) lkX12_150 mX12_bad (tX12_bad_72 hG (la := x_l X) (h := e_up h [(72, o72 a72_0 a72_2 x14.2.2.2.2.1 x14.2.2.2.2.2.1 x14.2.2.2.2.2.2.1 x14.2.2.2.2.2.2.2.1 x14.2.2.2.2.2.2.2.2.1 a72_8 q7.1 q9.1 x14.1 x14.2.1 x14.2.2.1 x14.2.2.2.1 a72_21 a72_22 a72_29 a72_31 a72_35 a72_37 a72_38 a72_39 a72_40 a72_41 a72_44 a72_50), (74, o74 x14.2.2.2.2.2.2.2.2.2.1), (75, o75 x14.2.2.2.2.2.2.2.2.2.2.1), (76, o76 x14.2.2.2.2.2.2.2.2.2.2.2.1), (77, o77 x14.2.2.2.2.2.2.2.2.2.2.2.2.1), (78, o78 x14.2.2.2.2.2.2.2.2.2.2.2.2.2)]) hnx rfl hq21) rfl rfl rfl (e_le rfl) (e_le rfl) (e_le rfl) rfl (ci := 12) e_cl12.1 rfl (e_le rfl) (e_lt hnx rfl) (Nat.zero_le _) (Nat.zero_le _) (e_k ?_)
          refine r_wr (l' := [(72, o72 a72_0 a72_2 x14.2.2.2.2.1 x14.2.2.2.2.2.1 q20 x14.2.2.2.2.2.2.2.1 x14.2.2.2.2.2.2.2.2.1 a72_8 q7.1 q9.1 x14.1 x14.2.1 x14.2.2.1 x14.2.2.2.1 a72_21 a72_22 a72_29 a72_31 a72_35 a72_37 a72_38 a72_39 a72_40 a72_41 a72_44 a72_50), (74, o74 x14.2.2.2.2.2.2.2.2.2.1), (75, o75 x14.2.2.2.2.2.2.2.2.2.2.1), (76, o76 x14.2.2.2.2.2.2.2.2.2.2.2.1), (77, o77 x14.2.2.2.2.2.2.2.2.2.2.2.2.1), (78, o78 x14.2.2.2.2.2.2.2.2.2.2.2.2.2)]) rfl rfl ?_
          refine r_aload_n F dX12_readsAll_140 rfl ?_
          refine r_get F dX12_readsAll_141 flX12_134 rfl rfl (e_le rfl) (e_lt hnx rfl) ?_
          obtain rfl := Option.some.inj hf
          exact r_iret F hq dX12_readsAll_144 rfl rfl (Nat.le_refl _) (Nat.le_refl _) ⟨rfl, rfl⟩
  refine r_z_ne F dX12_readsAll_69 (tgt := 79) (by decide) (fun hc => ?_) (fun hc => ?_)
  · have hq6 := e_t hc hq6
    refine r_aload_n F dX12_readsAll_79 rfl ?_
    obtain ⟨q22, hq23, hq6⟩ := e_bd hq6
    refine r_callV F dX12_readsAll_80 (b := 72) (dc := 0) (ds := 0) (As := []) (S0 := []) lkX12_147 mX12_next (tX12_next_72 hG (la := x_l X) (h := e_up h [(72, o72 a72_0 a72_2 q1.1 q1.2.1 (-1) q1.2.2.1 q1.2.2.2 a72_8 a72_9 a72_10 0 false false false a72_21 a72_22 a72_29 a72_31 a72_35 a72_37 a72_38 a72_39 a72_40 a72_41 a72_44 a72_50), (78, o78 (upd (upd (upd (upd A78 (tn 0) 0) (tn 1) 0) (tn 2) 10) (tn 3) 0))]) hnx rfl h73 hq23) rfl rfl rfl (e_le rfl) (e_le rfl) (e_le rfl) rfl (ci := 12) e_cl12.1 rfl (e_le rfl) (e_lt hnx rfl) (Nat.zero_le _) (Nat.zero_le _) (e_k ?_)
    refine r_wr (l' := [(72, o72 a72_0 a72_2 q22.1 q22.2.1 (-1) q22.2.2.1 q22.2.2.2 a72_8 a72_9 a72_10 0 false false false a72_21 a72_22 a72_29 a72_31 a72_35 a72_37 a72_38 a72_39 a72_40 a72_41 a72_44 a72_50), (78, o78 (upd (upd (upd (upd A78 (tn 0) 0) (tn 1) 0) (tn 2) 10) (tn 3) 0))]) rfl rfl ?_
    obtain rfl := Option.some.inj hq6
    exact Jq5
  · have hq6 := e_f hc hq6
    refine r_aload_n F dX12_readsAll_72 rfl ?_
    obtain ⟨q24, hq25, hq6⟩ := e_bd hq6
    refine r_callV F dX12_readsAll_73 (b := 72) (dc := 0) (ds := 0) (As := []) (S0 := []) lkX12_150 mX12_bad (tX12_bad_72 hG (la := x_l X) (h := e_up h [(72, o72 a72_0 a72_2 q1.1 q1.2.1 (-1) q1.2.2.1 q1.2.2.2 a72_8 a72_9 a72_10 0 false false false a72_21 a72_22 a72_29 a72_31 a72_35 a72_37 a72_38 a72_39 a72_40 a72_41 a72_44 a72_50), (78, o78 (upd (upd (upd (upd A78 (tn 0) 0) (tn 1) 0) (tn 2) 10) (tn 3) 0))]) hnx rfl hq25) rfl rfl rfl (e_le rfl) (e_le rfl) (e_le rfl) rfl (ci := 12) e_cl12.1 rfl (e_le rfl) (e_lt hnx rfl) (Nat.zero_le _) (Nat.zero_le _) (e_k ?_)
    refine r_wr (l' := [(72, o72 a72_0 a72_2 q1.1 q1.2.1 q24 q1.2.2.1 q1.2.2.2 a72_8 a72_9 a72_10 0 false false false a72_21 a72_22 a72_29 a72_31 a72_35 a72_37 a72_38 a72_39 a72_40 a72_41 a72_44 a72_50), (78, o78 (upd (upd (upd (upd A78 (tn 0) 0) (tn 1) 0) (tn 2) 10) (tn 3) 0))]) rfl rfl ?_
    refine r_goto F dX12_readsAll_76 (tgt := 83) (by decide) ?_
    obtain rfl := Option.some.inj hq6
    exact Jq5

def fX12_fault (a72_0 : Int32) (a72_2 : Int32) (a72_3 : Int32) (a72_4 : Int32) (a72_5 : Int32) (a72_6 : Int32) (a72_7 : Int32) (a72_9 : Int32) (a72_10 : Int32) (a72_11 : Int32) (a72_17 : Bool) (a72_18 : Bool) (a72_19 : Bool) (A73 : Nat → Int32) (A74 : Nat → Int32) (A75 : Nat → Int32) (A76 : Nat → Int32) (A77 : Nat → Int32) (A78 : Nat → Int32)  : Option (Int32 × Int32 × Int32 × Int32 × Int32 × Int32 × Int32 × Int32 × Int32 × Int32 × Bool × Bool × Bool × (Nat → Int32) × (Nat → Int32) × (Nat → Int32) × (Nat → Int32) × (Nat → Int32)) :=
  (fX12_readsAll a72_2 a72_3 a72_4 a72_5 a72_6 a72_7 a72_9 a72_10 a72_11 a72_17 a72_18 a72_19 A73 A74 A75 A76 A77 A78).bind (fun q1 =>
  some (q1.1, 0, q1.2.1, q1.2.2.1, q1.2.2.2.1, q1.2.2.2.2.1, q1.2.2.2.2.2.1, q1.2.2.2.2.2.2.1, q1.2.2.2.2.2.2.2.1, q1.2.2.2.2.2.2.2.2.1, q1.2.2.2.2.2.2.2.2.2.1, q1.2.2.2.2.2.2.2.2.2.2.1, q1.2.2.2.2.2.2.2.2.2.2.2.1, q1.2.2.2.2.2.2.2.2.2.2.2.2.1, q1.2.2.2.2.2.2.2.2.2.2.2.2.2.1, q1.2.2.2.2.2.2.2.2.2.2.2.2.2.2.1, q1.2.2.2.2.2.2.2.2.2.2.2.2.2.2.2.1, q1.2.2.2.2.2.2.2.2.2.2.2.2.2.2.2.2))
set_option maxRecDepth 100000 in
theorem tX12_fault_72 {G : eG} (hG : e_GS G) {la : Launch} {h : Nat → eO} {nx : Nat} (hnx : 99 ≤ nx) {a72_0 : Int32} {a72_2 : Int32} {a72_3 : Int32} {a72_4 : Int32} {a72_5 : Int32} {a72_6 : Int32} {a72_7 : Int32} {a72_8 : Bool} {a72_9 : Int32} {a72_10 : Int32} {a72_11 : Int32} {a72_17 : Bool} {a72_18 : Bool} {a72_19 : Bool} {a72_21 : Int32} {a72_22 : Int32} {a72_29 : Int32} {a72_31 : Int32} {a72_35 : Int32} {a72_37 : Bool} {a72_38 : Int32} {a72_39 : Int32} {a72_40 : Int32} {a72_41 : Int64} {a72_44 : Int32} {a72_50 : Bool} {A73 : Nat → Int32} {A74 : Nat → Int32} {A75 : Nat → Int32} {A76 : Nat → Int32} {A77 : Nat → Int32} {A78 : Nat → Int32}  (h72 : h 72 = o72 a72_0 a72_2 a72_3 a72_4 a72_5 a72_6 a72_7 a72_8 a72_9 a72_10 a72_11 a72_17 a72_18 a72_19 a72_21 a72_22 a72_29 a72_31 a72_35 a72_37 a72_38 a72_39 a72_40 a72_41 a72_44 a72_50) (h73 : h 73 = o73 A73) (h74 : h 74 = o74 A74) (h75 : h 75 = o75 A75) (h76 : h 76 = o76 A76) (h77 : h 77 = o77 A77) (h78 : h 78 = o78 A78) {R9 : Int32 × Int32 × Int32 × Int32 × Int32 × Int32 × Int32 × Int32 × Int32 × Int32 × Bool × Bool × Bool × (Nat → Int32) × (Nat → Int32) × (Nat → Int32) × (Nat → Int32) × (Nat → Int32)} (hf : fX12_fault a72_0 a72_2 a72_3 a72_4 a72_5 a72_6 a72_7 a72_9 a72_10 a72_11 a72_17 a72_18 a72_19 A73 A74 A75 A76 A77 A78  = some R9) :
    eSem G la MX12_fault [.ref 72] h nx 0 0 (fun r9 h9 => r9 = some (.int R9.1) ∧ h9 = e_up h [(72, o72 R9.2.1 a72_2 R9.2.2.1 R9.2.2.2.1 R9.2.2.2.2.1 R9.2.2.2.2.2.1 R9.2.2.2.2.2.2.1 a72_8 R9.2.2.2.2.2.2.2.1 R9.2.2.2.2.2.2.2.2.1 R9.2.2.2.2.2.2.2.2.2.1 R9.2.2.2.2.2.2.2.2.2.2.1 R9.2.2.2.2.2.2.2.2.2.2.2.1 R9.2.2.2.2.2.2.2.2.2.2.2.2.1 a72_21 a72_22 a72_29 a72_31 a72_35 a72_37 a72_38 a72_39 a72_40 a72_41 a72_44 a72_50), (74, o74 R9.2.2.2.2.2.2.2.2.2.2.2.2.2.1), (75, o75 R9.2.2.2.2.2.2.2.2.2.2.2.2.2.2.1), (76, o76 R9.2.2.2.2.2.2.2.2.2.2.2.2.2.2.2.1), (77, o77 R9.2.2.2.2.2.2.2.2.2.2.2.2.2.2.2.2.1), (78, o78 R9.2.2.2.2.2.2.2.2.2.2.2.2.2.2.2.2.2)]) := by
  refine eSem.of (k := 0) (L := [some (.ref 72)]) (by decide +kernel) rfl rfl (fun X F hxl hq hcR hsR => ?_)
  subst hxl
  unfold fX12_fault at hf
  refine r_aload_n F dX12_fault_0 rfl ?_
  refine r_iconst F dX12_fault_1 (v := 0) (by decide) ?_
  refine r_put F dX12_fault_2 flX12_86 rfl rfl rfl h72 (e_le rfl) (e_le rfl) (e_lt hnx rfl) (l' := [(72, o72 0 a72_2 a72_3 a72_4 a72_5 a72_6 a72_7 a72_8 a72_9 a72_10 a72_11 a72_17 a72_18 a72_19 a72_21 a72_22 a72_29 a72_31 a72_35 a72_37 a72_38 a72_39 a72_40 a72_41 a72_44 a72_50)]) rfl ?_
  refine r_aload_n F dX12_fault_5 rfl ?_
  obtain ⟨q1, hq2, hf⟩ := e_bd hf
  refine r_callV F dX12_fault_6 (b := 72) (dc := 0) (ds := 0) (As := []) (S0 := []) lkX12_202 mX12_readsAll (tX12_readsAll_72 hG (la := x_l X) (h := e_up h [(72, o72 0 a72_2 a72_3 a72_4 a72_5 a72_6 a72_7 a72_8 a72_9 a72_10 a72_11 a72_17 a72_18 a72_19 a72_21 a72_22 a72_29 a72_31 a72_35 a72_37 a72_38 a72_39 a72_40 a72_41 a72_44 a72_50)]) hnx rfl h73 h74 h75 h76 h77 h78 hq2) rfl rfl rfl (e_le rfl) (e_le rfl) (e_le rfl) rfl (ci := 12) e_cl12.1 rfl (e_le rfl) (e_lt hnx rfl) (Nat.zero_le _) (Nat.zero_le _) (e_k ?_)
  refine r_wr (l' := [(72, o72 0 a72_2 q1.2.1 q1.2.2.1 q1.2.2.2.1 q1.2.2.2.2.1 q1.2.2.2.2.2.1 a72_8 q1.2.2.2.2.2.2.1 q1.2.2.2.2.2.2.2.1 q1.2.2.2.2.2.2.2.2.1 q1.2.2.2.2.2.2.2.2.2.1 q1.2.2.2.2.2.2.2.2.2.2.1 q1.2.2.2.2.2.2.2.2.2.2.2.1 a72_21 a72_22 a72_29 a72_31 a72_35 a72_37 a72_38 a72_39 a72_40 a72_41 a72_44 a72_50), (74, o74 q1.2.2.2.2.2.2.2.2.2.2.2.2.1), (75, o75 q1.2.2.2.2.2.2.2.2.2.2.2.2.2.1), (76, o76 q1.2.2.2.2.2.2.2.2.2.2.2.2.2.2.1), (77, o77 q1.2.2.2.2.2.2.2.2.2.2.2.2.2.2.2.1), (78, o78 q1.2.2.2.2.2.2.2.2.2.2.2.2.2.2.2.2)]) rfl rfl ?_
  obtain rfl := Option.some.inj hf
  exact r_iret F hq dX12_fault_9 rfl rfl (Nat.le_refl _) (Nat.le_refl _) ⟨rfl, rfl⟩

def fX12_feed (a72_0 : Int32) (a72_2 : Int32) (A73 : Nat → Int32) (p0 : Int32) (p1 : Int32) (p2 : Int32) (p3 : Int32) (p4 : Int32) : Option (Int32 × Int32 × Int32 × (Nat → Int32)) :=
  (e_loop (fun (v3 : Int32 × Int32) => (
      if 20 ≤ v3.2 then
        some (.inr v3.1)
      else
        (fX12_byteOf p0 p1 p2 p3 p4 v3.2).bind (fun q6 =>
        Option.bind (α := Bool) (
          if q6 = 0 then
            some false
          else
            some true) (fun q8 =>
        some (.inl (v3.1 + (e_b q8), v3.2 + 1)))) : Option ((Int32 × Int32) ⊕ (Int32)))) e_fuel (0, 0)).bind (fun x4 =>
  if (a72_2 + x4) ≤ 300 then
    (e_loop (fun (v12 : Int32 × Int32 × (Nat → Int32)) => (
        if 20 ≤ v12.1 then
          some (.inr (v12.2.1, v12.2.2))
        else
          (fX12_byteOf p0 p1 p2 p3 p4 v12.1).bind (fun q15 =>
          Option.bind (α := Int32 × (Nat → Int32)) (
            if q15 = 0 then
              some (v12.2.1, v12.2.2)
            else
              e_g (e_in v12.2.1 300) (
              some (v12.2.1 + 1, upd v12.2.2 (tn v12.2.1) q15))) (fun q17 =>
          some (.inl (v12.1 + 1, q17.1, q17.2)))) : Option ((Int32 × Int32 × (Nat → Int32)) ⊕ (Int32 × (Nat → Int32))))) e_fuel (0, a72_2, A73)).bind (fun x13 =>
    some (x13.1, 0, x13.1, x13.2))
  else
    some ((-1), 0, a72_2, A73))
set_option maxRecDepth 100000 in
theorem tX12_feed_72 {G : eG} (hG : e_GS G) {la : Launch} {h : Nat → eO} {nx : Nat} (hnx : 99 ≤ nx) {a72_0 : Int32} {a72_2 : Int32} {a72_3 : Int32} {a72_4 : Int32} {a72_5 : Int32} {a72_6 : Int32} {a72_7 : Int32} {a72_8 : Bool} {a72_9 : Int32} {a72_10 : Int32} {a72_11 : Int32} {a72_17 : Bool} {a72_18 : Bool} {a72_19 : Bool} {a72_21 : Int32} {a72_22 : Int32} {a72_29 : Int32} {a72_31 : Int32} {a72_35 : Int32} {a72_37 : Bool} {a72_38 : Int32} {a72_39 : Int32} {a72_40 : Int32} {a72_41 : Int64} {a72_44 : Int32} {a72_50 : Bool} {A73 : Nat → Int32} {p0 : Int32} {p1 : Int32} {p2 : Int32} {p3 : Int32} {p4 : Int32} (h72 : h 72 = o72 a72_0 a72_2 a72_3 a72_4 a72_5 a72_6 a72_7 a72_8 a72_9 a72_10 a72_11 a72_17 a72_18 a72_19 a72_21 a72_22 a72_29 a72_31 a72_35 a72_37 a72_38 a72_39 a72_40 a72_41 a72_44 a72_50) (h73 : h 73 = o73 A73) {R9 : Int32 × Int32 × Int32 × (Nat → Int32)} (hf : fX12_feed a72_0 a72_2 A73 p0 p1 p2 p3 p4 = some R9) :
    eSem G la MX12_feed [.ref 72, .int p0, .int p1, .int p2, .int p3, .int p4] h nx 0 0 (fun r9 h9 => r9 = some (.int R9.1) ∧ h9 = e_up h [(72, o72 R9.2.1 R9.2.2.1 a72_3 a72_4 a72_5 a72_6 a72_7 a72_8 a72_9 a72_10 a72_11 a72_17 a72_18 a72_19 a72_21 a72_22 a72_29 a72_31 a72_35 a72_37 a72_38 a72_39 a72_40 a72_41 a72_44 a72_50), (73, o73 R9.2.2.2)]) := by
  refine eSem.of (k := 3) (L := [some (.ref 72), some (.int p0), some (.int p1), some (.int p2), some (.int p3), some (.int p4), none, none, none]) (by decide +kernel) rfl rfl (fun X F hxl hq hcR hsR => ?_)
  subst hxl
  unfold fX12_feed at hf
  refine r_aload_n F dX12_feed_0 rfl ?_
  refine r_iconst F dX12_feed_1 (v := 0) (by decide) ?_
  refine r_put F dX12_feed_2 flX12_86 rfl rfl rfl h72 (e_le rfl) (e_le rfl) (e_lt hnx rfl) (l' := [(72, o72 0 a72_2 a72_3 a72_4 a72_5 a72_6 a72_7 a72_8 a72_9 a72_10 a72_11 a72_17 a72_18 a72_19 a72_21 a72_22 a72_29 a72_31 a72_35 a72_37 a72_38 a72_39 a72_40 a72_41 a72_44 a72_50)]) rfl ?_
  refine r_iconst F dX12_feed_5 (v := 0) (by decide) ?_
  refine r_istore F dX12_feed_6 (e_le rfl) (L' := [some (.ref 72), some (.int p0), some (.int p1), some (.int p2), some (.int p3), some (.int p4), some (.int 0), none, none]) rfl ?_
  refine r_iconst F dX12_feed_8 (v := 0) (by decide) ?_
  refine r_istore F dX12_feed_9 (e_le rfl) (L' := [some (.ref 72), some (.int p0), some (.int p1), some (.int p2), some (.int p3), some (.int p4), some (.int 0), some (.int 0), none]) rfl ?_
  obtain ⟨x4, hx5, hf⟩ := e_bd hf
  refine (e_loop_ok (P := fun (v3 : Int32 × Int32) => eRun G X 11 [some (.ref 72), some (.int p0), some (.int p1), some (.int p2), some (.int p3), some (.int p4), some (.int v3.1), some (.int v3.2), none] [] h [(72, o72 0 a72_2 a72_3 a72_4 a72_5 a72_6 a72_7 a72_8 a72_9 a72_10 a72_11 a72_17 a72_18 a72_19 a72_21 a72_22 a72_29 a72_31 a72_35 a72_37 a72_38 a72_39 a72_40 a72_41 a72_44 a72_50)] nx 0 0) (K := fun (x4 : Int32) => eRun G X 49 [some (.ref 72), some (.int p0), some (.int p1), some (.int p2), some (.int p3), some (.int p4), some (.int x4), none, none] [] h [(72, o72 0 a72_2 a72_3 a72_4 a72_5 a72_6 a72_7 a72_8 a72_9 a72_10 a72_11 a72_17 a72_18 a72_19 a72_21 a72_22 a72_29 a72_31 a72_35 a72_37 a72_38 a72_39 a72_40 a72_41 a72_44 a72_50)] nx 0 0) ?_ e_fuel (0, 0) x4 hx5 ?_ : _)
  · intro v3 z hz ih hx
    refine r_iload F dX12_feed_11 rfl ?_
    refine r_bipush F dX12_feed_13 (v := 20) (by decide) ?_
    refine r_icmp_ge F dX12_feed_15 (tgt := 49) (by decide) (fun hc => ?_) (fun hc => ?_)
    · have hz := e_t hc hz
      refine r_drop 7 (L' := [some (.ref 72), some (.int p0), some (.int p1), some (.int p2), some (.int p3), some (.int p4), some (.int v3.1), none, none]) rfl ?_
      obtain rfl := Option.some.inj hz
      exact hx v3.1 rfl
    · have hz := e_f hc hz
      refine r_iload F dX12_feed_18 rfl ?_
      refine r_iload_n F dX12_feed_20 rfl ?_
      refine r_iload_n F dX12_feed_21 rfl ?_
      refine r_iload_n F dX12_feed_22 rfl ?_
      refine r_iload F dX12_feed_23 rfl ?_
      refine r_iload F dX12_feed_25 rfl ?_
      refine r_iload F dX12_feed_27 rfl ?_
      obtain ⟨q6, hq7, hz⟩ := e_bd hz
      refine r_callS F dX12_feed_29 (dc := 0) (ds := 0) (As := [.int p0, .int p1, .int p2, .int p3, .int p4, .int v3.2]) (S0 := [.int v3.1]) lkX12_90 mX12_byteOf (tX12_byteOf hG (la := x_l X) (h := e_up h [(72, o72 0 a72_2 a72_3 a72_4 a72_5 a72_6 a72_7 a72_8 a72_9 a72_10 a72_11 a72_17 a72_18 a72_19 a72_21 a72_22 a72_29 a72_31 a72_35 a72_37 a72_38 a72_39 a72_40 a72_41 a72_44 a72_50)]) hnx  hq7) rfl rfl rfl (e_le rfl) (e_le rfl) (e_le rfl) (Nat.zero_le _) (Nat.zero_le _) (e_k ?_)
      refine r_wr0 ?_
      obtain ⟨q8, hq9, hz⟩ := e_bd hz
      have Jq8 : eRun G X 40 [some (.ref 72), some (.int p0), some (.int p1), some (.int p2), some (.int p3), some (.int p4), none, some (.int v3.2), none] [.int (e_b q8), .int v3.1] h [(72, o72 0 a72_2 a72_3 a72_4 a72_5 a72_6 a72_7 a72_8 a72_9 a72_10 a72_11 a72_17 a72_18 a72_19 a72_21 a72_22 a72_29 a72_31 a72_35 a72_37 a72_38 a72_39 a72_40 a72_41 a72_44 a72_50)] nx 0 0 := by
        refine r_iadd F dX12_feed_40 ?_
        refine r_istore F dX12_feed_41 (e_le rfl) (L' := [some (.ref 72), some (.int p0), some (.int p1), some (.int p2), some (.int p3), some (.int p4), some (.int (v3.1 + (e_b q8))), some (.int v3.2), none]) rfl ?_
        refine r_inc F dX12_feed_43 (k9 := 1) (by decide) rfl (L' := [some (.ref 72), some (.int p0), some (.int p1), some (.int p2), some (.int p3), some (.int p4), some (.int (v3.1 + (e_b q8))), some (.int (v3.2 + 1)), none]) rfl ?_
        refine r_goto F dX12_feed_46 (tgt := 11) (by decide) ?_
        obtain rfl := Option.some.inj hz
        exact ih (v3.1 + (e_b q8), v3.2 + 1) rfl
      refine r_if_eq F dX12_feed_32 (tgt := 39) (by decide) (fun hc => ?_) (fun hc => ?_)
      · have hq9 := e_t hc hq9
        refine r_iconst F dX12_feed_39 (v := 0) (by decide) ?_
        refine r_drop 6 (L' := [some (.ref 72), some (.int p0), some (.int p1), some (.int p2), some (.int p3), some (.int p4), none, some (.int v3.2), none]) rfl ?_
        obtain rfl := Option.some.inj hq9
        exact Jq8
      · have hq9 := e_f hc hq9
        refine r_iconst F dX12_feed_35 (v := 1) (by decide) ?_
        refine r_goto F dX12_feed_36 (tgt := 40) (by decide) ?_
        refine r_drop 6 (L' := [some (.ref 72), some (.int p0), some (.int p1), some (.int p2), some (.int p3), some (.int p4), none, some (.int v3.2), none]) rfl ?_
        obtain rfl := Option.some.inj hq9
        exact Jq8
  · show eRun G X 49 [some (.ref 72), some (.int p0), some (.int p1), some (.int p2), some (.int p3), some (.int p4), some (.int x4), none, none] [] h [(72, o72 0 a72_2 a72_3 a72_4 a72_5 a72_6 a72_7 a72_8 a72_9 a72_10 a72_11 a72_17 a72_18 a72_19 a72_21 a72_22 a72_29 a72_31 a72_35 a72_37 a72_38 a72_39 a72_40 a72_41 a72_44 a72_50)] nx 0 0
    refine r_aload_n F dX12_feed_49 rfl ?_
    refine r_get F dX12_feed_50 flX12_94 rfl rfl (e_le rfl) (e_lt hnx rfl) ?_
    refine r_iload F dX12_feed_53 rfl ?_
    refine r_iadd F dX12_feed_55 ?_
    refine r_sipush F dX12_feed_56 (v := 300) (by decide) ?_
    refine r_icmp_le F dX12_feed_59 (tgt := 64) (by decide) (fun hc => ?_) (fun hc => ?_)
    · have hf := e_t hc hf
      refine r_iconst F dX12_feed_64 (v := 0) (by decide) ?_
      refine r_istore F dX12_feed_65 (e_le rfl) (L' := [some (.ref 72), some (.int p0), some (.int p1), some (.int p2), some (.int p3), some (.int p4), some (.int x4), some (.int 0), none]) rfl ?_
      refine r_drop 6 (L' := [some (.ref 72), some (.int p0), some (.int p1), some (.int p2), some (.int p3), some (.int p4), none, some (.int 0), none]) rfl ?_
      refine r_mat (k := 73) h73 (l' := [(72, o72 0 a72_2 a72_3 a72_4 a72_5 a72_6 a72_7 a72_8 a72_9 a72_10 a72_11 a72_17 a72_18 a72_19 a72_21 a72_22 a72_29 a72_31 a72_35 a72_37 a72_38 a72_39 a72_40 a72_41 a72_44 a72_50), (73, o73 A73)]) rfl ?_
      obtain ⟨x13, hx14, hf⟩ := e_bd hf
      refine (e_loop_ok (P := fun (v12 : Int32 × Int32 × (Nat → Int32)) => eRun G X 67 [some (.ref 72), some (.int p0), some (.int p1), some (.int p2), some (.int p3), some (.int p4), none, some (.int v12.1), none] [] h [(72, o72 0 v12.2.1 a72_3 a72_4 a72_5 a72_6 a72_7 a72_8 a72_9 a72_10 a72_11 a72_17 a72_18 a72_19 a72_21 a72_22 a72_29 a72_31 a72_35 a72_37 a72_38 a72_39 a72_40 a72_41 a72_44 a72_50), (73, o73 v12.2.2)] nx 0 0) (K := fun (x13 : Int32 × (Nat → Int32)) => eRun G X 120 [some (.ref 72), none, none, none, none, none, none, none, none] [] h [(72, o72 0 x13.1 a72_3 a72_4 a72_5 a72_6 a72_7 a72_8 a72_9 a72_10 a72_11 a72_17 a72_18 a72_19 a72_21 a72_22 a72_29 a72_31 a72_35 a72_37 a72_38 a72_39 a72_40 a72_41 a72_44 a72_50), (73, o73 x13.2)] nx 0 0) ?_ e_fuel (0, a72_2, A73) x13 hx14 ?_ : _)
      · intro v12 z hz ih hx
        refine r_iload F dX12_feed_67 rfl ?_
        refine r_bipush F dX12_feed_69 (v := 20) (by decide) ?_
        refine r_icmp_ge F dX12_feed_71 (tgt := 120) (by decide) (fun hc => ?_) (fun hc => ?_)
        · have hz := e_t hc hz
          refine r_drop 1 (L' := [some (.ref 72), none, some (.int p1), some (.int p2), some (.int p3), some (.int p4), none, some (.int v12.1), none]) rfl ?_
          refine r_drop 2 (L' := [some (.ref 72), none, none, some (.int p2), some (.int p3), some (.int p4), none, some (.int v12.1), none]) rfl ?_
          refine r_drop 3 (L' := [some (.ref 72), none, none, none, some (.int p3), some (.int p4), none, some (.int v12.1), none]) rfl ?_
          refine r_drop 4 (L' := [some (.ref 72), none, none, none, none, some (.int p4), none, some (.int v12.1), none]) rfl ?_
          refine r_drop 5 (L' := [some (.ref 72), none, none, none, none, none, none, some (.int v12.1), none]) rfl ?_
          refine r_drop 7 (L' := [some (.ref 72), none, none, none, none, none, none, none, none]) rfl ?_
          obtain rfl := Option.some.inj hz
          exact hx (v12.2.1, v12.2.2) rfl
        · have hz := e_f hc hz
          refine r_iload_n F dX12_feed_74 rfl ?_
          refine r_iload_n F dX12_feed_75 rfl ?_
          refine r_iload_n F dX12_feed_76 rfl ?_
          refine r_iload F dX12_feed_77 rfl ?_
          refine r_iload F dX12_feed_79 rfl ?_
          refine r_iload F dX12_feed_81 rfl ?_
          obtain ⟨q15, hq16, hz⟩ := e_bd hz
          refine r_callS F dX12_feed_83 (dc := 0) (ds := 0) (As := [.int p0, .int p1, .int p2, .int p3, .int p4, .int v12.1]) (S0 := []) lkX12_90 mX12_byteOf (tX12_byteOf hG (la := x_l X) (h := e_up h [(72, o72 0 v12.2.1 a72_3 a72_4 a72_5 a72_6 a72_7 a72_8 a72_9 a72_10 a72_11 a72_17 a72_18 a72_19 a72_21 a72_22 a72_29 a72_31 a72_35 a72_37 a72_38 a72_39 a72_40 a72_41 a72_44 a72_50), (73, o73 v12.2.2)]) hnx  hq16) rfl rfl rfl (e_le rfl) (e_le rfl) (e_le rfl) (Nat.zero_le _) (Nat.zero_le _) (e_k ?_)
          refine r_wr0 ?_
          refine r_istore F dX12_feed_86 (e_le rfl) (L' := [some (.ref 72), some (.int p0), some (.int p1), some (.int p2), some (.int p3), some (.int p4), none, some (.int v12.1), some (.int q15)]) rfl ?_
          refine r_iload F dX12_feed_88 rfl ?_
          obtain ⟨q17, hq18, hz⟩ := e_bd hz
          have Jq17 : eRun G X 114 [some (.ref 72), some (.int p0), some (.int p1), some (.int p2), some (.int p3), some (.int p4), none, some (.int v12.1), none] [] h [(72, o72 0 q17.1 a72_3 a72_4 a72_5 a72_6 a72_7 a72_8 a72_9 a72_10 a72_11 a72_17 a72_18 a72_19 a72_21 a72_22 a72_29 a72_31 a72_35 a72_37 a72_38 a72_39 a72_40 a72_41 a72_44 a72_50), (73, o73 q17.2)] nx 0 0 := by
            refine r_inc F dX12_feed_114 (k9 := 1) (by decide) rfl (L' := [some (.ref 72), some (.int p0), some (.int p1), some (.int p2), some (.int p3), some (.int p4), none, some (.int (v12.1 + 1)), none]) rfl ?_
            refine r_goto F dX12_feed_117 (tgt := 67) (by decide) ?_
            obtain rfl := Option.some.inj hz
            exact ih (v12.1 + 1, q17.1, q17.2) rfl
          refine r_if_eq F dX12_feed_90 (tgt := 114) (by decide) (fun hc => ?_) (fun hc => ?_)
          · have hq18 := e_t hc hq18
            refine r_drop 8 (L' := [some (.ref 72), some (.int p0), some (.int p1), some (.int p2), some (.int p3), some (.int p4), none, some (.int v12.1), none]) rfl ?_
            obtain rfl := Option.some.inj hq18
            exact Jq17
          · have hq18 := e_f hc hq18
            refine r_aload_n F dX12_feed_93 rfl ?_
            refine r_get F dX12_feed_94 flX12_9 rfl rfl (e_le rfl) (e_lt hnx rfl) ?_
            refine r_aload_n F dX12_feed_97 rfl ?_
            refine r_get F dX12_feed_98 flX12_94 rfl rfl (e_le rfl) (e_lt hnx rfl) ?_
            refine r_iload F dX12_feed_101 rfl ?_
            obtain ⟨hg, hq18⟩ := e_gd hq18
            refine r_iast F dX12_feed_103 rfl (e_le rfl) (e_lt hnx rfl) (e_vp hg) (l' := [(72, o72 0 v12.2.1 a72_3 a72_4 a72_5 a72_6 a72_7 a72_8 a72_9 a72_10 a72_11 a72_17 a72_18 a72_19 a72_21 a72_22 a72_29 a72_31 a72_35 a72_37 a72_38 a72_39 a72_40 a72_41 a72_44 a72_50), (73, o73 (upd v12.2.2 (tn v12.2.1) q15))]) rfl ?_
            refine r_aload_n F dX12_feed_104 rfl ?_
            refine r_dup F dX12_feed_105 rfl ?_
            refine r_get F dX12_feed_106 flX12_94 rfl rfl (e_le rfl) (e_lt hnx rfl) ?_
            refine r_iconst F dX12_feed_109 (v := 1) (by decide) ?_
            refine r_iadd F dX12_feed_110 ?_
            refine r_put F dX12_feed_111 flX12_94 rfl rfl rfl rfl (e_le rfl) (e_le rfl) (e_lt hnx rfl) (l' := [(72, o72 0 (v12.2.1 + 1) a72_3 a72_4 a72_5 a72_6 a72_7 a72_8 a72_9 a72_10 a72_11 a72_17 a72_18 a72_19 a72_21 a72_22 a72_29 a72_31 a72_35 a72_37 a72_38 a72_39 a72_40 a72_41 a72_44 a72_50), (73, o73 (upd v12.2.2 (tn v12.2.1) q15))]) rfl ?_
            refine r_drop 8 (L' := [some (.ref 72), some (.int p0), some (.int p1), some (.int p2), some (.int p3), some (.int p4), none, some (.int v12.1), none]) rfl ?_
            obtain rfl := Option.some.inj hq18
            exact Jq17
      · show eRun G X 120 [some (.ref 72), none, none, none, none, none, none, none, none] [] h [(72, o72 0 x13.1 a72_3 a72_4 a72_5 a72_6 a72_7 a72_8 a72_9 a72_10 a72_11 a72_17 a72_18 a72_19 a72_21 a72_22 a72_29 a72_31 a72_35 a72_37 a72_38 a72_39 a72_40 a72_41 a72_44 a72_50), (73, o73 x13.2)] nx 0 0
        refine r_aload_n F dX12_feed_120 rfl ?_
        refine r_get F dX12_feed_121 flX12_94 rfl rfl (e_le rfl) (e_lt hnx rfl) ?_
        obtain rfl := Option.some.inj hf
        exact r_iret F hq dX12_feed_124 rfl rfl (Nat.le_refl _) (Nat.le_refl _) ⟨rfl, rfl⟩
    · have hf := e_f hc hf
      refine r_iconst F dX12_feed_62 (v := (-1)) (by decide) ?_
      refine r_mat (k := 73) h73 (l' := [(72, o72 0 a72_2 a72_3 a72_4 a72_5 a72_6 a72_7 a72_8 a72_9 a72_10 a72_11 a72_17 a72_18 a72_19 a72_21 a72_22 a72_29 a72_31 a72_35 a72_37 a72_38 a72_39 a72_40 a72_41 a72_44 a72_50), (73, o73 A73)]) rfl ?_
      obtain rfl := Option.some.inj hf
      exact r_iret F hq dX12_feed_63 rfl rfl (Nat.le_refl _) (Nat.le_refl _) ⟨rfl, rfl⟩

def fX12_keeps (a72_31 : Int32) (A79 : Nat → Int32) (A86 : Nat → Int32)  : Option (Int32 × (Nat → Int32)) :=
  Option.bind (α := Int32 × (Nat → Int32)) (
    if a72_31 = 20 then
      (e_loop (fun (v10 : Int32 × (Nat → Int32)) => (
          if 9720 ≤ v10.1 then
            some (.inr v10.2)
          else
            e_g (e_in v10.1 9720) (
            e_g (e_in (v10.1 - 486) 9720) (
            some (.inl (v10.1 + 1, upd v10.2 (tn (v10.1 - 486)) (v10.2 (tn v10.1)))))) : Option ((Int32 × (Nat → Int32)) ⊕ ((Nat → Int32))))) e_fuel (486, A86)).bind (fun x11 =>
      some (a72_31 - 1, x11))
    else
      some (a72_31, A86)) (fun q1 =>
  (e_loop (fun (v5 : Int32 × (Nat → Int32)) => (
      if 486 ≤ v5.1 then
        some (.inr v5.2)
      else
        e_g (e_in v5.1 486) (
        e_g (e_in (((486 : Int32) * q1.1) + v5.1) 9720) (
        some (.inl (v5.1 + 1, upd v5.2 (tn (((486 : Int32) * q1.1) + v5.1)) (A79 (tn v5.1)))))) : Option ((Int32 × (Nat → Int32)) ⊕ ((Nat → Int32))))) e_fuel (0, q1.2)).bind (fun x6 =>
  some (q1.1 + 1, x6)))
set_option maxRecDepth 100000 in
theorem tX12_keeps_72 {G : eG} (hG : e_GS G) {la : Launch} {h : Nat → eO} {nx : Nat} (hnx : 99 ≤ nx) {a72_0 : Int32} {a72_2 : Int32} {a72_3 : Int32} {a72_4 : Int32} {a72_5 : Int32} {a72_6 : Int32} {a72_7 : Int32} {a72_8 : Bool} {a72_9 : Int32} {a72_10 : Int32} {a72_11 : Int32} {a72_17 : Bool} {a72_18 : Bool} {a72_19 : Bool} {a72_21 : Int32} {a72_22 : Int32} {a72_29 : Int32} {a72_31 : Int32} {a72_35 : Int32} {a72_37 : Bool} {a72_38 : Int32} {a72_39 : Int32} {a72_40 : Int32} {a72_41 : Int64} {a72_44 : Int32} {a72_50 : Bool} {A79 : Nat → Int32} {A86 : Nat → Int32}  (h72 : h 72 = o72 a72_0 a72_2 a72_3 a72_4 a72_5 a72_6 a72_7 a72_8 a72_9 a72_10 a72_11 a72_17 a72_18 a72_19 a72_21 a72_22 a72_29 a72_31 a72_35 a72_37 a72_38 a72_39 a72_40 a72_41 a72_44 a72_50) (h79 : h 79 = o79 A79) (h86 : h 86 = o86 A86) {R9 : Int32 × (Nat → Int32)} (hf : fX12_keeps a72_31 A79 A86  = some R9) :
    eSem G la MX12_keeps [.ref 72] h nx 0 0 (fun r9 h9 => r9 = none ∧ h9 = e_up h [(72, o72 a72_0 a72_2 a72_3 a72_4 a72_5 a72_6 a72_7 a72_8 a72_9 a72_10 a72_11 a72_17 a72_18 a72_19 a72_21 a72_22 a72_29 R9.1 a72_35 a72_37 a72_38 a72_39 a72_40 a72_41 a72_44 a72_50), (86, o86 R9.2)]) := by
  refine eSem.of (k := 1) (L := [some (.ref 72), none]) (by decide +kernel) rfl rfl (fun X F hxl hq hcR hsR => ?_)
  subst hxl
  unfold fX12_keeps at hf
  refine r_aload_n F dX12_keeps_0 rfl ?_
  refine r_get F dX12_keeps_1 flX12_229 h72 rfl (e_le rfl) (e_lt hnx rfl) ?_
  refine r_bipush F dX12_keeps_4 (v := 20) (by decide) ?_
  obtain ⟨q1, hq2, hf⟩ := e_bd hf
  have Jq1 : eRun G X 52 [some (.ref 72), none] [] h [(72, o72 a72_0 a72_2 a72_3 a72_4 a72_5 a72_6 a72_7 a72_8 a72_9 a72_10 a72_11 a72_17 a72_18 a72_19 a72_21 a72_22 a72_29 q1.1 a72_35 a72_37 a72_38 a72_39 a72_40 a72_41 a72_44 a72_50), (86, o86 q1.2)] nx 0 0 := by
    refine r_iconst F dX12_keeps_52 (v := 0) (by decide) ?_
    refine r_istore_n F dX12_keeps_53 (e_le rfl) (L' := [some (.ref 72), some (.int 0)]) rfl ?_
    obtain ⟨x6, hx7, hf⟩ := e_bd hf
    refine (e_loop_ok (P := fun (v5 : Int32 × (Nat → Int32)) => eRun G X 54 [some (.ref 72), some (.int v5.1)] [] h [(72, o72 a72_0 a72_2 a72_3 a72_4 a72_5 a72_6 a72_7 a72_8 a72_9 a72_10 a72_11 a72_17 a72_18 a72_19 a72_21 a72_22 a72_29 q1.1 a72_35 a72_37 a72_38 a72_39 a72_40 a72_41 a72_44 a72_50), (86, o86 v5.2)] nx 0 0) (K := fun (x6 : (Nat → Int32)) => eRun G X 88 [some (.ref 72), none] [] h [(72, o72 a72_0 a72_2 a72_3 a72_4 a72_5 a72_6 a72_7 a72_8 a72_9 a72_10 a72_11 a72_17 a72_18 a72_19 a72_21 a72_22 a72_29 q1.1 a72_35 a72_37 a72_38 a72_39 a72_40 a72_41 a72_44 a72_50), (86, o86 x6)] nx 0 0) ?_ e_fuel (0, q1.2) x6 hx7 ?_ : _)
    · intro v5 z hz ih hx
      refine r_iload_n F dX12_keeps_54 rfl ?_
      refine r_sipush F dX12_keeps_55 (v := 486) (by decide) ?_
      refine r_icmp_ge F dX12_keeps_58 (tgt := 88) (by decide) (fun hc => ?_) (fun hc => ?_)
      · have hz := e_t hc hz
        refine r_drop 1 (L' := [some (.ref 72), none]) rfl ?_
        obtain rfl := Option.some.inj hz
        exact hx v5.2 rfl
      · have hz := e_f hc hz
        refine r_aload_n F dX12_keeps_61 rfl ?_
        refine r_get F dX12_keeps_62 flX12_49 rfl rfl (e_le rfl) (e_lt hnx rfl) ?_
        refine r_sipush F dX12_keeps_65 (v := 486) (by decide) ?_
        refine r_aload_n F dX12_keeps_68 rfl ?_
        refine r_get F dX12_keeps_69 flX12_229 rfl rfl (e_le rfl) (e_lt hnx rfl) ?_
        refine r_imul F dX12_keeps_72 ?_
        refine r_iload_n F dX12_keeps_73 rfl ?_
        refine r_iadd F dX12_keeps_74 ?_
        refine r_aload_n F dX12_keeps_75 rfl ?_
        refine r_get F dX12_keeps_76 flX12_28 rfl rfl (e_le rfl) (e_lt hnx rfl) ?_
        refine r_iload_n F dX12_keeps_79 rfl ?_
        obtain ⟨hg, hz⟩ := e_gd hz
        refine r_iald F dX12_keeps_80 (i := v5.1) h79 (e_le rfl) (e_lt hnx rfl) (e_vp hg) ?_
        obtain ⟨hg, hz⟩ := e_gd hz
        refine r_iast F dX12_keeps_81 rfl (e_le rfl) (e_lt hnx rfl) (e_vp hg) (l' := [(72, o72 a72_0 a72_2 a72_3 a72_4 a72_5 a72_6 a72_7 a72_8 a72_9 a72_10 a72_11 a72_17 a72_18 a72_19 a72_21 a72_22 a72_29 q1.1 a72_35 a72_37 a72_38 a72_39 a72_40 a72_41 a72_44 a72_50), (86, o86 (upd v5.2 (tn (((486 : Int32) * q1.1) + v5.1)) (A79 (tn v5.1))))]) rfl ?_
        refine r_inc F dX12_keeps_82 (k9 := 1) (by decide) rfl (L' := [some (.ref 72), some (.int (v5.1 + 1))]) rfl ?_
        refine r_goto F dX12_keeps_85 (tgt := 54) (by decide) ?_
        obtain rfl := Option.some.inj hz
        exact ih (v5.1 + 1, upd v5.2 (tn (((486 : Int32) * q1.1) + v5.1)) (A79 (tn v5.1))) rfl
    · show eRun G X 88 [some (.ref 72), none] [] h [(72, o72 a72_0 a72_2 a72_3 a72_4 a72_5 a72_6 a72_7 a72_8 a72_9 a72_10 a72_11 a72_17 a72_18 a72_19 a72_21 a72_22 a72_29 q1.1 a72_35 a72_37 a72_38 a72_39 a72_40 a72_41 a72_44 a72_50), (86, o86 x6)] nx 0 0
      refine r_aload_n F dX12_keeps_88 rfl ?_
      refine r_dup F dX12_keeps_89 rfl ?_
      refine r_get F dX12_keeps_90 flX12_229 rfl rfl (e_le rfl) (e_lt hnx rfl) ?_
      refine r_iconst F dX12_keeps_93 (v := 1) (by decide) ?_
      refine r_iadd F dX12_keeps_94 ?_
      refine r_put F dX12_keeps_95 flX12_229 rfl rfl rfl rfl (e_le rfl) (e_le rfl) (e_lt hnx rfl) (l' := [(72, o72 a72_0 a72_2 a72_3 a72_4 a72_5 a72_6 a72_7 a72_8 a72_9 a72_10 a72_11 a72_17 a72_18 a72_19 a72_21 a72_22 a72_29 (q1.1 + 1) a72_35 a72_37 a72_38 a72_39 a72_40 a72_41 a72_44 a72_50), (86, o86 x6)]) rfl ?_
      obtain rfl := Option.some.inj hf
      exact r_vret F hq dX12_keeps_98 rfl rfl (Nat.le_refl _) (Nat.le_refl _) ⟨rfl, rfl⟩
  refine r_icmp_ne F dX12_keeps_6 (tgt := 52) (by decide) (fun hc => ?_) (fun hc => ?_)
  · have hq2 := e_f hc hq2
    refine r_mat (k := 72) h72 (l' := [(72, o72 a72_0 a72_2 a72_3 a72_4 a72_5 a72_6 a72_7 a72_8 a72_9 a72_10 a72_11 a72_17 a72_18 a72_19 a72_21 a72_22 a72_29 a72_31 a72_35 a72_37 a72_38 a72_39 a72_40 a72_41 a72_44 a72_50)]) rfl ?_
    refine r_mat (k := 86) h86 (l' := [(72, o72 a72_0 a72_2 a72_3 a72_4 a72_5 a72_6 a72_7 a72_8 a72_9 a72_10 a72_11 a72_17 a72_18 a72_19 a72_21 a72_22 a72_29 a72_31 a72_35 a72_37 a72_38 a72_39 a72_40 a72_41 a72_44 a72_50), (86, o86 A86)]) rfl ?_
    obtain rfl := Option.some.inj hq2
    exact Jq1
  · have hq2 := e_t hc hq2
    refine r_sipush F dX12_keeps_9 (v := 486) (by decide) ?_
    refine r_istore_n F dX12_keeps_12 (e_le rfl) (L' := [some (.ref 72), some (.int 486)]) rfl ?_
    refine r_mat (k := 86) h86 (l' := [(86, o86 A86)]) rfl ?_
    obtain ⟨x11, hx12, hq2⟩ := e_bd hq2
    refine (e_loop_ok (P := fun (v10 : Int32 × (Nat → Int32)) => eRun G X 13 [some (.ref 72), some (.int v10.1)] [] h [(86, o86 v10.2)] nx 0 0) (K := fun (x11 : (Nat → Int32)) => eRun G X 42 [some (.ref 72), none] [] h [(86, o86 x11)] nx 0 0) ?_ e_fuel (486, A86) x11 hx12 ?_ : _)
    · intro v10 z hz ih hx
      refine r_iload_n F dX12_keeps_13 rfl ?_
      refine r_sipush F dX12_keeps_14 (v := 9720) (by decide) ?_
      refine r_icmp_ge F dX12_keeps_17 (tgt := 42) (by decide) (fun hc => ?_) (fun hc => ?_)
      · have hz := e_t hc hz
        refine r_drop 1 (L' := [some (.ref 72), none]) rfl ?_
        obtain rfl := Option.some.inj hz
        exact hx v10.2 rfl
      · have hz := e_f hc hz
        refine r_aload_n F dX12_keeps_20 rfl ?_
        refine r_get F dX12_keeps_21 flX12_49 h72 rfl (e_le rfl) (e_lt hnx rfl) ?_
        refine r_iload_n F dX12_keeps_24 rfl ?_
        refine r_sipush F dX12_keeps_25 (v := 486) (by decide) ?_
        refine r_isub F dX12_keeps_28 ?_
        refine r_aload_n F dX12_keeps_29 rfl ?_
        refine r_get F dX12_keeps_30 flX12_49 h72 rfl (e_le rfl) (e_lt hnx rfl) ?_
        refine r_iload_n F dX12_keeps_33 rfl ?_
        obtain ⟨hg, hz⟩ := e_gd hz
        refine r_iald F dX12_keeps_34 (i := v10.1) rfl (e_le rfl) (e_lt hnx rfl) (e_vp hg) ?_
        obtain ⟨hg, hz⟩ := e_gd hz
        refine r_iast F dX12_keeps_35 rfl (e_le rfl) (e_lt hnx rfl) (e_vp hg) (l' := [(86, o86 (upd v10.2 (tn (v10.1 - 486)) (v10.2 (tn v10.1))))]) rfl ?_
        refine r_inc F dX12_keeps_36 (k9 := 1) (by decide) rfl (L' := [some (.ref 72), some (.int (v10.1 + 1))]) rfl ?_
        refine r_goto F dX12_keeps_39 (tgt := 13) (by decide) ?_
        obtain rfl := Option.some.inj hz
        exact ih (v10.1 + 1, upd v10.2 (tn (v10.1 - 486)) (v10.2 (tn v10.1))) rfl
    · show eRun G X 42 [some (.ref 72), none] [] h [(86, o86 x11)] nx 0 0
      refine r_aload_n F dX12_keeps_42 rfl ?_
      refine r_dup F dX12_keeps_43 rfl ?_
      refine r_get F dX12_keeps_44 flX12_229 h72 rfl (e_le rfl) (e_lt hnx rfl) ?_
      refine r_iconst F dX12_keeps_47 (v := 1) (by decide) ?_
      refine r_isub F dX12_keeps_48 ?_
      refine r_put F dX12_keeps_49 flX12_229 rfl rfl rfl h72 (e_le rfl) (e_le rfl) (e_lt hnx rfl) (l' := [(72, o72 a72_0 a72_2 a72_3 a72_4 a72_5 a72_6 a72_7 a72_8 a72_9 a72_10 a72_11 a72_17 a72_18 a72_19 a72_21 a72_22 a72_29 (a72_31 - 1) a72_35 a72_37 a72_38 a72_39 a72_40 a72_41 a72_44 a72_50), (86, o86 x11)]) rfl ?_
      obtain rfl := Option.some.inj hq2
      exact Jq1

def fX12_logs (a72_21 : Int32) (a72_22 : Int32) (A79 : Nat → Int32) (p0 : Int32) (p1 : Int32) (p2 : Int32) : Option ((Nat → Int32)) :=
  Option.bind (α := (Nat → Int32)) (
    if (A79 (tn 324)) = 40 then
      (e_loop (fun (v7 : Int32 × (Nat → Int32)) => (
          if 160 ≤ v7.1 then
            some (.inr v7.2)
          else
            e_g (e_in ((326 : Int32) + v7.1) 486) (
            e_g (e_in (((326 : Int32) + v7.1) - 4) 486) (
            some (.inl (v7.1 + 1, upd v7.2 (tn (((326 : Int32) + v7.1) - 4)) (v7.2 (tn ((326 : Int32) + v7.1))))))) : Option ((Int32 × (Nat → Int32)) ⊕ ((Nat → Int32))))) e_fuel (4, A79)).bind (fun x8 =>
      some (upd x8 (tn 324) ((x8 (tn 324)) - 1)))
    else
      some A79) (fun q1 =>
  e_g (e_in ((326 : Int32) + ((4 : Int32) * (q1 (tn 324)))) 486) (
  e_g (e_in (((326 : Int32) + ((4 : Int32) * (q1 (tn 324)))) + 1) 486) (
  e_g (e_in (((326 : Int32) + ((4 : Int32) * (q1 (tn 324)))) + 2) 486) (
  (fX12_coresIn (upd (upd (upd q1 (tn ((326 : Int32) + ((4 : Int32) * (q1 (tn 324))))) p0) (tn (((326 : Int32) + ((4 : Int32) * (q1 (tn 324)))) + 1)) p1) (tn (((326 : Int32) + ((4 : Int32) * (q1 (tn 324)))) + 2)) p2) 0 0 (a72_21 - 1) (a72_22 - 1)).bind (fun q3 =>
  e_g (e_in (((326 : Int32) + ((4 : Int32) * (q1 (tn 324)))) + 3) 486) (
  some (upd (upd (upd (upd (upd q1 (tn ((326 : Int32) + ((4 : Int32) * (q1 (tn 324))))) p0) (tn (((326 : Int32) + ((4 : Int32) * (q1 (tn 324)))) + 1)) p1) (tn (((326 : Int32) + ((4 : Int32) * (q1 (tn 324)))) + 2)) p2) (tn (((326 : Int32) + ((4 : Int32) * (q1 (tn 324)))) + 3)) q3) (tn 324) (((upd (upd (upd (upd q1 (tn ((326 : Int32) + ((4 : Int32) * (q1 (tn 324))))) p0) (tn (((326 : Int32) + ((4 : Int32) * (q1 (tn 324)))) + 1)) p1) (tn (((326 : Int32) + ((4 : Int32) * (q1 (tn 324)))) + 2)) p2) (tn (((326 : Int32) + ((4 : Int32) * (q1 (tn 324)))) + 3)) q3) (tn 324)) + 1))))))))
set_option maxRecDepth 100000 in
theorem tX12_logs_72 {G : eG} (hG : e_GS G) {la : Launch} {h : Nat → eO} {nx : Nat} (hnx : 99 ≤ nx) {a72_0 : Int32} {a72_2 : Int32} {a72_3 : Int32} {a72_4 : Int32} {a72_5 : Int32} {a72_6 : Int32} {a72_7 : Int32} {a72_8 : Bool} {a72_9 : Int32} {a72_10 : Int32} {a72_11 : Int32} {a72_17 : Bool} {a72_18 : Bool} {a72_19 : Bool} {a72_21 : Int32} {a72_22 : Int32} {a72_29 : Int32} {a72_31 : Int32} {a72_35 : Int32} {a72_37 : Bool} {a72_38 : Int32} {a72_39 : Int32} {a72_40 : Int32} {a72_41 : Int64} {a72_44 : Int32} {a72_50 : Bool} {A79 : Nat → Int32} {p0 : Int32} {p1 : Int32} {p2 : Int32} (h72 : h 72 = o72 a72_0 a72_2 a72_3 a72_4 a72_5 a72_6 a72_7 a72_8 a72_9 a72_10 a72_11 a72_17 a72_18 a72_19 a72_21 a72_22 a72_29 a72_31 a72_35 a72_37 a72_38 a72_39 a72_40 a72_41 a72_44 a72_50) (h79 : h 79 = o79 A79) {R9 : (Nat → Int32)} (hf : fX12_logs a72_21 a72_22 A79 p0 p1 p2 = some R9) :
    eSem G la MX12_logs [.ref 72, .int p0, .int p1, .int p2] h nx 0 0 (fun r9 h9 => r9 = none ∧ h9 = e_up h [(79, o79 R9)]) := by
  refine eSem.of (k := 1) (L := [some (.ref 72), some (.int p0), some (.int p1), some (.int p2), none]) (by decide +kernel) rfl rfl (fun X F hxl hq hcR hsR => ?_)
  subst hxl
  unfold fX12_logs at hf
  refine r_aload_n F dX12_logs_0 rfl ?_
  refine r_get F dX12_logs_1 flX12_28 h72 rfl (e_le rfl) (e_lt hnx rfl) ?_
  refine r_sipush F dX12_logs_4 (v := 324) (by decide) ?_
  refine r_iald F dX12_logs_7 (i := 324) h79 (e_le rfl) (e_lt hnx rfl) (e_vp (by decide)) ?_
  refine r_bipush F dX12_logs_8 (v := 40) (by decide) ?_
  obtain ⟨q1, hq2, hf⟩ := e_bd hf
  have Jq1 : eRun G X 66 [some (.ref 72), some (.int p0), some (.int p1), some (.int p2), none] [] h [(79, o79 q1)] nx 0 0 := by
    refine r_sipush F dX12_logs_66 (v := 326) (by decide) ?_
    refine r_iconst F dX12_logs_69 (v := 4) (by decide) ?_
    refine r_aload_n F dX12_logs_70 rfl ?_
    refine r_get F dX12_logs_71 flX12_28 h72 rfl (e_le rfl) (e_lt hnx rfl) ?_
    refine r_sipush F dX12_logs_74 (v := 324) (by decide) ?_
    refine r_iald F dX12_logs_77 (i := 324) rfl (e_le rfl) (e_lt hnx rfl) (e_vp (by decide)) ?_
    refine r_imul F dX12_logs_78 ?_
    refine r_iadd F dX12_logs_79 ?_
    refine r_istore F dX12_logs_80 (e_le rfl) (L' := [some (.ref 72), some (.int p0), some (.int p1), some (.int p2), some (.int ((326 : Int32) + ((4 : Int32) * (q1 (tn 324)))))]) rfl ?_
    refine r_aload_n F dX12_logs_82 rfl ?_
    refine r_get F dX12_logs_83 flX12_28 h72 rfl (e_le rfl) (e_lt hnx rfl) ?_
    refine r_iload F dX12_logs_86 rfl ?_
    refine r_iload_n F dX12_logs_88 rfl ?_
    obtain ⟨hg, hf⟩ := e_gd hf
    refine r_iast F dX12_logs_89 rfl (e_le rfl) (e_lt hnx rfl) (e_vp hg) (l' := [(79, o79 (upd q1 (tn ((326 : Int32) + ((4 : Int32) * (q1 (tn 324))))) p0))]) rfl ?_
    refine r_aload_n F dX12_logs_90 rfl ?_
    refine r_get F dX12_logs_91 flX12_28 h72 rfl (e_le rfl) (e_lt hnx rfl) ?_
    refine r_iload F dX12_logs_94 rfl ?_
    refine r_iconst F dX12_logs_96 (v := 1) (by decide) ?_
    refine r_iadd F dX12_logs_97 ?_
    refine r_iload_n F dX12_logs_98 rfl ?_
    obtain ⟨hg, hf⟩ := e_gd hf
    refine r_iast F dX12_logs_99 rfl (e_le rfl) (e_lt hnx rfl) (e_vp hg) (l' := [(79, o79 (upd (upd q1 (tn ((326 : Int32) + ((4 : Int32) * (q1 (tn 324))))) p0) (tn (((326 : Int32) + ((4 : Int32) * (q1 (tn 324)))) + 1)) p1))]) rfl ?_
    refine r_aload_n F dX12_logs_100 rfl ?_
    refine r_get F dX12_logs_101 flX12_28 h72 rfl (e_le rfl) (e_lt hnx rfl) ?_
    refine r_iload F dX12_logs_104 rfl ?_
    refine r_iconst F dX12_logs_106 (v := 2) (by decide) ?_
    refine r_iadd F dX12_logs_107 ?_
    refine r_iload_n F dX12_logs_108 rfl ?_
    obtain ⟨hg, hf⟩ := e_gd hf
    refine r_iast F dX12_logs_109 rfl (e_le rfl) (e_lt hnx rfl) (e_vp hg) (l' := [(79, o79 (upd (upd (upd q1 (tn ((326 : Int32) + ((4 : Int32) * (q1 (tn 324))))) p0) (tn (((326 : Int32) + ((4 : Int32) * (q1 (tn 324)))) + 1)) p1) (tn (((326 : Int32) + ((4 : Int32) * (q1 (tn 324)))) + 2)) p2))]) rfl ?_
    refine r_aload_n F dX12_logs_110 rfl ?_
    refine r_get F dX12_logs_111 flX12_28 h72 rfl (e_le rfl) (e_lt hnx rfl) ?_
    refine r_iload F dX12_logs_114 rfl ?_
    refine r_iconst F dX12_logs_116 (v := 3) (by decide) ?_
    refine r_iadd F dX12_logs_117 ?_
    refine r_aload_n F dX12_logs_118 rfl ?_
    refine r_iconst F dX12_logs_119 (v := 0) (by decide) ?_
    refine r_iconst F dX12_logs_120 (v := 0) (by decide) ?_
    refine r_aload_n F dX12_logs_121 rfl ?_
    refine r_get F dX12_logs_122 flX12_205 h72 rfl (e_le rfl) (e_lt hnx rfl) ?_
    refine r_iconst F dX12_logs_125 (v := 1) (by decide) ?_
    refine r_isub F dX12_logs_126 ?_
    refine r_aload_n F dX12_logs_127 rfl ?_
    refine r_get F dX12_logs_128 flX12_208 h72 rfl (e_le rfl) (e_lt hnx rfl) ?_
    refine r_iconst F dX12_logs_131 (v := 1) (by decide) ?_
    refine r_isub F dX12_logs_132 ?_
    obtain ⟨q3, hq4, hf⟩ := e_bd hf
    refine r_callV F dX12_logs_133 (b := 72) (dc := 0) (ds := 0) (As := [.int 0, .int 0, .int (a72_21 - 1), .int (a72_22 - 1)]) (S0 := [.int (((326 : Int32) + ((4 : Int32) * (q1 (tn 324)))) + 3), .ref 79]) lkX12_334 mX12_coresIn (tX12_coresIn_72 hG (la := x_l X) (h := e_up h [(79, o79 (upd (upd (upd q1 (tn ((326 : Int32) + ((4 : Int32) * (q1 (tn 324))))) p0) (tn (((326 : Int32) + ((4 : Int32) * (q1 (tn 324)))) + 1)) p1) (tn (((326 : Int32) + ((4 : Int32) * (q1 (tn 324)))) + 2)) p2))]) hnx h72 rfl hq4) rfl rfl rfl (e_le rfl) (e_le rfl) (e_le rfl) h72 (ci := 12) e_cl12.1 rfl (e_le rfl) (e_lt hnx rfl) (Nat.zero_le _) (Nat.zero_le _) (e_k ?_)
    refine r_wr0 ?_
    obtain ⟨hg, hf⟩ := e_gd hf
    refine r_iast F dX12_logs_136 rfl (e_le rfl) (e_lt hnx rfl) (e_vp hg) (l' := [(79, o79 (upd (upd (upd (upd q1 (tn ((326 : Int32) + ((4 : Int32) * (q1 (tn 324))))) p0) (tn (((326 : Int32) + ((4 : Int32) * (q1 (tn 324)))) + 1)) p1) (tn (((326 : Int32) + ((4 : Int32) * (q1 (tn 324)))) + 2)) p2) (tn (((326 : Int32) + ((4 : Int32) * (q1 (tn 324)))) + 3)) q3))]) rfl ?_
    refine r_aload_n F dX12_logs_137 rfl ?_
    refine r_get F dX12_logs_138 flX12_28 h72 rfl (e_le rfl) (e_lt hnx rfl) ?_
    refine r_sipush F dX12_logs_141 (v := 324) (by decide) ?_
    refine r_dup2 F dX12_logs_144 rfl rfl ?_
    refine r_iald F dX12_logs_145 (i := 324) rfl (e_le rfl) (e_lt hnx rfl) (e_vp (by decide)) ?_
    refine r_iconst F dX12_logs_146 (v := 1) (by decide) ?_
    refine r_iadd F dX12_logs_147 ?_
    refine r_iast F dX12_logs_148 rfl (e_le rfl) (e_lt hnx rfl) (e_vp (by decide)) (l' := [(79, o79 (upd (upd (upd (upd (upd q1 (tn ((326 : Int32) + ((4 : Int32) * (q1 (tn 324))))) p0) (tn (((326 : Int32) + ((4 : Int32) * (q1 (tn 324)))) + 1)) p1) (tn (((326 : Int32) + ((4 : Int32) * (q1 (tn 324)))) + 2)) p2) (tn (((326 : Int32) + ((4 : Int32) * (q1 (tn 324)))) + 3)) q3) (tn 324) (((upd (upd (upd (upd q1 (tn ((326 : Int32) + ((4 : Int32) * (q1 (tn 324))))) p0) (tn (((326 : Int32) + ((4 : Int32) * (q1 (tn 324)))) + 1)) p1) (tn (((326 : Int32) + ((4 : Int32) * (q1 (tn 324)))) + 2)) p2) (tn (((326 : Int32) + ((4 : Int32) * (q1 (tn 324)))) + 3)) q3) (tn 324)) + 1)))]) rfl ?_
    obtain rfl := Option.some.inj hf
    exact r_vret F hq dX12_logs_149 rfl rfl (Nat.le_refl _) (Nat.le_refl _) ⟨rfl, rfl⟩
  refine r_icmp_ne F dX12_logs_10 (tgt := 66) (by decide) (fun hc => ?_) (fun hc => ?_)
  · have hq2 := e_f hc hq2
    refine r_mat (k := 79) h79 (l' := [(79, o79 A79)]) rfl ?_
    obtain rfl := Option.some.inj hq2
    exact Jq1
  · have hq2 := e_t hc hq2
    refine r_iconst F dX12_logs_13 (v := 4) (by decide) ?_
    refine r_istore F dX12_logs_14 (e_le rfl) (L' := [some (.ref 72), some (.int p0), some (.int p1), some (.int p2), some (.int 4)]) rfl ?_
    refine r_mat (k := 79) h79 (l' := [(79, o79 A79)]) rfl ?_
    obtain ⟨x8, hx9, hq2⟩ := e_bd hq2
    refine (e_loop_ok (P := fun (v7 : Int32 × (Nat → Int32)) => eRun G X 16 [some (.ref 72), some (.int p0), some (.int p1), some (.int p2), some (.int v7.1)] [] h [(79, o79 v7.2)] nx 0 0) (K := fun (x8 : (Nat → Int32)) => eRun G X 54 [some (.ref 72), some (.int p0), some (.int p1), some (.int p2), none] [] h [(79, o79 x8)] nx 0 0) ?_ e_fuel (4, A79) x8 hx9 ?_ : _)
    · intro v7 z hz ih hx
      refine r_iload F dX12_logs_16 rfl ?_
      refine r_sipush F dX12_logs_18 (v := 160) (by decide) ?_
      refine r_icmp_ge F dX12_logs_21 (tgt := 54) (by decide) (fun hc => ?_) (fun hc => ?_)
      · have hz := e_t hc hz
        refine r_drop 4 (L' := [some (.ref 72), some (.int p0), some (.int p1), some (.int p2), none]) rfl ?_
        obtain rfl := Option.some.inj hz
        exact hx v7.2 rfl
      · have hz := e_f hc hz
        refine r_aload_n F dX12_logs_24 rfl ?_
        refine r_get F dX12_logs_25 flX12_28 h72 rfl (e_le rfl) (e_lt hnx rfl) ?_
        refine r_sipush F dX12_logs_28 (v := 326) (by decide) ?_
        refine r_iload F dX12_logs_31 rfl ?_
        refine r_iadd F dX12_logs_33 ?_
        refine r_iconst F dX12_logs_34 (v := 4) (by decide) ?_
        refine r_isub F dX12_logs_35 ?_
        refine r_aload_n F dX12_logs_36 rfl ?_
        refine r_get F dX12_logs_37 flX12_28 h72 rfl (e_le rfl) (e_lt hnx rfl) ?_
        refine r_sipush F dX12_logs_40 (v := 326) (by decide) ?_
        refine r_iload F dX12_logs_43 rfl ?_
        refine r_iadd F dX12_logs_45 ?_
        obtain ⟨hg, hz⟩ := e_gd hz
        refine r_iald F dX12_logs_46 (i := ((326 : Int32) + v7.1)) rfl (e_le rfl) (e_lt hnx rfl) (e_vp hg) ?_
        obtain ⟨hg, hz⟩ := e_gd hz
        refine r_iast F dX12_logs_47 rfl (e_le rfl) (e_lt hnx rfl) (e_vp hg) (l' := [(79, o79 (upd v7.2 (tn (((326 : Int32) + v7.1) - 4)) (v7.2 (tn ((326 : Int32) + v7.1)))))]) rfl ?_
        refine r_inc F dX12_logs_48 (k9 := 1) (by decide) rfl (L' := [some (.ref 72), some (.int p0), some (.int p1), some (.int p2), some (.int (v7.1 + 1))]) rfl ?_
        refine r_goto F dX12_logs_51 (tgt := 16) (by decide) ?_
        obtain rfl := Option.some.inj hz
        exact ih (v7.1 + 1, upd v7.2 (tn (((326 : Int32) + v7.1) - 4)) (v7.2 (tn ((326 : Int32) + v7.1)))) rfl
    · show eRun G X 54 [some (.ref 72), some (.int p0), some (.int p1), some (.int p2), none] [] h [(79, o79 x8)] nx 0 0
      refine r_aload_n F dX12_logs_54 rfl ?_
      refine r_get F dX12_logs_55 flX12_28 h72 rfl (e_le rfl) (e_lt hnx rfl) ?_
      refine r_sipush F dX12_logs_58 (v := 324) (by decide) ?_
      refine r_dup2 F dX12_logs_61 rfl rfl ?_
      refine r_iald F dX12_logs_62 (i := 324) rfl (e_le rfl) (e_lt hnx rfl) (e_vp (by decide)) ?_
      refine r_iconst F dX12_logs_63 (v := 1) (by decide) ?_
      refine r_isub F dX12_logs_64 ?_
      refine r_iast F dX12_logs_65 rfl (e_le rfl) (e_lt hnx rfl) (e_vp (by decide)) (l' := [(79, o79 (upd x8 (tn 324) ((x8 (tn 324)) - 1)))]) rfl ?_
      obtain rfl := Option.some.inj hq2
      exact Jq1

def fX12_refuses (A87 : Nat → Int32) (p0 : Int32) : Option (Int32 × (Nat → Int32)) :=
  e_g (e_in p0 4) (
  e_g (e_in p0 4) (
  some ((-1), upd A87 (tn p0) ((A87 (tn p0)) + 1))))
set_option maxRecDepth 100000 in
theorem tX12_refuses_72 {G : eG} (hG : e_GS G) {la : Launch} {h : Nat → eO} {nx : Nat} (hnx : 99 ≤ nx) {a72_0 : Int32} {a72_2 : Int32} {a72_3 : Int32} {a72_4 : Int32} {a72_5 : Int32} {a72_6 : Int32} {a72_7 : Int32} {a72_8 : Bool} {a72_9 : Int32} {a72_10 : Int32} {a72_11 : Int32} {a72_17 : Bool} {a72_18 : Bool} {a72_19 : Bool} {a72_21 : Int32} {a72_22 : Int32} {a72_29 : Int32} {a72_31 : Int32} {a72_35 : Int32} {a72_37 : Bool} {a72_38 : Int32} {a72_39 : Int32} {a72_40 : Int32} {a72_41 : Int64} {a72_44 : Int32} {a72_50 : Bool} {A87 : Nat → Int32} {p0 : Int32} (h72 : h 72 = o72 a72_0 a72_2 a72_3 a72_4 a72_5 a72_6 a72_7 a72_8 a72_9 a72_10 a72_11 a72_17 a72_18 a72_19 a72_21 a72_22 a72_29 a72_31 a72_35 a72_37 a72_38 a72_39 a72_40 a72_41 a72_44 a72_50) (h87 : h 87 = o87 A87) {R9 : Int32 × (Nat → Int32)} (hf : fX12_refuses A87 p0 = some R9) :
    eSem G la MX12_refuses [.ref 72, .int p0] h nx 0 0 (fun r9 h9 => r9 = some (.int R9.1) ∧ h9 = e_up h [(87, o87 R9.2)]) := by
  refine eSem.of (k := 0) (L := [some (.ref 72), some (.int p0)]) (by decide +kernel) rfl rfl (fun X F hxl hq hcR hsR => ?_)
  subst hxl
  unfold fX12_refuses at hf
  refine r_aload_n F dX12_refuses_0 rfl ?_
  refine r_get F dX12_refuses_1 flX12_52 h72 rfl (e_le rfl) (e_lt hnx rfl) ?_
  refine r_iload_n F dX12_refuses_4 rfl ?_
  refine r_dup2 F dX12_refuses_5 rfl rfl ?_
  obtain ⟨hg, hf⟩ := e_gd hf
  refine r_iald F dX12_refuses_6 (i := p0) h87 (e_le rfl) (e_lt hnx rfl) (e_vp hg) ?_
  refine r_iconst F dX12_refuses_7 (v := 1) (by decide) ?_
  refine r_iadd F dX12_refuses_8 ?_
  obtain ⟨hg, hf⟩ := e_gd hf
  refine r_iast F dX12_refuses_9 h87 (e_le rfl) (e_lt hnx rfl) (e_vp hg) (l' := [(87, o87 (upd A87 (tn p0) ((A87 (tn p0)) + 1)))]) rfl ?_
  refine r_iconst F dX12_refuses_10 (v := (-1)) (by decide) ?_
  obtain rfl := Option.some.inj hf
  exact r_iret F hq dX12_refuses_11 rfl rfl (Nat.le_refl _) (Nat.le_refl _) ⟨rfl, rfl⟩

def fX12_go (a72_0 : Int32) (a72_21 : Int32) (a72_22 : Int32) (a72_29 : Int32) (a72_31 : Int32) (a72_38 : Int32) (a72_39 : Int32) (a72_40 : Int32) (A79 : Nat → Int32) (A80 : Nat → Int32) (A81 : Nat → Int32) (A82 : Nat → Int32) (A83 : Nat → Int32) (A84 : Nat → Int32) (A85 : Nat → Int32) (A86 : Nat → Int32) (A87 : Nat → Int32) (p0 : Int32) : Option (Int32 × Int32 × Int32 × Int32 × Int32 × Int32 × Int32 × (Nat → Int32) × (Nat → Int32) × (Nat → Int32) × (Nat → Int32) × (Nat → Int32) × (Nat → Int32) × (Nat → Int32) × (Nat → Int32)) :=
  (fX12_isCrystal a72_21).bind (fun q1 =>
  if q1 = true then
    (fX12_in (Int32.toInt64 p0) 1 40).bind (fun q3 =>
    if q3 = true then
      (e_loop (fun (v7 : Int32 × Int32 × Int32 × Int32 × Int32 × Int32 × Int32 × (Nat → Int32) × (Nat → Int32) × (Nat → Int32) × (Nat → Int32) × (Nat → Int32) × (Nat → Int32) × (Nat → Int32)) => (
          if p0 ≤ v7.2.1 then
            some (.inr (v7.1, v7.2.2.1, v7.2.2.2.1, v7.2.2.2.2.1, v7.2.2.2.2.2.1, v7.2.2.2.2.2.2.1, v7.2.2.2.2.2.2.2.1, v7.2.2.2.2.2.2.2.2.1, v7.2.2.2.2.2.2.2.2.2.1, v7.2.2.2.2.2.2.2.2.2.2.1, v7.2.2.2.2.2.2.2.2.2.2.2.1, v7.2.2.2.2.2.2.2.2.2.2.2.2.1, v7.2.2.2.2.2.2.2.2.2.2.2.2.2))
          else
            (fX12_keeps v7.2.2.2.1 v7.2.2.2.2.2.2.2.1 v7.2.2.2.2.2.2.2.2.2.2.2.2.2).bind (fun q10 =>
            (fX12_counts v7.2.2.2.2.1 v7.2.2.2.2.2.1 v7.2.2.2.2.2.2.1).bind (fun q12 =>
            (fX12_round a72_21 a72_22 v7.2.2.1 q12.1 q12.2.1 q12.2.2 v7.2.2.2.2.2.2.2.1 A80 v7.2.2.2.2.2.2.2.2.1 v7.2.2.2.2.2.2.2.2.2.1 v7.2.2.2.2.2.2.2.2.2.2.1 v7.2.2.2.2.2.2.2.2.2.2.2.1 v7.2.2.2.2.2.2.2.2.2.2.2.2.1).bind (fun q14 =>
            (fX12_logs a72_21 a72_22 q14.2.2.2.2.1 q14.2.1 q14.2.2.1 q14.2.2.2.1).bind (fun q16 =>
            some (.inl (v7.1 + q14.2.1, v7.2.1 + 1, q14.1, q10.1, q14.2.1, q14.2.2.1, q14.2.2.2.1, q16, q14.2.2.2.2.2.1, q14.2.2.2.2.2.2.1, q14.2.2.2.2.2.2.2.1, q14.2.2.2.2.2.2.2.2.1, q14.2.2.2.2.2.2.2.2.2, q10.2)))))) : Option ((Int32 × Int32 × Int32 × Int32 × Int32 × Int32 × Int32 × (Nat → Int32) × (Nat → Int32) × (Nat → Int32) × (Nat → Int32) × (Nat → Int32) × (Nat → Int32) × (Nat → Int32)) ⊕ (Int32 × Int32 × Int32 × Int32 × Int32 × Int32 × (Nat → Int32) × (Nat → Int32) × (Nat → Int32) × (Nat → Int32) × (Nat → Int32) × (Nat → Int32) × (Nat → Int32))))) e_fuel (0, 0, a72_29, a72_31, a72_38, a72_39, a72_40, A79, A81, A82, A83, A84, A85, A86)).bind (fun x8 =>
      some (x8.1, 0, x8.2.1, x8.2.2.1, x8.2.2.2.1, x8.2.2.2.2.1, x8.2.2.2.2.2.1, x8.2.2.2.2.2.2.1, x8.2.2.2.2.2.2.2.1, x8.2.2.2.2.2.2.2.2.1, x8.2.2.2.2.2.2.2.2.2.1, x8.2.2.2.2.2.2.2.2.2.2.1, x8.2.2.2.2.2.2.2.2.2.2.2.1, x8.2.2.2.2.2.2.2.2.2.2.2.2, A87))
    else
      (fX12_refuses A87 2).bind (fun q18 =>
      some (q18.1, 0, a72_29, a72_31, a72_38, a72_39, a72_40, A79, A81, A82, A83, A84, A85, A86, q18.2)))
  else
    (fX12_refuses A87 0).bind (fun q20 =>
    some (q20.1, 0, a72_29, a72_31, a72_38, a72_39, a72_40, A79, A81, A82, A83, A84, A85, A86, q20.2)))
set_option maxRecDepth 100000 in
theorem tX12_go_72 {G : eG} (hG : e_GS G) {la : Launch} {h : Nat → eO} {nx : Nat} (hnx : 99 ≤ nx) {a72_0 : Int32} {a72_2 : Int32} {a72_3 : Int32} {a72_4 : Int32} {a72_5 : Int32} {a72_6 : Int32} {a72_7 : Int32} {a72_8 : Bool} {a72_9 : Int32} {a72_10 : Int32} {a72_11 : Int32} {a72_17 : Bool} {a72_18 : Bool} {a72_19 : Bool} {a72_21 : Int32} {a72_22 : Int32} {a72_29 : Int32} {a72_31 : Int32} {a72_35 : Int32} {a72_37 : Bool} {a72_38 : Int32} {a72_39 : Int32} {a72_40 : Int32} {a72_41 : Int64} {a72_44 : Int32} {a72_50 : Bool} {A79 : Nat → Int32} {A80 : Nat → Int32} {A81 : Nat → Int32} {A82 : Nat → Int32} {A83 : Nat → Int32} {A84 : Nat → Int32} {A85 : Nat → Int32} {A86 : Nat → Int32} {A87 : Nat → Int32} {p0 : Int32} (h72 : h 72 = o72 a72_0 a72_2 a72_3 a72_4 a72_5 a72_6 a72_7 a72_8 a72_9 a72_10 a72_11 a72_17 a72_18 a72_19 a72_21 a72_22 a72_29 a72_31 a72_35 a72_37 a72_38 a72_39 a72_40 a72_41 a72_44 a72_50) (h79 : h 79 = o79 A79) (h80 : h 80 = o80 A80) (h81 : h 81 = o81 A81) (h82 : h 82 = o82 A82) (h83 : h 83 = o83 A83) (h84 : h 84 = o84 A84) (h85 : h 85 = o85 A85) (h86 : h 86 = o86 A86) (h87 : h 87 = o87 A87) {R9 : Int32 × Int32 × Int32 × Int32 × Int32 × Int32 × Int32 × (Nat → Int32) × (Nat → Int32) × (Nat → Int32) × (Nat → Int32) × (Nat → Int32) × (Nat → Int32) × (Nat → Int32) × (Nat → Int32)} (hf : fX12_go a72_0 a72_21 a72_22 a72_29 a72_31 a72_38 a72_39 a72_40 A79 A80 A81 A82 A83 A84 A85 A86 A87 p0 = some R9) :
    eSem G la MX12_go [.ref 72, .int p0] h nx 0 0 (fun r9 h9 => r9 = some (.int R9.1) ∧ h9 = e_up h [(72, o72 R9.2.1 a72_2 a72_3 a72_4 a72_5 a72_6 a72_7 a72_8 a72_9 a72_10 a72_11 a72_17 a72_18 a72_19 a72_21 a72_22 R9.2.2.1 R9.2.2.2.1 a72_35 a72_37 R9.2.2.2.2.1 R9.2.2.2.2.2.1 R9.2.2.2.2.2.2.1 a72_41 a72_44 a72_50), (79, o79 R9.2.2.2.2.2.2.2.1), (81, o81 R9.2.2.2.2.2.2.2.2.1), (82, o82 R9.2.2.2.2.2.2.2.2.2.1), (83, o83 R9.2.2.2.2.2.2.2.2.2.2.1), (84, o84 R9.2.2.2.2.2.2.2.2.2.2.2.1), (85, o85 R9.2.2.2.2.2.2.2.2.2.2.2.2.1), (86, o86 R9.2.2.2.2.2.2.2.2.2.2.2.2.2.1), (87, o87 R9.2.2.2.2.2.2.2.2.2.2.2.2.2.2)]) := by
  refine eSem.of (k := 2) (L := [some (.ref 72), some (.int p0), none, none]) (by decide +kernel) rfl rfl (fun X F hxl hq hcR hsR => ?_)
  subst hxl
  unfold fX12_go at hf
  refine r_aload_n F dX12_go_0 rfl ?_
  refine r_iconst F dX12_go_1 (v := 0) (by decide) ?_
  refine r_put F dX12_go_2 flX12_86 rfl rfl rfl h72 (e_le rfl) (e_le rfl) (e_lt hnx rfl) (l' := [(72, o72 0 a72_2 a72_3 a72_4 a72_5 a72_6 a72_7 a72_8 a72_9 a72_10 a72_11 a72_17 a72_18 a72_19 a72_21 a72_22 a72_29 a72_31 a72_35 a72_37 a72_38 a72_39 a72_40 a72_41 a72_44 a72_50)]) rfl ?_
  refine r_aload_n F dX12_go_5 rfl ?_
  obtain ⟨q1, hq2, hf⟩ := e_bd hf
  refine r_callV F dX12_go_6 (b := 72) (dc := 0) (ds := 0) (As := []) (S0 := []) lkX12_306 mX12_isCrystal (tX12_isCrystal_72 hG (la := x_l X) (h := e_up h [(72, o72 0 a72_2 a72_3 a72_4 a72_5 a72_6 a72_7 a72_8 a72_9 a72_10 a72_11 a72_17 a72_18 a72_19 a72_21 a72_22 a72_29 a72_31 a72_35 a72_37 a72_38 a72_39 a72_40 a72_41 a72_44 a72_50)]) hnx rfl hq2) rfl rfl rfl (e_le rfl) (e_le rfl) (e_le rfl) rfl (ci := 12) e_cl12.1 rfl (e_le rfl) (e_lt hnx rfl) (Nat.zero_le _) (Nat.zero_le _) (e_k ?_)
  refine r_wr0 ?_
  refine r_z_ne F dX12_go_9 (tgt := 18) (by decide) (fun hc => ?_) (fun hc => ?_)
  · have hf := e_t hc hf
    refine r_iload_n F dX12_go_18 rfl ?_
    refine r_i2l F dX12_go_19 ?_
    refine r_lconst F dX12_go_20 (v := 1) (by decide) ?_
    refine r_ldc2 F dX12_go_21 klX12_385 ?_
    obtain ⟨q3, hq4, hf⟩ := e_bd hf
    refine r_callS F dX12_go_24 (dc := 0) (ds := 0) (As := [.long (Int32.toInt64 p0), .long 1, .long 40]) (S0 := []) lkX12_97 mX12_in (tX12_in hG (la := x_l X) (h := e_up h [(72, o72 0 a72_2 a72_3 a72_4 a72_5 a72_6 a72_7 a72_8 a72_9 a72_10 a72_11 a72_17 a72_18 a72_19 a72_21 a72_22 a72_29 a72_31 a72_35 a72_37 a72_38 a72_39 a72_40 a72_41 a72_44 a72_50)]) hnx  hq4) rfl rfl rfl (e_le rfl) (e_le rfl) (e_le rfl) (Nat.zero_le _) (Nat.zero_le _) (e_k ?_)
    refine r_wr0 ?_
    refine r_z_ne F dX12_go_27 (tgt := 36) (by decide) (fun hc => ?_) (fun hc => ?_)
    · have hf := e_t hc hf
      refine r_iconst F dX12_go_36 (v := 0) (by decide) ?_
      refine r_istore_n F dX12_go_37 (e_le rfl) (L' := [some (.ref 72), some (.int p0), some (.int 0), none]) rfl ?_
      refine r_iconst F dX12_go_38 (v := 0) (by decide) ?_
      refine r_istore_n F dX12_go_39 (e_le rfl) (L' := [some (.ref 72), some (.int p0), some (.int 0), some (.int 0)]) rfl ?_
      refine r_mat (k := 79) h79 (l' := [(72, o72 0 a72_2 a72_3 a72_4 a72_5 a72_6 a72_7 a72_8 a72_9 a72_10 a72_11 a72_17 a72_18 a72_19 a72_21 a72_22 a72_29 a72_31 a72_35 a72_37 a72_38 a72_39 a72_40 a72_41 a72_44 a72_50), (79, o79 A79)]) rfl ?_
      refine r_mat (k := 81) h81 (l' := [(72, o72 0 a72_2 a72_3 a72_4 a72_5 a72_6 a72_7 a72_8 a72_9 a72_10 a72_11 a72_17 a72_18 a72_19 a72_21 a72_22 a72_29 a72_31 a72_35 a72_37 a72_38 a72_39 a72_40 a72_41 a72_44 a72_50), (79, o79 A79), (81, o81 A81)]) rfl ?_
      refine r_mat (k := 82) h82 (l' := [(72, o72 0 a72_2 a72_3 a72_4 a72_5 a72_6 a72_7 a72_8 a72_9 a72_10 a72_11 a72_17 a72_18 a72_19 a72_21 a72_22 a72_29 a72_31 a72_35 a72_37 a72_38 a72_39 a72_40 a72_41 a72_44 a72_50), (79, o79 A79), (81, o81 A81), (82, o82 A82)]) rfl ?_
      refine r_mat (k := 83) h83 (l' := [(72, o72 0 a72_2 a72_3 a72_4 a72_5 a72_6 a72_7 a72_8 a72_9 a72_10 a72_11 a72_17 a72_18 a72_19 a72_21 a72_22 a72_29 a72_31 a72_35 a72_37 a72_38 a72_39 a72_40 a72_41 a72_44 a72_50), (79, o79 A79), (81, o81 A81), (82, o82 A82), (83, o83 A83)]) rfl ?_
      refine r_mat (k := 84) h84 (l' := [(72, o72 0 a72_2 a72_3 a72_4 a72_5 a72_6 a72_7 a72_8 a72_9 a72_10 a72_11 a72_17 a72_18 a72_19 a72_21 a72_22 a72_29 a72_31 a72_35 a72_37 a72_38 a72_39 a72_40 a72_41 a72_44 a72_50), (79, o79 A79), (81, o81 A81), (82, o82 A82), (83, o83 A83), (84, o84 A84)]) rfl ?_
      refine r_mat (k := 85) h85 (l' := [(72, o72 0 a72_2 a72_3 a72_4 a72_5 a72_6 a72_7 a72_8 a72_9 a72_10 a72_11 a72_17 a72_18 a72_19 a72_21 a72_22 a72_29 a72_31 a72_35 a72_37 a72_38 a72_39 a72_40 a72_41 a72_44 a72_50), (79, o79 A79), (81, o81 A81), (82, o82 A82), (83, o83 A83), (84, o84 A84), (85, o85 A85)]) rfl ?_
      refine r_mat (k := 86) h86 (l' := [(72, o72 0 a72_2 a72_3 a72_4 a72_5 a72_6 a72_7 a72_8 a72_9 a72_10 a72_11 a72_17 a72_18 a72_19 a72_21 a72_22 a72_29 a72_31 a72_35 a72_37 a72_38 a72_39 a72_40 a72_41 a72_44 a72_50), (79, o79 A79), (81, o81 A81), (82, o82 A82), (83, o83 A83), (84, o84 A84), (85, o85 A85), (86, o86 A86)]) rfl ?_
      obtain ⟨x8, hx9, hf⟩ := e_bd hf
      refine (e_loop_ok (P := fun (v7 : Int32 × Int32 × Int32 × Int32 × Int32 × Int32 × Int32 × (Nat → Int32) × (Nat → Int32) × (Nat → Int32) × (Nat → Int32) × (Nat → Int32) × (Nat → Int32) × (Nat → Int32)) => eRun G X 40 [some (.ref 72), some (.int p0), some (.int v7.1), some (.int v7.2.1)] [] h [(72, o72 0 a72_2 a72_3 a72_4 a72_5 a72_6 a72_7 a72_8 a72_9 a72_10 a72_11 a72_17 a72_18 a72_19 a72_21 a72_22 v7.2.2.1 v7.2.2.2.1 a72_35 a72_37 v7.2.2.2.2.1 v7.2.2.2.2.2.1 v7.2.2.2.2.2.2.1 a72_41 a72_44 a72_50), (79, o79 v7.2.2.2.2.2.2.2.1), (81, o81 v7.2.2.2.2.2.2.2.2.1), (82, o82 v7.2.2.2.2.2.2.2.2.2.1), (83, o83 v7.2.2.2.2.2.2.2.2.2.2.1), (84, o84 v7.2.2.2.2.2.2.2.2.2.2.2.1), (85, o85 v7.2.2.2.2.2.2.2.2.2.2.2.2.1), (86, o86 v7.2.2.2.2.2.2.2.2.2.2.2.2.2)] nx 0 0) (K := fun (x8 : Int32 × Int32 × Int32 × Int32 × Int32 × Int32 × (Nat → Int32) × (Nat → Int32) × (Nat → Int32) × (Nat → Int32) × (Nat → Int32) × (Nat → Int32) × (Nat → Int32)) => eRun G X 86 [none, none, some (.int x8.1), none] [] h [(72, o72 0 a72_2 a72_3 a72_4 a72_5 a72_6 a72_7 a72_8 a72_9 a72_10 a72_11 a72_17 a72_18 a72_19 a72_21 a72_22 x8.2.1 x8.2.2.1 a72_35 a72_37 x8.2.2.2.1 x8.2.2.2.2.1 x8.2.2.2.2.2.1 a72_41 a72_44 a72_50), (79, o79 x8.2.2.2.2.2.2.1), (81, o81 x8.2.2.2.2.2.2.2.1), (82, o82 x8.2.2.2.2.2.2.2.2.1), (83, o83 x8.2.2.2.2.2.2.2.2.2.1), (84, o84 x8.2.2.2.2.2.2.2.2.2.2.1), (85, o85 x8.2.2.2.2.2.2.2.2.2.2.2.1), (86, o86 x8.2.2.2.2.2.2.2.2.2.2.2.2)] nx 0 0) ?_ e_fuel (0, 0, a72_29, a72_31, a72_38, a72_39, a72_40, A79, A81, A82, A83, A84, A85, A86) x8 hx9 ?_ : _)
      · intro v7 z hz ih hx
        refine r_iload_n F dX12_go_40 rfl ?_
        refine r_iload_n F dX12_go_41 rfl ?_
        refine r_icmp_ge F dX12_go_42 (tgt := 86) (by decide) (fun hc => ?_) (fun hc => ?_)
        · have hz := e_t hc hz
          refine r_drop 0 (L' := [none, some (.int p0), some (.int v7.1), some (.int v7.2.1)]) rfl ?_
          refine r_drop 1 (L' := [none, none, some (.int v7.1), some (.int v7.2.1)]) rfl ?_
          refine r_drop 3 (L' := [none, none, some (.int v7.1), none]) rfl ?_
          obtain rfl := Option.some.inj hz
          exact hx (v7.1, v7.2.2.1, v7.2.2.2.1, v7.2.2.2.2.1, v7.2.2.2.2.2.1, v7.2.2.2.2.2.2.1, v7.2.2.2.2.2.2.2.1, v7.2.2.2.2.2.2.2.2.1, v7.2.2.2.2.2.2.2.2.2.1, v7.2.2.2.2.2.2.2.2.2.2.1, v7.2.2.2.2.2.2.2.2.2.2.2.1, v7.2.2.2.2.2.2.2.2.2.2.2.2.1, v7.2.2.2.2.2.2.2.2.2.2.2.2.2) rfl
        · have hz := e_f hc hz
          refine r_aload_n F dX12_go_45 rfl ?_
          obtain ⟨q10, hq11, hz⟩ := e_bd hz
          refine r_callV F dX12_go_46 (b := 72) (dc := 0) (ds := 0) (As := []) (S0 := []) lkX12_364 mX12_keeps (tX12_keeps_72 hG (la := x_l X) (h := e_up h [(72, o72 0 a72_2 a72_3 a72_4 a72_5 a72_6 a72_7 a72_8 a72_9 a72_10 a72_11 a72_17 a72_18 a72_19 a72_21 a72_22 v7.2.2.1 v7.2.2.2.1 a72_35 a72_37 v7.2.2.2.2.1 v7.2.2.2.2.2.1 v7.2.2.2.2.2.2.1 a72_41 a72_44 a72_50), (79, o79 v7.2.2.2.2.2.2.2.1), (81, o81 v7.2.2.2.2.2.2.2.2.1), (82, o82 v7.2.2.2.2.2.2.2.2.2.1), (83, o83 v7.2.2.2.2.2.2.2.2.2.2.1), (84, o84 v7.2.2.2.2.2.2.2.2.2.2.2.1), (85, o85 v7.2.2.2.2.2.2.2.2.2.2.2.2.1), (86, o86 v7.2.2.2.2.2.2.2.2.2.2.2.2.2)]) hnx rfl rfl rfl hq11) rfl rfl rfl (e_le rfl) (e_le rfl) (e_le rfl) rfl (ci := 12) e_cl12.1 rfl (e_le rfl) (e_lt hnx rfl) (Nat.zero_le _) (Nat.zero_le _) (e_k ?_)
          refine r_wr (l' := [(72, o72 0 a72_2 a72_3 a72_4 a72_5 a72_6 a72_7 a72_8 a72_9 a72_10 a72_11 a72_17 a72_18 a72_19 a72_21 a72_22 v7.2.2.1 q10.1 a72_35 a72_37 v7.2.2.2.2.1 v7.2.2.2.2.2.1 v7.2.2.2.2.2.2.1 a72_41 a72_44 a72_50), (79, o79 v7.2.2.2.2.2.2.2.1), (81, o81 v7.2.2.2.2.2.2.2.2.1), (82, o82 v7.2.2.2.2.2.2.2.2.2.1), (83, o83 v7.2.2.2.2.2.2.2.2.2.2.1), (84, o84 v7.2.2.2.2.2.2.2.2.2.2.2.1), (85, o85 v7.2.2.2.2.2.2.2.2.2.2.2.2.1), (86, o86 q10.2)]) rfl rfl ?_
          refine r_aload_n F dX12_go_49 rfl ?_
          obtain ⟨q12, hq13, hz⟩ := e_bd hz
          refine r_callV F dX12_go_50 (b := 72) (dc := 0) (ds := 0) (As := []) (S0 := []) lkX12_387 mX12_counts (tX12_counts_72 hG (la := x_l X) (h := e_up h [(72, o72 0 a72_2 a72_3 a72_4 a72_5 a72_6 a72_7 a72_8 a72_9 a72_10 a72_11 a72_17 a72_18 a72_19 a72_21 a72_22 v7.2.2.1 q10.1 a72_35 a72_37 v7.2.2.2.2.1 v7.2.2.2.2.2.1 v7.2.2.2.2.2.2.1 a72_41 a72_44 a72_50), (79, o79 v7.2.2.2.2.2.2.2.1), (81, o81 v7.2.2.2.2.2.2.2.2.1), (82, o82 v7.2.2.2.2.2.2.2.2.2.1), (83, o83 v7.2.2.2.2.2.2.2.2.2.2.1), (84, o84 v7.2.2.2.2.2.2.2.2.2.2.2.1), (85, o85 v7.2.2.2.2.2.2.2.2.2.2.2.2.1), (86, o86 q10.2)]) hnx rfl hq13) rfl rfl rfl (e_le rfl) (e_le rfl) (e_le rfl) rfl (ci := 12) e_cl12.1 rfl (e_le rfl) (e_lt hnx rfl) (Nat.zero_le _) (Nat.zero_le _) (e_k ?_)
          refine r_wr (l' := [(72, o72 0 a72_2 a72_3 a72_4 a72_5 a72_6 a72_7 a72_8 a72_9 a72_10 a72_11 a72_17 a72_18 a72_19 a72_21 a72_22 v7.2.2.1 q10.1 a72_35 a72_37 q12.1 q12.2.1 q12.2.2 a72_41 a72_44 a72_50), (79, o79 v7.2.2.2.2.2.2.2.1), (81, o81 v7.2.2.2.2.2.2.2.2.1), (82, o82 v7.2.2.2.2.2.2.2.2.2.1), (83, o83 v7.2.2.2.2.2.2.2.2.2.2.1), (84, o84 v7.2.2.2.2.2.2.2.2.2.2.2.1), (85, o85 v7.2.2.2.2.2.2.2.2.2.2.2.2.1), (86, o86 q10.2)]) rfl rfl ?_
          refine r_aload_n F dX12_go_53 rfl ?_
          obtain ⟨q14, hq15, hz⟩ := e_bd hz
          refine r_callV F dX12_go_54 (b := 72) (dc := 0) (ds := 0) (As := []) (S0 := []) lkX12_390 mX12_round (tX12_round_72 hG (la := x_l X) (h := e_up h [(72, o72 0 a72_2 a72_3 a72_4 a72_5 a72_6 a72_7 a72_8 a72_9 a72_10 a72_11 a72_17 a72_18 a72_19 a72_21 a72_22 v7.2.2.1 q10.1 a72_35 a72_37 q12.1 q12.2.1 q12.2.2 a72_41 a72_44 a72_50), (79, o79 v7.2.2.2.2.2.2.2.1), (81, o81 v7.2.2.2.2.2.2.2.2.1), (82, o82 v7.2.2.2.2.2.2.2.2.2.1), (83, o83 v7.2.2.2.2.2.2.2.2.2.2.1), (84, o84 v7.2.2.2.2.2.2.2.2.2.2.2.1), (85, o85 v7.2.2.2.2.2.2.2.2.2.2.2.2.1), (86, o86 q10.2)]) hnx rfl rfl h80 rfl rfl rfl rfl rfl hq15) rfl rfl rfl (e_le rfl) (e_le rfl) (e_le rfl) rfl (ci := 12) e_cl12.1 rfl (e_le rfl) (e_lt hnx rfl) (Nat.zero_le _) (Nat.zero_le _) (e_k ?_)
          refine r_wr (l' := [(72, o72 0 a72_2 a72_3 a72_4 a72_5 a72_6 a72_7 a72_8 a72_9 a72_10 a72_11 a72_17 a72_18 a72_19 a72_21 a72_22 q14.1 q10.1 a72_35 a72_37 q14.2.1 q14.2.2.1 q14.2.2.2.1 a72_41 a72_44 a72_50), (79, o79 q14.2.2.2.2.1), (81, o81 q14.2.2.2.2.2.1), (82, o82 q14.2.2.2.2.2.2.1), (83, o83 q14.2.2.2.2.2.2.2.1), (84, o84 q14.2.2.2.2.2.2.2.2.1), (85, o85 q14.2.2.2.2.2.2.2.2.2), (86, o86 q10.2)]) rfl rfl ?_
          refine r_iload_n F dX12_go_57 rfl ?_
          refine r_aload_n F dX12_go_58 rfl ?_
          refine r_get F dX12_go_59 flX12_376 rfl rfl (e_le rfl) (e_lt hnx rfl) ?_
          refine r_iadd F dX12_go_62 ?_
          refine r_istore_n F dX12_go_63 (e_le rfl) (L' := [some (.ref 72), some (.int p0), some (.int (v7.1 + q14.2.1)), some (.int v7.2.1)]) rfl ?_
          refine r_aload_n F dX12_go_64 rfl ?_
          refine r_aload_n F dX12_go_65 rfl ?_
          refine r_get F dX12_go_66 flX12_376 rfl rfl (e_le rfl) (e_lt hnx rfl) ?_
          refine r_aload_n F dX12_go_69 rfl ?_
          refine r_get F dX12_go_70 flX12_379 rfl rfl (e_le rfl) (e_lt hnx rfl) ?_
          refine r_aload_n F dX12_go_73 rfl ?_
          refine r_get F dX12_go_74 flX12_382 rfl rfl (e_le rfl) (e_lt hnx rfl) ?_
          obtain ⟨q16, hq17, hz⟩ := e_bd hz
          refine r_callV F dX12_go_77 (b := 72) (dc := 0) (ds := 0) (As := [.int q14.2.1, .int q14.2.2.1, .int q14.2.2.2.1]) (S0 := []) lkX12_393 mX12_logs (tX12_logs_72 hG (la := x_l X) (h := e_up h [(72, o72 0 a72_2 a72_3 a72_4 a72_5 a72_6 a72_7 a72_8 a72_9 a72_10 a72_11 a72_17 a72_18 a72_19 a72_21 a72_22 q14.1 q10.1 a72_35 a72_37 q14.2.1 q14.2.2.1 q14.2.2.2.1 a72_41 a72_44 a72_50), (79, o79 q14.2.2.2.2.1), (81, o81 q14.2.2.2.2.2.1), (82, o82 q14.2.2.2.2.2.2.1), (83, o83 q14.2.2.2.2.2.2.2.1), (84, o84 q14.2.2.2.2.2.2.2.2.1), (85, o85 q14.2.2.2.2.2.2.2.2.2), (86, o86 q10.2)]) hnx rfl rfl hq17) rfl rfl rfl (e_le rfl) (e_le rfl) (e_le rfl) rfl (ci := 12) e_cl12.1 rfl (e_le rfl) (e_lt hnx rfl) (Nat.zero_le _) (Nat.zero_le _) (e_k ?_)
          refine r_wr (l' := [(72, o72 0 a72_2 a72_3 a72_4 a72_5 a72_6 a72_7 a72_8 a72_9 a72_10 a72_11 a72_17 a72_18 a72_19 a72_21 a72_22 q14.1 q10.1 a72_35 a72_37 q14.2.1 q14.2.2.1 q14.2.2.2.1 a72_41 a72_44 a72_50), (79, o79 q16), (81, o81 q14.2.2.2.2.2.1), (82, o82 q14.2.2.2.2.2.2.1), (83, o83 q14.2.2.2.2.2.2.2.1), (84, o84 q14.2.2.2.2.2.2.2.2.1), (85, o85 q14.2.2.2.2.2.2.2.2.2), (86, o86 q10.2)]) rfl rfl ?_
          refine r_inc F dX12_go_80 (k9 := 1) (by decide) rfl (L' := [some (.ref 72), some (.int p0), some (.int (v7.1 + q14.2.1)), some (.int (v7.2.1 + 1))]) rfl ?_
          refine r_goto F dX12_go_83 (tgt := 40) (by decide) ?_
          obtain rfl := Option.some.inj hz
          exact ih (v7.1 + q14.2.1, v7.2.1 + 1, q14.1, q10.1, q14.2.1, q14.2.2.1, q14.2.2.2.1, q16, q14.2.2.2.2.2.1, q14.2.2.2.2.2.2.1, q14.2.2.2.2.2.2.2.1, q14.2.2.2.2.2.2.2.2.1, q14.2.2.2.2.2.2.2.2.2, q10.2) rfl
      · show eRun G X 86 [none, none, some (.int x8.1), none] [] h [(72, o72 0 a72_2 a72_3 a72_4 a72_5 a72_6 a72_7 a72_8 a72_9 a72_10 a72_11 a72_17 a72_18 a72_19 a72_21 a72_22 x8.2.1 x8.2.2.1 a72_35 a72_37 x8.2.2.2.1 x8.2.2.2.2.1 x8.2.2.2.2.2.1 a72_41 a72_44 a72_50), (79, o79 x8.2.2.2.2.2.2.1), (81, o81 x8.2.2.2.2.2.2.2.1), (82, o82 x8.2.2.2.2.2.2.2.2.1), (83, o83 x8.2.2.2.2.2.2.2.2.2.1), (84, o84 x8.2.2.2.2.2.2.2.2.2.2.1), (85, o85 x8.2.2.2.2.2.2.2.2.2.2.2.1), (86, o86 x8.2.2.2.2.2.2.2.2.2.2.2.2)] nx 0 0
        refine r_iload_n F dX12_go_86 rfl ?_
        refine r_mat (k := 87) h87 (l' := [(72, o72 0 a72_2 a72_3 a72_4 a72_5 a72_6 a72_7 a72_8 a72_9 a72_10 a72_11 a72_17 a72_18 a72_19 a72_21 a72_22 x8.2.1 x8.2.2.1 a72_35 a72_37 x8.2.2.2.1 x8.2.2.2.2.1 x8.2.2.2.2.2.1 a72_41 a72_44 a72_50), (79, o79 x8.2.2.2.2.2.2.1), (81, o81 x8.2.2.2.2.2.2.2.1), (82, o82 x8.2.2.2.2.2.2.2.2.1), (83, o83 x8.2.2.2.2.2.2.2.2.2.1), (84, o84 x8.2.2.2.2.2.2.2.2.2.2.1), (85, o85 x8.2.2.2.2.2.2.2.2.2.2.2.1), (86, o86 x8.2.2.2.2.2.2.2.2.2.2.2.2), (87, o87 A87)]) rfl ?_
        obtain rfl := Option.some.inj hf
        exact r_iret F hq dX12_go_87 rfl rfl (Nat.le_refl _) (Nat.le_refl _) ⟨rfl, rfl⟩
    · have hf := e_f hc hf
      refine r_aload_n F dX12_go_30 rfl ?_
      refine r_iconst F dX12_go_31 (v := 2) (by decide) ?_
      obtain ⟨q18, hq19, hf⟩ := e_bd hf
      refine r_callV F dX12_go_32 (b := 72) (dc := 0) (ds := 0) (As := [.int 2]) (S0 := []) lkX12_354 mX12_refuses (tX12_refuses_72 hG (la := x_l X) (h := e_up h [(72, o72 0 a72_2 a72_3 a72_4 a72_5 a72_6 a72_7 a72_8 a72_9 a72_10 a72_11 a72_17 a72_18 a72_19 a72_21 a72_22 a72_29 a72_31 a72_35 a72_37 a72_38 a72_39 a72_40 a72_41 a72_44 a72_50)]) hnx rfl h87 hq19) rfl rfl rfl (e_le rfl) (e_le rfl) (e_le rfl) rfl (ci := 12) e_cl12.1 rfl (e_le rfl) (e_lt hnx rfl) (Nat.zero_le _) (Nat.zero_le _) (e_k ?_)
      refine r_wr (l' := [(72, o72 0 a72_2 a72_3 a72_4 a72_5 a72_6 a72_7 a72_8 a72_9 a72_10 a72_11 a72_17 a72_18 a72_19 a72_21 a72_22 a72_29 a72_31 a72_35 a72_37 a72_38 a72_39 a72_40 a72_41 a72_44 a72_50), (87, o87 q18.2)]) rfl rfl ?_
      refine r_mat (k := 79) h79 (l' := [(72, o72 0 a72_2 a72_3 a72_4 a72_5 a72_6 a72_7 a72_8 a72_9 a72_10 a72_11 a72_17 a72_18 a72_19 a72_21 a72_22 a72_29 a72_31 a72_35 a72_37 a72_38 a72_39 a72_40 a72_41 a72_44 a72_50), (79, o79 A79), (87, o87 q18.2)]) rfl ?_
      refine r_mat (k := 81) h81 (l' := [(72, o72 0 a72_2 a72_3 a72_4 a72_5 a72_6 a72_7 a72_8 a72_9 a72_10 a72_11 a72_17 a72_18 a72_19 a72_21 a72_22 a72_29 a72_31 a72_35 a72_37 a72_38 a72_39 a72_40 a72_41 a72_44 a72_50), (79, o79 A79), (81, o81 A81), (87, o87 q18.2)]) rfl ?_
      refine r_mat (k := 82) h82 (l' := [(72, o72 0 a72_2 a72_3 a72_4 a72_5 a72_6 a72_7 a72_8 a72_9 a72_10 a72_11 a72_17 a72_18 a72_19 a72_21 a72_22 a72_29 a72_31 a72_35 a72_37 a72_38 a72_39 a72_40 a72_41 a72_44 a72_50), (79, o79 A79), (81, o81 A81), (82, o82 A82), (87, o87 q18.2)]) rfl ?_
      refine r_mat (k := 83) h83 (l' := [(72, o72 0 a72_2 a72_3 a72_4 a72_5 a72_6 a72_7 a72_8 a72_9 a72_10 a72_11 a72_17 a72_18 a72_19 a72_21 a72_22 a72_29 a72_31 a72_35 a72_37 a72_38 a72_39 a72_40 a72_41 a72_44 a72_50), (79, o79 A79), (81, o81 A81), (82, o82 A82), (83, o83 A83), (87, o87 q18.2)]) rfl ?_
      refine r_mat (k := 84) h84 (l' := [(72, o72 0 a72_2 a72_3 a72_4 a72_5 a72_6 a72_7 a72_8 a72_9 a72_10 a72_11 a72_17 a72_18 a72_19 a72_21 a72_22 a72_29 a72_31 a72_35 a72_37 a72_38 a72_39 a72_40 a72_41 a72_44 a72_50), (79, o79 A79), (81, o81 A81), (82, o82 A82), (83, o83 A83), (84, o84 A84), (87, o87 q18.2)]) rfl ?_
      refine r_mat (k := 85) h85 (l' := [(72, o72 0 a72_2 a72_3 a72_4 a72_5 a72_6 a72_7 a72_8 a72_9 a72_10 a72_11 a72_17 a72_18 a72_19 a72_21 a72_22 a72_29 a72_31 a72_35 a72_37 a72_38 a72_39 a72_40 a72_41 a72_44 a72_50), (79, o79 A79), (81, o81 A81), (82, o82 A82), (83, o83 A83), (84, o84 A84), (85, o85 A85), (87, o87 q18.2)]) rfl ?_
      refine r_mat (k := 86) h86 (l' := [(72, o72 0 a72_2 a72_3 a72_4 a72_5 a72_6 a72_7 a72_8 a72_9 a72_10 a72_11 a72_17 a72_18 a72_19 a72_21 a72_22 a72_29 a72_31 a72_35 a72_37 a72_38 a72_39 a72_40 a72_41 a72_44 a72_50), (79, o79 A79), (81, o81 A81), (82, o82 A82), (83, o83 A83), (84, o84 A84), (85, o85 A85), (86, o86 A86), (87, o87 q18.2)]) rfl ?_
      obtain rfl := Option.some.inj hf
      exact r_iret F hq dX12_go_35 rfl rfl (Nat.le_refl _) (Nat.le_refl _) ⟨rfl, rfl⟩
  · have hf := e_f hc hf
    refine r_aload_n F dX12_go_12 rfl ?_
    refine r_iconst F dX12_go_13 (v := 0) (by decide) ?_
    obtain ⟨q20, hq21, hf⟩ := e_bd hf
    refine r_callV F dX12_go_14 (b := 72) (dc := 0) (ds := 0) (As := [.int 0]) (S0 := []) lkX12_354 mX12_refuses (tX12_refuses_72 hG (la := x_l X) (h := e_up h [(72, o72 0 a72_2 a72_3 a72_4 a72_5 a72_6 a72_7 a72_8 a72_9 a72_10 a72_11 a72_17 a72_18 a72_19 a72_21 a72_22 a72_29 a72_31 a72_35 a72_37 a72_38 a72_39 a72_40 a72_41 a72_44 a72_50)]) hnx rfl h87 hq21) rfl rfl rfl (e_le rfl) (e_le rfl) (e_le rfl) rfl (ci := 12) e_cl12.1 rfl (e_le rfl) (e_lt hnx rfl) (Nat.zero_le _) (Nat.zero_le _) (e_k ?_)
    refine r_wr (l' := [(72, o72 0 a72_2 a72_3 a72_4 a72_5 a72_6 a72_7 a72_8 a72_9 a72_10 a72_11 a72_17 a72_18 a72_19 a72_21 a72_22 a72_29 a72_31 a72_35 a72_37 a72_38 a72_39 a72_40 a72_41 a72_44 a72_50), (87, o87 q20.2)]) rfl rfl ?_
    refine r_mat (k := 79) h79 (l' := [(72, o72 0 a72_2 a72_3 a72_4 a72_5 a72_6 a72_7 a72_8 a72_9 a72_10 a72_11 a72_17 a72_18 a72_19 a72_21 a72_22 a72_29 a72_31 a72_35 a72_37 a72_38 a72_39 a72_40 a72_41 a72_44 a72_50), (79, o79 A79), (87, o87 q20.2)]) rfl ?_
    refine r_mat (k := 81) h81 (l' := [(72, o72 0 a72_2 a72_3 a72_4 a72_5 a72_6 a72_7 a72_8 a72_9 a72_10 a72_11 a72_17 a72_18 a72_19 a72_21 a72_22 a72_29 a72_31 a72_35 a72_37 a72_38 a72_39 a72_40 a72_41 a72_44 a72_50), (79, o79 A79), (81, o81 A81), (87, o87 q20.2)]) rfl ?_
    refine r_mat (k := 82) h82 (l' := [(72, o72 0 a72_2 a72_3 a72_4 a72_5 a72_6 a72_7 a72_8 a72_9 a72_10 a72_11 a72_17 a72_18 a72_19 a72_21 a72_22 a72_29 a72_31 a72_35 a72_37 a72_38 a72_39 a72_40 a72_41 a72_44 a72_50), (79, o79 A79), (81, o81 A81), (82, o82 A82), (87, o87 q20.2)]) rfl ?_
    refine r_mat (k := 83) h83 (l' := [(72, o72 0 a72_2 a72_3 a72_4 a72_5 a72_6 a72_7 a72_8 a72_9 a72_10 a72_11 a72_17 a72_18 a72_19 a72_21 a72_22 a72_29 a72_31 a72_35 a72_37 a72_38 a72_39 a72_40 a72_41 a72_44 a72_50), (79, o79 A79), (81, o81 A81), (82, o82 A82), (83, o83 A83), (87, o87 q20.2)]) rfl ?_
    refine r_mat (k := 84) h84 (l' := [(72, o72 0 a72_2 a72_3 a72_4 a72_5 a72_6 a72_7 a72_8 a72_9 a72_10 a72_11 a72_17 a72_18 a72_19 a72_21 a72_22 a72_29 a72_31 a72_35 a72_37 a72_38 a72_39 a72_40 a72_41 a72_44 a72_50), (79, o79 A79), (81, o81 A81), (82, o82 A82), (83, o83 A83), (84, o84 A84), (87, o87 q20.2)]) rfl ?_
    refine r_mat (k := 85) h85 (l' := [(72, o72 0 a72_2 a72_3 a72_4 a72_5 a72_6 a72_7 a72_8 a72_9 a72_10 a72_11 a72_17 a72_18 a72_19 a72_21 a72_22 a72_29 a72_31 a72_35 a72_37 a72_38 a72_39 a72_40 a72_41 a72_44 a72_50), (79, o79 A79), (81, o81 A81), (82, o82 A82), (83, o83 A83), (84, o84 A84), (85, o85 A85), (87, o87 q20.2)]) rfl ?_
    refine r_mat (k := 86) h86 (l' := [(72, o72 0 a72_2 a72_3 a72_4 a72_5 a72_6 a72_7 a72_8 a72_9 a72_10 a72_11 a72_17 a72_18 a72_19 a72_21 a72_22 a72_29 a72_31 a72_35 a72_37 a72_38 a72_39 a72_40 a72_41 a72_44 a72_50), (79, o79 A79), (81, o81 A81), (82, o82 A82), (83, o83 A83), (84, o84 A84), (85, o85 A85), (86, o86 A86), (87, o87 q20.2)]) rfl ?_
    obtain rfl := Option.some.inj hf
    exact r_iret F hq dX12_go_17 rfl rfl (Nat.le_refl _) (Nat.le_refl _) ⟨rfl, rfl⟩

def fX12_gone (a72_0 : Int32) (a72_37 : Bool) (A90 : Nat → Int32) (p0 : Int32) : Option (Int32 × Int32) :=
  if a72_37 = true then
    (fX12_in (Int32.toInt64 p0) 0 4).bind (fun q1 =>
    if q1 = true then
      e_g (e_in p0 5) (
      some (A90 (tn p0), 0))
    else
      some ((-1000000), 0))
  else
    some ((-1000000), 0)
set_option maxRecDepth 100000 in
theorem tX12_gone_72 {G : eG} (hG : e_GS G) {la : Launch} {h : Nat → eO} {nx : Nat} (hnx : 99 ≤ nx) {a72_0 : Int32} {a72_2 : Int32} {a72_3 : Int32} {a72_4 : Int32} {a72_5 : Int32} {a72_6 : Int32} {a72_7 : Int32} {a72_8 : Bool} {a72_9 : Int32} {a72_10 : Int32} {a72_11 : Int32} {a72_17 : Bool} {a72_18 : Bool} {a72_19 : Bool} {a72_21 : Int32} {a72_22 : Int32} {a72_29 : Int32} {a72_31 : Int32} {a72_35 : Int32} {a72_37 : Bool} {a72_38 : Int32} {a72_39 : Int32} {a72_40 : Int32} {a72_41 : Int64} {a72_44 : Int32} {a72_50 : Bool} {A90 : Nat → Int32} {p0 : Int32} (h72 : h 72 = o72 a72_0 a72_2 a72_3 a72_4 a72_5 a72_6 a72_7 a72_8 a72_9 a72_10 a72_11 a72_17 a72_18 a72_19 a72_21 a72_22 a72_29 a72_31 a72_35 a72_37 a72_38 a72_39 a72_40 a72_41 a72_44 a72_50) (h90 : h 90 = o90 A90) {R9 : Int32 × Int32} (hf : fX12_gone a72_0 a72_37 A90 p0 = some R9) :
    eSem G la MX12_gone [.ref 72, .int p0] h nx 0 0 (fun r9 h9 => r9 = some (.int R9.1) ∧ h9 = e_up h [(72, o72 R9.2 a72_2 a72_3 a72_4 a72_5 a72_6 a72_7 a72_8 a72_9 a72_10 a72_11 a72_17 a72_18 a72_19 a72_21 a72_22 a72_29 a72_31 a72_35 a72_37 a72_38 a72_39 a72_40 a72_41 a72_44 a72_50)]) := by
  refine eSem.of (k := 0) (L := [some (.ref 72), some (.int p0)]) (by decide +kernel) rfl rfl (fun X F hxl hq hcR hsR => ?_)
  subst hxl
  unfold fX12_gone at hf
  refine r_aload_n F dX12_gone_0 rfl ?_
  refine r_iconst F dX12_gone_1 (v := 0) (by decide) ?_
  refine r_put F dX12_gone_2 flX12_86 rfl rfl rfl h72 (e_le rfl) (e_le rfl) (e_lt hnx rfl) (l' := [(72, o72 0 a72_2 a72_3 a72_4 a72_5 a72_6 a72_7 a72_8 a72_9 a72_10 a72_11 a72_17 a72_18 a72_19 a72_21 a72_22 a72_29 a72_31 a72_35 a72_37 a72_38 a72_39 a72_40 a72_41 a72_44 a72_50)]) rfl ?_
  refine r_aload_n F dX12_gone_5 rfl ?_
  refine r_get F dX12_gone_6 flX12_235 rfl rfl (e_le rfl) (e_lt hnx rfl) ?_
  refine r_z_eq F dX12_gone_9 (tgt := 33) (by decide) (fun hc => ?_) (fun hc => ?_)
  · have hf := e_t hc hf
    refine r_iload_n F dX12_gone_12 rfl ?_
    refine r_i2l F dX12_gone_13 ?_
    refine r_lconst F dX12_gone_14 (v := 0) (by decide) ?_
    refine r_ldc2 F dX12_gone_15 klX12_352 ?_
    obtain ⟨q1, hq2, hf⟩ := e_bd hf
    refine r_callS F dX12_gone_18 (dc := 0) (ds := 0) (As := [.long (Int32.toInt64 p0), .long 0, .long 4]) (S0 := []) lkX12_97 mX12_in (tX12_in hG (la := x_l X) (h := e_up h [(72, o72 0 a72_2 a72_3 a72_4 a72_5 a72_6 a72_7 a72_8 a72_9 a72_10 a72_11 a72_17 a72_18 a72_19 a72_21 a72_22 a72_29 a72_31 a72_35 a72_37 a72_38 a72_39 a72_40 a72_41 a72_44 a72_50)]) hnx  hq2) rfl rfl rfl (e_le rfl) (e_le rfl) (e_le rfl) (Nat.zero_le _) (Nat.zero_le _) (e_k ?_)
    refine r_wr0 ?_
    refine r_z_eq F dX12_gone_21 (tgt := 33) (by decide) (fun hc => ?_) (fun hc => ?_)
    · have hf := e_t hc hf
      refine r_aload_n F dX12_gone_24 rfl ?_
      refine r_get F dX12_gone_25 flX12_62 rfl rfl (e_le rfl) (e_lt hnx rfl) ?_
      refine r_iload_n F dX12_gone_28 rfl ?_
      obtain ⟨hg, hf⟩ := e_gd hf
      refine r_iald F dX12_gone_29 (i := p0) h90 (e_le rfl) (e_lt hnx rfl) (e_vp hg) ?_
      refine r_goto F dX12_gone_30 (tgt := 36) (by decide) ?_
      obtain rfl := Option.some.inj hf
      exact r_iret F hq dX12_gone_36 rfl rfl (Nat.le_refl _) (Nat.le_refl _) ⟨rfl, rfl⟩
    · have hf := e_f hc hf
      refine r_ldcw F dX12_gone_33 kcX12_310 ?_
      obtain rfl := Option.some.inj hf
      exact r_iret F hq dX12_gone_36 rfl rfl (Nat.le_refl _) (Nat.le_refl _) ⟨rfl, rfl⟩
  · have hf := e_f hc hf
    refine r_ldcw F dX12_gone_33 kcX12_310 ?_
    obtain rfl := Option.some.inj hf
    exact r_iret F hq dX12_gone_36 rfl rfl (Nat.le_refl _) (Nat.le_refl _) ⟨rfl, rfl⟩

def fX12_greatestForce (a72_21 : Int32) (a72_22 : Int32) (a72_29 : Int32) (A79 : Nat → Int32) (A80 : Nat → Int32) (A81 : Nat → Int32) (A82 : Nat → Int32) (A83 : Nat → Int32) (A84 : Nat → Int32) (A85 : Nat → Int32)  : Option (Int32 × Int32 × (Nat → Int32) × (Nat → Int32) × (Nat → Int32) × (Nat → Int32) × (Nat → Int32)) :=
  (fX12_laysCores a72_21 a72_22 a72_29 A79 A80 A81 A82 A83 A84 A85).bind (fun q1 =>
  (e_loop (fun (v5 : Int32 × Int32) => (
      if q1.2.1 ≤ v5.2 then
        some (.inr v5.1)
      else
        e_g (e_in v5.2 64) (
        (fJ9_abs_0f7a4 (q1.2.2.2.2.2.2 (tn v5.2))).bind (fun q8 =>
        (fJ9_max_7cf53 v5.1 q8).bind (fun q10 =>
        some (.inl (q10, v5.2 + 1))))) : Option ((Int32 × Int32) ⊕ (Int32)))) e_fuel (0, 0)).bind (fun x6 =>
  some (x6, q1.2.1, q1.2.2.1, q1.2.2.2.1, q1.2.2.2.2.1, q1.2.2.2.2.2.1, q1.2.2.2.2.2.2)))
set_option maxRecDepth 100000 in
theorem tX12_greatestForce_72 {G : eG} (hG : e_GS G) {la : Launch} {h : Nat → eO} {nx : Nat} (hnx : 99 ≤ nx) {a72_0 : Int32} {a72_2 : Int32} {a72_3 : Int32} {a72_4 : Int32} {a72_5 : Int32} {a72_6 : Int32} {a72_7 : Int32} {a72_8 : Bool} {a72_9 : Int32} {a72_10 : Int32} {a72_11 : Int32} {a72_17 : Bool} {a72_18 : Bool} {a72_19 : Bool} {a72_21 : Int32} {a72_22 : Int32} {a72_29 : Int32} {a72_31 : Int32} {a72_35 : Int32} {a72_37 : Bool} {a72_38 : Int32} {a72_39 : Int32} {a72_40 : Int32} {a72_41 : Int64} {a72_44 : Int32} {a72_50 : Bool} {A79 : Nat → Int32} {A80 : Nat → Int32} {A81 : Nat → Int32} {A82 : Nat → Int32} {A83 : Nat → Int32} {A84 : Nat → Int32} {A85 : Nat → Int32}  (h72 : h 72 = o72 a72_0 a72_2 a72_3 a72_4 a72_5 a72_6 a72_7 a72_8 a72_9 a72_10 a72_11 a72_17 a72_18 a72_19 a72_21 a72_22 a72_29 a72_31 a72_35 a72_37 a72_38 a72_39 a72_40 a72_41 a72_44 a72_50) (h79 : h 79 = o79 A79) (h80 : h 80 = o80 A80) (h81 : h 81 = o81 A81) (h82 : h 82 = o82 A82) (h83 : h 83 = o83 A83) (h84 : h 84 = o84 A84) (h85 : h 85 = o85 A85) {R9 : Int32 × Int32 × (Nat → Int32) × (Nat → Int32) × (Nat → Int32) × (Nat → Int32) × (Nat → Int32)} (hf : fX12_greatestForce a72_21 a72_22 a72_29 A79 A80 A81 A82 A83 A84 A85  = some R9) :
    eSem G la MX12_greatestForce [.ref 72] h nx 0 0 (fun r9 h9 => r9 = some (.int R9.1) ∧ h9 = e_up h [(72, o72 a72_0 a72_2 a72_3 a72_4 a72_5 a72_6 a72_7 a72_8 a72_9 a72_10 a72_11 a72_17 a72_18 a72_19 a72_21 a72_22 R9.2.1 a72_31 a72_35 a72_37 a72_38 a72_39 a72_40 a72_41 a72_44 a72_50), (81, o81 R9.2.2.1), (82, o82 R9.2.2.2.1), (83, o83 R9.2.2.2.2.1), (84, o84 R9.2.2.2.2.2.1), (85, o85 R9.2.2.2.2.2.2)]) := by
  refine eSem.of (k := 2) (L := [some (.ref 72), none, none]) (by decide +kernel) rfl rfl (fun X F hxl hq hcR hsR => ?_)
  subst hxl
  unfold fX12_greatestForce at hf
  refine r_iconst F dX12_greatestForce_0 (v := 0) (by decide) ?_
  refine r_istore_n F dX12_greatestForce_1 (e_le rfl) (L' := [some (.ref 72), some (.int 0), none]) rfl ?_
  refine r_aload_n F dX12_greatestForce_2 rfl ?_
  obtain ⟨q1, hq2, hf⟩ := e_bd hf
  refine r_callV F dX12_greatestForce_3 (b := 72) (dc := 0) (ds := 0) (As := []) (S0 := []) lkX12_238 mX12_laysCores (tX12_laysCores_72 hG (la := x_l X) (h := e_up h []) hnx h72 h79 h80 h81 h82 h83 h84 h85 hq2) rfl rfl rfl (e_le rfl) (e_le rfl) (e_le rfl) h72 (ci := 12) e_cl12.1 rfl (e_le rfl) (e_lt hnx rfl) (Nat.zero_le _) (Nat.zero_le _) (e_k ?_)
  refine r_wr (l' := [(72, o72 a72_0 a72_2 a72_3 a72_4 a72_5 a72_6 a72_7 a72_8 a72_9 a72_10 a72_11 a72_17 a72_18 a72_19 a72_21 a72_22 q1.2.1 a72_31 a72_35 a72_37 a72_38 a72_39 a72_40 a72_41 a72_44 a72_50), (81, o81 q1.2.2.1), (82, o82 q1.2.2.2.1), (83, o83 q1.2.2.2.2.1), (84, o84 q1.2.2.2.2.2.1), (85, o85 q1.2.2.2.2.2.2)]) rfl rfl ?_
  refine r_pop F dX12_greatestForce_6 rfl ?_
  refine r_iconst F dX12_greatestForce_7 (v := 0) (by decide) ?_
  refine r_istore_n F dX12_greatestForce_8 (e_le rfl) (L' := [some (.ref 72), some (.int 0), some (.int 0)]) rfl ?_
  obtain ⟨x6, hx7, hf⟩ := e_bd hf
  refine (e_loop_ok (P := fun (v5 : Int32 × Int32) => eRun G X 9 [some (.ref 72), some (.int v5.1), some (.int v5.2)] [] h [(72, o72 a72_0 a72_2 a72_3 a72_4 a72_5 a72_6 a72_7 a72_8 a72_9 a72_10 a72_11 a72_17 a72_18 a72_19 a72_21 a72_22 q1.2.1 a72_31 a72_35 a72_37 a72_38 a72_39 a72_40 a72_41 a72_44 a72_50), (81, o81 q1.2.2.1), (82, o82 q1.2.2.2.1), (83, o83 q1.2.2.2.2.1), (84, o84 q1.2.2.2.2.2.1), (85, o85 q1.2.2.2.2.2.2)] nx 0 0) (K := fun (x6 : Int32) => eRun G X 37 [none, some (.int x6), none] [] h [(72, o72 a72_0 a72_2 a72_3 a72_4 a72_5 a72_6 a72_7 a72_8 a72_9 a72_10 a72_11 a72_17 a72_18 a72_19 a72_21 a72_22 q1.2.1 a72_31 a72_35 a72_37 a72_38 a72_39 a72_40 a72_41 a72_44 a72_50), (81, o81 q1.2.2.1), (82, o82 q1.2.2.2.1), (83, o83 q1.2.2.2.2.1), (84, o84 q1.2.2.2.2.2.1), (85, o85 q1.2.2.2.2.2.2)] nx 0 0) ?_ e_fuel (0, 0) x6 hx7 ?_ : _)
  · intro v5 z hz ih hx
    refine r_iload_n F dX12_greatestForce_9 rfl ?_
    refine r_aload_n F dX12_greatestForce_10 rfl ?_
    refine r_get F dX12_greatestForce_11 flX12_241 rfl rfl (e_le rfl) (e_lt hnx rfl) ?_
    refine r_icmp_ge F dX12_greatestForce_14 (tgt := 37) (by decide) (fun hc => ?_) (fun hc => ?_)
    · have hz := e_t hc hz
      refine r_drop 0 (L' := [none, some (.int v5.1), some (.int v5.2)]) rfl ?_
      refine r_drop 2 (L' := [none, some (.int v5.1), none]) rfl ?_
      obtain rfl := Option.some.inj hz
      exact hx v5.1 rfl
    · have hz := e_f hc hz
      refine r_iload_n F dX12_greatestForce_17 rfl ?_
      refine r_aload_n F dX12_greatestForce_18 rfl ?_
      refine r_get F dX12_greatestForce_19 flX12_46 rfl rfl (e_le rfl) (e_lt hnx rfl) ?_
      refine r_iload_n F dX12_greatestForce_22 rfl ?_
      obtain ⟨hg, hz⟩ := e_gd hz
      refine r_iald F dX12_greatestForce_23 (i := v5.2) rfl (e_le rfl) (e_lt hnx rfl) (e_vp hg) ?_
      obtain ⟨q8, hq9, hz⟩ := e_bd hz
      refine r_callS F dX12_greatestForce_24 (dc := 0) (ds := 0) (As := [.int (q1.2.2.2.2.2.2 (tn v5.2))]) (S0 := [.int v5.1]) lkX12_370 mJ9_abs_0f7a4 (tJ9_abs_0f7a4 hG (la := x_l X) (h := e_up h [(72, o72 a72_0 a72_2 a72_3 a72_4 a72_5 a72_6 a72_7 a72_8 a72_9 a72_10 a72_11 a72_17 a72_18 a72_19 a72_21 a72_22 q1.2.1 a72_31 a72_35 a72_37 a72_38 a72_39 a72_40 a72_41 a72_44 a72_50), (81, o81 q1.2.2.1), (82, o82 q1.2.2.2.1), (83, o83 q1.2.2.2.2.1), (84, o84 q1.2.2.2.2.2.1), (85, o85 q1.2.2.2.2.2.2)]) hnx  hq9) rfl rfl rfl (e_le rfl) (e_le rfl) (e_le rfl) (Nat.zero_le _) (Nat.zero_le _) (e_k ?_)
      refine r_wr0 ?_
      obtain ⟨q10, hq11, hz⟩ := e_bd hz
      refine r_callS F dX12_greatestForce_27 (dc := 0) (ds := 0) (As := [.int v5.1, .int q8]) (S0 := []) lkX12_464 mJ9_max_7cf53 (tJ9_max_7cf53 hG (la := x_l X) (h := e_up h [(72, o72 a72_0 a72_2 a72_3 a72_4 a72_5 a72_6 a72_7 a72_8 a72_9 a72_10 a72_11 a72_17 a72_18 a72_19 a72_21 a72_22 q1.2.1 a72_31 a72_35 a72_37 a72_38 a72_39 a72_40 a72_41 a72_44 a72_50), (81, o81 q1.2.2.1), (82, o82 q1.2.2.2.1), (83, o83 q1.2.2.2.2.1), (84, o84 q1.2.2.2.2.2.1), (85, o85 q1.2.2.2.2.2.2)]) hnx  hq11) rfl rfl rfl (e_le rfl) (e_le rfl) (e_le rfl) (Nat.zero_le _) (Nat.zero_le _) (e_k ?_)
      refine r_wr0 ?_
      refine r_istore_n F dX12_greatestForce_30 (e_le rfl) (L' := [some (.ref 72), some (.int q10), some (.int v5.2)]) rfl ?_
      refine r_inc F dX12_greatestForce_31 (k9 := 1) (by decide) rfl (L' := [some (.ref 72), some (.int q10), some (.int (v5.2 + 1))]) rfl ?_
      refine r_goto F dX12_greatestForce_34 (tgt := 9) (by decide) ?_
      obtain rfl := Option.some.inj hz
      exact ih (q10, v5.2 + 1) rfl
  · show eRun G X 37 [none, some (.int x6), none] [] h [(72, o72 a72_0 a72_2 a72_3 a72_4 a72_5 a72_6 a72_7 a72_8 a72_9 a72_10 a72_11 a72_17 a72_18 a72_19 a72_21 a72_22 q1.2.1 a72_31 a72_35 a72_37 a72_38 a72_39 a72_40 a72_41 a72_44 a72_50), (81, o81 q1.2.2.1), (82, o82 q1.2.2.2.1), (83, o83 q1.2.2.2.2.1), (84, o84 q1.2.2.2.2.2.1), (85, o85 q1.2.2.2.2.2.2)] nx 0 0
    refine r_iload_n F dX12_greatestForce_37 rfl ?_
    obtain rfl := Option.some.inj hf
    exact r_iret F hq dX12_greatestForce_38 rfl rfl (Nat.le_refl _) (Nat.le_refl _) ⟨rfl, rfl⟩

def fX12_greatestNumber (a72_29 : Int32) (A83 : Nat → Int32) (A84 : Nat → Int32)  : Option (Int32) :=
  (e_loop (fun (v3 : Int32 × Int32) => (
      if a72_29 ≤ v3.2 then
        some (.inr v3.1)
      else
        e_g (e_in v3.2 64) (
        (fJ9_abs_0f7a4 (A83 (tn v3.2))).bind (fun q6 =>
        e_g (e_in v3.2 64) (
        (fJ9_abs_0f7a4 (A84 (tn v3.2))).bind (fun q8 =>
        (fJ9_max_7cf53 q6 q8).bind (fun q10 =>
        (fJ9_max_7cf53 v3.1 q10).bind (fun q12 =>
        some (.inl (q12, v3.2 + 1)))))))) : Option ((Int32 × Int32) ⊕ (Int32)))) e_fuel (0, 0)).bind (fun x4 =>
  some x4)
set_option maxRecDepth 100000 in
theorem tX12_greatestNumber_72 {G : eG} (hG : e_GS G) {la : Launch} {h : Nat → eO} {nx : Nat} (hnx : 99 ≤ nx) {a72_0 : Int32} {a72_2 : Int32} {a72_3 : Int32} {a72_4 : Int32} {a72_5 : Int32} {a72_6 : Int32} {a72_7 : Int32} {a72_8 : Bool} {a72_9 : Int32} {a72_10 : Int32} {a72_11 : Int32} {a72_17 : Bool} {a72_18 : Bool} {a72_19 : Bool} {a72_21 : Int32} {a72_22 : Int32} {a72_29 : Int32} {a72_31 : Int32} {a72_35 : Int32} {a72_37 : Bool} {a72_38 : Int32} {a72_39 : Int32} {a72_40 : Int32} {a72_41 : Int64} {a72_44 : Int32} {a72_50 : Bool} {A83 : Nat → Int32} {A84 : Nat → Int32}  (h72 : h 72 = o72 a72_0 a72_2 a72_3 a72_4 a72_5 a72_6 a72_7 a72_8 a72_9 a72_10 a72_11 a72_17 a72_18 a72_19 a72_21 a72_22 a72_29 a72_31 a72_35 a72_37 a72_38 a72_39 a72_40 a72_41 a72_44 a72_50) (h83 : h 83 = o83 A83) (h84 : h 84 = o84 A84) {R9 : Int32} (hf : fX12_greatestNumber a72_29 A83 A84  = some R9) :
    eSem G la MX12_greatestNumber [.ref 72] h nx 0 0 (fun r9 h9 => r9 = some (.int R9) ∧ h9 = h) := by
  refine eSem.of (k := 2) (L := [some (.ref 72), none, none]) (by decide +kernel) rfl rfl (fun X F hxl hq hcR hsR => ?_)
  subst hxl
  unfold fX12_greatestNumber at hf
  refine r_iconst F dX12_greatestNumber_0 (v := 0) (by decide) ?_
  refine r_istore_n F dX12_greatestNumber_1 (e_le rfl) (L' := [some (.ref 72), some (.int 0), none]) rfl ?_
  refine r_iconst F dX12_greatestNumber_2 (v := 0) (by decide) ?_
  refine r_istore_n F dX12_greatestNumber_3 (e_le rfl) (L' := [some (.ref 72), some (.int 0), some (.int 0)]) rfl ?_
  obtain ⟨x4, hx5, hf⟩ := e_bd hf
  refine (e_loop_ok (P := fun (v3 : Int32 × Int32) => eRun G X 4 [some (.ref 72), some (.int v3.1), some (.int v3.2)] [] h [] nx 0 0) (K := fun (x4 : Int32) => eRun G X 44 [none, some (.int x4), none] [] h [] nx 0 0) ?_ e_fuel (0, 0) x4 hx5 ?_ : _)
  · intro v3 z hz ih hx
    refine r_iload_n F dX12_greatestNumber_4 rfl ?_
    refine r_aload_n F dX12_greatestNumber_5 rfl ?_
    refine r_get F dX12_greatestNumber_6 flX12_241 h72 rfl (e_le rfl) (e_lt hnx rfl) ?_
    refine r_icmp_ge F dX12_greatestNumber_9 (tgt := 44) (by decide) (fun hc => ?_) (fun hc => ?_)
    · have hz := e_t hc hz
      refine r_drop 0 (L' := [none, some (.int v3.1), some (.int v3.2)]) rfl ?_
      refine r_drop 2 (L' := [none, some (.int v3.1), none]) rfl ?_
      obtain rfl := Option.some.inj hz
      exact hx v3.1 rfl
    · have hz := e_f hc hz
      refine r_iload_n F dX12_greatestNumber_12 rfl ?_
      refine r_aload_n F dX12_greatestNumber_13 rfl ?_
      refine r_get F dX12_greatestNumber_14 flX12_40 h72 rfl (e_le rfl) (e_lt hnx rfl) ?_
      refine r_iload_n F dX12_greatestNumber_17 rfl ?_
      obtain ⟨hg, hz⟩ := e_gd hz
      refine r_iald F dX12_greatestNumber_18 (i := v3.2) h83 (e_le rfl) (e_lt hnx rfl) (e_vp hg) ?_
      obtain ⟨q6, hq7, hz⟩ := e_bd hz
      refine r_callS F dX12_greatestNumber_19 (dc := 0) (ds := 0) (As := [.int (A83 (tn v3.2))]) (S0 := [.int v3.1]) lkX12_370 mJ9_abs_0f7a4 (tJ9_abs_0f7a4 hG (la := x_l X) (h := e_up h []) hnx  hq7) rfl rfl rfl (e_le rfl) (e_le rfl) (e_le rfl) (Nat.zero_le _) (Nat.zero_le _) (e_k ?_)
      refine r_wr0 ?_
      refine r_aload_n F dX12_greatestNumber_22 rfl ?_
      refine r_get F dX12_greatestNumber_23 flX12_43 h72 rfl (e_le rfl) (e_lt hnx rfl) ?_
      refine r_iload_n F dX12_greatestNumber_26 rfl ?_
      obtain ⟨hg, hz⟩ := e_gd hz
      refine r_iald F dX12_greatestNumber_27 (i := v3.2) h84 (e_le rfl) (e_lt hnx rfl) (e_vp hg) ?_
      obtain ⟨q8, hq9, hz⟩ := e_bd hz
      refine r_callS F dX12_greatestNumber_28 (dc := 0) (ds := 0) (As := [.int (A84 (tn v3.2))]) (S0 := [.int q6, .int v3.1]) lkX12_370 mJ9_abs_0f7a4 (tJ9_abs_0f7a4 hG (la := x_l X) (h := e_up h []) hnx  hq9) rfl rfl rfl (e_le rfl) (e_le rfl) (e_le rfl) (Nat.zero_le _) (Nat.zero_le _) (e_k ?_)
      refine r_wr0 ?_
      obtain ⟨q10, hq11, hz⟩ := e_bd hz
      refine r_callS F dX12_greatestNumber_31 (dc := 0) (ds := 0) (As := [.int q6, .int q8]) (S0 := [.int v3.1]) lkX12_464 mJ9_max_7cf53 (tJ9_max_7cf53 hG (la := x_l X) (h := e_up h []) hnx  hq11) rfl rfl rfl (e_le rfl) (e_le rfl) (e_le rfl) (Nat.zero_le _) (Nat.zero_le _) (e_k ?_)
      refine r_wr0 ?_
      obtain ⟨q12, hq13, hz⟩ := e_bd hz
      refine r_callS F dX12_greatestNumber_34 (dc := 0) (ds := 0) (As := [.int v3.1, .int q10]) (S0 := []) lkX12_464 mJ9_max_7cf53 (tJ9_max_7cf53 hG (la := x_l X) (h := e_up h []) hnx  hq13) rfl rfl rfl (e_le rfl) (e_le rfl) (e_le rfl) (Nat.zero_le _) (Nat.zero_le _) (e_k ?_)
      refine r_wr0 ?_
      refine r_istore_n F dX12_greatestNumber_37 (e_le rfl) (L' := [some (.ref 72), some (.int q12), some (.int v3.2)]) rfl ?_
      refine r_inc F dX12_greatestNumber_38 (k9 := 1) (by decide) rfl (L' := [some (.ref 72), some (.int q12), some (.int (v3.2 + 1))]) rfl ?_
      refine r_goto F dX12_greatestNumber_41 (tgt := 4) (by decide) ?_
      obtain rfl := Option.some.inj hz
      exact ih (q12, v3.2 + 1) rfl
  · show eRun G X 44 [none, some (.int x4), none] [] h [] nx 0 0
    refine r_iload_n F dX12_greatestNumber_44 rfl ?_
    obtain rfl := Option.some.inj hf
    exact r_iret F hq dX12_greatestNumber_45 rfl rfl (Nat.le_refl _) (Nat.le_refl _) ⟨rfl, rfl⟩

def fX12_hasSum (A79 : Nat → Int32) (p0 : Int32) (p1 : Int32) (p2 : Int32) (p3 : Int32) : Option (Bool) :=
  (fX12_sumRound A79 p0 p1 p2 p3 0).bind (fun q1 =>
  if q1 = 0 then
    (fX12_sumRound A79 p0 p1 p2 p3 1).bind (fun q3 =>
    if q3 = 0 then
      some false
    else
      some true)
  else
    some true)
set_option maxRecDepth 100000 in
theorem tX12_hasSum_72 {G : eG} (hG : e_GS G) {la : Launch} {h : Nat → eO} {nx : Nat} (hnx : 99 ≤ nx) {a72_0 : Int32} {a72_2 : Int32} {a72_3 : Int32} {a72_4 : Int32} {a72_5 : Int32} {a72_6 : Int32} {a72_7 : Int32} {a72_8 : Bool} {a72_9 : Int32} {a72_10 : Int32} {a72_11 : Int32} {a72_17 : Bool} {a72_18 : Bool} {a72_19 : Bool} {a72_21 : Int32} {a72_22 : Int32} {a72_29 : Int32} {a72_31 : Int32} {a72_35 : Int32} {a72_37 : Bool} {a72_38 : Int32} {a72_39 : Int32} {a72_40 : Int32} {a72_41 : Int64} {a72_44 : Int32} {a72_50 : Bool} {A79 : Nat → Int32} {p0 : Int32} {p1 : Int32} {p2 : Int32} {p3 : Int32} (h72 : h 72 = o72 a72_0 a72_2 a72_3 a72_4 a72_5 a72_6 a72_7 a72_8 a72_9 a72_10 a72_11 a72_17 a72_18 a72_19 a72_21 a72_22 a72_29 a72_31 a72_35 a72_37 a72_38 a72_39 a72_40 a72_41 a72_44 a72_50) (h79 : h 79 = o79 A79) {R9 : Bool} (hf : fX12_hasSum A79 p0 p1 p2 p3 = some R9) :
    eSem G la MX12_hasSum [.ref 72, .int p0, .int p1, .int p2, .int p3] h nx 0 0 (fun r9 h9 => r9 = some (.int (e_b R9)) ∧ h9 = h) := by
  refine eSem.of (k := 0) (L := [some (.ref 72), some (.int p0), some (.int p1), some (.int p2), some (.int p3)]) (by decide +kernel) rfl rfl (fun X F hxl hq hcR hsR => ?_)
  subst hxl
  unfold fX12_hasSum at hf
  refine r_aload_n F dX12_hasSum_0 rfl ?_
  refine r_iload_n F dX12_hasSum_1 rfl ?_
  refine r_iload_n F dX12_hasSum_2 rfl ?_
  refine r_iload_n F dX12_hasSum_3 rfl ?_
  refine r_iload F dX12_hasSum_4 rfl ?_
  refine r_iconst F dX12_hasSum_6 (v := 0) (by decide) ?_
  obtain ⟨q1, hq2, hf⟩ := e_bd hf
  refine r_callV F dX12_hasSum_7 (b := 72) (dc := 0) (ds := 0) (As := [.int p0, .int p1, .int p2, .int p3, .int 0]) (S0 := []) lkX12_314 mX12_sumRound (tX12_sumRound_72 hG (la := x_l X) (h := e_up h []) hnx h72 h79 hq2) rfl rfl rfl (e_le rfl) (e_le rfl) (e_le rfl) h72 (ci := 12) e_cl12.1 rfl (e_le rfl) (e_lt hnx rfl) (Nat.zero_le _) (Nat.zero_le _) (e_k ?_)
  refine r_wr0 ?_
  refine r_if_ne F dX12_hasSum_10 (tgt := 26) (by decide) (fun hc => ?_) (fun hc => ?_)
  · have hf := e_f hc hf
    refine r_iconst F dX12_hasSum_26 (v := 1) (by decide) ?_
    refine r_goto F dX12_hasSum_27 (tgt := 31) (by decide) ?_
    obtain rfl := Option.some.inj hf
    exact r_zret F hq (v := true) dX12_hasSum_31 rfl rfl (Nat.le_refl _) (Nat.le_refl _) ⟨rfl, rfl⟩
  · have hf := e_t hc hf
    refine r_aload_n F dX12_hasSum_13 rfl ?_
    refine r_iload_n F dX12_hasSum_14 rfl ?_
    refine r_iload_n F dX12_hasSum_15 rfl ?_
    refine r_iload_n F dX12_hasSum_16 rfl ?_
    refine r_iload F dX12_hasSum_17 rfl ?_
    refine r_iconst F dX12_hasSum_19 (v := 1) (by decide) ?_
    obtain ⟨q3, hq4, hf⟩ := e_bd hf
    refine r_callV F dX12_hasSum_20 (b := 72) (dc := 0) (ds := 0) (As := [.int p0, .int p1, .int p2, .int p3, .int 1]) (S0 := []) lkX12_314 mX12_sumRound (tX12_sumRound_72 hG (la := x_l X) (h := e_up h []) hnx h72 h79 hq4) rfl rfl rfl (e_le rfl) (e_le rfl) (e_le rfl) h72 (ci := 12) e_cl12.1 rfl (e_le rfl) (e_lt hnx rfl) (Nat.zero_le _) (Nat.zero_le _) (e_k ?_)
    refine r_wr0 ?_
    refine r_if_eq F dX12_hasSum_23 (tgt := 30) (by decide) (fun hc => ?_) (fun hc => ?_)
    · have hf := e_t hc hf
      refine r_iconst F dX12_hasSum_30 (v := 0) (by decide) ?_
      obtain rfl := Option.some.inj hf
      exact r_zret F hq (v := false) dX12_hasSum_31 rfl rfl (Nat.le_refl _) (Nat.le_refl _) ⟨rfl, rfl⟩
    · have hf := e_f hc hf
      refine r_iconst F dX12_hasSum_26 (v := 1) (by decide) ?_
      refine r_goto F dX12_hasSum_27 (tgt := 31) (by decide) ?_
      obtain rfl := Option.some.inj hf
      exact r_zret F hq (v := true) dX12_hasSum_31 rfl rfl (Nat.le_refl _) (Nat.le_refl _) ⟨rfl, rfl⟩

def fX12_laysBoxes (a72_21 : Int32) (a72_22 : Int32) (a72_35 : Int32) (A79 : Nat → Int32) (A89 : Nat → Int32)  : Option (Int32 × (Nat → Int32)) :=
  (fX12_hasSum A79 0 0 (a72_21 - 1) (a72_22 - 1)).bind (fun q1 =>
  if q1 = true then
    (fX12_boxed 0 A89 0 0 (a72_21 - 1) (a72_22 - 1)).bind (fun q3 =>
    (e_loop (fun (v7 : Int32 × Int32 × Int32 × Int32 × Int32 × (Nat → Int32)) => (
        if 1 < (v7.2.2.1 - v7.1) then
          Option.bind (α := Int32 × Int32 × Int32 × Int32) (
            if (v7.2.2.1 - v7.1) < (v7.2.2.2.1 - v7.2.1) then
              (fX12_hasSum A79 v7.1 v7.2.1 v7.2.2.1 (v7.2.1 + ((v7.2.2.2.1 - v7.2.1) / 2))).bind (fun q14 =>
              Option.bind (α := Int32) (
                if q14 = true then
                  some (v7.2.1 + ((v7.2.2.2.1 - v7.2.1) / 2))
                else
                  some v7.2.2.2.1) (fun q16 =>
              Option.bind (α := Int32) (
                if q14 = true then
                  some v7.2.1
                else
                  some (v7.2.1 + ((v7.2.2.2.1 - v7.2.1) / 2))) (fun q18 =>
              some (v7.1, q18, v7.2.2.1, q16))))
            else
              (fX12_hasSum A79 v7.1 v7.2.1 (v7.1 + ((v7.2.2.1 - v7.1) / 2)) v7.2.2.2.1).bind (fun q20 =>
              Option.bind (α := Int32) (
                if q20 = true then
                  some (v7.1 + ((v7.2.2.1 - v7.1) / 2))
                else
                  some v7.2.2.1) (fun q22 =>
              Option.bind (α := Int32) (
                if q20 = true then
                  some v7.1
                else
                  some (v7.1 + ((v7.2.2.1 - v7.1) / 2))) (fun q24 =>
              some (q24, v7.2.1, q22, v7.2.2.2.1))))) (fun q10 =>
          (fX12_boxed v7.2.2.2.2.1 v7.2.2.2.2.2 q10.1 q10.2.1 q10.2.2.1 q10.2.2.2).bind (fun q12 =>
          some (.inl (q10.1, q10.2.1, q10.2.2.1, q10.2.2.2, q12.1, q12.2))))
        else
          if (v7.2.2.2.1 - v7.2.1) ≤ 1 then
            some (.inr (v7.2.2.2.2.1, v7.2.2.2.2.2))
          else
            Option.bind (α := Int32 × Int32 × Int32 × Int32) (
              if (v7.2.2.1 - v7.1) < (v7.2.2.2.1 - v7.2.1) then
                (fX12_hasSum A79 v7.1 v7.2.1 v7.2.2.1 (v7.2.1 + ((v7.2.2.2.1 - v7.2.1) / 2))).bind (fun q30 =>
                Option.bind (α := Int32) (
                  if q30 = true then
                    some (v7.2.1 + ((v7.2.2.2.1 - v7.2.1) / 2))
                  else
                    some v7.2.2.2.1) (fun q32 =>
                Option.bind (α := Int32) (
                  if q30 = true then
                    some v7.2.1
                  else
                    some (v7.2.1 + ((v7.2.2.2.1 - v7.2.1) / 2))) (fun q34 =>
                some (v7.1, q34, v7.2.2.1, q32))))
              else
                (fX12_hasSum A79 v7.1 v7.2.1 (v7.1 + ((v7.2.2.1 - v7.1) / 2)) v7.2.2.2.1).bind (fun q36 =>
                Option.bind (α := Int32) (
                  if q36 = true then
                    some (v7.1 + ((v7.2.2.1 - v7.1) / 2))
                  else
                    some v7.2.2.1) (fun q38 =>
                Option.bind (α := Int32) (
                  if q36 = true then
                    some v7.1
                  else
                    some (v7.1 + ((v7.2.2.1 - v7.1) / 2))) (fun q40 =>
                some (q40, v7.2.1, q38, v7.2.2.2.1))))) (fun q26 =>
            (fX12_boxed v7.2.2.2.2.1 v7.2.2.2.2.2 q26.1 q26.2.1 q26.2.2.1 q26.2.2.2).bind (fun q28 =>
            some (.inl (q26.1, q26.2.1, q26.2.2.1, q26.2.2.2, q28.1, q28.2)))) : Option ((Int32 × Int32 × Int32 × Int32 × Int32 × (Nat → Int32)) ⊕ (Int32 × (Nat → Int32))))) e_fuel (0, 0, a72_21 - 1, a72_22 - 1, q3.1, q3.2)).bind (fun x8 =>
    some (x8.1, x8.2)))
  else
    some (0, A89))
set_option maxRecDepth 100000 in
theorem tX12_laysBoxes_72 {G : eG} (hG : e_GS G) {la : Launch} {h : Nat → eO} {nx : Nat} (hnx : 99 ≤ nx) {a72_0 : Int32} {a72_2 : Int32} {a72_3 : Int32} {a72_4 : Int32} {a72_5 : Int32} {a72_6 : Int32} {a72_7 : Int32} {a72_8 : Bool} {a72_9 : Int32} {a72_10 : Int32} {a72_11 : Int32} {a72_17 : Bool} {a72_18 : Bool} {a72_19 : Bool} {a72_21 : Int32} {a72_22 : Int32} {a72_29 : Int32} {a72_31 : Int32} {a72_35 : Int32} {a72_37 : Bool} {a72_38 : Int32} {a72_39 : Int32} {a72_40 : Int32} {a72_41 : Int64} {a72_44 : Int32} {a72_50 : Bool} {A79 : Nat → Int32} {A89 : Nat → Int32}  (h72 : h 72 = o72 a72_0 a72_2 a72_3 a72_4 a72_5 a72_6 a72_7 a72_8 a72_9 a72_10 a72_11 a72_17 a72_18 a72_19 a72_21 a72_22 a72_29 a72_31 a72_35 a72_37 a72_38 a72_39 a72_40 a72_41 a72_44 a72_50) (h79 : h 79 = o79 A79) (h89 : h 89 = o89 A89) {R9 : Int32 × (Nat → Int32)} (hf : fX12_laysBoxes a72_21 a72_22 a72_35 A79 A89  = some R9) :
    eSem G la MX12_laysBoxes [.ref 72] h nx 0 0 (fun r9 h9 => r9 = none ∧ h9 = e_up h [(72, o72 a72_0 a72_2 a72_3 a72_4 a72_5 a72_6 a72_7 a72_8 a72_9 a72_10 a72_11 a72_17 a72_18 a72_19 a72_21 a72_22 a72_29 a72_31 R9.1 a72_37 a72_38 a72_39 a72_40 a72_41 a72_44 a72_50), (89, o89 R9.2)]) := by
  refine eSem.of (k := 6) (L := [some (.ref 72), none, none, none, none, none, none]) (by decide +kernel) rfl rfl (fun X F hxl hq hcR hsR => ?_)
  subst hxl
  unfold fX12_laysBoxes at hf
  refine r_aload_n F dX12_laysBoxes_0 rfl ?_
  refine r_iconst F dX12_laysBoxes_1 (v := 0) (by decide) ?_
  refine r_put F dX12_laysBoxes_2 flX12_338 rfl rfl rfl h72 (e_le rfl) (e_le rfl) (e_lt hnx rfl) (l' := [(72, o72 a72_0 a72_2 a72_3 a72_4 a72_5 a72_6 a72_7 a72_8 a72_9 a72_10 a72_11 a72_17 a72_18 a72_19 a72_21 a72_22 a72_29 a72_31 0 a72_37 a72_38 a72_39 a72_40 a72_41 a72_44 a72_50)]) rfl ?_
  refine r_iconst F dX12_laysBoxes_5 (v := 0) (by decide) ?_
  refine r_istore_n F dX12_laysBoxes_6 (e_le rfl) (L' := [some (.ref 72), some (.int 0), none, none, none, none, none]) rfl ?_
  refine r_iconst F dX12_laysBoxes_7 (v := 0) (by decide) ?_
  refine r_istore_n F dX12_laysBoxes_8 (e_le rfl) (L' := [some (.ref 72), some (.int 0), some (.int 0), none, none, none, none]) rfl ?_
  refine r_aload_n F dX12_laysBoxes_9 rfl ?_
  refine r_get F dX12_laysBoxes_10 flX12_205 rfl rfl (e_le rfl) (e_lt hnx rfl) ?_
  refine r_iconst F dX12_laysBoxes_13 (v := 1) (by decide) ?_
  refine r_isub F dX12_laysBoxes_14 ?_
  refine r_istore_n F dX12_laysBoxes_15 (e_le rfl) (L' := [some (.ref 72), some (.int 0), some (.int 0), some (.int (a72_21 - 1)), none, none, none]) rfl ?_
  refine r_aload_n F dX12_laysBoxes_16 rfl ?_
  refine r_get F dX12_laysBoxes_17 flX12_208 rfl rfl (e_le rfl) (e_lt hnx rfl) ?_
  refine r_iconst F dX12_laysBoxes_20 (v := 1) (by decide) ?_
  refine r_isub F dX12_laysBoxes_21 ?_
  refine r_istore F dX12_laysBoxes_22 (e_le rfl) (L' := [some (.ref 72), some (.int 0), some (.int 0), some (.int (a72_21 - 1)), some (.int (a72_22 - 1)), none, none]) rfl ?_
  refine r_aload_n F dX12_laysBoxes_24 rfl ?_
  refine r_iload_n F dX12_laysBoxes_25 rfl ?_
  refine r_iload_n F dX12_laysBoxes_26 rfl ?_
  refine r_iload_n F dX12_laysBoxes_27 rfl ?_
  refine r_iload F dX12_laysBoxes_28 rfl ?_
  obtain ⟨q1, hq2, hf⟩ := e_bd hf
  refine r_callV F dX12_laysBoxes_30 (b := 72) (dc := 0) (ds := 0) (As := [.int 0, .int 0, .int (a72_21 - 1), .int (a72_22 - 1)]) (S0 := []) lkX12_341 mX12_hasSum (tX12_hasSum_72 hG (la := x_l X) (h := e_up h [(72, o72 a72_0 a72_2 a72_3 a72_4 a72_5 a72_6 a72_7 a72_8 a72_9 a72_10 a72_11 a72_17 a72_18 a72_19 a72_21 a72_22 a72_29 a72_31 0 a72_37 a72_38 a72_39 a72_40 a72_41 a72_44 a72_50)]) hnx rfl h79 hq2) rfl rfl rfl (e_le rfl) (e_le rfl) (e_le rfl) rfl (ci := 12) e_cl12.1 rfl (e_le rfl) (e_lt hnx rfl) (Nat.zero_le _) (Nat.zero_le _) (e_k ?_)
  refine r_wr0 ?_
  refine r_z_ne F dX12_laysBoxes_33 (tgt := 37) (by decide) (fun hc => ?_) (fun hc => ?_)
  · have hf := e_t hc hf
    refine r_aload_n F dX12_laysBoxes_37 rfl ?_
    refine r_iload_n F dX12_laysBoxes_38 rfl ?_
    refine r_iload_n F dX12_laysBoxes_39 rfl ?_
    refine r_iload_n F dX12_laysBoxes_40 rfl ?_
    refine r_iload F dX12_laysBoxes_41 rfl ?_
    obtain ⟨q3, hq4, hf⟩ := e_bd hf
    refine r_callV F dX12_laysBoxes_43 (b := 72) (dc := 0) (ds := 0) (As := [.int 0, .int 0, .int (a72_21 - 1), .int (a72_22 - 1)]) (S0 := []) lkX12_345 mX12_boxed (tX12_boxed_72 hG (la := x_l X) (h := e_up h [(72, o72 a72_0 a72_2 a72_3 a72_4 a72_5 a72_6 a72_7 a72_8 a72_9 a72_10 a72_11 a72_17 a72_18 a72_19 a72_21 a72_22 a72_29 a72_31 0 a72_37 a72_38 a72_39 a72_40 a72_41 a72_44 a72_50)]) hnx rfl h89 hq4) rfl rfl rfl (e_le rfl) (e_le rfl) (e_le rfl) rfl (ci := 12) e_cl12.1 rfl (e_le rfl) (e_lt hnx rfl) (Nat.zero_le _) (Nat.zero_le _) (e_k ?_)
    refine r_wr (l' := [(72, o72 a72_0 a72_2 a72_3 a72_4 a72_5 a72_6 a72_7 a72_8 a72_9 a72_10 a72_11 a72_17 a72_18 a72_19 a72_21 a72_22 a72_29 a72_31 q3.1 a72_37 a72_38 a72_39 a72_40 a72_41 a72_44 a72_50), (89, o89 q3.2)]) rfl rfl ?_
    obtain ⟨x8, hx9, hf⟩ := e_bd hf
    refine (e_loop_ok (P := fun (v7 : Int32 × Int32 × Int32 × Int32 × Int32 × (Nat → Int32)) => eRun G X 46 [some (.ref 72), some (.int v7.1), some (.int v7.2.1), some (.int v7.2.2.1), some (.int v7.2.2.2.1), none, none] [] h [(72, o72 a72_0 a72_2 a72_3 a72_4 a72_5 a72_6 a72_7 a72_8 a72_9 a72_10 a72_11 a72_17 a72_18 a72_19 a72_21 a72_22 a72_29 a72_31 v7.2.2.2.2.1 a72_37 a72_38 a72_39 a72_40 a72_41 a72_44 a72_50), (89, o89 v7.2.2.2.2.2)] nx 0 0) (K := fun (x8 : Int32 × (Nat → Int32)) => eRun G X 178 [none, none, none, none, none, none, none] [] h [(72, o72 a72_0 a72_2 a72_3 a72_4 a72_5 a72_6 a72_7 a72_8 a72_9 a72_10 a72_11 a72_17 a72_18 a72_19 a72_21 a72_22 a72_29 a72_31 x8.1 a72_37 a72_38 a72_39 a72_40 a72_41 a72_44 a72_50), (89, o89 x8.2)] nx 0 0) ?_ e_fuel (0, 0, a72_21 - 1, a72_22 - 1, q3.1, q3.2) x8 hx9 ?_ : _)
    · intro v7 z hz ih hx
      refine r_iload_n F dX12_laysBoxes_46 rfl ?_
      refine r_iload_n F dX12_laysBoxes_47 rfl ?_
      refine r_isub F dX12_laysBoxes_48 ?_
      refine r_iconst F dX12_laysBoxes_49 (v := 1) (by decide) ?_
      refine r_icmp_gt F dX12_laysBoxes_50 (tgt := 61) (by decide) (fun hc => ?_) (fun hc => ?_)
      · have hz := e_t hc hz
        refine r_iload_n F dX12_laysBoxes_61 rfl ?_
        refine r_iload_n F dX12_laysBoxes_62 rfl ?_
        refine r_isub F dX12_laysBoxes_63 ?_
        refine r_iload F dX12_laysBoxes_64 rfl ?_
        refine r_iload_n F dX12_laysBoxes_66 rfl ?_
        refine r_isub F dX12_laysBoxes_67 ?_
        obtain ⟨q10, hq11, hz⟩ := e_bd hz
        have Jq10 : eRun G X 166 [some (.ref 72), some (.int q10.1), some (.int q10.2.1), some (.int q10.2.2.1), some (.int q10.2.2.2), none, none] [] h [(72, o72 a72_0 a72_2 a72_3 a72_4 a72_5 a72_6 a72_7 a72_8 a72_9 a72_10 a72_11 a72_17 a72_18 a72_19 a72_21 a72_22 a72_29 a72_31 v7.2.2.2.2.1 a72_37 a72_38 a72_39 a72_40 a72_41 a72_44 a72_50), (89, o89 v7.2.2.2.2.2)] nx 0 0 := by
          refine r_aload_n F dX12_laysBoxes_166 rfl ?_
          refine r_iload_n F dX12_laysBoxes_167 rfl ?_
          refine r_iload_n F dX12_laysBoxes_168 rfl ?_
          refine r_iload_n F dX12_laysBoxes_169 rfl ?_
          refine r_iload F dX12_laysBoxes_170 rfl ?_
          obtain ⟨q12, hq13, hz⟩ := e_bd hz
          refine r_callV F dX12_laysBoxes_172 (b := 72) (dc := 0) (ds := 0) (As := [.int q10.1, .int q10.2.1, .int q10.2.2.1, .int q10.2.2.2]) (S0 := []) lkX12_345 mX12_boxed (tX12_boxed_72 hG (la := x_l X) (h := e_up h [(72, o72 a72_0 a72_2 a72_3 a72_4 a72_5 a72_6 a72_7 a72_8 a72_9 a72_10 a72_11 a72_17 a72_18 a72_19 a72_21 a72_22 a72_29 a72_31 v7.2.2.2.2.1 a72_37 a72_38 a72_39 a72_40 a72_41 a72_44 a72_50), (89, o89 v7.2.2.2.2.2)]) hnx rfl rfl hq13) rfl rfl rfl (e_le rfl) (e_le rfl) (e_le rfl) rfl (ci := 12) e_cl12.1 rfl (e_le rfl) (e_lt hnx rfl) (Nat.zero_le _) (Nat.zero_le _) (e_k ?_)
          refine r_wr (l' := [(72, o72 a72_0 a72_2 a72_3 a72_4 a72_5 a72_6 a72_7 a72_8 a72_9 a72_10 a72_11 a72_17 a72_18 a72_19 a72_21 a72_22 a72_29 a72_31 q12.1 a72_37 a72_38 a72_39 a72_40 a72_41 a72_44 a72_50), (89, o89 q12.2)]) rfl rfl ?_
          refine r_goto F dX12_laysBoxes_175 (tgt := 46) (by decide) ?_
          obtain rfl := Option.some.inj hz
          exact ih (q10.1, q10.2.1, q10.2.2.1, q10.2.2.2, q12.1, q12.2) rfl
        refine r_icmp_lt F dX12_laysBoxes_68 (tgt := 119) (by decide) (fun hc => ?_) (fun hc => ?_)
        · have hq11 := e_t hc hq11
          refine r_iload_n F dX12_laysBoxes_119 rfl ?_
          refine r_iload F dX12_laysBoxes_120 rfl ?_
          refine r_iload_n F dX12_laysBoxes_122 rfl ?_
          refine r_isub F dX12_laysBoxes_123 ?_
          refine r_iconst F dX12_laysBoxes_124 (v := 2) (by decide) ?_
          refine r_idiv F dX12_laysBoxes_125 (by decide) ?_
          refine r_iadd F dX12_laysBoxes_126 ?_
          refine r_istore F dX12_laysBoxes_127 (e_le rfl) (L' := [some (.ref 72), some (.int v7.1), some (.int v7.2.1), some (.int v7.2.2.1), some (.int v7.2.2.2.1), some (.int (v7.2.1 + ((v7.2.2.2.1 - v7.2.1) / 2))), none]) rfl ?_
          refine r_aload_n F dX12_laysBoxes_129 rfl ?_
          refine r_iload_n F dX12_laysBoxes_130 rfl ?_
          refine r_iload_n F dX12_laysBoxes_131 rfl ?_
          refine r_iload_n F dX12_laysBoxes_132 rfl ?_
          refine r_iload F dX12_laysBoxes_133 rfl ?_
          obtain ⟨q14, hq15, hq11⟩ := e_bd hq11
          refine r_callV F dX12_laysBoxes_135 (b := 72) (dc := 0) (ds := 0) (As := [.int v7.1, .int v7.2.1, .int v7.2.2.1, .int (v7.2.1 + ((v7.2.2.2.1 - v7.2.1) / 2))]) (S0 := []) lkX12_341 mX12_hasSum (tX12_hasSum_72 hG (la := x_l X) (h := e_up h [(72, o72 a72_0 a72_2 a72_3 a72_4 a72_5 a72_6 a72_7 a72_8 a72_9 a72_10 a72_11 a72_17 a72_18 a72_19 a72_21 a72_22 a72_29 a72_31 v7.2.2.2.2.1 a72_37 a72_38 a72_39 a72_40 a72_41 a72_44 a72_50), (89, o89 v7.2.2.2.2.2)]) hnx rfl h79 hq15) rfl rfl rfl (e_le rfl) (e_le rfl) (e_le rfl) rfl (ci := 12) e_cl12.1 rfl (e_le rfl) (e_lt hnx rfl) (Nat.zero_le _) (Nat.zero_le _) (e_k ?_)
          refine r_wr0 ?_
          refine r_istore F dX12_laysBoxes_138 (e_le rfl) (L' := [some (.ref 72), some (.int v7.1), some (.int v7.2.1), some (.int v7.2.2.1), some (.int v7.2.2.2.1), some (.int (v7.2.1 + ((v7.2.2.2.1 - v7.2.1) / 2))), some (.int (e_b q14))]) rfl ?_
          refine r_iload F dX12_laysBoxes_140 rfl ?_
          obtain ⟨q16, hq17, hq11⟩ := e_bd hq11
          have Jq16 : eRun G X 152 [some (.ref 72), some (.int v7.1), some (.int v7.2.1), some (.int v7.2.2.1), none, some (.int (v7.2.1 + ((v7.2.2.2.1 - v7.2.1) / 2))), some (.int (e_b q14))] [.int q16] h [(72, o72 a72_0 a72_2 a72_3 a72_4 a72_5 a72_6 a72_7 a72_8 a72_9 a72_10 a72_11 a72_17 a72_18 a72_19 a72_21 a72_22 a72_29 a72_31 v7.2.2.2.2.1 a72_37 a72_38 a72_39 a72_40 a72_41 a72_44 a72_50), (89, o89 v7.2.2.2.2.2)] nx 0 0 := by
            refine r_istore F dX12_laysBoxes_152 (e_le rfl) (L' := [some (.ref 72), some (.int v7.1), some (.int v7.2.1), some (.int v7.2.2.1), some (.int q16), some (.int (v7.2.1 + ((v7.2.2.2.1 - v7.2.1) / 2))), some (.int (e_b q14))]) rfl ?_
            refine r_iload F dX12_laysBoxes_154 rfl ?_
            obtain ⟨q18, hq19, hq11⟩ := e_bd hq11
            have Jq18 : eRun G X 165 [some (.ref 72), some (.int v7.1), none, some (.int v7.2.2.1), some (.int q16), none, none] [.int q18] h [(72, o72 a72_0 a72_2 a72_3 a72_4 a72_5 a72_6 a72_7 a72_8 a72_9 a72_10 a72_11 a72_17 a72_18 a72_19 a72_21 a72_22 a72_29 a72_31 v7.2.2.2.2.1 a72_37 a72_38 a72_39 a72_40 a72_41 a72_44 a72_50), (89, o89 v7.2.2.2.2.2)] nx 0 0 := by
              refine r_istore_n F dX12_laysBoxes_165 (e_le rfl) (L' := [some (.ref 72), some (.int v7.1), some (.int q18), some (.int v7.2.2.1), some (.int q16), none, none]) rfl ?_
              obtain rfl := Option.some.inj hq11
              exact Jq10
            refine r_z_eq F dX12_laysBoxes_156 (tgt := 163) (by decide) (fun hc => ?_) (fun hc => ?_)
            · have hq19 := e_t hc hq19
              refine r_iload_n F dX12_laysBoxes_159 rfl ?_
              refine r_goto F dX12_laysBoxes_160 (tgt := 165) (by decide) ?_
              refine r_drop 2 (L' := [some (.ref 72), some (.int v7.1), none, some (.int v7.2.2.1), some (.int q16), some (.int (v7.2.1 + ((v7.2.2.2.1 - v7.2.1) / 2))), some (.int (e_b q14))]) rfl ?_
              refine r_drop 5 (L' := [some (.ref 72), some (.int v7.1), none, some (.int v7.2.2.1), some (.int q16), none, some (.int (e_b q14))]) rfl ?_
              refine r_drop 6 (L' := [some (.ref 72), some (.int v7.1), none, some (.int v7.2.2.1), some (.int q16), none, none]) rfl ?_
              obtain rfl := Option.some.inj hq19
              exact Jq18
            · have hq19 := e_f hc hq19
              refine r_iload F dX12_laysBoxes_163 rfl ?_
              refine r_drop 2 (L' := [some (.ref 72), some (.int v7.1), none, some (.int v7.2.2.1), some (.int q16), some (.int (v7.2.1 + ((v7.2.2.2.1 - v7.2.1) / 2))), some (.int (e_b q14))]) rfl ?_
              refine r_drop 5 (L' := [some (.ref 72), some (.int v7.1), none, some (.int v7.2.2.1), some (.int q16), none, some (.int (e_b q14))]) rfl ?_
              refine r_drop 6 (L' := [some (.ref 72), some (.int v7.1), none, some (.int v7.2.2.1), some (.int q16), none, none]) rfl ?_
              obtain rfl := Option.some.inj hq19
              exact Jq18
          refine r_z_eq F dX12_laysBoxes_142 (tgt := 150) (by decide) (fun hc => ?_) (fun hc => ?_)
          · have hq17 := e_t hc hq17
            refine r_iload F dX12_laysBoxes_145 rfl ?_
            refine r_goto F dX12_laysBoxes_147 (tgt := 152) (by decide) ?_
            refine r_drop 4 (L' := [some (.ref 72), some (.int v7.1), some (.int v7.2.1), some (.int v7.2.2.1), none, some (.int (v7.2.1 + ((v7.2.2.2.1 - v7.2.1) / 2))), some (.int (e_b q14))]) rfl ?_
            obtain rfl := Option.some.inj hq17
            exact Jq16
          · have hq17 := e_f hc hq17
            refine r_iload F dX12_laysBoxes_150 rfl ?_
            refine r_drop 4 (L' := [some (.ref 72), some (.int v7.1), some (.int v7.2.1), some (.int v7.2.2.1), none, some (.int (v7.2.1 + ((v7.2.2.2.1 - v7.2.1) / 2))), some (.int (e_b q14))]) rfl ?_
            obtain rfl := Option.some.inj hq17
            exact Jq16
        · have hq11 := e_f hc hq11
          refine r_iload_n F dX12_laysBoxes_71 rfl ?_
          refine r_iload_n F dX12_laysBoxes_72 rfl ?_
          refine r_iload_n F dX12_laysBoxes_73 rfl ?_
          refine r_isub F dX12_laysBoxes_74 ?_
          refine r_iconst F dX12_laysBoxes_75 (v := 2) (by decide) ?_
          refine r_idiv F dX12_laysBoxes_76 (by decide) ?_
          refine r_iadd F dX12_laysBoxes_77 ?_
          refine r_istore F dX12_laysBoxes_78 (e_le rfl) (L' := [some (.ref 72), some (.int v7.1), some (.int v7.2.1), some (.int v7.2.2.1), some (.int v7.2.2.2.1), some (.int (v7.1 + ((v7.2.2.1 - v7.1) / 2))), none]) rfl ?_
          refine r_aload_n F dX12_laysBoxes_80 rfl ?_
          refine r_iload_n F dX12_laysBoxes_81 rfl ?_
          refine r_iload_n F dX12_laysBoxes_82 rfl ?_
          refine r_iload F dX12_laysBoxes_83 rfl ?_
          refine r_iload F dX12_laysBoxes_85 rfl ?_
          obtain ⟨q20, hq21, hq11⟩ := e_bd hq11
          refine r_callV F dX12_laysBoxes_87 (b := 72) (dc := 0) (ds := 0) (As := [.int v7.1, .int v7.2.1, .int (v7.1 + ((v7.2.2.1 - v7.1) / 2)), .int v7.2.2.2.1]) (S0 := []) lkX12_341 mX12_hasSum (tX12_hasSum_72 hG (la := x_l X) (h := e_up h [(72, o72 a72_0 a72_2 a72_3 a72_4 a72_5 a72_6 a72_7 a72_8 a72_9 a72_10 a72_11 a72_17 a72_18 a72_19 a72_21 a72_22 a72_29 a72_31 v7.2.2.2.2.1 a72_37 a72_38 a72_39 a72_40 a72_41 a72_44 a72_50), (89, o89 v7.2.2.2.2.2)]) hnx rfl h79 hq21) rfl rfl rfl (e_le rfl) (e_le rfl) (e_le rfl) rfl (ci := 12) e_cl12.1 rfl (e_le rfl) (e_lt hnx rfl) (Nat.zero_le _) (Nat.zero_le _) (e_k ?_)
          refine r_wr0 ?_
          refine r_istore F dX12_laysBoxes_90 (e_le rfl) (L' := [some (.ref 72), some (.int v7.1), some (.int v7.2.1), some (.int v7.2.2.1), some (.int v7.2.2.2.1), some (.int (v7.1 + ((v7.2.2.1 - v7.1) / 2))), some (.int (e_b q20))]) rfl ?_
          refine r_iload F dX12_laysBoxes_92 rfl ?_
          obtain ⟨q22, hq23, hq11⟩ := e_bd hq11
          have Jq22 : eRun G X 103 [some (.ref 72), some (.int v7.1), some (.int v7.2.1), none, some (.int v7.2.2.2.1), some (.int (v7.1 + ((v7.2.2.1 - v7.1) / 2))), some (.int (e_b q20))] [.int q22] h [(72, o72 a72_0 a72_2 a72_3 a72_4 a72_5 a72_6 a72_7 a72_8 a72_9 a72_10 a72_11 a72_17 a72_18 a72_19 a72_21 a72_22 a72_29 a72_31 v7.2.2.2.2.1 a72_37 a72_38 a72_39 a72_40 a72_41 a72_44 a72_50), (89, o89 v7.2.2.2.2.2)] nx 0 0 := by
            refine r_istore_n F dX12_laysBoxes_103 (e_le rfl) (L' := [some (.ref 72), some (.int v7.1), some (.int v7.2.1), some (.int q22), some (.int v7.2.2.2.1), some (.int (v7.1 + ((v7.2.2.1 - v7.1) / 2))), some (.int (e_b q20))]) rfl ?_
            refine r_iload F dX12_laysBoxes_104 rfl ?_
            obtain ⟨q24, hq25, hq11⟩ := e_bd hq11
            have Jq24 : eRun G X 115 [some (.ref 72), none, some (.int v7.2.1), some (.int q22), some (.int v7.2.2.2.1), none, none] [.int q24] h [(72, o72 a72_0 a72_2 a72_3 a72_4 a72_5 a72_6 a72_7 a72_8 a72_9 a72_10 a72_11 a72_17 a72_18 a72_19 a72_21 a72_22 a72_29 a72_31 v7.2.2.2.2.1 a72_37 a72_38 a72_39 a72_40 a72_41 a72_44 a72_50), (89, o89 v7.2.2.2.2.2)] nx 0 0 := by
              refine r_istore_n F dX12_laysBoxes_115 (e_le rfl) (L' := [some (.ref 72), some (.int q24), some (.int v7.2.1), some (.int q22), some (.int v7.2.2.2.1), none, none]) rfl ?_
              refine r_goto F dX12_laysBoxes_116 (tgt := 166) (by decide) ?_
              obtain rfl := Option.some.inj hq11
              exact Jq10
            refine r_z_eq F dX12_laysBoxes_106 (tgt := 113) (by decide) (fun hc => ?_) (fun hc => ?_)
            · have hq25 := e_t hc hq25
              refine r_iload_n F dX12_laysBoxes_109 rfl ?_
              refine r_goto F dX12_laysBoxes_110 (tgt := 115) (by decide) ?_
              refine r_drop 1 (L' := [some (.ref 72), none, some (.int v7.2.1), some (.int q22), some (.int v7.2.2.2.1), some (.int (v7.1 + ((v7.2.2.1 - v7.1) / 2))), some (.int (e_b q20))]) rfl ?_
              refine r_drop 5 (L' := [some (.ref 72), none, some (.int v7.2.1), some (.int q22), some (.int v7.2.2.2.1), none, some (.int (e_b q20))]) rfl ?_
              refine r_drop 6 (L' := [some (.ref 72), none, some (.int v7.2.1), some (.int q22), some (.int v7.2.2.2.1), none, none]) rfl ?_
              obtain rfl := Option.some.inj hq25
              exact Jq24
            · have hq25 := e_f hc hq25
              refine r_iload F dX12_laysBoxes_113 rfl ?_
              refine r_drop 1 (L' := [some (.ref 72), none, some (.int v7.2.1), some (.int q22), some (.int v7.2.2.2.1), some (.int (v7.1 + ((v7.2.2.1 - v7.1) / 2))), some (.int (e_b q20))]) rfl ?_
              refine r_drop 5 (L' := [some (.ref 72), none, some (.int v7.2.1), some (.int q22), some (.int v7.2.2.2.1), none, some (.int (e_b q20))]) rfl ?_
              refine r_drop 6 (L' := [some (.ref 72), none, some (.int v7.2.1), some (.int q22), some (.int v7.2.2.2.1), none, none]) rfl ?_
              obtain rfl := Option.some.inj hq25
              exact Jq24
          refine r_z_eq F dX12_laysBoxes_94 (tgt := 102) (by decide) (fun hc => ?_) (fun hc => ?_)
          · have hq23 := e_t hc hq23
            refine r_iload F dX12_laysBoxes_97 rfl ?_
            refine r_goto F dX12_laysBoxes_99 (tgt := 103) (by decide) ?_
            refine r_drop 3 (L' := [some (.ref 72), some (.int v7.1), some (.int v7.2.1), none, some (.int v7.2.2.2.1), some (.int (v7.1 + ((v7.2.2.1 - v7.1) / 2))), some (.int (e_b q20))]) rfl ?_
            obtain rfl := Option.some.inj hq23
            exact Jq22
          · have hq23 := e_f hc hq23
            refine r_iload_n F dX12_laysBoxes_102 rfl ?_
            refine r_drop 3 (L' := [some (.ref 72), some (.int v7.1), some (.int v7.2.1), none, some (.int v7.2.2.2.1), some (.int (v7.1 + ((v7.2.2.1 - v7.1) / 2))), some (.int (e_b q20))]) rfl ?_
            obtain rfl := Option.some.inj hq23
            exact Jq22
      · have hz := e_f hc hz
        refine r_iload F dX12_laysBoxes_53 rfl ?_
        refine r_iload_n F dX12_laysBoxes_55 rfl ?_
        refine r_isub F dX12_laysBoxes_56 ?_
        refine r_iconst F dX12_laysBoxes_57 (v := 1) (by decide) ?_
        refine r_icmp_le F dX12_laysBoxes_58 (tgt := 178) (by decide) (fun hc => ?_) (fun hc => ?_)
        · have hz := e_t hc hz
          refine r_drop 0 (L' := [none, some (.int v7.1), some (.int v7.2.1), some (.int v7.2.2.1), some (.int v7.2.2.2.1), none, none]) rfl ?_
          refine r_drop 1 (L' := [none, none, some (.int v7.2.1), some (.int v7.2.2.1), some (.int v7.2.2.2.1), none, none]) rfl ?_
          refine r_drop 2 (L' := [none, none, none, some (.int v7.2.2.1), some (.int v7.2.2.2.1), none, none]) rfl ?_
          refine r_drop 3 (L' := [none, none, none, none, some (.int v7.2.2.2.1), none, none]) rfl ?_
          refine r_drop 4 (L' := [none, none, none, none, none, none, none]) rfl ?_
          obtain rfl := Option.some.inj hz
          exact hx (v7.2.2.2.2.1, v7.2.2.2.2.2) rfl
        · have hz := e_f hc hz
          refine r_iload_n F dX12_laysBoxes_61 rfl ?_
          refine r_iload_n F dX12_laysBoxes_62 rfl ?_
          refine r_isub F dX12_laysBoxes_63 ?_
          refine r_iload F dX12_laysBoxes_64 rfl ?_
          refine r_iload_n F dX12_laysBoxes_66 rfl ?_
          refine r_isub F dX12_laysBoxes_67 ?_
          obtain ⟨q26, hq27, hz⟩ := e_bd hz
          have Jq26 : eRun G X 166 [some (.ref 72), some (.int q26.1), some (.int q26.2.1), some (.int q26.2.2.1), some (.int q26.2.2.2), none, none] [] h [(72, o72 a72_0 a72_2 a72_3 a72_4 a72_5 a72_6 a72_7 a72_8 a72_9 a72_10 a72_11 a72_17 a72_18 a72_19 a72_21 a72_22 a72_29 a72_31 v7.2.2.2.2.1 a72_37 a72_38 a72_39 a72_40 a72_41 a72_44 a72_50), (89, o89 v7.2.2.2.2.2)] nx 0 0 := by
            refine r_aload_n F dX12_laysBoxes_166 rfl ?_
            refine r_iload_n F dX12_laysBoxes_167 rfl ?_
            refine r_iload_n F dX12_laysBoxes_168 rfl ?_
            refine r_iload_n F dX12_laysBoxes_169 rfl ?_
            refine r_iload F dX12_laysBoxes_170 rfl ?_
            obtain ⟨q28, hq29, hz⟩ := e_bd hz
            refine r_callV F dX12_laysBoxes_172 (b := 72) (dc := 0) (ds := 0) (As := [.int q26.1, .int q26.2.1, .int q26.2.2.1, .int q26.2.2.2]) (S0 := []) lkX12_345 mX12_boxed (tX12_boxed_72 hG (la := x_l X) (h := e_up h [(72, o72 a72_0 a72_2 a72_3 a72_4 a72_5 a72_6 a72_7 a72_8 a72_9 a72_10 a72_11 a72_17 a72_18 a72_19 a72_21 a72_22 a72_29 a72_31 v7.2.2.2.2.1 a72_37 a72_38 a72_39 a72_40 a72_41 a72_44 a72_50), (89, o89 v7.2.2.2.2.2)]) hnx rfl rfl hq29) rfl rfl rfl (e_le rfl) (e_le rfl) (e_le rfl) rfl (ci := 12) e_cl12.1 rfl (e_le rfl) (e_lt hnx rfl) (Nat.zero_le _) (Nat.zero_le _) (e_k ?_)
            refine r_wr (l' := [(72, o72 a72_0 a72_2 a72_3 a72_4 a72_5 a72_6 a72_7 a72_8 a72_9 a72_10 a72_11 a72_17 a72_18 a72_19 a72_21 a72_22 a72_29 a72_31 q28.1 a72_37 a72_38 a72_39 a72_40 a72_41 a72_44 a72_50), (89, o89 q28.2)]) rfl rfl ?_
            refine r_goto F dX12_laysBoxes_175 (tgt := 46) (by decide) ?_
            obtain rfl := Option.some.inj hz
            exact ih (q26.1, q26.2.1, q26.2.2.1, q26.2.2.2, q28.1, q28.2) rfl
          refine r_icmp_lt F dX12_laysBoxes_68 (tgt := 119) (by decide) (fun hc => ?_) (fun hc => ?_)
          · have hq27 := e_t hc hq27
            refine r_iload_n F dX12_laysBoxes_119 rfl ?_
            refine r_iload F dX12_laysBoxes_120 rfl ?_
            refine r_iload_n F dX12_laysBoxes_122 rfl ?_
            refine r_isub F dX12_laysBoxes_123 ?_
            refine r_iconst F dX12_laysBoxes_124 (v := 2) (by decide) ?_
            refine r_idiv F dX12_laysBoxes_125 (by decide) ?_
            refine r_iadd F dX12_laysBoxes_126 ?_
            refine r_istore F dX12_laysBoxes_127 (e_le rfl) (L' := [some (.ref 72), some (.int v7.1), some (.int v7.2.1), some (.int v7.2.2.1), some (.int v7.2.2.2.1), some (.int (v7.2.1 + ((v7.2.2.2.1 - v7.2.1) / 2))), none]) rfl ?_
            refine r_aload_n F dX12_laysBoxes_129 rfl ?_
            refine r_iload_n F dX12_laysBoxes_130 rfl ?_
            refine r_iload_n F dX12_laysBoxes_131 rfl ?_
            refine r_iload_n F dX12_laysBoxes_132 rfl ?_
            refine r_iload F dX12_laysBoxes_133 rfl ?_
            obtain ⟨q30, hq31, hq27⟩ := e_bd hq27
            refine r_callV F dX12_laysBoxes_135 (b := 72) (dc := 0) (ds := 0) (As := [.int v7.1, .int v7.2.1, .int v7.2.2.1, .int (v7.2.1 + ((v7.2.2.2.1 - v7.2.1) / 2))]) (S0 := []) lkX12_341 mX12_hasSum (tX12_hasSum_72 hG (la := x_l X) (h := e_up h [(72, o72 a72_0 a72_2 a72_3 a72_4 a72_5 a72_6 a72_7 a72_8 a72_9 a72_10 a72_11 a72_17 a72_18 a72_19 a72_21 a72_22 a72_29 a72_31 v7.2.2.2.2.1 a72_37 a72_38 a72_39 a72_40 a72_41 a72_44 a72_50), (89, o89 v7.2.2.2.2.2)]) hnx rfl h79 hq31) rfl rfl rfl (e_le rfl) (e_le rfl) (e_le rfl) rfl (ci := 12) e_cl12.1 rfl (e_le rfl) (e_lt hnx rfl) (Nat.zero_le _) (Nat.zero_le _) (e_k ?_)
            refine r_wr0 ?_
            refine r_istore F dX12_laysBoxes_138 (e_le rfl) (L' := [some (.ref 72), some (.int v7.1), some (.int v7.2.1), some (.int v7.2.2.1), some (.int v7.2.2.2.1), some (.int (v7.2.1 + ((v7.2.2.2.1 - v7.2.1) / 2))), some (.int (e_b q30))]) rfl ?_
            refine r_iload F dX12_laysBoxes_140 rfl ?_
            obtain ⟨q32, hq33, hq27⟩ := e_bd hq27
            have Jq32 : eRun G X 152 [some (.ref 72), some (.int v7.1), some (.int v7.2.1), some (.int v7.2.2.1), none, some (.int (v7.2.1 + ((v7.2.2.2.1 - v7.2.1) / 2))), some (.int (e_b q30))] [.int q32] h [(72, o72 a72_0 a72_2 a72_3 a72_4 a72_5 a72_6 a72_7 a72_8 a72_9 a72_10 a72_11 a72_17 a72_18 a72_19 a72_21 a72_22 a72_29 a72_31 v7.2.2.2.2.1 a72_37 a72_38 a72_39 a72_40 a72_41 a72_44 a72_50), (89, o89 v7.2.2.2.2.2)] nx 0 0 := by
              refine r_istore F dX12_laysBoxes_152 (e_le rfl) (L' := [some (.ref 72), some (.int v7.1), some (.int v7.2.1), some (.int v7.2.2.1), some (.int q32), some (.int (v7.2.1 + ((v7.2.2.2.1 - v7.2.1) / 2))), some (.int (e_b q30))]) rfl ?_
              refine r_iload F dX12_laysBoxes_154 rfl ?_
              obtain ⟨q34, hq35, hq27⟩ := e_bd hq27
              have Jq34 : eRun G X 165 [some (.ref 72), some (.int v7.1), none, some (.int v7.2.2.1), some (.int q32), none, none] [.int q34] h [(72, o72 a72_0 a72_2 a72_3 a72_4 a72_5 a72_6 a72_7 a72_8 a72_9 a72_10 a72_11 a72_17 a72_18 a72_19 a72_21 a72_22 a72_29 a72_31 v7.2.2.2.2.1 a72_37 a72_38 a72_39 a72_40 a72_41 a72_44 a72_50), (89, o89 v7.2.2.2.2.2)] nx 0 0 := by
                refine r_istore_n F dX12_laysBoxes_165 (e_le rfl) (L' := [some (.ref 72), some (.int v7.1), some (.int q34), some (.int v7.2.2.1), some (.int q32), none, none]) rfl ?_
                obtain rfl := Option.some.inj hq27
                exact Jq26
              refine r_z_eq F dX12_laysBoxes_156 (tgt := 163) (by decide) (fun hc => ?_) (fun hc => ?_)
              · have hq35 := e_t hc hq35
                refine r_iload_n F dX12_laysBoxes_159 rfl ?_
                refine r_goto F dX12_laysBoxes_160 (tgt := 165) (by decide) ?_
                refine r_drop 2 (L' := [some (.ref 72), some (.int v7.1), none, some (.int v7.2.2.1), some (.int q32), some (.int (v7.2.1 + ((v7.2.2.2.1 - v7.2.1) / 2))), some (.int (e_b q30))]) rfl ?_
                refine r_drop 5 (L' := [some (.ref 72), some (.int v7.1), none, some (.int v7.2.2.1), some (.int q32), none, some (.int (e_b q30))]) rfl ?_
                refine r_drop 6 (L' := [some (.ref 72), some (.int v7.1), none, some (.int v7.2.2.1), some (.int q32), none, none]) rfl ?_
                obtain rfl := Option.some.inj hq35
                exact Jq34
              · have hq35 := e_f hc hq35
                refine r_iload F dX12_laysBoxes_163 rfl ?_
                refine r_drop 2 (L' := [some (.ref 72), some (.int v7.1), none, some (.int v7.2.2.1), some (.int q32), some (.int (v7.2.1 + ((v7.2.2.2.1 - v7.2.1) / 2))), some (.int (e_b q30))]) rfl ?_
                refine r_drop 5 (L' := [some (.ref 72), some (.int v7.1), none, some (.int v7.2.2.1), some (.int q32), none, some (.int (e_b q30))]) rfl ?_
                refine r_drop 6 (L' := [some (.ref 72), some (.int v7.1), none, some (.int v7.2.2.1), some (.int q32), none, none]) rfl ?_
                obtain rfl := Option.some.inj hq35
                exact Jq34
            refine r_z_eq F dX12_laysBoxes_142 (tgt := 150) (by decide) (fun hc => ?_) (fun hc => ?_)
            · have hq33 := e_t hc hq33
              refine r_iload F dX12_laysBoxes_145 rfl ?_
              refine r_goto F dX12_laysBoxes_147 (tgt := 152) (by decide) ?_
              refine r_drop 4 (L' := [some (.ref 72), some (.int v7.1), some (.int v7.2.1), some (.int v7.2.2.1), none, some (.int (v7.2.1 + ((v7.2.2.2.1 - v7.2.1) / 2))), some (.int (e_b q30))]) rfl ?_
              obtain rfl := Option.some.inj hq33
              exact Jq32
            · have hq33 := e_f hc hq33
              refine r_iload F dX12_laysBoxes_150 rfl ?_
              refine r_drop 4 (L' := [some (.ref 72), some (.int v7.1), some (.int v7.2.1), some (.int v7.2.2.1), none, some (.int (v7.2.1 + ((v7.2.2.2.1 - v7.2.1) / 2))), some (.int (e_b q30))]) rfl ?_
              obtain rfl := Option.some.inj hq33
              exact Jq32
          · have hq27 := e_f hc hq27
            refine r_iload_n F dX12_laysBoxes_71 rfl ?_
            refine r_iload_n F dX12_laysBoxes_72 rfl ?_
            refine r_iload_n F dX12_laysBoxes_73 rfl ?_
            refine r_isub F dX12_laysBoxes_74 ?_
            refine r_iconst F dX12_laysBoxes_75 (v := 2) (by decide) ?_
            refine r_idiv F dX12_laysBoxes_76 (by decide) ?_
            refine r_iadd F dX12_laysBoxes_77 ?_
            refine r_istore F dX12_laysBoxes_78 (e_le rfl) (L' := [some (.ref 72), some (.int v7.1), some (.int v7.2.1), some (.int v7.2.2.1), some (.int v7.2.2.2.1), some (.int (v7.1 + ((v7.2.2.1 - v7.1) / 2))), none]) rfl ?_
            refine r_aload_n F dX12_laysBoxes_80 rfl ?_
            refine r_iload_n F dX12_laysBoxes_81 rfl ?_
            refine r_iload_n F dX12_laysBoxes_82 rfl ?_
            refine r_iload F dX12_laysBoxes_83 rfl ?_
            refine r_iload F dX12_laysBoxes_85 rfl ?_
            obtain ⟨q36, hq37, hq27⟩ := e_bd hq27
            refine r_callV F dX12_laysBoxes_87 (b := 72) (dc := 0) (ds := 0) (As := [.int v7.1, .int v7.2.1, .int (v7.1 + ((v7.2.2.1 - v7.1) / 2)), .int v7.2.2.2.1]) (S0 := []) lkX12_341 mX12_hasSum (tX12_hasSum_72 hG (la := x_l X) (h := e_up h [(72, o72 a72_0 a72_2 a72_3 a72_4 a72_5 a72_6 a72_7 a72_8 a72_9 a72_10 a72_11 a72_17 a72_18 a72_19 a72_21 a72_22 a72_29 a72_31 v7.2.2.2.2.1 a72_37 a72_38 a72_39 a72_40 a72_41 a72_44 a72_50), (89, o89 v7.2.2.2.2.2)]) hnx rfl h79 hq37) rfl rfl rfl (e_le rfl) (e_le rfl) (e_le rfl) rfl (ci := 12) e_cl12.1 rfl (e_le rfl) (e_lt hnx rfl) (Nat.zero_le _) (Nat.zero_le _) (e_k ?_)
            refine r_wr0 ?_
            refine r_istore F dX12_laysBoxes_90 (e_le rfl) (L' := [some (.ref 72), some (.int v7.1), some (.int v7.2.1), some (.int v7.2.2.1), some (.int v7.2.2.2.1), some (.int (v7.1 + ((v7.2.2.1 - v7.1) / 2))), some (.int (e_b q36))]) rfl ?_
            refine r_iload F dX12_laysBoxes_92 rfl ?_
            obtain ⟨q38, hq39, hq27⟩ := e_bd hq27
            have Jq38 : eRun G X 103 [some (.ref 72), some (.int v7.1), some (.int v7.2.1), none, some (.int v7.2.2.2.1), some (.int (v7.1 + ((v7.2.2.1 - v7.1) / 2))), some (.int (e_b q36))] [.int q38] h [(72, o72 a72_0 a72_2 a72_3 a72_4 a72_5 a72_6 a72_7 a72_8 a72_9 a72_10 a72_11 a72_17 a72_18 a72_19 a72_21 a72_22 a72_29 a72_31 v7.2.2.2.2.1 a72_37 a72_38 a72_39 a72_40 a72_41 a72_44 a72_50), (89, o89 v7.2.2.2.2.2)] nx 0 0 := by
              refine r_istore_n F dX12_laysBoxes_103 (e_le rfl) (L' := [some (.ref 72), some (.int v7.1), some (.int v7.2.1), some (.int q38), some (.int v7.2.2.2.1), some (.int (v7.1 + ((v7.2.2.1 - v7.1) / 2))), some (.int (e_b q36))]) rfl ?_
              refine r_iload F dX12_laysBoxes_104 rfl ?_
              obtain ⟨q40, hq41, hq27⟩ := e_bd hq27
              have Jq40 : eRun G X 115 [some (.ref 72), none, some (.int v7.2.1), some (.int q38), some (.int v7.2.2.2.1), none, none] [.int q40] h [(72, o72 a72_0 a72_2 a72_3 a72_4 a72_5 a72_6 a72_7 a72_8 a72_9 a72_10 a72_11 a72_17 a72_18 a72_19 a72_21 a72_22 a72_29 a72_31 v7.2.2.2.2.1 a72_37 a72_38 a72_39 a72_40 a72_41 a72_44 a72_50), (89, o89 v7.2.2.2.2.2)] nx 0 0 := by
                refine r_istore_n F dX12_laysBoxes_115 (e_le rfl) (L' := [some (.ref 72), some (.int q40), some (.int v7.2.1), some (.int q38), some (.int v7.2.2.2.1), none, none]) rfl ?_
                refine r_goto F dX12_laysBoxes_116 (tgt := 166) (by decide) ?_
                obtain rfl := Option.some.inj hq27
                exact Jq26
              refine r_z_eq F dX12_laysBoxes_106 (tgt := 113) (by decide) (fun hc => ?_) (fun hc => ?_)
              · have hq41 := e_t hc hq41
                refine r_iload_n F dX12_laysBoxes_109 rfl ?_
                refine r_goto F dX12_laysBoxes_110 (tgt := 115) (by decide) ?_
                refine r_drop 1 (L' := [some (.ref 72), none, some (.int v7.2.1), some (.int q38), some (.int v7.2.2.2.1), some (.int (v7.1 + ((v7.2.2.1 - v7.1) / 2))), some (.int (e_b q36))]) rfl ?_
                refine r_drop 5 (L' := [some (.ref 72), none, some (.int v7.2.1), some (.int q38), some (.int v7.2.2.2.1), none, some (.int (e_b q36))]) rfl ?_
                refine r_drop 6 (L' := [some (.ref 72), none, some (.int v7.2.1), some (.int q38), some (.int v7.2.2.2.1), none, none]) rfl ?_
                obtain rfl := Option.some.inj hq41
                exact Jq40
              · have hq41 := e_f hc hq41
                refine r_iload F dX12_laysBoxes_113 rfl ?_
                refine r_drop 1 (L' := [some (.ref 72), none, some (.int v7.2.1), some (.int q38), some (.int v7.2.2.2.1), some (.int (v7.1 + ((v7.2.2.1 - v7.1) / 2))), some (.int (e_b q36))]) rfl ?_
                refine r_drop 5 (L' := [some (.ref 72), none, some (.int v7.2.1), some (.int q38), some (.int v7.2.2.2.1), none, some (.int (e_b q36))]) rfl ?_
                refine r_drop 6 (L' := [some (.ref 72), none, some (.int v7.2.1), some (.int q38), some (.int v7.2.2.2.1), none, none]) rfl ?_
                obtain rfl := Option.some.inj hq41
                exact Jq40
            refine r_z_eq F dX12_laysBoxes_94 (tgt := 102) (by decide) (fun hc => ?_) (fun hc => ?_)
            · have hq39 := e_t hc hq39
              refine r_iload F dX12_laysBoxes_97 rfl ?_
              refine r_goto F dX12_laysBoxes_99 (tgt := 103) (by decide) ?_
              refine r_drop 3 (L' := [some (.ref 72), some (.int v7.1), some (.int v7.2.1), none, some (.int v7.2.2.2.1), some (.int (v7.1 + ((v7.2.2.1 - v7.1) / 2))), some (.int (e_b q36))]) rfl ?_
              obtain rfl := Option.some.inj hq39
              exact Jq38
            · have hq39 := e_f hc hq39
              refine r_iload_n F dX12_laysBoxes_102 rfl ?_
              refine r_drop 3 (L' := [some (.ref 72), some (.int v7.1), some (.int v7.2.1), none, some (.int v7.2.2.2.1), some (.int (v7.1 + ((v7.2.2.1 - v7.1) / 2))), some (.int (e_b q36))]) rfl ?_
              obtain rfl := Option.some.inj hq39
              exact Jq38
    · show eRun G X 178 [none, none, none, none, none, none, none] [] h [(72, o72 a72_0 a72_2 a72_3 a72_4 a72_5 a72_6 a72_7 a72_8 a72_9 a72_10 a72_11 a72_17 a72_18 a72_19 a72_21 a72_22 a72_29 a72_31 x8.1 a72_37 a72_38 a72_39 a72_40 a72_41 a72_44 a72_50), (89, o89 x8.2)] nx 0 0
      obtain rfl := Option.some.inj hf
      exact r_vret F hq dX12_laysBoxes_178 rfl rfl (Nat.le_refl _) (Nat.le_refl _) ⟨rfl, rfl⟩
  · have hf := e_f hc hf
    refine r_mat (k := 89) h89 (l' := [(72, o72 a72_0 a72_2 a72_3 a72_4 a72_5 a72_6 a72_7 a72_8 a72_9 a72_10 a72_11 a72_17 a72_18 a72_19 a72_21 a72_22 a72_29 a72_31 0 a72_37 a72_38 a72_39 a72_40 a72_41 a72_44 a72_50), (89, o89 A89)]) rfl ?_
    obtain rfl := Option.some.inj hf
    exact r_vret F hq dX12_laysBoxes_36 rfl rfl (Nat.le_refl _) (Nat.le_refl _) ⟨rfl, rfl⟩

def fX12_halved (a72_0 : Int32) (a72_21 : Int32) (a72_22 : Int32) (a72_35 : Int32) (A79 : Nat → Int32) (A89 : Nat → Int32) (p0 : Int32) (p1 : Int32) : Option (Int32 × Int32 × Int32 × (Nat → Int32)) :=
  (fX12_isCrystal a72_21).bind (fun q1 =>
  if q1 = true then
    (fX12_laysBoxes a72_21 a72_22 a72_35 A79 A89).bind (fun q3 =>
    if p0 = (-1) then
      some (q3.1, 0, q3.1, q3.2)
    else
      (fX12_in (Int32.toInt64 p0) 0 (Int32.toInt64 (q3.1 - 1))).bind (fun q5 =>
      if q5 = true then
        (fX12_in (Int32.toInt64 p1) 0 3).bind (fun q7 =>
        if q7 = true then
          e_g (e_in (((4 : Int32) * p0) + p1) 72) (
          some (q3.2 (tn (((4 : Int32) * p0) + p1)), 0, q3.1, q3.2))
        else
          some ((-1), 0, q3.1, q3.2))
      else
        some ((-1), 0, q3.1, q3.2)))
  else
    some ((-1), 0, a72_35, A89))
set_option maxRecDepth 100000 in
theorem tX12_halved_72 {G : eG} (hG : e_GS G) {la : Launch} {h : Nat → eO} {nx : Nat} (hnx : 99 ≤ nx) {a72_0 : Int32} {a72_2 : Int32} {a72_3 : Int32} {a72_4 : Int32} {a72_5 : Int32} {a72_6 : Int32} {a72_7 : Int32} {a72_8 : Bool} {a72_9 : Int32} {a72_10 : Int32} {a72_11 : Int32} {a72_17 : Bool} {a72_18 : Bool} {a72_19 : Bool} {a72_21 : Int32} {a72_22 : Int32} {a72_29 : Int32} {a72_31 : Int32} {a72_35 : Int32} {a72_37 : Bool} {a72_38 : Int32} {a72_39 : Int32} {a72_40 : Int32} {a72_41 : Int64} {a72_44 : Int32} {a72_50 : Bool} {A79 : Nat → Int32} {A89 : Nat → Int32} {p0 : Int32} {p1 : Int32} (h72 : h 72 = o72 a72_0 a72_2 a72_3 a72_4 a72_5 a72_6 a72_7 a72_8 a72_9 a72_10 a72_11 a72_17 a72_18 a72_19 a72_21 a72_22 a72_29 a72_31 a72_35 a72_37 a72_38 a72_39 a72_40 a72_41 a72_44 a72_50) (h79 : h 79 = o79 A79) (h89 : h 89 = o89 A89) {R9 : Int32 × Int32 × Int32 × (Nat → Int32)} (hf : fX12_halved a72_0 a72_21 a72_22 a72_35 A79 A89 p0 p1 = some R9) :
    eSem G la MX12_halved [.ref 72, .int p0, .int p1] h nx 0 0 (fun r9 h9 => r9 = some (.int R9.1) ∧ h9 = e_up h [(72, o72 R9.2.1 a72_2 a72_3 a72_4 a72_5 a72_6 a72_7 a72_8 a72_9 a72_10 a72_11 a72_17 a72_18 a72_19 a72_21 a72_22 a72_29 a72_31 R9.2.2.1 a72_37 a72_38 a72_39 a72_40 a72_41 a72_44 a72_50), (89, o89 R9.2.2.2)]) := by
  refine eSem.of (k := 0) (L := [some (.ref 72), some (.int p0), some (.int p1)]) (by decide +kernel) rfl rfl (fun X F hxl hq hcR hsR => ?_)
  subst hxl
  unfold fX12_halved at hf
  refine r_aload_n F dX12_halved_0 rfl ?_
  refine r_iconst F dX12_halved_1 (v := 0) (by decide) ?_
  refine r_put F dX12_halved_2 flX12_86 rfl rfl rfl h72 (e_le rfl) (e_le rfl) (e_lt hnx rfl) (l' := [(72, o72 0 a72_2 a72_3 a72_4 a72_5 a72_6 a72_7 a72_8 a72_9 a72_10 a72_11 a72_17 a72_18 a72_19 a72_21 a72_22 a72_29 a72_31 a72_35 a72_37 a72_38 a72_39 a72_40 a72_41 a72_44 a72_50)]) rfl ?_
  refine r_aload_n F dX12_halved_5 rfl ?_
  obtain ⟨q1, hq2, hf⟩ := e_bd hf
  refine r_callV F dX12_halved_6 (b := 72) (dc := 0) (ds := 0) (As := []) (S0 := []) lkX12_306 mX12_isCrystal (tX12_isCrystal_72 hG (la := x_l X) (h := e_up h [(72, o72 0 a72_2 a72_3 a72_4 a72_5 a72_6 a72_7 a72_8 a72_9 a72_10 a72_11 a72_17 a72_18 a72_19 a72_21 a72_22 a72_29 a72_31 a72_35 a72_37 a72_38 a72_39 a72_40 a72_41 a72_44 a72_50)]) hnx rfl hq2) rfl rfl rfl (e_le rfl) (e_le rfl) (e_le rfl) rfl (ci := 12) e_cl12.1 rfl (e_le rfl) (e_lt hnx rfl) (Nat.zero_le _) (Nat.zero_le _) (e_k ?_)
  refine r_wr0 ?_
  refine r_z_ne F dX12_halved_9 (tgt := 14) (by decide) (fun hc => ?_) (fun hc => ?_)
  · have hf := e_t hc hf
    refine r_aload_n F dX12_halved_14 rfl ?_
    obtain ⟨q3, hq4, hf⟩ := e_bd hf
    refine r_callV F dX12_halved_15 (b := 72) (dc := 0) (ds := 0) (As := []) (S0 := []) lkX12_349 mX12_laysBoxes (tX12_laysBoxes_72 hG (la := x_l X) (h := e_up h [(72, o72 0 a72_2 a72_3 a72_4 a72_5 a72_6 a72_7 a72_8 a72_9 a72_10 a72_11 a72_17 a72_18 a72_19 a72_21 a72_22 a72_29 a72_31 a72_35 a72_37 a72_38 a72_39 a72_40 a72_41 a72_44 a72_50)]) hnx rfl h79 h89 hq4) rfl rfl rfl (e_le rfl) (e_le rfl) (e_le rfl) rfl (ci := 12) e_cl12.1 rfl (e_le rfl) (e_lt hnx rfl) (Nat.zero_le _) (Nat.zero_le _) (e_k ?_)
    refine r_wr (l' := [(72, o72 0 a72_2 a72_3 a72_4 a72_5 a72_6 a72_7 a72_8 a72_9 a72_10 a72_11 a72_17 a72_18 a72_19 a72_21 a72_22 a72_29 a72_31 q3.1 a72_37 a72_38 a72_39 a72_40 a72_41 a72_44 a72_50), (89, o89 q3.2)]) rfl rfl ?_
    refine r_iload_n F dX12_halved_18 rfl ?_
    refine r_iconst F dX12_halved_19 (v := (-1)) (by decide) ?_
    refine r_icmp_ne F dX12_halved_20 (tgt := 30) (by decide) (fun hc => ?_) (fun hc => ?_)
    · have hf := e_f hc hf
      refine r_iload_n F dX12_halved_30 rfl ?_
      refine r_i2l F dX12_halved_31 ?_
      refine r_lconst F dX12_halved_32 (v := 0) (by decide) ?_
      refine r_aload_n F dX12_halved_33 rfl ?_
      refine r_get F dX12_halved_34 flX12_338 rfl rfl (e_le rfl) (e_lt hnx rfl) ?_
      refine r_iconst F dX12_halved_37 (v := 1) (by decide) ?_
      refine r_isub F dX12_halved_38 ?_
      refine r_i2l F dX12_halved_39 ?_
      obtain ⟨q5, hq6, hf⟩ := e_bd hf
      refine r_callS F dX12_halved_40 (dc := 0) (ds := 0) (As := [.long (Int32.toInt64 p0), .long 0, .long (Int32.toInt64 (q3.1 - 1))]) (S0 := []) lkX12_97 mX12_in (tX12_in hG (la := x_l X) (h := e_up h [(72, o72 0 a72_2 a72_3 a72_4 a72_5 a72_6 a72_7 a72_8 a72_9 a72_10 a72_11 a72_17 a72_18 a72_19 a72_21 a72_22 a72_29 a72_31 q3.1 a72_37 a72_38 a72_39 a72_40 a72_41 a72_44 a72_50), (89, o89 q3.2)]) hnx  hq6) rfl rfl rfl (e_le rfl) (e_le rfl) (e_le rfl) (Nat.zero_le _) (Nat.zero_le _) (e_k ?_)
      refine r_wr0 ?_
      refine r_z_eq F dX12_halved_43 (tgt := 71) (by decide) (fun hc => ?_) (fun hc => ?_)
      · have hf := e_t hc hf
        refine r_iload_n F dX12_halved_46 rfl ?_
        refine r_i2l F dX12_halved_47 ?_
        refine r_lconst F dX12_halved_48 (v := 0) (by decide) ?_
        refine r_ldc2 F dX12_halved_49 klX12_291 ?_
        obtain ⟨q7, hq8, hf⟩ := e_bd hf
        refine r_callS F dX12_halved_52 (dc := 0) (ds := 0) (As := [.long (Int32.toInt64 p1), .long 0, .long 3]) (S0 := []) lkX12_97 mX12_in (tX12_in hG (la := x_l X) (h := e_up h [(72, o72 0 a72_2 a72_3 a72_4 a72_5 a72_6 a72_7 a72_8 a72_9 a72_10 a72_11 a72_17 a72_18 a72_19 a72_21 a72_22 a72_29 a72_31 q3.1 a72_37 a72_38 a72_39 a72_40 a72_41 a72_44 a72_50), (89, o89 q3.2)]) hnx  hq8) rfl rfl rfl (e_le rfl) (e_le rfl) (e_le rfl) (Nat.zero_le _) (Nat.zero_le _) (e_k ?_)
        refine r_wr0 ?_
        refine r_z_eq F dX12_halved_55 (tgt := 71) (by decide) (fun hc => ?_) (fun hc => ?_)
        · have hf := e_t hc hf
          refine r_aload_n F dX12_halved_58 rfl ?_
          refine r_get F dX12_halved_59 flX12_59 rfl rfl (e_le rfl) (e_lt hnx rfl) ?_
          refine r_iconst F dX12_halved_62 (v := 4) (by decide) ?_
          refine r_iload_n F dX12_halved_63 rfl ?_
          refine r_imul F dX12_halved_64 ?_
          refine r_iload_n F dX12_halved_65 rfl ?_
          refine r_iadd F dX12_halved_66 ?_
          obtain ⟨hg, hf⟩ := e_gd hf
          refine r_iald F dX12_halved_67 (i := (((4 : Int32) * p0) + p1)) rfl (e_le rfl) (e_lt hnx rfl) (e_vp hg) ?_
          refine r_goto F dX12_halved_68 (tgt := 72) (by decide) ?_
          obtain rfl := Option.some.inj hf
          exact r_iret F hq dX12_halved_72 rfl rfl (Nat.le_refl _) (Nat.le_refl _) ⟨rfl, rfl⟩
        · have hf := e_f hc hf
          refine r_iconst F dX12_halved_71 (v := (-1)) (by decide) ?_
          obtain rfl := Option.some.inj hf
          exact r_iret F hq dX12_halved_72 rfl rfl (Nat.le_refl _) (Nat.le_refl _) ⟨rfl, rfl⟩
      · have hf := e_f hc hf
        refine r_iconst F dX12_halved_71 (v := (-1)) (by decide) ?_
        obtain rfl := Option.some.inj hf
        exact r_iret F hq dX12_halved_72 rfl rfl (Nat.le_refl _) (Nat.le_refl _) ⟨rfl, rfl⟩
    · have hf := e_t hc hf
      refine r_aload_n F dX12_halved_23 rfl ?_
      refine r_get F dX12_halved_24 flX12_338 rfl rfl (e_le rfl) (e_lt hnx rfl) ?_
      refine r_goto F dX12_halved_27 (tgt := 72) (by decide) ?_
      obtain rfl := Option.some.inj hf
      exact r_iret F hq dX12_halved_72 rfl rfl (Nat.le_refl _) (Nat.le_refl _) ⟨rfl, rfl⟩
  · have hf := e_f hc hf
    refine r_iconst F dX12_halved_12 (v := (-1)) (by decide) ?_
    refine r_mat (k := 89) h89 (l' := [(72, o72 0 a72_2 a72_3 a72_4 a72_5 a72_6 a72_7 a72_8 a72_9 a72_10 a72_11 a72_17 a72_18 a72_19 a72_21 a72_22 a72_29 a72_31 a72_35 a72_37 a72_38 a72_39 a72_40 a72_41 a72_44 a72_50), (89, o89 A89)]) rfl ?_
    obtain rfl := Option.some.inj hf
    exact r_iret F hq dX12_halved_13 rfl rfl (Nat.le_refl _) (Nat.le_refl _) ⟨rfl, rfl⟩

def fX12_image (a72_0 : Int32) (a72_21 : Int32) (a72_50 : Bool) (A79 : Nat → Int32) (A97 : Nat → Int32)  : Option (Int32 × Int32 × Bool × (Nat → Int32)) :=
  (fX12_isCrystal a72_21).bind (fun q1 =>
  if q1 = true then
    (e_loop (fun (v5 : Int32 × (Nat → Int32)) => (
        if 486 ≤ v5.1 then
          some (.inr v5.2)
        else
          e_g (e_in v5.1 486) (
          e_g (e_in v5.1 486) (
          some (.inl (v5.1 + 1, upd v5.2 (tn v5.1) (A79 (tn v5.1)))))) : Option ((Int32 × (Nat → Int32)) ⊕ ((Nat → Int32))))) e_fuel (0, A97)).bind (fun x6 =>
    some (A79 (tn 325), 0, true, x6))
  else
    some ((-1), 0, a72_50, A97))
set_option maxRecDepth 100000 in
theorem tX12_image_72 {G : eG} (hG : e_GS G) {la : Launch} {h : Nat → eO} {nx : Nat} (hnx : 99 ≤ nx) {a72_0 : Int32} {a72_2 : Int32} {a72_3 : Int32} {a72_4 : Int32} {a72_5 : Int32} {a72_6 : Int32} {a72_7 : Int32} {a72_8 : Bool} {a72_9 : Int32} {a72_10 : Int32} {a72_11 : Int32} {a72_17 : Bool} {a72_18 : Bool} {a72_19 : Bool} {a72_21 : Int32} {a72_22 : Int32} {a72_29 : Int32} {a72_31 : Int32} {a72_35 : Int32} {a72_37 : Bool} {a72_38 : Int32} {a72_39 : Int32} {a72_40 : Int32} {a72_41 : Int64} {a72_44 : Int32} {a72_50 : Bool} {A79 : Nat → Int32} {A97 : Nat → Int32}  (h72 : h 72 = o72 a72_0 a72_2 a72_3 a72_4 a72_5 a72_6 a72_7 a72_8 a72_9 a72_10 a72_11 a72_17 a72_18 a72_19 a72_21 a72_22 a72_29 a72_31 a72_35 a72_37 a72_38 a72_39 a72_40 a72_41 a72_44 a72_50) (h79 : h 79 = o79 A79) (h97 : h 97 = o97 A97) {R9 : Int32 × Int32 × Bool × (Nat → Int32)} (hf : fX12_image a72_0 a72_21 a72_50 A79 A97  = some R9) :
    eSem G la MX12_image [.ref 72] h nx 0 0 (fun r9 h9 => r9 = some (.int R9.1) ∧ h9 = e_up h [(72, o72 R9.2.1 a72_2 a72_3 a72_4 a72_5 a72_6 a72_7 a72_8 a72_9 a72_10 a72_11 a72_17 a72_18 a72_19 a72_21 a72_22 a72_29 a72_31 a72_35 a72_37 a72_38 a72_39 a72_40 a72_41 a72_44 R9.2.2.1), (97, o97 R9.2.2.2)]) := by
  refine eSem.of (k := 1) (L := [some (.ref 72), none]) (by decide +kernel) rfl rfl (fun X F hxl hq hcR hsR => ?_)
  subst hxl
  unfold fX12_image at hf
  refine r_aload_n F dX12_image_0 rfl ?_
  refine r_iconst F dX12_image_1 (v := 0) (by decide) ?_
  refine r_put F dX12_image_2 flX12_86 rfl rfl rfl h72 (e_le rfl) (e_le rfl) (e_lt hnx rfl) (l' := [(72, o72 0 a72_2 a72_3 a72_4 a72_5 a72_6 a72_7 a72_8 a72_9 a72_10 a72_11 a72_17 a72_18 a72_19 a72_21 a72_22 a72_29 a72_31 a72_35 a72_37 a72_38 a72_39 a72_40 a72_41 a72_44 a72_50)]) rfl ?_
  refine r_aload_n F dX12_image_5 rfl ?_
  obtain ⟨q1, hq2, hf⟩ := e_bd hf
  refine r_callV F dX12_image_6 (b := 72) (dc := 0) (ds := 0) (As := []) (S0 := []) lkX12_306 mX12_isCrystal (tX12_isCrystal_72 hG (la := x_l X) (h := e_up h [(72, o72 0 a72_2 a72_3 a72_4 a72_5 a72_6 a72_7 a72_8 a72_9 a72_10 a72_11 a72_17 a72_18 a72_19 a72_21 a72_22 a72_29 a72_31 a72_35 a72_37 a72_38 a72_39 a72_40 a72_41 a72_44 a72_50)]) hnx rfl hq2) rfl rfl rfl (e_le rfl) (e_le rfl) (e_le rfl) rfl (ci := 12) e_cl12.1 rfl (e_le rfl) (e_lt hnx rfl) (Nat.zero_le _) (Nat.zero_le _) (e_k ?_)
  refine r_wr0 ?_
  refine r_z_ne F dX12_image_9 (tgt := 14) (by decide) (fun hc => ?_) (fun hc => ?_)
  · have hf := e_t hc hf
    refine r_iconst F dX12_image_14 (v := 0) (by decide) ?_
    refine r_istore_n F dX12_image_15 (e_le rfl) (L' := [some (.ref 72), some (.int 0)]) rfl ?_
    refine r_mat (k := 97) h97 (l' := [(72, o72 0 a72_2 a72_3 a72_4 a72_5 a72_6 a72_7 a72_8 a72_9 a72_10 a72_11 a72_17 a72_18 a72_19 a72_21 a72_22 a72_29 a72_31 a72_35 a72_37 a72_38 a72_39 a72_40 a72_41 a72_44 a72_50), (97, o97 A97)]) rfl ?_
    obtain ⟨x6, hx7, hf⟩ := e_bd hf
    refine (e_loop_ok (P := fun (v5 : Int32 × (Nat → Int32)) => eRun G X 16 [some (.ref 72), some (.int v5.1)] [] h [(72, o72 0 a72_2 a72_3 a72_4 a72_5 a72_6 a72_7 a72_8 a72_9 a72_10 a72_11 a72_17 a72_18 a72_19 a72_21 a72_22 a72_29 a72_31 a72_35 a72_37 a72_38 a72_39 a72_40 a72_41 a72_44 a72_50), (97, o97 v5.2)] nx 0 0) (K := fun (x6 : (Nat → Int32)) => eRun G X 41 [some (.ref 72), none] [] h [(72, o72 0 a72_2 a72_3 a72_4 a72_5 a72_6 a72_7 a72_8 a72_9 a72_10 a72_11 a72_17 a72_18 a72_19 a72_21 a72_22 a72_29 a72_31 a72_35 a72_37 a72_38 a72_39 a72_40 a72_41 a72_44 a72_50), (97, o97 x6)] nx 0 0) ?_ e_fuel (0, A97) x6 hx7 ?_ : _)
    · intro v5 z hz ih hx
      refine r_iload_n F dX12_image_16 rfl ?_
      refine r_sipush F dX12_image_17 (v := 486) (by decide) ?_
      refine r_icmp_ge F dX12_image_20 (tgt := 41) (by decide) (fun hc => ?_) (fun hc => ?_)
      · have hz := e_t hc hz
        refine r_drop 1 (L' := [some (.ref 72), none]) rfl ?_
        obtain rfl := Option.some.inj hz
        exact hx v5.2 rfl
      · have hz := e_f hc hz
        refine r_aload_n F dX12_image_23 rfl ?_
        refine r_get F dX12_image_24 flX12_83 rfl rfl (e_le rfl) (e_lt hnx rfl) ?_
        refine r_iload_n F dX12_image_27 rfl ?_
        refine r_aload_n F dX12_image_28 rfl ?_
        refine r_get F dX12_image_29 flX12_28 rfl rfl (e_le rfl) (e_lt hnx rfl) ?_
        refine r_iload_n F dX12_image_32 rfl ?_
        obtain ⟨hg, hz⟩ := e_gd hz
        refine r_iald F dX12_image_33 (i := v5.1) h79 (e_le rfl) (e_lt hnx rfl) (e_vp hg) ?_
        obtain ⟨hg, hz⟩ := e_gd hz
        refine r_iast F dX12_image_34 rfl (e_le rfl) (e_lt hnx rfl) (e_vp hg) (l' := [(72, o72 0 a72_2 a72_3 a72_4 a72_5 a72_6 a72_7 a72_8 a72_9 a72_10 a72_11 a72_17 a72_18 a72_19 a72_21 a72_22 a72_29 a72_31 a72_35 a72_37 a72_38 a72_39 a72_40 a72_41 a72_44 a72_50), (97, o97 (upd v5.2 (tn v5.1) (A79 (tn v5.1))))]) rfl ?_
        refine r_inc F dX12_image_35 (k9 := 1) (by decide) rfl (L' := [some (.ref 72), some (.int (v5.1 + 1))]) rfl ?_
        refine r_goto F dX12_image_38 (tgt := 16) (by decide) ?_
        obtain rfl := Option.some.inj hz
        exact ih (v5.1 + 1, upd v5.2 (tn v5.1) (A79 (tn v5.1))) rfl
    · show eRun G X 41 [some (.ref 72), none] [] h [(72, o72 0 a72_2 a72_3 a72_4 a72_5 a72_6 a72_7 a72_8 a72_9 a72_10 a72_11 a72_17 a72_18 a72_19 a72_21 a72_22 a72_29 a72_31 a72_35 a72_37 a72_38 a72_39 a72_40 a72_41 a72_44 a72_50), (97, o97 x6)] nx 0 0
      refine r_aload_n F dX12_image_41 rfl ?_
      refine r_iconst F dX12_image_42 (v := 1) (by decide) ?_
      refine r_put F dX12_image_43 (v := .int (e_b true)) flX12_232 rfl (e_b_nar _) (e_b_fit _) rfl (e_le rfl) (e_le rfl) (e_lt hnx rfl) (l' := [(72, o72 0 a72_2 a72_3 a72_4 a72_5 a72_6 a72_7 a72_8 a72_9 a72_10 a72_11 a72_17 a72_18 a72_19 a72_21 a72_22 a72_29 a72_31 a72_35 a72_37 a72_38 a72_39 a72_40 a72_41 a72_44 true), (97, o97 x6)]) rfl ?_
      refine r_aload_n F dX12_image_46 rfl ?_
      refine r_get F dX12_image_47 flX12_28 rfl rfl (e_le rfl) (e_lt hnx rfl) ?_
      refine r_sipush F dX12_image_50 (v := 325) (by decide) ?_
      refine r_iald F dX12_image_53 (i := 325) h79 (e_le rfl) (e_lt hnx rfl) (e_vp (by decide)) ?_
      obtain rfl := Option.some.inj hf
      exact r_iret F hq dX12_image_54 rfl rfl (Nat.le_refl _) (Nat.le_refl _) ⟨rfl, rfl⟩
  · have hf := e_f hc hf
    refine r_iconst F dX12_image_12 (v := (-1)) (by decide) ?_
    refine r_mat (k := 97) h97 (l' := [(72, o72 0 a72_2 a72_3 a72_4 a72_5 a72_6 a72_7 a72_8 a72_9 a72_10 a72_11 a72_17 a72_18 a72_19 a72_21 a72_22 a72_29 a72_31 a72_35 a72_37 a72_38 a72_39 a72_40 a72_41 a72_44 a72_50), (97, o97 A97)]) rfl ?_
    obtain rfl := Option.some.inj hf
    exact r_iret F hq dX12_image_13 rfl rfl (Nat.le_refl _) (Nat.le_refl _) ⟨rfl, rfl⟩

def fX12_isPart (A79 : Nat → Int32) (p0 : Int32) (p1 : Int32) (p2 : Int32) : Option (Bool) :=
  if p2 = 0 then
    some true
  else
    if p2 = 1 then
      (fX12_vector A79 p0 p1 0).bind (fun q3 =>
      if q3 = 0 then
        if p2 = 2 then
          (fX12_vector A79 p0 p1 1).bind (fun q5 =>
          if q5 = 0 then
            some false
          else
            some true)
        else
          some false
      else
        some true)
    else
      if p2 = 2 then
        (fX12_vector A79 p0 p1 1).bind (fun q1 =>
        if q1 = 0 then
          some false
        else
          some true)
      else
        some false
set_option maxRecDepth 100000 in
theorem tX12_isPart_72 {G : eG} (hG : e_GS G) {la : Launch} {h : Nat → eO} {nx : Nat} (hnx : 99 ≤ nx) {a72_0 : Int32} {a72_2 : Int32} {a72_3 : Int32} {a72_4 : Int32} {a72_5 : Int32} {a72_6 : Int32} {a72_7 : Int32} {a72_8 : Bool} {a72_9 : Int32} {a72_10 : Int32} {a72_11 : Int32} {a72_17 : Bool} {a72_18 : Bool} {a72_19 : Bool} {a72_21 : Int32} {a72_22 : Int32} {a72_29 : Int32} {a72_31 : Int32} {a72_35 : Int32} {a72_37 : Bool} {a72_38 : Int32} {a72_39 : Int32} {a72_40 : Int32} {a72_41 : Int64} {a72_44 : Int32} {a72_50 : Bool} {A79 : Nat → Int32} {p0 : Int32} {p1 : Int32} {p2 : Int32} (h72 : h 72 = o72 a72_0 a72_2 a72_3 a72_4 a72_5 a72_6 a72_7 a72_8 a72_9 a72_10 a72_11 a72_17 a72_18 a72_19 a72_21 a72_22 a72_29 a72_31 a72_35 a72_37 a72_38 a72_39 a72_40 a72_41 a72_44 a72_50) (h79 : h 79 = o79 A79) {R9 : Bool} (hf : fX12_isPart A79 p0 p1 p2 = some R9) :
    eSem G la MX12_isPart [.ref 72, .int p0, .int p1, .int p2] h nx 0 0 (fun r9 h9 => r9 = some (.int (e_b R9)) ∧ h9 = h) := by
  refine eSem.of (k := 0) (L := [some (.ref 72), some (.int p0), some (.int p1), some (.int p2)]) (by decide +kernel) rfl rfl (fun X F hxl hq hcR hsR => ?_)
  subst hxl
  unfold fX12_isPart at hf
  refine r_iload_n F dX12_isPart_0 rfl ?_
  refine r_if_eq F dX12_isPart_1 (tgt := 34) (by decide) (fun hc => ?_) (fun hc => ?_)
  · have hf := e_t hc hf
    refine r_iconst F dX12_isPart_34 (v := 1) (by decide) ?_
    refine r_goto F dX12_isPart_35 (tgt := 39) (by decide) ?_
    obtain rfl := Option.some.inj hf
    exact r_zret F hq (v := true) dX12_isPart_39 rfl rfl (Nat.le_refl _) (Nat.le_refl _) ⟨rfl, rfl⟩
  · have hf := e_f hc hf
    refine r_iload_n F dX12_isPart_4 rfl ?_
    refine r_iconst F dX12_isPart_5 (v := 1) (by decide) ?_
    refine r_icmp_ne F dX12_isPart_6 (tgt := 19) (by decide) (fun hc => ?_) (fun hc => ?_)
    · have hf := e_f hc hf
      refine r_iload_n F dX12_isPart_19 rfl ?_
      refine r_iconst F dX12_isPart_20 (v := 2) (by decide) ?_
      refine r_icmp_ne F dX12_isPart_21 (tgt := 38) (by decide) (fun hc => ?_) (fun hc => ?_)
      · have hf := e_f hc hf
        refine r_iconst F dX12_isPart_38 (v := 0) (by decide) ?_
        obtain rfl := Option.some.inj hf
        exact r_zret F hq (v := false) dX12_isPart_39 rfl rfl (Nat.le_refl _) (Nat.le_refl _) ⟨rfl, rfl⟩
      · have hf := e_t hc hf
        refine r_aload_n F dX12_isPart_24 rfl ?_
        refine r_iload_n F dX12_isPart_25 rfl ?_
        refine r_iload_n F dX12_isPart_26 rfl ?_
        refine r_iconst F dX12_isPart_27 (v := 1) (by decide) ?_
        obtain ⟨q1, hq2, hf⟩ := e_bd hf
        refine r_callV F dX12_isPart_28 (b := 72) (dc := 0) (ds := 0) (As := [.int p0, .int p1, .int 1]) (S0 := []) lkX12_221 mX12_vector (tX12_vector_72 hG (la := x_l X) (h := e_up h []) hnx h72 h79 hq2) rfl rfl rfl (e_le rfl) (e_le rfl) (e_le rfl) h72 (ci := 12) e_cl12.1 rfl (e_le rfl) (e_lt hnx rfl) (Nat.zero_le _) (Nat.zero_le _) (e_k ?_)
        refine r_wr0 ?_
        refine r_if_eq F dX12_isPart_31 (tgt := 38) (by decide) (fun hc => ?_) (fun hc => ?_)
        · have hf := e_t hc hf
          refine r_iconst F dX12_isPart_38 (v := 0) (by decide) ?_
          obtain rfl := Option.some.inj hf
          exact r_zret F hq (v := false) dX12_isPart_39 rfl rfl (Nat.le_refl _) (Nat.le_refl _) ⟨rfl, rfl⟩
        · have hf := e_f hc hf
          refine r_iconst F dX12_isPart_34 (v := 1) (by decide) ?_
          refine r_goto F dX12_isPart_35 (tgt := 39) (by decide) ?_
          obtain rfl := Option.some.inj hf
          exact r_zret F hq (v := true) dX12_isPart_39 rfl rfl (Nat.le_refl _) (Nat.le_refl _) ⟨rfl, rfl⟩
    · have hf := e_t hc hf
      refine r_aload_n F dX12_isPart_9 rfl ?_
      refine r_iload_n F dX12_isPart_10 rfl ?_
      refine r_iload_n F dX12_isPart_11 rfl ?_
      refine r_iconst F dX12_isPart_12 (v := 0) (by decide) ?_
      obtain ⟨q3, hq4, hf⟩ := e_bd hf
      refine r_callV F dX12_isPart_13 (b := 72) (dc := 0) (ds := 0) (As := [.int p0, .int p1, .int 0]) (S0 := []) lkX12_221 mX12_vector (tX12_vector_72 hG (la := x_l X) (h := e_up h []) hnx h72 h79 hq4) rfl rfl rfl (e_le rfl) (e_le rfl) (e_le rfl) h72 (ci := 12) e_cl12.1 rfl (e_le rfl) (e_lt hnx rfl) (Nat.zero_le _) (Nat.zero_le _) (e_k ?_)
      refine r_wr0 ?_
      refine r_if_ne F dX12_isPart_16 (tgt := 34) (by decide) (fun hc => ?_) (fun hc => ?_)
      · have hf := e_f hc hf
        refine r_iconst F dX12_isPart_34 (v := 1) (by decide) ?_
        refine r_goto F dX12_isPart_35 (tgt := 39) (by decide) ?_
        obtain rfl := Option.some.inj hf
        exact r_zret F hq (v := true) dX12_isPart_39 rfl rfl (Nat.le_refl _) (Nat.le_refl _) ⟨rfl, rfl⟩
      · have hf := e_t hc hf
        refine r_iload_n F dX12_isPart_19 rfl ?_
        refine r_iconst F dX12_isPart_20 (v := 2) (by decide) ?_
        refine r_icmp_ne F dX12_isPart_21 (tgt := 38) (by decide) (fun hc => ?_) (fun hc => ?_)
        · have hf := e_f hc hf
          refine r_iconst F dX12_isPart_38 (v := 0) (by decide) ?_
          obtain rfl := Option.some.inj hf
          exact r_zret F hq (v := false) dX12_isPart_39 rfl rfl (Nat.le_refl _) (Nat.le_refl _) ⟨rfl, rfl⟩
        · have hf := e_t hc hf
          refine r_aload_n F dX12_isPart_24 rfl ?_
          refine r_iload_n F dX12_isPart_25 rfl ?_
          refine r_iload_n F dX12_isPart_26 rfl ?_
          refine r_iconst F dX12_isPart_27 (v := 1) (by decide) ?_
          obtain ⟨q5, hq6, hf⟩ := e_bd hf
          refine r_callV F dX12_isPart_28 (b := 72) (dc := 0) (ds := 0) (As := [.int p0, .int p1, .int 1]) (S0 := []) lkX12_221 mX12_vector (tX12_vector_72 hG (la := x_l X) (h := e_up h []) hnx h72 h79 hq6) rfl rfl rfl (e_le rfl) (e_le rfl) (e_le rfl) h72 (ci := 12) e_cl12.1 rfl (e_le rfl) (e_lt hnx rfl) (Nat.zero_le _) (Nat.zero_le _) (e_k ?_)
          refine r_wr0 ?_
          refine r_if_eq F dX12_isPart_31 (tgt := 38) (by decide) (fun hc => ?_) (fun hc => ?_)
          · have hf := e_t hc hf
            refine r_iconst F dX12_isPart_38 (v := 0) (by decide) ?_
            obtain rfl := Option.some.inj hf
            exact r_zret F hq (v := false) dX12_isPart_39 rfl rfl (Nat.le_refl _) (Nat.le_refl _) ⟨rfl, rfl⟩
          · have hf := e_f hc hf
            refine r_iconst F dX12_isPart_34 (v := 1) (by decide) ?_
            refine r_goto F dX12_isPart_35 (tgt := 39) (by decide) ?_
            obtain rfl := Option.some.inj hf
            exact r_zret F hq (v := true) dX12_isPart_39 rfl rfl (Nat.le_refl _) (Nat.le_refl _) ⟨rfl, rfl⟩

def fX12_joins (a72_21 : Int32) (a72_22 : Int32) (A79 : Nat → Int32) (A91 : Nat → Int32) (p0 : Int32) (p1 : Int32) : Option (Bool × (Nat → Int32)) :=
  (e_loop (fun (v3 : Int32 × Int32) => (
      if 4 ≤ v3.2 then
        some (.inr v3.1)
      else
        (fX12_ofFace p0 p1 v3.2).bind (fun q6 =>
        (fX12_isSlippedAt a72_21 a72_22 A79 q6).bind (fun q8 =>
        Option.bind (α := Int32) (
          if q8 = true then
            e_g (e_in q6 162) (
            (fJ9_min_7cf53 v3.1 (A91 (tn q6))).bind (fun q12 =>
            some q12))
          else
            some v3.1) (fun q10 =>
        some (.inl (q10, v3.2 + 1))))) : Option ((Int32 × Int32) ⊕ (Int32)))) e_fuel (162, 0)).bind (fun x4 =>
  (e_loop (fun (v16 : Bool × Int32 × (Nat → Int32)) => (
      if 4 ≤ v16.2.1 then
        some (.inr (v16.1, v16.2.2))
      else
        (fX12_ofFace p0 p1 v16.2.1).bind (fun q19 =>
        (fX12_isSlippedAt a72_21 a72_22 A79 q19).bind (fun q21 =>
        Option.bind (α := Bool × (Nat → Int32)) (
          if q21 = true then
            e_g (e_in q19 162) (
            if (v16.2.2 (tn q19)) = x4 then
              some (v16.1, v16.2.2)
            else
              e_g (e_in q19 162) (
              some (true, upd v16.2.2 (tn q19) x4)))
          else
            some (v16.1, v16.2.2)) (fun q23 =>
        some (.inl (q23.1, v16.2.1 + 1, q23.2))))) : Option ((Bool × Int32 × (Nat → Int32)) ⊕ (Bool × (Nat → Int32))))) e_fuel (false, 0, A91)).bind (fun x17 =>
  some (x17.1, x17.2)))
set_option maxRecDepth 100000 in
theorem tX12_joins_72 {G : eG} (hG : e_GS G) {la : Launch} {h : Nat → eO} {nx : Nat} (hnx : 99 ≤ nx) {a72_0 : Int32} {a72_2 : Int32} {a72_3 : Int32} {a72_4 : Int32} {a72_5 : Int32} {a72_6 : Int32} {a72_7 : Int32} {a72_8 : Bool} {a72_9 : Int32} {a72_10 : Int32} {a72_11 : Int32} {a72_17 : Bool} {a72_18 : Bool} {a72_19 : Bool} {a72_21 : Int32} {a72_22 : Int32} {a72_29 : Int32} {a72_31 : Int32} {a72_35 : Int32} {a72_37 : Bool} {a72_38 : Int32} {a72_39 : Int32} {a72_40 : Int32} {a72_41 : Int64} {a72_44 : Int32} {a72_50 : Bool} {A79 : Nat → Int32} {A91 : Nat → Int32} {p0 : Int32} {p1 : Int32} (h72 : h 72 = o72 a72_0 a72_2 a72_3 a72_4 a72_5 a72_6 a72_7 a72_8 a72_9 a72_10 a72_11 a72_17 a72_18 a72_19 a72_21 a72_22 a72_29 a72_31 a72_35 a72_37 a72_38 a72_39 a72_40 a72_41 a72_44 a72_50) (h79 : h 79 = o79 A79) (h91 : h 91 = o91 A91) {R9 : Bool × (Nat → Int32)} (hf : fX12_joins a72_21 a72_22 A79 A91 p0 p1 = some R9) :
    eSem G la MX12_joins [.ref 72, .int p0, .int p1] h nx 0 0 (fun r9 h9 => r9 = some (.int (e_b R9.1)) ∧ h9 = e_up h [(91, o91 R9.2)]) := by
  refine eSem.of (k := 4) (L := [some (.ref 72), some (.int p0), some (.int p1), none, none, none, none]) (by decide +kernel) rfl rfl (fun X F hxl hq hcR hsR => ?_)
  subst hxl
  unfold fX12_joins at hf
  refine r_sipush F dX12_joins_0 (v := 162) (by decide) ?_
  refine r_istore_n F dX12_joins_3 (e_le rfl) (L' := [some (.ref 72), some (.int p0), some (.int p1), some (.int 162), none, none, none]) rfl ?_
  refine r_iconst F dX12_joins_4 (v := 0) (by decide) ?_
  refine r_istore F dX12_joins_5 (e_le rfl) (L' := [some (.ref 72), some (.int p0), some (.int p1), some (.int 162), some (.int 0), none, none]) rfl ?_
  obtain ⟨x4, hx5, hf⟩ := e_bd hf
  refine (e_loop_ok (P := fun (v3 : Int32 × Int32) => eRun G X 7 [some (.ref 72), some (.int p0), some (.int p1), some (.int v3.1), some (.int v3.2), none, none] [] h [] nx 0 0) (K := fun (x4 : Int32) => eRun G X 54 [some (.ref 72), some (.int p0), some (.int p1), some (.int x4), none, none, none] [] h [] nx 0 0) ?_ e_fuel (162, 0) x4 hx5 ?_ : _)
  · intro v3 z hz ih hx
    refine r_iload F dX12_joins_7 rfl ?_
    refine r_iconst F dX12_joins_9 (v := 4) (by decide) ?_
    refine r_icmp_ge F dX12_joins_10 (tgt := 54) (by decide) (fun hc => ?_) (fun hc => ?_)
    · have hz := e_t hc hz
      refine r_drop 4 (L' := [some (.ref 72), some (.int p0), some (.int p1), some (.int v3.1), none, none, none]) rfl ?_
      obtain rfl := Option.some.inj hz
      exact hx v3.1 rfl
    · have hz := e_f hc hz
      refine r_aload_n F dX12_joins_13 rfl ?_
      refine r_iload_n F dX12_joins_14 rfl ?_
      refine r_iload_n F dX12_joins_15 rfl ?_
      refine r_iload F dX12_joins_16 rfl ?_
      obtain ⟨q6, hq7, hz⟩ := e_bd hz
      refine r_callV F dX12_joins_18 (b := 72) (dc := 0) (ds := 0) (As := [.int p0, .int p1, .int v3.2]) (S0 := []) lkX12_425 mX12_ofFace (tX12_ofFace_72 hG (la := x_l X) (h := e_up h []) hnx  hq7) rfl rfl rfl (e_le rfl) (e_le rfl) (e_le rfl) h72 (ci := 12) e_cl12.1 rfl (e_le rfl) (e_lt hnx rfl) (Nat.zero_le _) (Nat.zero_le _) (e_k ?_)
      refine r_wr0 ?_
      refine r_istore F dX12_joins_21 (e_le rfl) (L' := [some (.ref 72), some (.int p0), some (.int p1), some (.int v3.1), some (.int v3.2), some (.int q6), none]) rfl ?_
      refine r_aload_n F dX12_joins_23 rfl ?_
      refine r_iload F dX12_joins_24 rfl ?_
      obtain ⟨q8, hq9, hz⟩ := e_bd hz
      refine r_callV F dX12_joins_26 (b := 72) (dc := 0) (ds := 0) (As := [.int q6]) (S0 := []) lkX12_293 mX12_isSlippedAt (tX12_isSlippedAt_72 hG (la := x_l X) (h := e_up h []) hnx h72 h79 hq9) rfl rfl rfl (e_le rfl) (e_le rfl) (e_le rfl) h72 (ci := 12) e_cl12.1 rfl (e_le rfl) (e_lt hnx rfl) (Nat.zero_le _) (Nat.zero_le _) (e_k ?_)
      refine r_wr0 ?_
      obtain ⟨q10, hq11, hz⟩ := e_bd hz
      have Jq10 : eRun G X 47 [some (.ref 72), some (.int p0), some (.int p1), none, some (.int v3.2), none, none] [.int q10] h [] nx 0 0 := by
        refine r_istore_n F dX12_joins_47 (e_le rfl) (L' := [some (.ref 72), some (.int p0), some (.int p1), some (.int q10), some (.int v3.2), none, none]) rfl ?_
        refine r_inc F dX12_joins_48 (k9 := 1) (by decide) rfl (L' := [some (.ref 72), some (.int p0), some (.int p1), some (.int q10), some (.int (v3.2 + 1)), none, none]) rfl ?_
        refine r_goto F dX12_joins_51 (tgt := 7) (by decide) ?_
        obtain rfl := Option.some.inj hz
        exact ih (q10, v3.2 + 1) rfl
      refine r_z_eq F dX12_joins_29 (tgt := 46) (by decide) (fun hc => ?_) (fun hc => ?_)
      · have hq11 := e_t hc hq11
        refine r_iload_n F dX12_joins_32 rfl ?_
        refine r_aload_n F dX12_joins_33 rfl ?_
        refine r_get F dX12_joins_34 flX12_65 h72 rfl (e_le rfl) (e_lt hnx rfl) ?_
        refine r_iload F dX12_joins_37 rfl ?_
        obtain ⟨hg, hq11⟩ := e_gd hq11
        refine r_iald F dX12_joins_39 (i := q6) h91 (e_le rfl) (e_lt hnx rfl) (e_vp hg) ?_
        obtain ⟨q12, hq13, hq11⟩ := e_bd hq11
        refine r_callS F dX12_joins_40 (dc := 0) (ds := 0) (As := [.int v3.1, .int (A91 (tn q6))]) (S0 := []) lkX12_128 mJ9_min_7cf53 (tJ9_min_7cf53 hG (la := x_l X) (h := e_up h []) hnx  hq13) rfl rfl rfl (e_le rfl) (e_le rfl) (e_le rfl) (Nat.zero_le _) (Nat.zero_le _) (e_k ?_)
        refine r_wr0 ?_
        refine r_goto F dX12_joins_43 (tgt := 47) (by decide) ?_
        refine r_drop 3 (L' := [some (.ref 72), some (.int p0), some (.int p1), none, some (.int v3.2), some (.int q6), none]) rfl ?_
        refine r_drop 5 (L' := [some (.ref 72), some (.int p0), some (.int p1), none, some (.int v3.2), none, none]) rfl ?_
        obtain rfl := Option.some.inj hq11
        exact Jq10
      · have hq11 := e_f hc hq11
        refine r_iload_n F dX12_joins_46 rfl ?_
        refine r_drop 3 (L' := [some (.ref 72), some (.int p0), some (.int p1), none, some (.int v3.2), some (.int q6), none]) rfl ?_
        refine r_drop 5 (L' := [some (.ref 72), some (.int p0), some (.int p1), none, some (.int v3.2), none, none]) rfl ?_
        obtain rfl := Option.some.inj hq11
        exact Jq10
  · show eRun G X 54 [some (.ref 72), some (.int p0), some (.int p1), some (.int x4), none, none, none] [] h [] nx 0 0
    refine r_iconst F dX12_joins_54 (v := 0) (by decide) ?_
    refine r_istore F dX12_joins_55 (e_le rfl) (L' := [some (.ref 72), some (.int p0), some (.int p1), some (.int x4), some (.int 0), none, none]) rfl ?_
    refine r_iconst F dX12_joins_57 (v := 0) (by decide) ?_
    refine r_istore F dX12_joins_58 (e_le rfl) (L' := [some (.ref 72), some (.int p0), some (.int p1), some (.int x4), some (.int 0), some (.int 0), none]) rfl ?_
    refine r_mat (k := 91) h91 (l' := [(91, o91 A91)]) rfl ?_
    obtain ⟨x17, hx18, hf⟩ := e_bd hf
    refine (e_loop_ok (P := fun (v16 : Bool × Int32 × (Nat → Int32)) => eRun G X 60 [some (.ref 72), some (.int p0), some (.int p1), some (.int x4), some (.int (e_b v16.1)), some (.int v16.2.1), none] [] h [(91, o91 v16.2.2)] nx 0 0) (K := fun (x17 : Bool × (Nat → Int32)) => eRun G X 113 [none, none, none, none, some (.int (e_b x17.1)), none, none] [] h [(91, o91 x17.2)] nx 0 0) ?_ e_fuel (false, 0, A91) x17 hx18 ?_ : _)
    · intro v16 z hz ih hx
      refine r_iload F dX12_joins_60 rfl ?_
      refine r_iconst F dX12_joins_62 (v := 4) (by decide) ?_
      refine r_icmp_ge F dX12_joins_63 (tgt := 113) (by decide) (fun hc => ?_) (fun hc => ?_)
      · have hz := e_t hc hz
        refine r_drop 0 (L' := [none, some (.int p0), some (.int p1), some (.int x4), some (.int (e_b v16.1)), some (.int v16.2.1), none]) rfl ?_
        refine r_drop 1 (L' := [none, none, some (.int p1), some (.int x4), some (.int (e_b v16.1)), some (.int v16.2.1), none]) rfl ?_
        refine r_drop 2 (L' := [none, none, none, some (.int x4), some (.int (e_b v16.1)), some (.int v16.2.1), none]) rfl ?_
        refine r_drop 3 (L' := [none, none, none, none, some (.int (e_b v16.1)), some (.int v16.2.1), none]) rfl ?_
        refine r_drop 5 (L' := [none, none, none, none, some (.int (e_b v16.1)), none, none]) rfl ?_
        obtain rfl := Option.some.inj hz
        exact hx (v16.1, v16.2.2) rfl
      · have hz := e_f hc hz
        refine r_aload_n F dX12_joins_66 rfl ?_
        refine r_iload_n F dX12_joins_67 rfl ?_
        refine r_iload_n F dX12_joins_68 rfl ?_
        refine r_iload F dX12_joins_69 rfl ?_
        obtain ⟨q19, hq20, hz⟩ := e_bd hz
        refine r_callV F dX12_joins_71 (b := 72) (dc := 0) (ds := 0) (As := [.int p0, .int p1, .int v16.2.1]) (S0 := []) lkX12_425 mX12_ofFace (tX12_ofFace_72 hG (la := x_l X) (h := e_up h [(91, o91 v16.2.2)]) hnx  hq20) rfl rfl rfl (e_le rfl) (e_le rfl) (e_le rfl) h72 (ci := 12) e_cl12.1 rfl (e_le rfl) (e_lt hnx rfl) (Nat.zero_le _) (Nat.zero_le _) (e_k ?_)
        refine r_wr0 ?_
        refine r_istore F dX12_joins_74 (e_le rfl) (L' := [some (.ref 72), some (.int p0), some (.int p1), some (.int x4), some (.int (e_b v16.1)), some (.int v16.2.1), some (.int q19)]) rfl ?_
        refine r_aload_n F dX12_joins_76 rfl ?_
        refine r_iload F dX12_joins_77 rfl ?_
        obtain ⟨q21, hq22, hz⟩ := e_bd hz
        refine r_callV F dX12_joins_79 (b := 72) (dc := 0) (ds := 0) (As := [.int q19]) (S0 := []) lkX12_293 mX12_isSlippedAt (tX12_isSlippedAt_72 hG (la := x_l X) (h := e_up h [(91, o91 v16.2.2)]) hnx h72 h79 hq22) rfl rfl rfl (e_le rfl) (e_le rfl) (e_le rfl) h72 (ci := 12) e_cl12.1 rfl (e_le rfl) (e_lt hnx rfl) (Nat.zero_le _) (Nat.zero_le _) (e_k ?_)
        refine r_wr0 ?_
        obtain ⟨q23, hq24, hz⟩ := e_bd hz
        have Jq23 : eRun G X 107 [some (.ref 72), some (.int p0), some (.int p1), some (.int x4), some (.int (e_b q23.1)), some (.int v16.2.1), none] [] h [(91, o91 q23.2)] nx 0 0 := by
          refine r_inc F dX12_joins_107 (k9 := 1) (by decide) rfl (L' := [some (.ref 72), some (.int p0), some (.int p1), some (.int x4), some (.int (e_b q23.1)), some (.int (v16.2.1 + 1)), none]) rfl ?_
          refine r_goto F dX12_joins_110 (tgt := 60) (by decide) ?_
          obtain rfl := Option.some.inj hz
          exact ih (q23.1, v16.2.1 + 1, q23.2) rfl
        refine r_z_eq F dX12_joins_82 (tgt := 107) (by decide) (fun hc => ?_) (fun hc => ?_)
        · have hq24 := e_t hc hq24
          refine r_aload_n F dX12_joins_85 rfl ?_
          refine r_get F dX12_joins_86 flX12_65 h72 rfl (e_le rfl) (e_lt hnx rfl) ?_
          refine r_iload F dX12_joins_89 rfl ?_
          obtain ⟨hg, hq24⟩ := e_gd hq24
          refine r_iald F dX12_joins_91 (i := q19) rfl (e_le rfl) (e_lt hnx rfl) (e_vp hg) ?_
          refine r_iload_n F dX12_joins_92 rfl ?_
          refine r_icmp_eq F dX12_joins_93 (tgt := 107) (by decide) (fun hc => ?_) (fun hc => ?_)
          · have hq24 := e_t hc hq24
            refine r_drop 6 (L' := [some (.ref 72), some (.int p0), some (.int p1), some (.int x4), some (.int (e_b v16.1)), some (.int v16.2.1), none]) rfl ?_
            obtain rfl := Option.some.inj hq24
            exact Jq23
          · have hq24 := e_f hc hq24
            refine r_aload_n F dX12_joins_96 rfl ?_
            refine r_get F dX12_joins_97 flX12_65 h72 rfl (e_le rfl) (e_lt hnx rfl) ?_
            refine r_iload F dX12_joins_100 rfl ?_
            refine r_iload_n F dX12_joins_102 rfl ?_
            obtain ⟨hg, hq24⟩ := e_gd hq24
            refine r_iast F dX12_joins_103 rfl (e_le rfl) (e_lt hnx rfl) (e_vp hg) (l' := [(91, o91 (upd v16.2.2 (tn q19) x4))]) rfl ?_
            refine r_iconst F dX12_joins_104 (v := 1) (by decide) ?_
            refine r_istore F dX12_joins_105 (e_le rfl) (L' := [some (.ref 72), some (.int p0), some (.int p1), some (.int x4), some (.int 1), some (.int v16.2.1), some (.int q19)]) rfl ?_
            refine r_drop 6 (L' := [some (.ref 72), some (.int p0), some (.int p1), some (.int x4), some (.int 1), some (.int v16.2.1), none]) rfl ?_
            obtain rfl := Option.some.inj hq24
            exact Jq23
        · have hq24 := e_f hc hq24
          refine r_drop 6 (L' := [some (.ref 72), some (.int p0), some (.int p1), some (.int x4), some (.int (e_b v16.1)), some (.int v16.2.1), none]) rfl ?_
          obtain rfl := Option.some.inj hq24
          exact Jq23
    · show eRun G X 113 [none, none, none, none, some (.int (e_b x17.1)), none, none] [] h [(91, o91 x17.2)] nx 0 0
      refine r_iload F dX12_joins_113 rfl ?_
      obtain rfl := Option.some.inj hf
      exact r_zret F hq (v := x17.1) dX12_joins_115 rfl rfl (Nat.le_refl _) (Nat.le_refl _) ⟨rfl, rfl⟩

def fX12_layer (a72_0 : Int32) (a72_21 : Int32) (a72_22 : Int32) (A79 : Nat → Int32) (p0 : Int32) (p1 : Int32) : Option (Int32 × Int32) :=
  (fX12_isCrystal a72_21).bind (fun q1 =>
  if q1 = true then
    (fX12_in (Int32.toInt64 p0) 0 (Int32.toInt64 (a72_22 - 1))).bind (fun q3 =>
    if q3 = true then
      (fX12_in (Int32.toInt64 p1) 0 3).bind (fun q5 =>
      if q5 = true then
        (e_loop (fun (v9 : Int32 × Int32) => (
            if a72_21 ≤ v9.2 then
              some (.inr v9.1)
            else
              Option.bind (α := Int32) (
                if 2 ≤ p1 then
                  Option.bind (α := Bool) (
                    if p1 = 3 then
                      some true
                    else
                      some false) (fun q14 =>
                  (fX12_linkOf v9.2 p0 q14).bind (fun q16 =>
                  (fX12_isSlippedAt a72_21 a72_22 A79 q16).bind (fun q18 =>
                  Option.bind (α := Bool) (
                    if q18 = true then
                      some true
                    else
                      some false) (fun q20 =>
                  some (v9.1 + (e_b q20))))))
                else
                  Option.bind (α := Int32) (
                    if (a72_21 - 1) ≤ v9.2 then
                      some 0
                    else
                      (fX12_step A79 v9.2 p0 false p1).bind (fun q24 =>
                      some q24)) (fun q22 =>
                  some (v9.1 + q22))) (fun q12 =>
              some (.inl (q12, v9.2 + 1))) : Option ((Int32 × Int32) ⊕ (Int32)))) e_fuel (0, 0)).bind (fun x10 =>
        some (x10, 0))
      else
        some ((-1000000), 0))
    else
      some ((-1000000), 0))
  else
    some ((-1000000), 0))
set_option maxRecDepth 100000 in
theorem tX12_layer_72 {G : eG} (hG : e_GS G) {la : Launch} {h : Nat → eO} {nx : Nat} (hnx : 99 ≤ nx) {a72_0 : Int32} {a72_2 : Int32} {a72_3 : Int32} {a72_4 : Int32} {a72_5 : Int32} {a72_6 : Int32} {a72_7 : Int32} {a72_8 : Bool} {a72_9 : Int32} {a72_10 : Int32} {a72_11 : Int32} {a72_17 : Bool} {a72_18 : Bool} {a72_19 : Bool} {a72_21 : Int32} {a72_22 : Int32} {a72_29 : Int32} {a72_31 : Int32} {a72_35 : Int32} {a72_37 : Bool} {a72_38 : Int32} {a72_39 : Int32} {a72_40 : Int32} {a72_41 : Int64} {a72_44 : Int32} {a72_50 : Bool} {A79 : Nat → Int32} {p0 : Int32} {p1 : Int32} (h72 : h 72 = o72 a72_0 a72_2 a72_3 a72_4 a72_5 a72_6 a72_7 a72_8 a72_9 a72_10 a72_11 a72_17 a72_18 a72_19 a72_21 a72_22 a72_29 a72_31 a72_35 a72_37 a72_38 a72_39 a72_40 a72_41 a72_44 a72_50) (h79 : h 79 = o79 A79) {R9 : Int32 × Int32} (hf : fX12_layer a72_0 a72_21 a72_22 A79 p0 p1 = some R9) :
    eSem G la MX12_layer [.ref 72, .int p0, .int p1] h nx 0 0 (fun r9 h9 => r9 = some (.int R9.1) ∧ h9 = e_up h [(72, o72 R9.2 a72_2 a72_3 a72_4 a72_5 a72_6 a72_7 a72_8 a72_9 a72_10 a72_11 a72_17 a72_18 a72_19 a72_21 a72_22 a72_29 a72_31 a72_35 a72_37 a72_38 a72_39 a72_40 a72_41 a72_44 a72_50)]) := by
  refine eSem.of (k := 2) (L := [some (.ref 72), some (.int p0), some (.int p1), none, none]) (by decide +kernel) rfl rfl (fun X F hxl hq hcR hsR => ?_)
  subst hxl
  unfold fX12_layer at hf
  refine r_aload_n F dX12_layer_0 rfl ?_
  refine r_iconst F dX12_layer_1 (v := 0) (by decide) ?_
  refine r_put F dX12_layer_2 flX12_86 rfl rfl rfl h72 (e_le rfl) (e_le rfl) (e_lt hnx rfl) (l' := [(72, o72 0 a72_2 a72_3 a72_4 a72_5 a72_6 a72_7 a72_8 a72_9 a72_10 a72_11 a72_17 a72_18 a72_19 a72_21 a72_22 a72_29 a72_31 a72_35 a72_37 a72_38 a72_39 a72_40 a72_41 a72_44 a72_50)]) rfl ?_
  refine r_aload_n F dX12_layer_5 rfl ?_
  obtain ⟨q1, hq2, hf⟩ := e_bd hf
  refine r_callV F dX12_layer_6 (b := 72) (dc := 0) (ds := 0) (As := []) (S0 := []) lkX12_306 mX12_isCrystal (tX12_isCrystal_72 hG (la := x_l X) (h := e_up h [(72, o72 0 a72_2 a72_3 a72_4 a72_5 a72_6 a72_7 a72_8 a72_9 a72_10 a72_11 a72_17 a72_18 a72_19 a72_21 a72_22 a72_29 a72_31 a72_35 a72_37 a72_38 a72_39 a72_40 a72_41 a72_44 a72_50)]) hnx rfl hq2) rfl rfl rfl (e_le rfl) (e_le rfl) (e_le rfl) rfl (ci := 12) e_cl12.1 rfl (e_le rfl) (e_lt hnx rfl) (Nat.zero_le _) (Nat.zero_le _) (e_k ?_)
  refine r_wr0 ?_
  refine r_z_eq F dX12_layer_9 (tgt := 40) (by decide) (fun hc => ?_) (fun hc => ?_)
  · have hf := e_t hc hf
    refine r_iload_n F dX12_layer_12 rfl ?_
    refine r_i2l F dX12_layer_13 ?_
    refine r_lconst F dX12_layer_14 (v := 0) (by decide) ?_
    refine r_aload_n F dX12_layer_15 rfl ?_
    refine r_get F dX12_layer_16 flX12_208 rfl rfl (e_le rfl) (e_lt hnx rfl) ?_
    refine r_iconst F dX12_layer_19 (v := 1) (by decide) ?_
    refine r_isub F dX12_layer_20 ?_
    refine r_i2l F dX12_layer_21 ?_
    obtain ⟨q3, hq4, hf⟩ := e_bd hf
    refine r_callS F dX12_layer_22 (dc := 0) (ds := 0) (As := [.long (Int32.toInt64 p0), .long 0, .long (Int32.toInt64 (a72_22 - 1))]) (S0 := []) lkX12_97 mX12_in (tX12_in hG (la := x_l X) (h := e_up h [(72, o72 0 a72_2 a72_3 a72_4 a72_5 a72_6 a72_7 a72_8 a72_9 a72_10 a72_11 a72_17 a72_18 a72_19 a72_21 a72_22 a72_29 a72_31 a72_35 a72_37 a72_38 a72_39 a72_40 a72_41 a72_44 a72_50)]) hnx  hq4) rfl rfl rfl (e_le rfl) (e_le rfl) (e_le rfl) (Nat.zero_le _) (Nat.zero_le _) (e_k ?_)
    refine r_wr0 ?_
    refine r_z_eq F dX12_layer_25 (tgt := 40) (by decide) (fun hc => ?_) (fun hc => ?_)
    · have hf := e_t hc hf
      refine r_iload_n F dX12_layer_28 rfl ?_
      refine r_i2l F dX12_layer_29 ?_
      refine r_lconst F dX12_layer_30 (v := 0) (by decide) ?_
      refine r_ldc2 F dX12_layer_31 klX12_291 ?_
      obtain ⟨q5, hq6, hf⟩ := e_bd hf
      refine r_callS F dX12_layer_34 (dc := 0) (ds := 0) (As := [.long (Int32.toInt64 p1), .long 0, .long 3]) (S0 := []) lkX12_97 mX12_in (tX12_in hG (la := x_l X) (h := e_up h [(72, o72 0 a72_2 a72_3 a72_4 a72_5 a72_6 a72_7 a72_8 a72_9 a72_10 a72_11 a72_17 a72_18 a72_19 a72_21 a72_22 a72_29 a72_31 a72_35 a72_37 a72_38 a72_39 a72_40 a72_41 a72_44 a72_50)]) hnx  hq6) rfl rfl rfl (e_le rfl) (e_le rfl) (e_le rfl) (Nat.zero_le _) (Nat.zero_le _) (e_k ?_)
      refine r_wr0 ?_
      refine r_z_ne F dX12_layer_37 (tgt := 44) (by decide) (fun hc => ?_) (fun hc => ?_)
      · have hf := e_t hc hf
        refine r_iconst F dX12_layer_44 (v := 0) (by decide) ?_
        refine r_istore_n F dX12_layer_45 (e_le rfl) (L' := [some (.ref 72), some (.int p0), some (.int p1), some (.int 0), none]) rfl ?_
        refine r_iconst F dX12_layer_46 (v := 0) (by decide) ?_
        refine r_istore F dX12_layer_47 (e_le rfl) (L' := [some (.ref 72), some (.int p0), some (.int p1), some (.int 0), some (.int 0)]) rfl ?_
        obtain ⟨x10, hx11, hf⟩ := e_bd hf
        refine (e_loop_ok (P := fun (v9 : Int32 × Int32) => eRun G X 49 [some (.ref 72), some (.int p0), some (.int p1), some (.int v9.1), some (.int v9.2)] [] h [(72, o72 0 a72_2 a72_3 a72_4 a72_5 a72_6 a72_7 a72_8 a72_9 a72_10 a72_11 a72_17 a72_18 a72_19 a72_21 a72_22 a72_29 a72_31 a72_35 a72_37 a72_38 a72_39 a72_40 a72_41 a72_44 a72_50)] nx 0 0) (K := fun (x10 : Int32) => eRun G X 130 [none, none, none, some (.int x10), none] [] h [(72, o72 0 a72_2 a72_3 a72_4 a72_5 a72_6 a72_7 a72_8 a72_9 a72_10 a72_11 a72_17 a72_18 a72_19 a72_21 a72_22 a72_29 a72_31 a72_35 a72_37 a72_38 a72_39 a72_40 a72_41 a72_44 a72_50)] nx 0 0) ?_ e_fuel (0, 0) x10 hx11 ?_ : _)
        · intro v9 z hz ih hx
          refine r_iload F dX12_layer_49 rfl ?_
          refine r_aload_n F dX12_layer_51 rfl ?_
          refine r_get F dX12_layer_52 flX12_205 rfl rfl (e_le rfl) (e_lt hnx rfl) ?_
          refine r_icmp_ge F dX12_layer_55 (tgt := 130) (by decide) (fun hc => ?_) (fun hc => ?_)
          · have hz := e_t hc hz
            refine r_drop 0 (L' := [none, some (.int p0), some (.int p1), some (.int v9.1), some (.int v9.2)]) rfl ?_
            refine r_drop 1 (L' := [none, none, some (.int p1), some (.int v9.1), some (.int v9.2)]) rfl ?_
            refine r_drop 2 (L' := [none, none, none, some (.int v9.1), some (.int v9.2)]) rfl ?_
            refine r_drop 4 (L' := [none, none, none, some (.int v9.1), none]) rfl ?_
            obtain rfl := Option.some.inj hz
            exact hx v9.1 rfl
          · have hz := e_f hc hz
            refine r_iload_n F dX12_layer_58 rfl ?_
            refine r_iconst F dX12_layer_59 (v := 2) (by decide) ?_
            obtain ⟨q12, hq13, hz⟩ := e_bd hz
            have Jq12 : eRun G X 124 [some (.ref 72), some (.int p0), some (.int p1), some (.int q12), some (.int v9.2)] [] h [(72, o72 0 a72_2 a72_3 a72_4 a72_5 a72_6 a72_7 a72_8 a72_9 a72_10 a72_11 a72_17 a72_18 a72_19 a72_21 a72_22 a72_29 a72_31 a72_35 a72_37 a72_38 a72_39 a72_40 a72_41 a72_44 a72_50)] nx 0 0 := by
              refine r_inc F dX12_layer_124 (k9 := 1) (by decide) rfl (L' := [some (.ref 72), some (.int p0), some (.int p1), some (.int q12), some (.int (v9.2 + 1))]) rfl ?_
              refine r_goto F dX12_layer_127 (tgt := 49) (by decide) ?_
              obtain rfl := Option.some.inj hz
              exact ih (q12, v9.2 + 1) rfl
            refine r_icmp_ge F dX12_layer_60 (tgt := 93) (by decide) (fun hc => ?_) (fun hc => ?_)
            · have hq13 := e_t hc hq13
              refine r_iload_n F dX12_layer_93 rfl ?_
              refine r_aload_n F dX12_layer_94 rfl ?_
              refine r_iload F dX12_layer_95 rfl ?_
              refine r_iload_n F dX12_layer_97 rfl ?_
              refine r_iload_n F dX12_layer_98 rfl ?_
              refine r_iconst F dX12_layer_99 (v := 3) (by decide) ?_
              obtain ⟨q14, hq15, hq13⟩ := e_bd hq13
              have Jq14 : eRun G X 108 [some (.ref 72), some (.int p0), some (.int p1), none, some (.int v9.2)] [.int (e_b q14), .int p0, .int v9.2, .ref 72, .int v9.1] h [(72, o72 0 a72_2 a72_3 a72_4 a72_5 a72_6 a72_7 a72_8 a72_9 a72_10 a72_11 a72_17 a72_18 a72_19 a72_21 a72_22 a72_29 a72_31 a72_35 a72_37 a72_38 a72_39 a72_40 a72_41 a72_44 a72_50)] nx 0 0 := by
                obtain ⟨q16, hq17, hq13⟩ := e_bd hq13
                refine r_callS F dX12_layer_108 (dc := 0) (ds := 0) (As := [.int v9.2, .int p0, .int (e_b q14)]) (S0 := [.ref 72, .int v9.1]) lkX12_421 mX12_linkOf (tX12_linkOf hG (la := x_l X) (h := e_up h [(72, o72 0 a72_2 a72_3 a72_4 a72_5 a72_6 a72_7 a72_8 a72_9 a72_10 a72_11 a72_17 a72_18 a72_19 a72_21 a72_22 a72_29 a72_31 a72_35 a72_37 a72_38 a72_39 a72_40 a72_41 a72_44 a72_50)]) hnx  hq17) rfl rfl rfl (e_le rfl) (e_le rfl) (e_le rfl) (Nat.zero_le _) (Nat.zero_le _) (e_k ?_)
                refine r_wr0 ?_
                obtain ⟨q18, hq19, hq13⟩ := e_bd hq13
                refine r_callV F dX12_layer_111 (b := 72) (dc := 0) (ds := 0) (As := [.int q16]) (S0 := [.int v9.1]) lkX12_293 mX12_isSlippedAt (tX12_isSlippedAt_72 hG (la := x_l X) (h := e_up h [(72, o72 0 a72_2 a72_3 a72_4 a72_5 a72_6 a72_7 a72_8 a72_9 a72_10 a72_11 a72_17 a72_18 a72_19 a72_21 a72_22 a72_29 a72_31 a72_35 a72_37 a72_38 a72_39 a72_40 a72_41 a72_44 a72_50)]) hnx rfl h79 hq19) rfl rfl rfl (e_le rfl) (e_le rfl) (e_le rfl) rfl (ci := 12) e_cl12.1 rfl (e_le rfl) (e_lt hnx rfl) (Nat.zero_le _) (Nat.zero_le _) (e_k ?_)
                refine r_wr0 ?_
                obtain ⟨q20, hq21, hq13⟩ := e_bd hq13
                have Jq20 : eRun G X 122 [some (.ref 72), some (.int p0), some (.int p1), none, some (.int v9.2)] [.int (e_b q20), .int v9.1] h [(72, o72 0 a72_2 a72_3 a72_4 a72_5 a72_6 a72_7 a72_8 a72_9 a72_10 a72_11 a72_17 a72_18 a72_19 a72_21 a72_22 a72_29 a72_31 a72_35 a72_37 a72_38 a72_39 a72_40 a72_41 a72_44 a72_50)] nx 0 0 := by
                  refine r_iadd F dX12_layer_122 ?_
                  refine r_istore_n F dX12_layer_123 (e_le rfl) (L' := [some (.ref 72), some (.int p0), some (.int p1), some (.int (v9.1 + (e_b q20))), some (.int v9.2)]) rfl ?_
                  obtain rfl := Option.some.inj hq13
                  exact Jq12
                refine r_z_eq F dX12_layer_114 (tgt := 121) (by decide) (fun hc => ?_) (fun hc => ?_)
                · have hq21 := e_t hc hq21
                  refine r_iconst F dX12_layer_117 (v := 1) (by decide) ?_
                  refine r_goto F dX12_layer_118 (tgt := 122) (by decide) ?_
                  obtain rfl := Option.some.inj hq21
                  exact Jq20
                · have hq21 := e_f hc hq21
                  refine r_iconst F dX12_layer_121 (v := 0) (by decide) ?_
                  obtain rfl := Option.some.inj hq21
                  exact Jq20
              refine r_icmp_ne F dX12_layer_100 (tgt := 107) (by decide) (fun hc => ?_) (fun hc => ?_)
              · have hq15 := e_f hc hq15
                refine r_iconst F dX12_layer_107 (v := 0) (by decide) ?_
                refine r_drop 3 (L' := [some (.ref 72), some (.int p0), some (.int p1), none, some (.int v9.2)]) rfl ?_
                obtain rfl := Option.some.inj hq15
                exact Jq14
              · have hq15 := e_t hc hq15
                refine r_iconst F dX12_layer_103 (v := 1) (by decide) ?_
                refine r_goto F dX12_layer_104 (tgt := 108) (by decide) ?_
                refine r_drop 3 (L' := [some (.ref 72), some (.int p0), some (.int p1), none, some (.int v9.2)]) rfl ?_
                obtain rfl := Option.some.inj hq15
                exact Jq14
            · have hq13 := e_f hc hq13
              refine r_iload_n F dX12_layer_63 rfl ?_
              refine r_iload F dX12_layer_64 rfl ?_
              refine r_aload_n F dX12_layer_66 rfl ?_
              refine r_get F dX12_layer_67 flX12_205 rfl rfl (e_le rfl) (e_lt hnx rfl) ?_
              refine r_iconst F dX12_layer_70 (v := 1) (by decide) ?_
              refine r_isub F dX12_layer_71 ?_
              obtain ⟨q22, hq23, hq13⟩ := e_bd hq13
              have Jq22 : eRun G X 88 [some (.ref 72), some (.int p0), some (.int p1), none, some (.int v9.2)] [.int q22, .int v9.1] h [(72, o72 0 a72_2 a72_3 a72_4 a72_5 a72_6 a72_7 a72_8 a72_9 a72_10 a72_11 a72_17 a72_18 a72_19 a72_21 a72_22 a72_29 a72_31 a72_35 a72_37 a72_38 a72_39 a72_40 a72_41 a72_44 a72_50)] nx 0 0 := by
                refine r_iadd F dX12_layer_88 ?_
                refine r_istore_n F dX12_layer_89 (e_le rfl) (L' := [some (.ref 72), some (.int p0), some (.int p1), some (.int (v9.1 + q22)), some (.int v9.2)]) rfl ?_
                refine r_goto F dX12_layer_90 (tgt := 124) (by decide) ?_
                obtain rfl := Option.some.inj hq13
                exact Jq12
              refine r_icmp_ge F dX12_layer_72 (tgt := 87) (by decide) (fun hc => ?_) (fun hc => ?_)
              · have hq23 := e_t hc hq23
                refine r_iconst F dX12_layer_87 (v := 0) (by decide) ?_
                refine r_drop 3 (L' := [some (.ref 72), some (.int p0), some (.int p1), none, some (.int v9.2)]) rfl ?_
                obtain rfl := Option.some.inj hq23
                exact Jq22
              · have hq23 := e_f hc hq23
                refine r_aload_n F dX12_layer_75 rfl ?_
                refine r_iload F dX12_layer_76 rfl ?_
                refine r_iload_n F dX12_layer_78 rfl ?_
                refine r_iconst F dX12_layer_79 (v := 0) (by decide) ?_
                refine r_iload_n F dX12_layer_80 rfl ?_
                obtain ⟨q24, hq25, hq23⟩ := e_bd hq23
                refine r_callV F dX12_layer_81 (b := 72) (dc := 0) (ds := 0) (As := [.int v9.2, .int p0, .int 0, .int p1]) (S0 := [.int v9.1]) lkX12_218 mX12_step (tX12_step_72 hG (la := x_l X) (h := e_up h [(72, o72 0 a72_2 a72_3 a72_4 a72_5 a72_6 a72_7 a72_8 a72_9 a72_10 a72_11 a72_17 a72_18 a72_19 a72_21 a72_22 a72_29 a72_31 a72_35 a72_37 a72_38 a72_39 a72_40 a72_41 a72_44 a72_50)]) hnx rfl h79 hq25) rfl rfl rfl (e_le rfl) (e_le rfl) (e_le rfl) rfl (ci := 12) e_cl12.1 rfl (e_le rfl) (e_lt hnx rfl) (Nat.zero_le _) (Nat.zero_le _) (e_k ?_)
                refine r_wr0 ?_
                refine r_goto F dX12_layer_84 (tgt := 88) (by decide) ?_
                refine r_drop 3 (L' := [some (.ref 72), some (.int p0), some (.int p1), none, some (.int v9.2)]) rfl ?_
                obtain rfl := Option.some.inj hq23
                exact Jq22
        · show eRun G X 130 [none, none, none, some (.int x10), none] [] h [(72, o72 0 a72_2 a72_3 a72_4 a72_5 a72_6 a72_7 a72_8 a72_9 a72_10 a72_11 a72_17 a72_18 a72_19 a72_21 a72_22 a72_29 a72_31 a72_35 a72_37 a72_38 a72_39 a72_40 a72_41 a72_44 a72_50)] nx 0 0
          refine r_iload_n F dX12_layer_130 rfl ?_
          obtain rfl := Option.some.inj hf
          exact r_iret F hq dX12_layer_131 rfl rfl (Nat.le_refl _) (Nat.le_refl _) ⟨rfl, rfl⟩
      · have hf := e_f hc hf
        refine r_ldcw F dX12_layer_40 kcX12_310 ?_
        obtain rfl := Option.some.inj hf
        exact r_iret F hq dX12_layer_43 rfl rfl (Nat.le_refl _) (Nat.le_refl _) ⟨rfl, rfl⟩
    · have hf := e_f hc hf
      refine r_ldcw F dX12_layer_40 kcX12_310 ?_
      obtain rfl := Option.some.inj hf
      exact r_iret F hq dX12_layer_43 rfl rfl (Nat.le_refl _) (Nat.le_refl _) ⟨rfl, rfl⟩
  · have hf := e_f hc hf
    refine r_ldcw F dX12_layer_40 kcX12_310 ?_
    obtain rfl := Option.some.inj hf
    exact r_iret F hq dX12_layer_43 rfl rfl (Nat.le_refl _) (Nat.le_refl _) ⟨rfl, rfl⟩
