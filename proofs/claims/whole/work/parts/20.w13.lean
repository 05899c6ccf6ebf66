def fX12_status (a72_0 : Int32) (A87 : Nat → Int32) (p0 : Int32) : Option (Int32 × Int32) :=
  (fX12_in (Int32.toInt64 p0) 0 3).bind (fun q1 =>
  if q1 = true then
    e_g (e_in p0 4) (
    some (A87 (tn p0), 0))
  else
    some ((-1), 0))
set_option maxRecDepth 100000 in
theorem tX12_status_72 {G : eG} (hG : e_GS G) {la : Launch} {h : Nat → eO} {nx : Nat} (hnx : 99 ≤ nx) {a72_0 : Int32} {a72_2 : Int32} {a72_3 : Int32} {a72_4 : Int32} {a72_5 : Int32} {a72_6 : Int32} {a72_7 : Int32} {a72_8 : Bool} {a72_9 : Int32} {a72_10 : Int32} {a72_11 : Int32} {a72_17 : Bool} {a72_18 : Bool} {a72_19 : Bool} {a72_21 : Int32} {a72_22 : Int32} {a72_29 : Int32} {a72_31 : Int32} {a72_35 : Int32} {a72_37 : Bool} {a72_38 : Int32} {a72_39 : Int32} {a72_40 : Int32} {a72_41 : Int64} {a72_44 : Int32} {a72_50 : Bool} {A87 : Nat → Int32} {p0 : Int32} (h72 : h 72 = o72 a72_0 a72_2 a72_3 a72_4 a72_5 a72_6 a72_7 a72_8 a72_9 a72_10 a72_11 a72_17 a72_18 a72_19 a72_21 a72_22 a72_29 a72_31 a72_35 a72_37 a72_38 a72_39 a72_40 a72_41 a72_44 a72_50) (h87 : h 87 = o87 A87) {R9 : Int32 × Int32} (hf : fX12_status a72_0 A87 p0 = some R9) :
    eSem G la MX12_status [.ref 72, .int p0] h nx 0 0 (fun r9 h9 => r9 = some (.int R9.1) ∧ h9 = e_up h [(72, o72 R9.2 a72_2 a72_3 a72_4 a72_5 a72_6 a72_7 a72_8 a72_9 a72_10 a72_11 a72_17 a72_18 a72_19 a72_21 a72_22 a72_29 a72_31 a72_35 a72_37 a72_38 a72_39 a72_40 a72_41 a72_44 a72_50)]) := by
  refine eSem.of (k := 0) (L := [some (.ref 72), some (.int p0)]) (by decide +kernel) rfl rfl (fun X F hxl hq hcR hsR => ?_)
  subst hxl
  unfold fX12_status at hf
  refine r_aload_n F dX12_status_0 rfl ?_
  refine r_iconst F dX12_status_1 (v := 0) (by decide) ?_
  refine r_put F dX12_status_2 flX12_86 rfl rfl rfl h72 (e_le rfl) (e_le rfl) (e_lt hnx rfl) (l' := [(72, o72 0 a72_2 a72_3 a72_4 a72_5 a72_6 a72_7 a72_8 a72_9 a72_10 a72_11 a72_17 a72_18 a72_19 a72_21 a72_22 a72_29 a72_31 a72_35 a72_37 a72_38 a72_39 a72_40 a72_41 a72_44 a72_50)]) rfl ?_
  refine r_iload_n F dX12_status_5 rfl ?_
  refine r_i2l F dX12_status_6 ?_
  refine r_lconst F dX12_status_7 (v := 0) (by decide) ?_
  refine r_ldc2 F dX12_status_8 klX12_291 ?_
  obtain ⟨q1, hq2, hf⟩ := e_bd hf
  refine r_callS F dX12_status_11 (dc := 0) (ds := 0) (As := [.long (Int32.toInt64 p0), .long 0, .long 3]) (S0 := []) lkX12_97 mX12_in (tX12_in hG (la := x_l X) (h := e_up h [(72, o72 0 a72_2 a72_3 a72_4 a72_5 a72_6 a72_7 a72_8 a72_9 a72_10 a72_11 a72_17 a72_18 a72_19 a72_21 a72_22 a72_29 a72_31 a72_35 a72_37 a72_38 a72_39 a72_40 a72_41 a72_44 a72_50)]) hnx  hq2) rfl rfl rfl (e_le rfl) (e_le rfl) (e_le rfl) (Nat.zero_le _) (Nat.zero_le _) (e_k ?_)
  refine r_wr0 ?_
  refine r_z_eq F dX12_status_14 (tgt := 26) (by decide) (fun hc => ?_) (fun hc => ?_)
  · have hf := e_t hc hf
    refine r_aload_n F dX12_status_17 rfl ?_
    refine r_get F dX12_status_18 flX12_52 rfl rfl (e_le rfl) (e_lt hnx rfl) ?_
    refine r_iload_n F dX12_status_21 rfl ?_
    obtain ⟨hg, hf⟩ := e_gd hf
    refine r_iald F dX12_status_22 (i := p0) h87 (e_le rfl) (e_lt hnx rfl) (e_vp hg) ?_
    refine r_goto F dX12_status_23 (tgt := 27) (by decide) ?_
    obtain rfl := Option.some.inj hf
    exact r_iret F hq dX12_status_27 rfl rfl (Nat.le_refl _) (Nat.le_refl _) ⟨rfl, rfl⟩
  · have hf := e_f hc hf
    refine r_iconst F dX12_status_26 (v := (-1)) (by decide) ?_
    obtain rfl := Option.some.inj hf
    exact r_iret F hq dX12_status_27 rfl rfl (Nat.le_refl _) (Nat.le_refl _) ⟨rfl, rfl⟩

def fX12_stills (a72_0 : Int32) (a72_21 : Int32) (a72_22 : Int32) (a72_29 : Int32) (A79 : Nat → Int32) (A80 : Nat → Int32) (A81 : Nat → Int32) (A82 : Nat → Int32) (A83 : Nat → Int32) (A84 : Nat → Int32) (A85 : Nat → Int32)  : Option (Int32 × Int32 × Int32 × (Nat → Int32) × (Nat → Int32) × (Nat → Int32) × (Nat → Int32) × (Nat → Int32)) :=
  (fX12_isCrystal a72_21).bind (fun q1 =>
  if q1 = true then
    (fX12_greatestForce a72_21 a72_22 a72_29 A79 A80 A81 A82 A83 A84 A85).bind (fun q3 =>
    if q3.1 ≤ 99 then
      some (q3.1, 0, q3.2.1, q3.2.2.1, q3.2.2.2.1, q3.2.2.2.2.1, q3.2.2.2.2.2.1, q3.2.2.2.2.2.2)
    else
      some ((-1), 0, q3.2.1, q3.2.2.1, q3.2.2.2.1, q3.2.2.2.2.1, q3.2.2.2.2.2.1, q3.2.2.2.2.2.2))
  else
    some ((-1), 0, a72_29, A81, A82, A83, A84, A85))
set_option maxRecDepth 100000 in
theorem tX12_stills_72 {G : eG} (hG : e_GS G) {la : Launch} {h : Nat → eO} {nx : Nat} (hnx : 99 ≤ nx) {a72_0 : Int32} {a72_2 : Int32} {a72_3 : Int32} {a72_4 : Int32} {a72_5 : Int32} {a72_6 : Int32} {a72_7 : Int32} {a72_8 : Bool} {a72_9 : Int32} {a72_10 : Int32} {a72_11 : Int32} {a72_17 : Bool} {a72_18 : Bool} {a72_19 : Bool} {a72_21 : Int32} {a72_22 : Int32} {a72_29 : Int32} {a72_31 : Int32} {a72_35 : Int32} {a72_37 : Bool} {a72_38 : Int32} {a72_39 : Int32} {a72_40 : Int32} {a72_41 : Int64} {a72_44 : Int32} {a72_50 : Bool} {A79 : Nat → Int32} {A80 : Nat → Int32} {A81 : Nat → Int32} {A82 : Nat → Int32} {A83 : Nat → Int32} {A84 : Nat → Int32} {A85 : Nat → Int32}  (h72 : h 72 = o72 a72_0 a72_2 a72_3 a72_4 a72_5 a72_6 a72_7 a72_8 a72_9 a72_10 a72_11 a72_17 a72_18 a72_19 a72_21 a72_22 a72_29 a72_31 a72_35 a72_37 a72_38 a72_39 a72_40 a72_41 a72_44 a72_50) (h79 : h 79 = o79 A79) (h80 : h 80 = o80 A80) (h81 : h 81 = o81 A81) (h82 : h 82 = o82 A82) (h83 : h 83 = o83 A83) (h84 : h 84 = o84 A84) (h85 : h 85 = o85 A85) {R9 : Int32 × Int32 × Int32 × (Nat → Int32) × (Nat → Int32) × (Nat → Int32) × (Nat → Int32) × (Nat → Int32)} (hf : fX12_stills a72_0 a72_21 a72_22 a72_29 A79 A80 A81 A82 A83 A84 A85  = some R9) :
    eSem G la MX12_stills [.ref 72] h nx 0 0 (fun r9 h9 => r9 = some (.int R9.1) ∧ h9 = e_up h [(72, o72 R9.2.1 a72_2 a72_3 a72_4 a72_5 a72_6 a72_7 a72_8 a72_9 a72_10 a72_11 a72_17 a72_18 a72_19 a72_21 a72_22 R9.2.2.1 a72_31 a72_35 a72_37 a72_38 a72_39 a72_40 a72_41 a72_44 a72_50), (81, o81 R9.2.2.2.1), (82, o82 R9.2.2.2.2.1), (83, o83 R9.2.2.2.2.2.1), (84, o84 R9.2.2.2.2.2.2.1), (85, o85 R9.2.2.2.2.2.2.2)]) := by
  refine eSem.of (k := 1) (L := [some (.ref 72), none]) (by decide +kernel) rfl rfl (fun X F hxl hq hcR hsR => ?_)
  subst hxl
  unfold fX12_stills at hf
  refine r_aload_n F dX12_stills_0 rfl ?_
  refine r_iconst F dX12_stills_1 (v := 0) (by decide) ?_
  refine r_put F dX12_stills_2 flX12_86 rfl rfl rfl h72 (e_le rfl) (e_le rfl) (e_lt hnx rfl) (l' := [(72, o72 0 a72_2 a72_3 a72_4 a72_5 a72_6 a72_7 a72_8 a72_9 a72_10 a72_11 a72_17 a72_18 a72_19 a72_21 a72_22 a72_29 a72_31 a72_35 a72_37 a72_38 a72_39 a72_40 a72_41 a72_44 a72_50)]) rfl ?_
  refine r_aload_n F dX12_stills_5 rfl ?_
  obtain ⟨q1, hq2, hf⟩ := e_bd hf
  refine r_callV F dX12_stills_6 (b := 72) (dc := 0) (ds := 0) (As := []) (S0 := []) lkX12_306 mX12_isCrystal (tX12_isCrystal_72 hG (la := x_l X) (h := e_up h [(72, o72 0 a72_2 a72_3 a72_4 a72_5 a72_6 a72_7 a72_8 a72_9 a72_10 a72_11 a72_17 a72_18 a72_19 a72_21 a72_22 a72_29 a72_31 a72_35 a72_37 a72_38 a72_39 a72_40 a72_41 a72_44 a72_50)]) hnx rfl hq2) rfl rfl rfl (e_le rfl) (e_le rfl) (e_le rfl) rfl (ci := 12) e_cl12.1 rfl (e_le rfl) (e_lt hnx rfl) (Nat.zero_le _) (Nat.zero_le _) (e_k ?_)
  refine r_wr0 ?_
  refine r_z_ne F dX12_stills_9 (tgt := 14) (by decide) (fun hc => ?_) (fun hc => ?_)
  · have hf := e_t hc hf
    refine r_aload_n F dX12_stills_14 rfl ?_
    obtain ⟨q3, hq4, hf⟩ := e_bd hf
    refine r_callV F dX12_stills_15 (b := 72) (dc := 0) (ds := 0) (As := []) (S0 := []) lkX12_467 mX12_greatestForce (tX12_greatestForce_72 hG (la := x_l X) (h := e_up h [(72, o72 0 a72_2 a72_3 a72_4 a72_5 a72_6 a72_7 a72_8 a72_9 a72_10 a72_11 a72_17 a72_18 a72_19 a72_21 a72_22 a72_29 a72_31 a72_35 a72_37 a72_38 a72_39 a72_40 a72_41 a72_44 a72_50)]) hnx rfl h79 h80 h81 h82 h83 h84 h85 hq4) rfl rfl rfl (e_le rfl) (e_le rfl) (e_le rfl) rfl (ci := 12) e_cl12.1 rfl (e_le rfl) (e_lt hnx rfl) (Nat.zero_le _) (Nat.zero_le _) (e_k ?_)
    refine r_wr (l' := [(72, o72 0 a72_2 a72_3 a72_4 a72_5 a72_6 a72_7 a72_8 a72_9 a72_10 a72_11 a72_17 a72_18 a72_19 a72_21 a72_22 q3.2.1 a72_31 a72_35 a72_37 a72_38 a72_39 a72_40 a72_41 a72_44 a72_50), (81, o81 q3.2.2.1), (82, o82 q3.2.2.2.1), (83, o83 q3.2.2.2.2.1), (84, o84 q3.2.2.2.2.2.1), (85, o85 q3.2.2.2.2.2.2)]) rfl rfl ?_
    refine r_istore_n F dX12_stills_18 (e_le rfl) (L' := [some (.ref 72), some (.int q3.1)]) rfl ?_
    refine r_iload_n F dX12_stills_19 rfl ?_
    refine r_bipush F dX12_stills_20 (v := 99) (by decide) ?_
    refine r_icmp_le F dX12_stills_22 (tgt := 29) (by decide) (fun hc => ?_) (fun hc => ?_)
    · have hf := e_t hc hf
      refine r_iload_n F dX12_stills_29 rfl ?_
      obtain rfl := Option.some.inj hf
      exact r_iret F hq dX12_stills_30 rfl rfl (Nat.le_refl _) (Nat.le_refl _) ⟨rfl, rfl⟩
    · have hf := e_f hc hf
      refine r_iconst F dX12_stills_25 (v := (-1)) (by decide) ?_
      refine r_goto F dX12_stills_26 (tgt := 30) (by decide) ?_
      obtain rfl := Option.some.inj hf
      exact r_iret F hq dX12_stills_30 rfl rfl (Nat.le_refl _) (Nat.le_refl _) ⟨rfl, rfl⟩
  · have hf := e_f hc hf
    refine r_iconst F dX12_stills_12 (v := (-1)) (by decide) ?_
    refine r_mat (k := 81) h81 (l' := [(72, o72 0 a72_2 a72_3 a72_4 a72_5 a72_6 a72_7 a72_8 a72_9 a72_10 a72_11 a72_17 a72_18 a72_19 a72_21 a72_22 a72_29 a72_31 a72_35 a72_37 a72_38 a72_39 a72_40 a72_41 a72_44 a72_50), (81, o81 A81)]) rfl ?_
    refine r_mat (k := 82) h82 (l' := [(72, o72 0 a72_2 a72_3 a72_4 a72_5 a72_6 a72_7 a72_8 a72_9 a72_10 a72_11 a72_17 a72_18 a72_19 a72_21 a72_22 a72_29 a72_31 a72_35 a72_37 a72_38 a72_39 a72_40 a72_41 a72_44 a72_50), (81, o81 A81), (82, o82 A82)]) rfl ?_
    refine r_mat (k := 83) h83 (l' := [(72, o72 0 a72_2 a72_3 a72_4 a72_5 a72_6 a72_7 a72_8 a72_9 a72_10 a72_11 a72_17 a72_18 a72_19 a72_21 a72_22 a72_29 a72_31 a72_35 a72_37 a72_38 a72_39 a72_40 a72_41 a72_44 a72_50), (81, o81 A81), (82, o82 A82), (83, o83 A83)]) rfl ?_
    refine r_mat (k := 84) h84 (l' := [(72, o72 0 a72_2 a72_3 a72_4 a72_5 a72_6 a72_7 a72_8 a72_9 a72_10 a72_11 a72_17 a72_18 a72_19 a72_21 a72_22 a72_29 a72_31 a72_35 a72_37 a72_38 a72_39 a72_40 a72_41 a72_44 a72_50), (81, o81 A81), (82, o82 A82), (83, o83 A83), (84, o84 A84)]) rfl ?_
    refine r_mat (k := 85) h85 (l' := [(72, o72 0 a72_2 a72_3 a72_4 a72_5 a72_6 a72_7 a72_8 a72_9 a72_10 a72_11 a72_17 a72_18 a72_19 a72_21 a72_22 a72_29 a72_31 a72_35 a72_37 a72_38 a72_39 a72_40 a72_41 a72_44 a72_50), (81, o81 A81), (82, o82 A82), (83, o83 A83), (84, o84 A84), (85, o85 A85)]) rfl ?_
    obtain rfl := Option.some.inj hf
    exact r_iret F hq dX12_stills_13 rfl rfl (Nat.le_refl _) (Nat.le_refl _) ⟨rfl, rfl⟩

def fX12_text (a72_0 : Int32) (a72_2 : Int32) (a72_3 : Int32) (a72_4 : Int32) (a72_5 : Int32) (a72_6 : Int32) (a72_7 : Int32) (a72_9 : Int32) (a72_10 : Int32) (a72_11 : Int32) (a72_17 : Bool) (a72_18 : Bool) (a72_19 : Bool) (a72_21 : Int32) (a72_22 : Int32) (a72_29 : Int32) (a72_31 : Int32) (a72_37 : Bool) (a72_50 : Bool) (A73 : Nat → Int32) (A74 : Nat → Int32) (A75 : Nat → Int32) (A76 : Nat → Int32) (A77 : Nat → Int32) (A78 : Nat → Int32) (A79 : Nat → Int32) (A80 : Nat → Int32) (A81 : Nat → Int32) (A82 : Nat → Int32) (A83 : Nat → Int32) (A84 : Nat → Int32) (A85 : Nat → Int32)  : Option (Int32 × Int32 × Int32 × Int32 × Int32 × Int32 × Int32 × Int32 × Int32 × Int32 × Int32 × Bool × Bool × Bool × Int32 × Int32 × Int32 × Int32 × Bool × Bool × (Nat → Int32) × (Nat → Int32) × (Nat → Int32) × (Nat → Int32) × (Nat → Int32) × (Nat → Int32) × (Nat → Int32) × (Nat → Int32) × (Nat → Int32) × (Nat → Int32) × (Nat → Int32) × (Nat → Int32)) :=
  (fX12_readsAll a72_2 a72_3 a72_4 a72_5 a72_6 a72_7 a72_9 a72_10 a72_11 a72_17 a72_18 a72_19 A73 A74 A75 A76 A77 A78).bind (fun q1 =>
  if q1.1 = (-1) then
    (e_loop (fun (v5 : Int32 × (Nat → Int32)) => (
        if 4 ≤ v5.1 then
          some (.inr v5.2)
        else
          e_g (e_in v5.1 4) (
          e_g (e_in v5.1 4) (
          some (.inl (v5.1 + 1, upd v5.2 (tn v5.1) (q1.2.2.2.2.2.2.2.2.2.2.2.2.2.2.2.2 (tn v5.1)))))) : Option ((Int32 × (Nat → Int32)) ⊕ ((Nat → Int32))))) e_fuel (0, A80)).bind (fun x6 =>
    (e_loop (fun (v10 : Int32 × (Nat → Int32)) => (
        if 486 ≤ v10.1 then
          some (.inr v10.2)
        else
          e_g (e_in v10.1 486) (
          some (.inl (v10.1 + 1, upd v10.2 (tn v10.1) 0))) : Option ((Int32 × (Nat → Int32)) ⊕ ((Nat → Int32))))) e_fuel (0, A79)).bind (fun x11 =>
    (e_loop (fun (v15 : Int32 × (Nat → Int32)) => (
        if q1.2.2.2.2.2.2.2.1 ≤ v15.1 then
          some (.inr v15.2)
        else
          (e_loop (fun (v20 : Int32 × (Nat → Int32)) => (
              if q1.2.2.2.2.2.2.1 ≤ v20.1 then
                some (.inr v20.2)
              else
                (fX12_linkAt v20.1 v15.1 false 0).bind (fun q23 =>
                e_g (e_in q23 486) (
                (fX12_linkAt v20.1 v15.1 true 1).bind (fun q25 =>
                e_g (e_in q25 486) (
                some (.inl (v20.1 + 1, upd (upd v20.2 (tn q23) 1) (tn q25) 1)))))) : Option ((Int32 × (Nat → Int32)) ⊕ ((Nat → Int32))))) e_fuel (0, v15.2)).bind (fun x21 =>
          some (.inl (v15.1 + 1, x21))) : Option ((Int32 × (Nat → Int32)) ⊕ ((Nat → Int32))))) e_fuel (0, x11)).bind (fun x16 =>
    (e_loop (fun (v29 : Int32 × (Nat → Int32)) => (
        if q1.2.2.2.2.2.2.2.2.1 ≤ v29.1 then
          some (.inr v29.2)
        else
          (e_loop (fun (v34 : Int32 × (Nat → Int32)) => (
              e_g (e_in v29.1 10) (
              if (q1.2.2.2.2.2.2.2.2.2.2.2.2.1 (tn v29.1)) < v34.1 then
                some (.inr v34.2)
              else
                e_g (e_in v29.1 10) (
                e_g (e_in v29.1 10) (
                e_g (e_in v29.1 10) (
                (fX12_changes v34.2 v34.1 (q1.2.2.2.2.2.2.2.2.2.2.2.2.2.1 (tn v29.1)) true ((0 : Int32) - (q1.2.2.2.2.2.2.2.2.2.2.2.2.2.2.1 (tn v29.1))) ((0 : Int32) - (q1.2.2.2.2.2.2.2.2.2.2.2.2.2.2.2.1 (tn v29.1)))).bind (fun q37 =>
                some (.inl (v34.1 + 1, q37))))))) : Option ((Int32 × (Nat → Int32)) ⊕ ((Nat → Int32))))) e_fuel (0, v29.2)).bind (fun x35 =>
          some (.inl (v29.1 + 1, x35))) : Option ((Int32 × (Nat → Int32)) ⊕ ((Nat → Int32))))) e_fuel (0, x16)).bind (fun x30 =>
    (fX12_laysCores q1.2.2.2.2.2.2.1 q1.2.2.2.2.2.2.2.1 a72_29 x30 x6 A81 A82 A83 A84 A85).bind (fun q39 =>
    some (q39.1, 0, 0, q1.2.1, q1.2.2.1, q1.2.2.2.1, q1.2.2.2.2.1, q1.2.2.2.2.2.1, q1.2.2.2.2.2.2.1, q1.2.2.2.2.2.2.2.1, q1.2.2.2.2.2.2.2.2.1, q1.2.2.2.2.2.2.2.2.2.1, q1.2.2.2.2.2.2.2.2.2.2.1, q1.2.2.2.2.2.2.2.2.2.2.2.1, q1.2.2.2.2.2.2.1, q1.2.2.2.2.2.2.2.1, q39.2.1, 0, false, false, q1.2.2.2.2.2.2.2.2.2.2.2.2.1, q1.2.2.2.2.2.2.2.2.2.2.2.2.2.1, q1.2.2.2.2.2.2.2.2.2.2.2.2.2.2.1, q1.2.2.2.2.2.2.2.2.2.2.2.2.2.2.2.1, q1.2.2.2.2.2.2.2.2.2.2.2.2.2.2.2.2, x30, x6, q39.2.2.1, q39.2.2.2.1, q39.2.2.2.2.1, q39.2.2.2.2.2.1, q39.2.2.2.2.2.2))))))
  else
    some ((-1), 0, a72_2, q1.2.1, q1.2.2.1, q1.2.2.2.1, q1.2.2.2.2.1, q1.2.2.2.2.2.1, q1.2.2.2.2.2.2.1, q1.2.2.2.2.2.2.2.1, q1.2.2.2.2.2.2.2.2.1, q1.2.2.2.2.2.2.2.2.2.1, q1.2.2.2.2.2.2.2.2.2.2.1, q1.2.2.2.2.2.2.2.2.2.2.2.1, a72_21, a72_22, a72_29, a72_31, a72_37, a72_50, q1.2.2.2.2.2.2.2.2.2.2.2.2.1, q1.2.2.2.2.2.2.2.2.2.2.2.2.2.1, q1.2.2.2.2.2.2.2.2.2.2.2.2.2.2.1, q1.2.2.2.2.2.2.2.2.2.2.2.2.2.2.2.1, q1.2.2.2.2.2.2.2.2.2.2.2.2.2.2.2.2, A79, A80, A81, A82, A83, A84, A85))
set_option maxRecDepth 100000 in
theorem tX12_text_72 {G : eG} (hG : e_GS G) {la : Launch} {h : Nat → eO} {nx : Nat} (hnx : 99 ≤ nx) {a72_0 : Int32} {a72_2 : Int32} {a72_3 : Int32} {a72_4 : Int32} {a72_5 : Int32} {a72_6 : Int32} {a72_7 : Int32} {a72_8 : Bool} {a72_9 : Int32} {a72_10 : Int32} {a72_11 : Int32} {a72_17 : Bool} {a72_18 : Bool} {a72_19 : Bool} {a72_21 : Int32} {a72_22 : Int32} {a72_29 : Int32} {a72_31 : Int32} {a72_35 : Int32} {a72_37 : Bool} {a72_38 : Int32} {a72_39 : Int32} {a72_40 : Int32} {a72_41 : Int64} {a72_44 : Int32} {a72_50 : Bool} {A73 : Nat → Int32} {A74 : Nat → Int32} {A75 : Nat → Int32} {A76 : Nat → Int32} {A77 : Nat → Int32} {A78 : Nat → Int32} {A79 : Nat → Int32} {A80 : Nat → Int32} {A81 : Nat → Int32} {A82 : Nat → Int32} {A83 : Nat → Int32} {A84 : Nat → Int32} {A85 : Nat → Int32}  (h72 : h 72 = o72 a72_0 a72_2 a72_3 a72_4 a72_5 a72_6 a72_7 a72_8 a72_9 a72_10 a72_11 a72_17 a72_18 a72_19 a72_21 a72_22 a72_29 a72_31 a72_35 a72_37 a72_38 a72_39 a72_40 a72_41 a72_44 a72_50) (h73 : h 73 = o73 A73) (h74 : h 74 = o74 A74) (h75 : h 75 = o75 A75) (h76 : h 76 = o76 A76) (h77 : h 77 = o77 A77) (h78 : h 78 = o78 A78) (h79 : h 79 = o79 A79) (h80 : h 80 = o80 A80) (h81 : h 81 = o81 A81) (h82 : h 82 = o82 A82) (h83 : h 83 = o83 A83) (h84 : h 84 = o84 A84) (h85 : h 85 = o85 A85) {R9 : Int32 × Int32 × Int32 × Int32 × Int32 × Int32 × Int32 × Int32 × Int32 × Int32 × Int32 × Bool × Bool × Bool × Int32 × Int32 × Int32 × Int32 × Bool × Bool × (Nat → Int32) × (Nat → Int32) × (Nat → Int32) × (Nat → Int32) × (Nat → Int32) × (Nat → Int32) × (Nat → Int32) × (Nat → Int32) × (Nat → Int32) × (Nat → Int32) × (Nat → Int32) × (Nat → Int32)} (hf : fX12_text a72_0 a72_2 a72_3 a72_4 a72_5 a72_6 a72_7 a72_9 a72_10 a72_11 a72_17 a72_18 a72_19 a72_21 a72_22 a72_29 a72_31 a72_37 a72_50 A73 A74 A75 A76 A77 A78 A79 A80 A81 A82 A83 A84 A85  = some R9) :
    eSem G la MX12_text [.ref 72] h nx 0 0 (fun r9 h9 => r9 = some (.int R9.1) ∧ h9 = e_up h [(72, o72 R9.2.1 R9.2.2.1 R9.2.2.2.1 R9.2.2.2.2.1 R9.2.2.2.2.2.1 R9.2.2.2.2.2.2.1 R9.2.2.2.2.2.2.2.1 a72_8 R9.2.2.2.2.2.2.2.2.1 R9.2.2.2.2.2.2.2.2.2.1 R9.2.2.2.2.2.2.2.2.2.2.1 R9.2.2.2.2.2.2.2.2.2.2.2.1 R9.2.2.2.2.2.2.2.2.2.2.2.2.1 R9.2.2.2.2.2.2.2.2.2.2.2.2.2.1 R9.2.2.2.2.2.2.2.2.2.2.2.2.2.2.1 R9.2.2.2.2.2.2.2.2.2.2.2.2.2.2.2.1 R9.2.2.2.2.2.2.2.2.2.2.2.2.2.2.2.2.1 R9.2.2.2.2.2.2.2.2.2.2.2.2.2.2.2.2.2.1 a72_35 R9.2.2.2.2.2.2.2.2.2.2.2.2.2.2.2.2.2.2.1 a72_38 a72_39 a72_40 a72_41 a72_44 R9.2.2.2.2.2.2.2.2.2.2.2.2.2.2.2.2.2.2.2.1), (74, o74 R9.2.2.2.2.2.2.2.2.2.2.2.2.2.2.2.2.2.2.2.2.1), (75, o75 R9.2.2.2.2.2.2.2.2.2.2.2.2.2.2.2.2.2.2.2.2.2.1), (76, o76 R9.2.2.2.2.2.2.2.2.2.2.2.2.2.2.2.2.2.2.2.2.2.2.1), (77, o77 R9.2.2.2.2.2.2.2.2.2.2.2.2.2.2.2.2.2.2.2.2.2.2.2.1), (78, o78 R9.2.2.2.2.2.2.2.2.2.2.2.2.2.2.2.2.2.2.2.2.2.2.2.2.1), (79, o79 R9.2.2.2.2.2.2.2.2.2.2.2.2.2.2.2.2.2.2.2.2.2.2.2.2.2.1), (80, o80 R9.2.2.2.2.2.2.2.2.2.2.2.2.2.2.2.2.2.2.2.2.2.2.2.2.2.2.1), (81, o81 R9.2.2.2.2.2.2.2.2.2.2.2.2.2.2.2.2.2.2.2.2.2.2.2.2.2.2.2.1), (82, o82 R9.2.2.2.2.2.2.2.2.2.2.2.2.2.2.2.2.2.2.2.2.2.2.2.2.2.2.2.2.1), (83, o83 R9.2.2.2.2.2.2.2.2.2.2.2.2.2.2.2.2.2.2.2.2.2.2.2.2.2.2.2.2.2.1), (84, o84 R9.2.2.2.2.2.2.2.2.2.2.2.2.2.2.2.2.2.2.2.2.2.2.2.2.2.2.2.2.2.2.1), (85, o85 R9.2.2.2.2.2.2.2.2.2.2.2.2.2.2.2.2.2.2.2.2.2.2.2.2.2.2.2.2.2.2.2)]) := by
  refine eSem.of (k := 2) (L := [some (.ref 72), none, none]) (by decide +kernel) rfl rfl (fun X F hxl hq hcR hsR => ?_)
  subst hxl
  unfold fX12_text at hf
  refine r_aload_n F dX12_text_0 rfl ?_
  refine r_iconst F dX12_text_1 (v := 0) (by decide) ?_
  refine r_put F dX12_text_2 flX12_86 rfl rfl rfl h72 (e_le rfl) (e_le rfl) (e_lt hnx rfl) (l' := [(72, o72 0 a72_2 a72_3 a72_4 a72_5 a72_6 a72_7 a72_8 a72_9 a72_10 a72_11 a72_17 a72_18 a72_19 a72_21 a72_22 a72_29 a72_31 a72_35 a72_37 a72_38 a72_39 a72_40 a72_41 a72_44 a72_50)]) rfl ?_
  refine r_aload_n F dX12_text_5 rfl ?_
  obtain ⟨q1, hq2, hf⟩ := e_bd hf
  refine r_callV F dX12_text_6 (b := 72) (dc := 0) (ds := 0) (As := []) (S0 := []) lkX12_202 mX12_readsAll (tX12_readsAll_72 hG (la := x_l X) (h := e_up h [(72, o72 0 a72_2 a72_3 a72_4 a72_5 a72_6 a72_7 a72_8 a72_9 a72_10 a72_11 a72_17 a72_18 a72_19 a72_21 a72_22 a72_29 a72_31 a72_35 a72_37 a72_38 a72_39 a72_40 a72_41 a72_44 a72_50)]) hnx rfl h73 h74 h75 h76 h77 h78 hq2) rfl rfl rfl (e_le rfl) (e_le rfl) (e_le rfl) rfl (ci := 12) e_cl12.1 rfl (e_le rfl) (e_lt hnx rfl) (Nat.zero_le _) (Nat.zero_le _) (e_k ?_)
  refine r_wr (l' := [(72, o72 0 a72_2 q1.2.1 q1.2.2.1 q1.2.2.2.1 q1.2.2.2.2.1 q1.2.2.2.2.2.1 a72_8 q1.2.2.2.2.2.2.1 q1.2.2.2.2.2.2.2.1 q1.2.2.2.2.2.2.2.2.1 q1.2.2.2.2.2.2.2.2.2.1 q1.2.2.2.2.2.2.2.2.2.2.1 q1.2.2.2.2.2.2.2.2.2.2.2.1 a72_21 a72_22 a72_29 a72_31 a72_35 a72_37 a72_38 a72_39 a72_40 a72_41 a72_44 a72_50), (74, o74 q1.2.2.2.2.2.2.2.2.2.2.2.2.1), (75, o75 q1.2.2.2.2.2.2.2.2.2.2.2.2.2.1), (76, o76 q1.2.2.2.2.2.2.2.2.2.2.2.2.2.2.1), (77, o77 q1.2.2.2.2.2.2.2.2.2.2.2.2.2.2.2.1), (78, o78 q1.2.2.2.2.2.2.2.2.2.2.2.2.2.2.2.2)]) rfl rfl ?_
  refine r_iconst F dX12_text_9 (v := (-1)) (by decide) ?_
  refine r_icmp_eq F dX12_text_10 (tgt := 15) (by decide) (fun hc => ?_) (fun hc => ?_)
  · have hf := e_t hc hf
    refine r_aload_n F dX12_text_15 rfl ?_
    refine r_iconst F dX12_text_16 (v := 0) (by decide) ?_
    refine r_put F dX12_text_17 flX12_94 rfl rfl rfl rfl (e_le rfl) (e_le rfl) (e_lt hnx rfl) (l' := [(72, o72 0 0 q1.2.1 q1.2.2.1 q1.2.2.2.1 q1.2.2.2.2.1 q1.2.2.2.2.2.1 a72_8 q1.2.2.2.2.2.2.1 q1.2.2.2.2.2.2.2.1 q1.2.2.2.2.2.2.2.2.1 q1.2.2.2.2.2.2.2.2.2.1 q1.2.2.2.2.2.2.2.2.2.2.1 q1.2.2.2.2.2.2.2.2.2.2.2.1 a72_21 a72_22 a72_29 a72_31 a72_35 a72_37 a72_38 a72_39 a72_40 a72_41 a72_44 a72_50), (74, o74 q1.2.2.2.2.2.2.2.2.2.2.2.2.1), (75, o75 q1.2.2.2.2.2.2.2.2.2.2.2.2.2.1), (76, o76 q1.2.2.2.2.2.2.2.2.2.2.2.2.2.2.1), (77, o77 q1.2.2.2.2.2.2.2.2.2.2.2.2.2.2.2.1), (78, o78 q1.2.2.2.2.2.2.2.2.2.2.2.2.2.2.2.2)]) rfl ?_
    refine r_aload_n F dX12_text_20 rfl ?_
    refine r_aload_n F dX12_text_21 rfl ?_
    refine r_get F dX12_text_22 flX12_156 rfl rfl (e_le rfl) (e_lt hnx rfl) ?_
    refine r_put F dX12_text_25 flX12_205 rfl rfl rfl rfl (e_le rfl) (e_le rfl) (e_lt hnx rfl) (l' := [(72, o72 0 0 q1.2.1 q1.2.2.1 q1.2.2.2.1 q1.2.2.2.2.1 q1.2.2.2.2.2.1 a72_8 q1.2.2.2.2.2.2.1 q1.2.2.2.2.2.2.2.1 q1.2.2.2.2.2.2.2.2.1 q1.2.2.2.2.2.2.2.2.2.1 q1.2.2.2.2.2.2.2.2.2.2.1 q1.2.2.2.2.2.2.2.2.2.2.2.1 q1.2.2.2.2.2.2.1 a72_22 a72_29 a72_31 a72_35 a72_37 a72_38 a72_39 a72_40 a72_41 a72_44 a72_50), (74, o74 q1.2.2.2.2.2.2.2.2.2.2.2.2.1), (75, o75 q1.2.2.2.2.2.2.2.2.2.2.2.2.2.1), (76, o76 q1.2.2.2.2.2.2.2.2.2.2.2.2.2.2.1), (77, o77 q1.2.2.2.2.2.2.2.2.2.2.2.2.2.2.2.1), (78, o78 q1.2.2.2.2.2.2.2.2.2.2.2.2.2.2.2.2)]) rfl ?_
    refine r_aload_n F dX12_text_28 rfl ?_
    refine r_aload_n F dX12_text_29 rfl ?_
    refine r_get F dX12_text_30 flX12_166 rfl rfl (e_le rfl) (e_lt hnx rfl) ?_
    refine r_put F dX12_text_33 flX12_208 rfl rfl rfl rfl (e_le rfl) (e_le rfl) (e_lt hnx rfl) (l' := [(72, o72 0 0 q1.2.1 q1.2.2.1 q1.2.2.2.1 q1.2.2.2.2.1 q1.2.2.2.2.2.1 a72_8 q1.2.2.2.2.2.2.1 q1.2.2.2.2.2.2.2.1 q1.2.2.2.2.2.2.2.2.1 q1.2.2.2.2.2.2.2.2.2.1 q1.2.2.2.2.2.2.2.2.2.2.1 q1.2.2.2.2.2.2.2.2.2.2.2.1 q1.2.2.2.2.2.2.1 q1.2.2.2.2.2.2.2.1 a72_29 a72_31 a72_35 a72_37 a72_38 a72_39 a72_40 a72_41 a72_44 a72_50), (74, o74 q1.2.2.2.2.2.2.2.2.2.2.2.2.1), (75, o75 q1.2.2.2.2.2.2.2.2.2.2.2.2.2.1), (76, o76 q1.2.2.2.2.2.2.2.2.2.2.2.2.2.2.1), (77, o77 q1.2.2.2.2.2.2.2.2.2.2.2.2.2.2.2.1), (78, o78 q1.2.2.2.2.2.2.2.2.2.2.2.2.2.2.2.2)]) rfl ?_
    refine r_iconst F dX12_text_36 (v := 0) (by decide) ?_
    refine r_istore_n F dX12_text_37 (e_le rfl) (L' := [some (.ref 72), some (.int 0), none]) rfl ?_
    refine r_mat (k := 80) h80 (l' := [(72, o72 0 0 q1.2.1 q1.2.2.1 q1.2.2.2.1 q1.2.2.2.2.1 q1.2.2.2.2.2.1 a72_8 q1.2.2.2.2.2.2.1 q1.2.2.2.2.2.2.2.1 q1.2.2.2.2.2.2.2.2.1 q1.2.2.2.2.2.2.2.2.2.1 q1.2.2.2.2.2.2.2.2.2.2.1 q1.2.2.2.2.2.2.2.2.2.2.2.1 q1.2.2.2.2.2.2.1 q1.2.2.2.2.2.2.2.1 a72_29 a72_31 a72_35 a72_37 a72_38 a72_39 a72_40 a72_41 a72_44 a72_50), (74, o74 q1.2.2.2.2.2.2.2.2.2.2.2.2.1), (75, o75 q1.2.2.2.2.2.2.2.2.2.2.2.2.2.1), (76, o76 q1.2.2.2.2.2.2.2.2.2.2.2.2.2.2.1), (77, o77 q1.2.2.2.2.2.2.2.2.2.2.2.2.2.2.2.1), (78, o78 q1.2.2.2.2.2.2.2.2.2.2.2.2.2.2.2.2), (80, o80 A80)]) rfl ?_
    obtain ⟨x6, hx7, hf⟩ := e_bd hf
    refine (e_loop_ok (P := fun (v5 : Int32 × (Nat → Int32)) => eRun G X 38 [some (.ref 72), some (.int v5.1), none] [] h [(72, o72 0 0 q1.2.1 q1.2.2.1 q1.2.2.2.1 q1.2.2.2.2.1 q1.2.2.2.2.2.1 a72_8 q1.2.2.2.2.2.2.1 q1.2.2.2.2.2.2.2.1 q1.2.2.2.2.2.2.2.2.1 q1.2.2.2.2.2.2.2.2.2.1 q1.2.2.2.2.2.2.2.2.2.2.1 q1.2.2.2.2.2.2.2.2.2.2.2.1 q1.2.2.2.2.2.2.1 q1.2.2.2.2.2.2.2.1 a72_29 a72_31 a72_35 a72_37 a72_38 a72_39 a72_40 a72_41 a72_44 a72_50), (74, o74 q1.2.2.2.2.2.2.2.2.2.2.2.2.1), (75, o75 q1.2.2.2.2.2.2.2.2.2.2.2.2.2.1), (76, o76 q1.2.2.2.2.2.2.2.2.2.2.2.2.2.2.1), (77, o77 q1.2.2.2.2.2.2.2.2.2.2.2.2.2.2.2.1), (78, o78 q1.2.2.2.2.2.2.2.2.2.2.2.2.2.2.2.2), (80, o80 v5.2)] nx 0 0) (K := fun (x6 : (Nat → Int32)) => eRun G X 61 [some (.ref 72), none, none] [] h [(72, o72 0 0 q1.2.1 q1.2.2.1 q1.2.2.2.1 q1.2.2.2.2.1 q1.2.2.2.2.2.1 a72_8 q1.2.2.2.2.2.2.1 q1.2.2.2.2.2.2.2.1 q1.2.2.2.2.2.2.2.2.1 q1.2.2.2.2.2.2.2.2.2.1 q1.2.2.2.2.2.2.2.2.2.2.1 q1.2.2.2.2.2.2.2.2.2.2.2.1 q1.2.2.2.2.2.2.1 q1.2.2.2.2.2.2.2.1 a72_29 a72_31 a72_35 a72_37 a72_38 a72_39 a72_40 a72_41 a72_44 a72_50), (74, o74 q1.2.2.2.2.2.2.2.2.2.2.2.2.1), (75, o75 q1.2.2.2.2.2.2.2.2.2.2.2.2.2.1), (76, o76 q1.2.2.2.2.2.2.2.2.2.2.2.2.2.2.1), (77, o77 q1.2.2.2.2.2.2.2.2.2.2.2.2.2.2.2.1), (78, o78 q1.2.2.2.2.2.2.2.2.2.2.2.2.2.2.2.2), (80, o80 x6)] nx 0 0) ?_ e_fuel (0, A80) x6 hx7 ?_ : _)
    · intro v5 z hz ih hx
      refine r_iload_n F dX12_text_38 rfl ?_
      refine r_iconst F dX12_text_39 (v := 4) (by decide) ?_
      refine r_icmp_ge F dX12_text_40 (tgt := 61) (by decide) (fun hc => ?_) (fun hc => ?_)
      · have hz := e_t hc hz
        refine r_drop 1 (L' := [some (.ref 72), none, none]) rfl ?_
        obtain rfl := Option.some.inj hz
        exact hx v5.2 rfl
      · have hz := e_f hc hz
        refine r_aload_n F dX12_text_43 rfl ?_
        refine r_get F dX12_text_44 flX12_31 rfl rfl (e_le rfl) (e_lt hnx rfl) ?_
        refine r_iload_n F dX12_text_47 rfl ?_
        refine r_aload_n F dX12_text_48 rfl ?_
        refine r_get F dX12_text_49 flX12_25 rfl rfl (e_le rfl) (e_lt hnx rfl) ?_
        refine r_iload_n F dX12_text_52 rfl ?_
        obtain ⟨hg, hz⟩ := e_gd hz
        refine r_iald F dX12_text_53 (i := v5.1) rfl (e_le rfl) (e_lt hnx rfl) (e_vp hg) ?_
        obtain ⟨hg, hz⟩ := e_gd hz
        refine r_iast F dX12_text_54 rfl (e_le rfl) (e_lt hnx rfl) (e_vp hg) (l' := [(72, o72 0 0 q1.2.1 q1.2.2.1 q1.2.2.2.1 q1.2.2.2.2.1 q1.2.2.2.2.2.1 a72_8 q1.2.2.2.2.2.2.1 q1.2.2.2.2.2.2.2.1 q1.2.2.2.2.2.2.2.2.1 q1.2.2.2.2.2.2.2.2.2.1 q1.2.2.2.2.2.2.2.2.2.2.1 q1.2.2.2.2.2.2.2.2.2.2.2.1 q1.2.2.2.2.2.2.1 q1.2.2.2.2.2.2.2.1 a72_29 a72_31 a72_35 a72_37 a72_38 a72_39 a72_40 a72_41 a72_44 a72_50), (74, o74 q1.2.2.2.2.2.2.2.2.2.2.2.2.1), (75, o75 q1.2.2.2.2.2.2.2.2.2.2.2.2.2.1), (76, o76 q1.2.2.2.2.2.2.2.2.2.2.2.2.2.2.1), (77, o77 q1.2.2.2.2.2.2.2.2.2.2.2.2.2.2.2.1), (78, o78 q1.2.2.2.2.2.2.2.2.2.2.2.2.2.2.2.2), (80, o80 (upd v5.2 (tn v5.1) (q1.2.2.2.2.2.2.2.2.2.2.2.2.2.2.2.2 (tn v5.1))))]) rfl ?_
        refine r_inc F dX12_text_55 (k9 := 1) (by decide) rfl (L' := [some (.ref 72), some (.int (v5.1 + 1)), none]) rfl ?_
        refine r_goto F dX12_text_58 (tgt := 38) (by decide) ?_
        obtain rfl := Option.some.inj hz
        exact ih (v5.1 + 1, upd v5.2 (tn v5.1) (q1.2.2.2.2.2.2.2.2.2.2.2.2.2.2.2.2 (tn v5.1))) rfl
    · show eRun G X 61 [some (.ref 72), none, none] [] h [(72, o72 0 0 q1.2.1 q1.2.2.1 q1.2.2.2.1 q1.2.2.2.2.1 q1.2.2.2.2.2.1 a72_8 q1.2.2.2.2.2.2.1 q1.2.2.2.2.2.2.2.1 q1.2.2.2.2.2.2.2.2.1 q1.2.2.2.2.2.2.2.2.2.1 q1.2.2.2.2.2.2.2.2.2.2.1 q1.2.2.2.2.2.2.2.2.2.2.2.1 q1.2.2.2.2.2.2.1 q1.2.2.2.2.2.2.2.1 a72_29 a72_31 a72_35 a72_37 a72_38 a72_39 a72_40 a72_41 a72_44 a72_50), (74, o74 q1.2.2.2.2.2.2.2.2.2.2.2.2.1), (75, o75 q1.2.2.2.2.2.2.2.2.2.2.2.2.2.1), (76, o76 q1.2.2.2.2.2.2.2.2.2.2.2.2.2.2.1), (77, o77 q1.2.2.2.2.2.2.2.2.2.2.2.2.2.2.2.1), (78, o78 q1.2.2.2.2.2.2.2.2.2.2.2.2.2.2.2.2), (80, o80 x6)] nx 0 0
      refine r_iconst F dX12_text_61 (v := 0) (by decide) ?_
      refine r_istore_n F dX12_text_62 (e_le rfl) (L' := [some (.ref 72), some (.int 0), none]) rfl ?_
      refine r_mat (k := 79) h79 (l' := [(72, o72 0 0 q1.2.1 q1.2.2.1 q1.2.2.2.1 q1.2.2.2.2.1 q1.2.2.2.2.2.1 a72_8 q1.2.2.2.2.2.2.1 q1.2.2.2.2.2.2.2.1 q1.2.2.2.2.2.2.2.2.1 q1.2.2.2.2.2.2.2.2.2.1 q1.2.2.2.2.2.2.2.2.2.2.1 q1.2.2.2.2.2.2.2.2.2.2.2.1 q1.2.2.2.2.2.2.1 q1.2.2.2.2.2.2.2.1 a72_29 a72_31 a72_35 a72_37 a72_38 a72_39 a72_40 a72_41 a72_44 a72_50), (74, o74 q1.2.2.2.2.2.2.2.2.2.2.2.2.1), (75, o75 q1.2.2.2.2.2.2.2.2.2.2.2.2.2.1), (76, o76 q1.2.2.2.2.2.2.2.2.2.2.2.2.2.2.1), (77, o77 q1.2.2.2.2.2.2.2.2.2.2.2.2.2.2.2.1), (78, o78 q1.2.2.2.2.2.2.2.2.2.2.2.2.2.2.2.2), (79, o79 A79), (80, o80 x6)]) rfl ?_
      obtain ⟨x11, hx12, hf⟩ := e_bd hf
      refine (e_loop_ok (P := fun (v10 : Int32 × (Nat → Int32)) => eRun G X 63 [some (.ref 72), some (.int v10.1), none] [] h [(72, o72 0 0 q1.2.1 q1.2.2.1 q1.2.2.2.1 q1.2.2.2.2.1 q1.2.2.2.2.2.1 a72_8 q1.2.2.2.2.2.2.1 q1.2.2.2.2.2.2.2.1 q1.2.2.2.2.2.2.2.2.1 q1.2.2.2.2.2.2.2.2.2.1 q1.2.2.2.2.2.2.2.2.2.2.1 q1.2.2.2.2.2.2.2.2.2.2.2.1 q1.2.2.2.2.2.2.1 q1.2.2.2.2.2.2.2.1 a72_29 a72_31 a72_35 a72_37 a72_38 a72_39 a72_40 a72_41 a72_44 a72_50), (74, o74 q1.2.2.2.2.2.2.2.2.2.2.2.2.1), (75, o75 q1.2.2.2.2.2.2.2.2.2.2.2.2.2.1), (76, o76 q1.2.2.2.2.2.2.2.2.2.2.2.2.2.2.1), (77, o77 q1.2.2.2.2.2.2.2.2.2.2.2.2.2.2.2.1), (78, o78 q1.2.2.2.2.2.2.2.2.2.2.2.2.2.2.2.2), (79, o79 v10.2), (80, o80 x6)] nx 0 0) (K := fun (x11 : (Nat → Int32)) => eRun G X 83 [some (.ref 72), none, none] [] h [(72, o72 0 0 q1.2.1 q1.2.2.1 q1.2.2.2.1 q1.2.2.2.2.1 q1.2.2.2.2.2.1 a72_8 q1.2.2.2.2.2.2.1 q1.2.2.2.2.2.2.2.1 q1.2.2.2.2.2.2.2.2.1 q1.2.2.2.2.2.2.2.2.2.1 q1.2.2.2.2.2.2.2.2.2.2.1 q1.2.2.2.2.2.2.2.2.2.2.2.1 q1.2.2.2.2.2.2.1 q1.2.2.2.2.2.2.2.1 a72_29 a72_31 a72_35 a72_37 a72_38 a72_39 a72_40 a72_41 a72_44 a72_50), (74, o74 q1.2.2.2.2.2.2.2.2.2.2.2.2.1), (75, o75 q1.2.2.2.2.2.2.2.2.2.2.2.2.2.1), (76, o76 q1.2.2.2.2.2.2.2.2.2.2.2.2.2.2.1), (77, o77 q1.2.2.2.2.2.2.2.2.2.2.2.2.2.2.2.1), (78, o78 q1.2.2.2.2.2.2.2.2.2.2.2.2.2.2.2.2), (79, o79 x11), (80, o80 x6)] nx 0 0) ?_ e_fuel (0, A79) x11 hx12 ?_ : _)
      · intro v10 z hz ih hx
        refine r_iload_n F dX12_text_63 rfl ?_
        refine r_sipush F dX12_text_64 (v := 486) (by decide) ?_
        refine r_icmp_ge F dX12_text_67 (tgt := 83) (by decide) (fun hc => ?_) (fun hc => ?_)
        · have hz := e_t hc hz
          refine r_drop 1 (L' := [some (.ref 72), none, none]) rfl ?_
          obtain rfl := Option.some.inj hz
          exact hx v10.2 rfl
        · have hz := e_f hc hz
          refine r_aload_n F dX12_text_70 rfl ?_
          refine r_get F dX12_text_71 flX12_28 rfl rfl (e_le rfl) (e_lt hnx rfl) ?_
          refine r_iload_n F dX12_text_74 rfl ?_
          refine r_iconst F dX12_text_75 (v := 0) (by decide) ?_
          obtain ⟨hg, hz⟩ := e_gd hz
          refine r_iast F dX12_text_76 rfl (e_le rfl) (e_lt hnx rfl) (e_vp hg) (l' := [(72, o72 0 0 q1.2.1 q1.2.2.1 q1.2.2.2.1 q1.2.2.2.2.1 q1.2.2.2.2.2.1 a72_8 q1.2.2.2.2.2.2.1 q1.2.2.2.2.2.2.2.1 q1.2.2.2.2.2.2.2.2.1 q1.2.2.2.2.2.2.2.2.2.1 q1.2.2.2.2.2.2.2.2.2.2.1 q1.2.2.2.2.2.2.2.2.2.2.2.1 q1.2.2.2.2.2.2.1 q1.2.2.2.2.2.2.2.1 a72_29 a72_31 a72_35 a72_37 a72_38 a72_39 a72_40 a72_41 a72_44 a72_50), (74, o74 q1.2.2.2.2.2.2.2.2.2.2.2.2.1), (75, o75 q1.2.2.2.2.2.2.2.2.2.2.2.2.2.1), (76, o76 q1.2.2.2.2.2.2.2.2.2.2.2.2.2.2.1), (77, o77 q1.2.2.2.2.2.2.2.2.2.2.2.2.2.2.2.1), (78, o78 q1.2.2.2.2.2.2.2.2.2.2.2.2.2.2.2.2), (79, o79 (upd v10.2 (tn v10.1) 0)), (80, o80 x6)]) rfl ?_
          refine r_inc F dX12_text_77 (k9 := 1) (by decide) rfl (L' := [some (.ref 72), some (.int (v10.1 + 1)), none]) rfl ?_
          refine r_goto F dX12_text_80 (tgt := 63) (by decide) ?_
          obtain rfl := Option.some.inj hz
          exact ih (v10.1 + 1, upd v10.2 (tn v10.1) 0) rfl
      · show eRun G X 83 [some (.ref 72), none, none] [] h [(72, o72 0 0 q1.2.1 q1.2.2.1 q1.2.2.2.1 q1.2.2.2.2.1 q1.2.2.2.2.2.1 a72_8 q1.2.2.2.2.2.2.1 q1.2.2.2.2.2.2.2.1 q1.2.2.2.2.2.2.2.2.1 q1.2.2.2.2.2.2.2.2.2.1 q1.2.2.2.2.2.2.2.2.2.2.1 q1.2.2.2.2.2.2.2.2.2.2.2.1 q1.2.2.2.2.2.2.1 q1.2.2.2.2.2.2.2.1 a72_29 a72_31 a72_35 a72_37 a72_38 a72_39 a72_40 a72_41 a72_44 a72_50), (74, o74 q1.2.2.2.2.2.2.2.2.2.2.2.2.1), (75, o75 q1.2.2.2.2.2.2.2.2.2.2.2.2.2.1), (76, o76 q1.2.2.2.2.2.2.2.2.2.2.2.2.2.2.1), (77, o77 q1.2.2.2.2.2.2.2.2.2.2.2.2.2.2.2.1), (78, o78 q1.2.2.2.2.2.2.2.2.2.2.2.2.2.2.2.2), (79, o79 x11), (80, o80 x6)] nx 0 0
        refine r_iconst F dX12_text_83 (v := 0) (by decide) ?_
        refine r_istore_n F dX12_text_84 (e_le rfl) (L' := [some (.ref 72), some (.int 0), none]) rfl ?_
        obtain ⟨x16, hx17, hf⟩ := e_bd hf
        refine (e_loop_ok (P := fun (v15 : Int32 × (Nat → Int32)) => eRun G X 85 [some (.ref 72), some (.int v15.1), none] [] h [(72, o72 0 0 q1.2.1 q1.2.2.1 q1.2.2.2.1 q1.2.2.2.2.1 q1.2.2.2.2.2.1 a72_8 q1.2.2.2.2.2.2.1 q1.2.2.2.2.2.2.2.1 q1.2.2.2.2.2.2.2.2.1 q1.2.2.2.2.2.2.2.2.2.1 q1.2.2.2.2.2.2.2.2.2.2.1 q1.2.2.2.2.2.2.2.2.2.2.2.1 q1.2.2.2.2.2.2.1 q1.2.2.2.2.2.2.2.1 a72_29 a72_31 a72_35 a72_37 a72_38 a72_39 a72_40 a72_41 a72_44 a72_50), (74, o74 q1.2.2.2.2.2.2.2.2.2.2.2.2.1), (75, o75 q1.2.2.2.2.2.2.2.2.2.2.2.2.2.1), (76, o76 q1.2.2.2.2.2.2.2.2.2.2.2.2.2.2.1), (77, o77 q1.2.2.2.2.2.2.2.2.2.2.2.2.2.2.2.1), (78, o78 q1.2.2.2.2.2.2.2.2.2.2.2.2.2.2.2.2), (79, o79 v15.2), (80, o80 x6)] nx 0 0) (K := fun (x16 : (Nat → Int32)) => eRun G X 141 [some (.ref 72), none, none] [] h [(72, o72 0 0 q1.2.1 q1.2.2.1 q1.2.2.2.1 q1.2.2.2.2.1 q1.2.2.2.2.2.1 a72_8 q1.2.2.2.2.2.2.1 q1.2.2.2.2.2.2.2.1 q1.2.2.2.2.2.2.2.2.1 q1.2.2.2.2.2.2.2.2.2.1 q1.2.2.2.2.2.2.2.2.2.2.1 q1.2.2.2.2.2.2.2.2.2.2.2.1 q1.2.2.2.2.2.2.1 q1.2.2.2.2.2.2.2.1 a72_29 a72_31 a72_35 a72_37 a72_38 a72_39 a72_40 a72_41 a72_44 a72_50), (74, o74 q1.2.2.2.2.2.2.2.2.2.2.2.2.1), (75, o75 q1.2.2.2.2.2.2.2.2.2.2.2.2.2.1), (76, o76 q1.2.2.2.2.2.2.2.2.2.2.2.2.2.2.1), (77, o77 q1.2.2.2.2.2.2.2.2.2.2.2.2.2.2.2.1), (78, o78 q1.2.2.2.2.2.2.2.2.2.2.2.2.2.2.2.2), (79, o79 x16), (80, o80 x6)] nx 0 0) ?_ e_fuel (0, x11) x16 hx17 ?_ : _)
        · intro v15 z hz ih hx
          refine r_iload_n F dX12_text_85 rfl ?_
          refine r_aload_n F dX12_text_86 rfl ?_
          refine r_get F dX12_text_87 flX12_208 rfl rfl (e_le rfl) (e_lt hnx rfl) ?_
          refine r_icmp_ge F dX12_text_90 (tgt := 141) (by decide) (fun hc => ?_) (fun hc => ?_)
          · have hz := e_t hc hz
            refine r_drop 1 (L' := [some (.ref 72), none, none]) rfl ?_
            obtain rfl := Option.some.inj hz
            exact hx v15.2 rfl
          · have hz := e_f hc hz
            refine r_iconst F dX12_text_93 (v := 0) (by decide) ?_
            refine r_istore_n F dX12_text_94 (e_le rfl) (L' := [some (.ref 72), some (.int v15.1), some (.int 0)]) rfl ?_
            obtain ⟨x21, hx22, hz⟩ := e_bd hz
            refine (e_loop_ok (P := fun (v20 : Int32 × (Nat → Int32)) => eRun G X 95 [some (.ref 72), some (.int v15.1), some (.int v20.1)] [] h [(72, o72 0 0 q1.2.1 q1.2.2.1 q1.2.2.2.1 q1.2.2.2.2.1 q1.2.2.2.2.2.1 a72_8 q1.2.2.2.2.2.2.1 q1.2.2.2.2.2.2.2.1 q1.2.2.2.2.2.2.2.2.1 q1.2.2.2.2.2.2.2.2.2.1 q1.2.2.2.2.2.2.2.2.2.2.1 q1.2.2.2.2.2.2.2.2.2.2.2.1 q1.2.2.2.2.2.2.1 q1.2.2.2.2.2.2.2.1 a72_29 a72_31 a72_35 a72_37 a72_38 a72_39 a72_40 a72_41 a72_44 a72_50), (74, o74 q1.2.2.2.2.2.2.2.2.2.2.2.2.1), (75, o75 q1.2.2.2.2.2.2.2.2.2.2.2.2.2.1), (76, o76 q1.2.2.2.2.2.2.2.2.2.2.2.2.2.2.1), (77, o77 q1.2.2.2.2.2.2.2.2.2.2.2.2.2.2.2.1), (78, o78 q1.2.2.2.2.2.2.2.2.2.2.2.2.2.2.2.2), (79, o79 v20.2), (80, o80 x6)] nx 0 0) (K := fun (x21 : (Nat → Int32)) => eRun G X 135 [some (.ref 72), some (.int v15.1), none] [] h [(72, o72 0 0 q1.2.1 q1.2.2.1 q1.2.2.2.1 q1.2.2.2.2.1 q1.2.2.2.2.2.1 a72_8 q1.2.2.2.2.2.2.1 q1.2.2.2.2.2.2.2.1 q1.2.2.2.2.2.2.2.2.1 q1.2.2.2.2.2.2.2.2.2.1 q1.2.2.2.2.2.2.2.2.2.2.1 q1.2.2.2.2.2.2.2.2.2.2.2.1 q1.2.2.2.2.2.2.1 q1.2.2.2.2.2.2.2.1 a72_29 a72_31 a72_35 a72_37 a72_38 a72_39 a72_40 a72_41 a72_44 a72_50), (74, o74 q1.2.2.2.2.2.2.2.2.2.2.2.2.1), (75, o75 q1.2.2.2.2.2.2.2.2.2.2.2.2.2.1), (76, o76 q1.2.2.2.2.2.2.2.2.2.2.2.2.2.2.1), (77, o77 q1.2.2.2.2.2.2.2.2.2.2.2.2.2.2.2.1), (78, o78 q1.2.2.2.2.2.2.2.2.2.2.2.2.2.2.2.2), (79, o79 x21), (80, o80 x6)] nx 0 0) ?_ e_fuel (0, v15.2) x21 hx22 ?_ : _)
            · intro v20 z hz ih hx
              refine r_iload_n F dX12_text_95 rfl ?_
              refine r_aload_n F dX12_text_96 rfl ?_
              refine r_get F dX12_text_97 flX12_205 rfl rfl (e_le rfl) (e_lt hnx rfl) ?_
              refine r_icmp_ge F dX12_text_100 (tgt := 135) (by decide) (fun hc => ?_) (fun hc => ?_)
              · have hz := e_t hc hz
                refine r_drop 2 (L' := [some (.ref 72), some (.int v15.1), none]) rfl ?_
                obtain rfl := Option.some.inj hz
                exact hx v20.2 rfl
              · have hz := e_f hc hz
                refine r_aload_n F dX12_text_103 rfl ?_
                refine r_get F dX12_text_104 flX12_28 rfl rfl (e_le rfl) (e_lt hnx rfl) ?_
                refine r_iload_n F dX12_text_107 rfl ?_
                refine r_iload_n F dX12_text_108 rfl ?_
                refine r_iconst F dX12_text_109 (v := 0) (by decide) ?_
                refine r_iconst F dX12_text_110 (v := 0) (by decide) ?_
                obtain ⟨q23, hq24, hz⟩ := e_bd hz
                refine r_callS F dX12_text_111 (dc := 0) (ds := 0) (As := [.int v20.1, .int v15.1, .int 0, .int 0]) (S0 := [.ref 79]) lkX12_211 mX12_linkAt (tX12_linkAt hG (la := x_l X) (h := e_up h [(72, o72 0 0 q1.2.1 q1.2.2.1 q1.2.2.2.1 q1.2.2.2.2.1 q1.2.2.2.2.2.1 a72_8 q1.2.2.2.2.2.2.1 q1.2.2.2.2.2.2.2.1 q1.2.2.2.2.2.2.2.2.1 q1.2.2.2.2.2.2.2.2.2.1 q1.2.2.2.2.2.2.2.2.2.2.1 q1.2.2.2.2.2.2.2.2.2.2.2.1 q1.2.2.2.2.2.2.1 q1.2.2.2.2.2.2.2.1 a72_29 a72_31 a72_35 a72_37 a72_38 a72_39 a72_40 a72_41 a72_44 a72_50), (74, o74 q1.2.2.2.2.2.2.2.2.2.2.2.2.1), (75, o75 q1.2.2.2.2.2.2.2.2.2.2.2.2.2.1), (76, o76 q1.2.2.2.2.2.2.2.2.2.2.2.2.2.2.1), (77, o77 q1.2.2.2.2.2.2.2.2.2.2.2.2.2.2.2.1), (78, o78 q1.2.2.2.2.2.2.2.2.2.2.2.2.2.2.2.2), (79, o79 v20.2), (80, o80 x6)]) hnx  hq24) rfl rfl rfl (e_le rfl) (e_le rfl) (e_le rfl) (Nat.zero_le _) (Nat.zero_le _) (e_k ?_)
                refine r_wr0 ?_
                refine r_iconst F dX12_text_114 (v := 1) (by decide) ?_
                obtain ⟨hg, hz⟩ := e_gd hz
                refine r_iast F dX12_text_115 rfl (e_le rfl) (e_lt hnx rfl) (e_vp hg) (l' := [(72, o72 0 0 q1.2.1 q1.2.2.1 q1.2.2.2.1 q1.2.2.2.2.1 q1.2.2.2.2.2.1 a72_8 q1.2.2.2.2.2.2.1 q1.2.2.2.2.2.2.2.1 q1.2.2.2.2.2.2.2.2.1 q1.2.2.2.2.2.2.2.2.2.1 q1.2.2.2.2.2.2.2.2.2.2.1 q1.2.2.2.2.2.2.2.2.2.2.2.1 q1.2.2.2.2.2.2.1 q1.2.2.2.2.2.2.2.1 a72_29 a72_31 a72_35 a72_37 a72_38 a72_39 a72_40 a72_41 a72_44 a72_50), (74, o74 q1.2.2.2.2.2.2.2.2.2.2.2.2.1), (75, o75 q1.2.2.2.2.2.2.2.2.2.2.2.2.2.1), (76, o76 q1.2.2.2.2.2.2.2.2.2.2.2.2.2.2.1), (77, o77 q1.2.2.2.2.2.2.2.2.2.2.2.2.2.2.2.1), (78, o78 q1.2.2.2.2.2.2.2.2.2.2.2.2.2.2.2.2), (79, o79 (upd v20.2 (tn q23) 1)), (80, o80 x6)]) rfl ?_
                refine r_aload_n F dX12_text_116 rfl ?_
                refine r_get F dX12_text_117 flX12_28 rfl rfl (e_le rfl) (e_lt hnx rfl) ?_
                refine r_iload_n F dX12_text_120 rfl ?_
                refine r_iload_n F dX12_text_121 rfl ?_
                refine r_iconst F dX12_text_122 (v := 1) (by decide) ?_
                refine r_iconst F dX12_text_123 (v := 1) (by decide) ?_
                obtain ⟨q25, hq26, hz⟩ := e_bd hz
                refine r_callS F dX12_text_124 (dc := 0) (ds := 0) (As := [.int v20.1, .int v15.1, .int 1, .int 1]) (S0 := [.ref 79]) lkX12_211 mX12_linkAt (tX12_linkAt hG (la := x_l X) (h := e_up h [(72, o72 0 0 q1.2.1 q1.2.2.1 q1.2.2.2.1 q1.2.2.2.2.1 q1.2.2.2.2.2.1 a72_8 q1.2.2.2.2.2.2.1 q1.2.2.2.2.2.2.2.1 q1.2.2.2.2.2.2.2.2.1 q1.2.2.2.2.2.2.2.2.2.1 q1.2.2.2.2.2.2.2.2.2.2.1 q1.2.2.2.2.2.2.2.2.2.2.2.1 q1.2.2.2.2.2.2.1 q1.2.2.2.2.2.2.2.1 a72_29 a72_31 a72_35 a72_37 a72_38 a72_39 a72_40 a72_41 a72_44 a72_50), (74, o74 q1.2.2.2.2.2.2.2.2.2.2.2.2.1), (75, o75 q1.2.2.2.2.2.2.2.2.2.2.2.2.2.1), (76, o76 q1.2.2.2.2.2.2.2.2.2.2.2.2.2.2.1), (77, o77 q1.2.2.2.2.2.2.2.2.2.2.2.2.2.2.2.1), (78, o78 q1.2.2.2.2.2.2.2.2.2.2.2.2.2.2.2.2), (79, o79 (upd v20.2 (tn q23) 1)), (80, o80 x6)]) hnx  hq26) rfl rfl rfl (e_le rfl) (e_le rfl) (e_le rfl) (Nat.zero_le _) (Nat.zero_le _) (e_k ?_)
                refine r_wr0 ?_
                refine r_iconst F dX12_text_127 (v := 1) (by decide) ?_
                obtain ⟨hg, hz⟩ := e_gd hz
                refine r_iast F dX12_text_128 rfl (e_le rfl) (e_lt hnx rfl) (e_vp hg) (l' := [(72, o72 0 0 q1.2.1 q1.2.2.1 q1.2.2.2.1 q1.2.2.2.2.1 q1.2.2.2.2.2.1 a72_8 q1.2.2.2.2.2.2.1 q1.2.2.2.2.2.2.2.1 q1.2.2.2.2.2.2.2.2.1 q1.2.2.2.2.2.2.2.2.2.1 q1.2.2.2.2.2.2.2.2.2.2.1 q1.2.2.2.2.2.2.2.2.2.2.2.1 q1.2.2.2.2.2.2.1 q1.2.2.2.2.2.2.2.1 a72_29 a72_31 a72_35 a72_37 a72_38 a72_39 a72_40 a72_41 a72_44 a72_50), (74, o74 q1.2.2.2.2.2.2.2.2.2.2.2.2.1), (75, o75 q1.2.2.2.2.2.2.2.2.2.2.2.2.2.1), (76, o76 q1.2.2.2.2.2.2.2.2.2.2.2.2.2.2.1), (77, o77 q1.2.2.2.2.2.2.2.2.2.2.2.2.2.2.2.1), (78, o78 q1.2.2.2.2.2.2.2.2.2.2.2.2.2.2.2.2), (79, o79 (upd (upd v20.2 (tn q23) 1) (tn q25) 1)), (80, o80 x6)]) rfl ?_
                refine r_inc F dX12_text_129 (k9 := 1) (by decide) rfl (L' := [some (.ref 72), some (.int v15.1), some (.int (v20.1 + 1))]) rfl ?_
                refine r_goto F dX12_text_132 (tgt := 95) (by decide) ?_
                obtain rfl := Option.some.inj hz
                exact ih (v20.1 + 1, upd (upd v20.2 (tn q23) 1) (tn q25) 1) rfl
            · show eRun G X 135 [some (.ref 72), some (.int v15.1), none] [] h [(72, o72 0 0 q1.2.1 q1.2.2.1 q1.2.2.2.1 q1.2.2.2.2.1 q1.2.2.2.2.2.1 a72_8 q1.2.2.2.2.2.2.1 q1.2.2.2.2.2.2.2.1 q1.2.2.2.2.2.2.2.2.1 q1.2.2.2.2.2.2.2.2.2.1 q1.2.2.2.2.2.2.2.2.2.2.1 q1.2.2.2.2.2.2.2.2.2.2.2.1 q1.2.2.2.2.2.2.1 q1.2.2.2.2.2.2.2.1 a72_29 a72_31 a72_35 a72_37 a72_38 a72_39 a72_40 a72_41 a72_44 a72_50), (74, o74 q1.2.2.2.2.2.2.2.2.2.2.2.2.1), (75, o75 q1.2.2.2.2.2.2.2.2.2.2.2.2.2.1), (76, o76 q1.2.2.2.2.2.2.2.2.2.2.2.2.2.2.1), (77, o77 q1.2.2.2.2.2.2.2.2.2.2.2.2.2.2.2.1), (78, o78 q1.2.2.2.2.2.2.2.2.2.2.2.2.2.2.2.2), (79, o79 x21), (80, o80 x6)] nx 0 0
              refine r_inc F dX12_text_135 (k9 := 1) (by decide) rfl (L' := [some (.ref 72), some (.int (v15.1 + 1)), none]) rfl ?_
              refine r_goto F dX12_text_138 (tgt := 85) (by decide) ?_
              obtain rfl := Option.some.inj hz
              exact ih (v15.1 + 1, x21) rfl
        · show eRun G X 141 [some (.ref 72), none, none] [] h [(72, o72 0 0 q1.2.1 q1.2.2.1 q1.2.2.2.1 q1.2.2.2.2.1 q1.2.2.2.2.2.1 a72_8 q1.2.2.2.2.2.2.1 q1.2.2.2.2.2.2.2.1 q1.2.2.2.2.2.2.2.2.1 q1.2.2.2.2.2.2.2.2.2.1 q1.2.2.2.2.2.2.2.2.2.2.1 q1.2.2.2.2.2.2.2.2.2.2.2.1 q1.2.2.2.2.2.2.1 q1.2.2.2.2.2.2.2.1 a72_29 a72_31 a72_35 a72_37 a72_38 a72_39 a72_40 a72_41 a72_44 a72_50), (74, o74 q1.2.2.2.2.2.2.2.2.2.2.2.2.1), (75, o75 q1.2.2.2.2.2.2.2.2.2.2.2.2.2.1), (76, o76 q1.2.2.2.2.2.2.2.2.2.2.2.2.2.2.1), (77, o77 q1.2.2.2.2.2.2.2.2.2.2.2.2.2.2.2.1), (78, o78 q1.2.2.2.2.2.2.2.2.2.2.2.2.2.2.2.2), (79, o79 x16), (80, o80 x6)] nx 0 0
          refine r_iconst F dX12_text_141 (v := 0) (by decide) ?_
          refine r_istore_n F dX12_text_142 (e_le rfl) (L' := [some (.ref 72), some (.int 0), none]) rfl ?_
          obtain ⟨x30, hx31, hf⟩ := e_bd hf
          refine (e_loop_ok (P := fun (v29 : Int32 × (Nat → Int32)) => eRun G X 143 [some (.ref 72), some (.int v29.1), none] [] h [(72, o72 0 0 q1.2.1 q1.2.2.1 q1.2.2.2.1 q1.2.2.2.2.1 q1.2.2.2.2.2.1 a72_8 q1.2.2.2.2.2.2.1 q1.2.2.2.2.2.2.2.1 q1.2.2.2.2.2.2.2.2.1 q1.2.2.2.2.2.2.2.2.2.1 q1.2.2.2.2.2.2.2.2.2.2.1 q1.2.2.2.2.2.2.2.2.2.2.2.1 q1.2.2.2.2.2.2.1 q1.2.2.2.2.2.2.2.1 a72_29 a72_31 a72_35 a72_37 a72_38 a72_39 a72_40 a72_41 a72_44 a72_50), (74, o74 q1.2.2.2.2.2.2.2.2.2.2.2.2.1), (75, o75 q1.2.2.2.2.2.2.2.2.2.2.2.2.2.1), (76, o76 q1.2.2.2.2.2.2.2.2.2.2.2.2.2.2.1), (77, o77 q1.2.2.2.2.2.2.2.2.2.2.2.2.2.2.2.1), (78, o78 q1.2.2.2.2.2.2.2.2.2.2.2.2.2.2.2.2), (79, o79 v29.2), (80, o80 x6)] nx 0 0) (K := fun (x30 : (Nat → Int32)) => eRun G X 201 [some (.ref 72), none, none] [] h [(72, o72 0 0 q1.2.1 q1.2.2.1 q1.2.2.2.1 q1.2.2.2.2.1 q1.2.2.2.2.2.1 a72_8 q1.2.2.2.2.2.2.1 q1.2.2.2.2.2.2.2.1 q1.2.2.2.2.2.2.2.2.1 q1.2.2.2.2.2.2.2.2.2.1 q1.2.2.2.2.2.2.2.2.2.2.1 q1.2.2.2.2.2.2.2.2.2.2.2.1 q1.2.2.2.2.2.2.1 q1.2.2.2.2.2.2.2.1 a72_29 a72_31 a72_35 a72_37 a72_38 a72_39 a72_40 a72_41 a72_44 a72_50), (74, o74 q1.2.2.2.2.2.2.2.2.2.2.2.2.1), (75, o75 q1.2.2.2.2.2.2.2.2.2.2.2.2.2.1), (76, o76 q1.2.2.2.2.2.2.2.2.2.2.2.2.2.2.1), (77, o77 q1.2.2.2.2.2.2.2.2.2.2.2.2.2.2.2.1), (78, o78 q1.2.2.2.2.2.2.2.2.2.2.2.2.2.2.2.2), (79, o79 x30), (80, o80 x6)] nx 0 0) ?_ e_fuel (0, x16) x30 hx31 ?_ : _)
          · intro v29 z hz ih hx
            refine r_iload_n F dX12_text_143 rfl ?_
            refine r_aload_n F dX12_text_144 rfl ?_
            refine r_get F dX12_text_145 flX12_153 rfl rfl (e_le rfl) (e_lt hnx rfl) ?_
            refine r_icmp_ge F dX12_text_148 (tgt := 201) (by decide) (fun hc => ?_) (fun hc => ?_)
            · have hz := e_t hc hz
              refine r_drop 1 (L' := [some (.ref 72), none, none]) rfl ?_
              obtain rfl := Option.some.inj hz
              exact hx v29.2 rfl
            · have hz := e_f hc hz
              refine r_iconst F dX12_text_151 (v := 0) (by decide) ?_
              refine r_istore_n F dX12_text_152 (e_le rfl) (L' := [some (.ref 72), some (.int v29.1), some (.int 0)]) rfl ?_
              obtain ⟨x35, hx36, hz⟩ := e_bd hz
              refine (e_loop_ok (P := fun (v34 : Int32 × (Nat → Int32)) => eRun G X 153 [some (.ref 72), some (.int v29.1), some (.int v34.1)] [] h [(72, o72 0 0 q1.2.1 q1.2.2.1 q1.2.2.2.1 q1.2.2.2.2.1 q1.2.2.2.2.2.1 a72_8 q1.2.2.2.2.2.2.1 q1.2.2.2.2.2.2.2.1 q1.2.2.2.2.2.2.2.2.1 q1.2.2.2.2.2.2.2.2.2.1 q1.2.2.2.2.2.2.2.2.2.2.1 q1.2.2.2.2.2.2.2.2.2.2.2.1 q1.2.2.2.2.2.2.1 q1.2.2.2.2.2.2.2.1 a72_29 a72_31 a72_35 a72_37 a72_38 a72_39 a72_40 a72_41 a72_44 a72_50), (74, o74 q1.2.2.2.2.2.2.2.2.2.2.2.2.1), (75, o75 q1.2.2.2.2.2.2.2.2.2.2.2.2.2.1), (76, o76 q1.2.2.2.2.2.2.2.2.2.2.2.2.2.2.1), (77, o77 q1.2.2.2.2.2.2.2.2.2.2.2.2.2.2.2.1), (78, o78 q1.2.2.2.2.2.2.2.2.2.2.2.2.2.2.2.2), (79, o79 v34.2), (80, o80 x6)] nx 0 0) (K := fun (x35 : (Nat → Int32)) => eRun G X 195 [some (.ref 72), some (.int v29.1), none] [] h [(72, o72 0 0 q1.2.1 q1.2.2.1 q1.2.2.2.1 q1.2.2.2.2.1 q1.2.2.2.2.2.1 a72_8 q1.2.2.2.2.2.2.1 q1.2.2.2.2.2.2.2.1 q1.2.2.2.2.2.2.2.2.1 q1.2.2.2.2.2.2.2.2.2.1 q1.2.2.2.2.2.2.2.2.2.2.1 q1.2.2.2.2.2.2.2.2.2.2.2.1 q1.2.2.2.2.2.2.1 q1.2.2.2.2.2.2.2.1 a72_29 a72_31 a72_35 a72_37 a72_38 a72_39 a72_40 a72_41 a72_44 a72_50), (74, o74 q1.2.2.2.2.2.2.2.2.2.2.2.2.1), (75, o75 q1.2.2.2.2.2.2.2.2.2.2.2.2.2.1), (76, o76 q1.2.2.2.2.2.2.2.2.2.2.2.2.2.2.1), (77, o77 q1.2.2.2.2.2.2.2.2.2.2.2.2.2.2.2.1), (78, o78 q1.2.2.2.2.2.2.2.2.2.2.2.2.2.2.2.2), (79, o79 x35), (80, o80 x6)] nx 0 0) ?_ e_fuel (0, v29.2) x35 hx36 ?_ : _)
              · intro v34 z hz ih hx
                refine r_iload_n F dX12_text_153 rfl ?_
                refine r_aload_n F dX12_text_154 rfl ?_
                refine r_get F dX12_text_155 flX12_13 rfl rfl (e_le rfl) (e_lt hnx rfl) ?_
                refine r_iload_n F dX12_text_158 rfl ?_
                obtain ⟨hg, hz⟩ := e_gd hz
                refine r_iald F dX12_text_159 (i := v29.1) rfl (e_le rfl) (e_lt hnx rfl) (e_vp hg) ?_
                refine r_icmp_gt F dX12_text_160 (tgt := 195) (by decide) (fun hc => ?_) (fun hc => ?_)
                · have hz := e_t hc hz
                  refine r_drop 2 (L' := [some (.ref 72), some (.int v29.1), none]) rfl ?_
                  obtain rfl := Option.some.inj hz
                  exact hx v34.2 rfl
                · have hz := e_f hc hz
                  refine r_aload_n F dX12_text_163 rfl ?_
                  refine r_iload_n F dX12_text_164 rfl ?_
                  refine r_aload_n F dX12_text_165 rfl ?_
                  refine r_get F dX12_text_166 flX12_16 rfl rfl (e_le rfl) (e_lt hnx rfl) ?_
                  refine r_iload_n F dX12_text_169 rfl ?_
                  obtain ⟨hg, hz⟩ := e_gd hz
                  refine r_iald F dX12_text_170 (i := v29.1) rfl (e_le rfl) (e_lt hnx rfl) (e_vp hg) ?_
                  refine r_iconst F dX12_text_171 (v := 1) (by decide) ?_
                  refine r_aload_n F dX12_text_172 rfl ?_
                  refine r_get F dX12_text_173 flX12_19 rfl rfl (e_le rfl) (e_lt hnx rfl) ?_
                  refine r_iload_n F dX12_text_176 rfl ?_
                  obtain ⟨hg, hz⟩ := e_gd hz
                  refine r_iald F dX12_text_177 (i := v29.1) rfl (e_le rfl) (e_lt hnx rfl) (e_vp hg) ?_
                  refine r_ineg F dX12_text_178 ?_
                  refine r_aload_n F dX12_text_179 rfl ?_
                  refine r_get F dX12_text_180 flX12_22 rfl rfl (e_le rfl) (e_lt hnx rfl) ?_
                  refine r_iload_n F dX12_text_183 rfl ?_
                  obtain ⟨hg, hz⟩ := e_gd hz
                  refine r_iald F dX12_text_184 (i := v29.1) rfl (e_le rfl) (e_lt hnx rfl) (e_vp hg) ?_
                  refine r_ineg F dX12_text_185 ?_
                  obtain ⟨q37, hq38, hz⟩ := e_bd hz
                  refine r_callV F dX12_text_186 (b := 72) (dc := 0) (ds := 0) (As := [.int v34.1, .int (q1.2.2.2.2.2.2.2.2.2.2.2.2.2.1 (tn v29.1)), .int 1, .int ((0 : Int32) - (q1.2.2.2.2.2.2.2.2.2.2.2.2.2.2.1 (tn v29.1))), .int ((0 : Int32) - (q1.2.2.2.2.2.2.2.2.2.2.2.2.2.2.2.1 (tn v29.1)))]) (S0 := []) lkX12_225 mX12_changes (tX12_changes_72 hG (la := x_l X) (h := e_up h [(72, o72 0 0 q1.2.1 q1.2.2.1 q1.2.2.2.1 q1.2.2.2.2.1 q1.2.2.2.2.2.1 a72_8 q1.2.2.2.2.2.2.1 q1.2.2.2.2.2.2.2.1 q1.2.2.2.2.2.2.2.2.1 q1.2.2.2.2.2.2.2.2.2.1 q1.2.2.2.2.2.2.2.2.2.2.1 q1.2.2.2.2.2.2.2.2.2.2.2.1 q1.2.2.2.2.2.2.1 q1.2.2.2.2.2.2.2.1 a72_29 a72_31 a72_35 a72_37 a72_38 a72_39 a72_40 a72_41 a72_44 a72_50), (74, o74 q1.2.2.2.2.2.2.2.2.2.2.2.2.1), (75, o75 q1.2.2.2.2.2.2.2.2.2.2.2.2.2.1), (76, o76 q1.2.2.2.2.2.2.2.2.2.2.2.2.2.2.1), (77, o77 q1.2.2.2.2.2.2.2.2.2.2.2.2.2.2.2.1), (78, o78 q1.2.2.2.2.2.2.2.2.2.2.2.2.2.2.2.2), (79, o79 v34.2), (80, o80 x6)]) hnx rfl rfl hq38) rfl rfl rfl (e_le rfl) (e_le rfl) (e_le rfl) rfl (ci := 12) e_cl12.1 rfl (e_le rfl) (e_lt hnx rfl) (Nat.zero_le _) (Nat.zero_le _) (e_k ?_)
                  refine r_wr (l' := [(72, o72 0 0 q1.2.1 q1.2.2.1 q1.2.2.2.1 q1.2.2.2.2.1 q1.2.2.2.2.2.1 a72_8 q1.2.2.2.2.2.2.1 q1.2.2.2.2.2.2.2.1 q1.2.2.2.2.2.2.2.2.1 q1.2.2.2.2.2.2.2.2.2.1 q1.2.2.2.2.2.2.2.2.2.2.1 q1.2.2.2.2.2.2.2.2.2.2.2.1 q1.2.2.2.2.2.2.1 q1.2.2.2.2.2.2.2.1 a72_29 a72_31 a72_35 a72_37 a72_38 a72_39 a72_40 a72_41 a72_44 a72_50), (74, o74 q1.2.2.2.2.2.2.2.2.2.2.2.2.1), (75, o75 q1.2.2.2.2.2.2.2.2.2.2.2.2.2.1), (76, o76 q1.2.2.2.2.2.2.2.2.2.2.2.2.2.2.1), (77, o77 q1.2.2.2.2.2.2.2.2.2.2.2.2.2.2.2.1), (78, o78 q1.2.2.2.2.2.2.2.2.2.2.2.2.2.2.2.2), (79, o79 q37), (80, o80 x6)]) rfl rfl ?_
                  refine r_inc F dX12_text_189 (k9 := 1) (by decide) rfl (L' := [some (.ref 72), some (.int v29.1), some (.int (v34.1 + 1))]) rfl ?_
                  refine r_goto F dX12_text_192 (tgt := 153) (by decide) ?_
                  obtain rfl := Option.some.inj hz
                  exact ih (v34.1 + 1, q37) rfl
              · show eRun G X 195 [some (.ref 72), some (.int v29.1), none] [] h [(72, o72 0 0 q1.2.1 q1.2.2.1 q1.2.2.2.1 q1.2.2.2.2.1 q1.2.2.2.2.2.1 a72_8 q1.2.2.2.2.2.2.1 q1.2.2.2.2.2.2.2.1 q1.2.2.2.2.2.2.2.2.1 q1.2.2.2.2.2.2.2.2.2.1 q1.2.2.2.2.2.2.2.2.2.2.1 q1.2.2.2.2.2.2.2.2.2.2.2.1 q1.2.2.2.2.2.2.1 q1.2.2.2.2.2.2.2.1 a72_29 a72_31 a72_35 a72_37 a72_38 a72_39 a72_40 a72_41 a72_44 a72_50), (74, o74 q1.2.2.2.2.2.2.2.2.2.2.2.2.1), (75, o75 q1.2.2.2.2.2.2.2.2.2.2.2.2.2.1), (76, o76 q1.2.2.2.2.2.2.2.2.2.2.2.2.2.2.1), (77, o77 q1.2.2.2.2.2.2.2.2.2.2.2.2.2.2.2.1), (78, o78 q1.2.2.2.2.2.2.2.2.2.2.2.2.2.2.2.2), (79, o79 x35), (80, o80 x6)] nx 0 0
                refine r_inc F dX12_text_195 (k9 := 1) (by decide) rfl (L' := [some (.ref 72), some (.int (v29.1 + 1)), none]) rfl ?_
                refine r_goto F dX12_text_198 (tgt := 143) (by decide) ?_
                obtain rfl := Option.some.inj hz
                exact ih (v29.1 + 1, x35) rfl
          · show eRun G X 201 [some (.ref 72), none, none] [] h [(72, o72 0 0 q1.2.1 q1.2.2.1 q1.2.2.2.1 q1.2.2.2.2.1 q1.2.2.2.2.2.1 a72_8 q1.2.2.2.2.2.2.1 q1.2.2.2.2.2.2.2.1 q1.2.2.2.2.2.2.2.2.1 q1.2.2.2.2.2.2.2.2.2.1 q1.2.2.2.2.2.2.2.2.2.2.1 q1.2.2.2.2.2.2.2.2.2.2.2.1 q1.2.2.2.2.2.2.1 q1.2.2.2.2.2.2.2.1 a72_29 a72_31 a72_35 a72_37 a72_38 a72_39 a72_40 a72_41 a72_44 a72_50), (74, o74 q1.2.2.2.2.2.2.2.2.2.2.2.2.1), (75, o75 q1.2.2.2.2.2.2.2.2.2.2.2.2.2.1), (76, o76 q1.2.2.2.2.2.2.2.2.2.2.2.2.2.2.1), (77, o77 q1.2.2.2.2.2.2.2.2.2.2.2.2.2.2.2.1), (78, o78 q1.2.2.2.2.2.2.2.2.2.2.2.2.2.2.2.2), (79, o79 x30), (80, o80 x6)] nx 0 0
            refine r_aload_n F dX12_text_201 rfl ?_
            refine r_iconst F dX12_text_202 (v := 0) (by decide) ?_
            refine r_put F dX12_text_203 flX12_229 rfl rfl rfl rfl (e_le rfl) (e_le rfl) (e_lt hnx rfl) (l' := [(72, o72 0 0 q1.2.1 q1.2.2.1 q1.2.2.2.1 q1.2.2.2.2.1 q1.2.2.2.2.2.1 a72_8 q1.2.2.2.2.2.2.1 q1.2.2.2.2.2.2.2.1 q1.2.2.2.2.2.2.2.2.1 q1.2.2.2.2.2.2.2.2.2.1 q1.2.2.2.2.2.2.2.2.2.2.1 q1.2.2.2.2.2.2.2.2.2.2.2.1 q1.2.2.2.2.2.2.1 q1.2.2.2.2.2.2.2.1 a72_29 0 a72_35 a72_37 a72_38 a72_39 a72_40 a72_41 a72_44 a72_50), (74, o74 q1.2.2.2.2.2.2.2.2.2.2.2.2.1), (75, o75 q1.2.2.2.2.2.2.2.2.2.2.2.2.2.1), (76, o76 q1.2.2.2.2.2.2.2.2.2.2.2.2.2.2.1), (77, o77 q1.2.2.2.2.2.2.2.2.2.2.2.2.2.2.2.1), (78, o78 q1.2.2.2.2.2.2.2.2.2.2.2.2.2.2.2.2), (79, o79 x30), (80, o80 x6)]) rfl ?_
            refine r_aload_n F dX12_text_206 rfl ?_
            refine r_iconst F dX12_text_207 (v := 0) (by decide) ?_
            refine r_put F dX12_text_208 (v := .int (e_b false)) flX12_232 rfl (e_b_nar _) (e_b_fit _) rfl (e_le rfl) (e_le rfl) (e_lt hnx rfl) (l' := [(72, o72 0 0 q1.2.1 q1.2.2.1 q1.2.2.2.1 q1.2.2.2.2.1 q1.2.2.2.2.2.1 a72_8 q1.2.2.2.2.2.2.1 q1.2.2.2.2.2.2.2.1 q1.2.2.2.2.2.2.2.2.1 q1.2.2.2.2.2.2.2.2.2.1 q1.2.2.2.2.2.2.2.2.2.2.1 q1.2.2.2.2.2.2.2.2.2.2.2.1 q1.2.2.2.2.2.2.1 q1.2.2.2.2.2.2.2.1 a72_29 0 a72_35 a72_37 a72_38 a72_39 a72_40 a72_41 a72_44 false), (74, o74 q1.2.2.2.2.2.2.2.2.2.2.2.2.1), (75, o75 q1.2.2.2.2.2.2.2.2.2.2.2.2.2.1), (76, o76 q1.2.2.2.2.2.2.2.2.2.2.2.2.2.2.1), (77, o77 q1.2.2.2.2.2.2.2.2.2.2.2.2.2.2.2.1), (78, o78 q1.2.2.2.2.2.2.2.2.2.2.2.2.2.2.2.2), (79, o79 x30), (80, o80 x6)]) rfl ?_
            refine r_aload_n F dX12_text_211 rfl ?_
            refine r_iconst F dX12_text_212 (v := 0) (by decide) ?_
            refine r_put F dX12_text_213 (v := .int (e_b false)) flX12_235 rfl (e_b_nar _) (e_b_fit _) rfl (e_le rfl) (e_le rfl) (e_lt hnx rfl) (l' := [(72, o72 0 0 q1.2.1 q1.2.2.1 q1.2.2.2.1 q1.2.2.2.2.1 q1.2.2.2.2.2.1 a72_8 q1.2.2.2.2.2.2.1 q1.2.2.2.2.2.2.2.1 q1.2.2.2.2.2.2.2.2.1 q1.2.2.2.2.2.2.2.2.2.1 q1.2.2.2.2.2.2.2.2.2.2.1 q1.2.2.2.2.2.2.2.2.2.2.2.1 q1.2.2.2.2.2.2.1 q1.2.2.2.2.2.2.2.1 a72_29 0 a72_35 false a72_38 a72_39 a72_40 a72_41 a72_44 false), (74, o74 q1.2.2.2.2.2.2.2.2.2.2.2.2.1), (75, o75 q1.2.2.2.2.2.2.2.2.2.2.2.2.2.1), (76, o76 q1.2.2.2.2.2.2.2.2.2.2.2.2.2.2.1), (77, o77 q1.2.2.2.2.2.2.2.2.2.2.2.2.2.2.2.1), (78, o78 q1.2.2.2.2.2.2.2.2.2.2.2.2.2.2.2.2), (79, o79 x30), (80, o80 x6)]) rfl ?_
            refine r_aload_n F dX12_text_216 rfl ?_
            obtain ⟨q39, hq40, hf⟩ := e_bd hf
            refine r_callV F dX12_text_217 (b := 72) (dc := 0) (ds := 0) (As := []) (S0 := []) lkX12_238 mX12_laysCores (tX12_laysCores_72 hG (la := x_l X) (h := e_up h [(72, o72 0 0 q1.2.1 q1.2.2.1 q1.2.2.2.1 q1.2.2.2.2.1 q1.2.2.2.2.2.1 a72_8 q1.2.2.2.2.2.2.1 q1.2.2.2.2.2.2.2.1 q1.2.2.2.2.2.2.2.2.1 q1.2.2.2.2.2.2.2.2.2.1 q1.2.2.2.2.2.2.2.2.2.2.1 q1.2.2.2.2.2.2.2.2.2.2.2.1 q1.2.2.2.2.2.2.1 q1.2.2.2.2.2.2.2.1 a72_29 0 a72_35 false a72_38 a72_39 a72_40 a72_41 a72_44 false), (74, o74 q1.2.2.2.2.2.2.2.2.2.2.2.2.1), (75, o75 q1.2.2.2.2.2.2.2.2.2.2.2.2.2.1), (76, o76 q1.2.2.2.2.2.2.2.2.2.2.2.2.2.2.1), (77, o77 q1.2.2.2.2.2.2.2.2.2.2.2.2.2.2.2.1), (78, o78 q1.2.2.2.2.2.2.2.2.2.2.2.2.2.2.2.2), (79, o79 x30), (80, o80 x6)]) hnx rfl rfl rfl h81 h82 h83 h84 h85 hq40) rfl rfl rfl (e_le rfl) (e_le rfl) (e_le rfl) rfl (ci := 12) e_cl12.1 rfl (e_le rfl) (e_lt hnx rfl) (Nat.zero_le _) (Nat.zero_le _) (e_k ?_)
            refine r_wr (l' := [(72, o72 0 0 q1.2.1 q1.2.2.1 q1.2.2.2.1 q1.2.2.2.2.1 q1.2.2.2.2.2.1 a72_8 q1.2.2.2.2.2.2.1 q1.2.2.2.2.2.2.2.1 q1.2.2.2.2.2.2.2.2.1 q1.2.2.2.2.2.2.2.2.2.1 q1.2.2.2.2.2.2.2.2.2.2.1 q1.2.2.2.2.2.2.2.2.2.2.2.1 q1.2.2.2.2.2.2.1 q1.2.2.2.2.2.2.2.1 q39.2.1 0 a72_35 false a72_38 a72_39 a72_40 a72_41 a72_44 false), (74, o74 q1.2.2.2.2.2.2.2.2.2.2.2.2.1), (75, o75 q1.2.2.2.2.2.2.2.2.2.2.2.2.2.1), (76, o76 q1.2.2.2.2.2.2.2.2.2.2.2.2.2.2.1), (77, o77 q1.2.2.2.2.2.2.2.2.2.2.2.2.2.2.2.1), (78, o78 q1.2.2.2.2.2.2.2.2.2.2.2.2.2.2.2.2), (79, o79 x30), (80, o80 x6), (81, o81 q39.2.2.1), (82, o82 q39.2.2.2.1), (83, o83 q39.2.2.2.2.1), (84, o84 q39.2.2.2.2.2.1), (85, o85 q39.2.2.2.2.2.2)]) rfl rfl ?_
            obtain rfl := Option.some.inj hf
            exact r_iret F hq dX12_text_220 rfl rfl (Nat.le_refl _) (Nat.le_refl _) ⟨rfl, rfl⟩
  · have hf := e_f hc hf
    refine r_iconst F dX12_text_13 (v := (-1)) (by decide) ?_
    refine r_mat (k := 79) h79 (l' := [(72, o72 0 a72_2 q1.2.1 q1.2.2.1 q1.2.2.2.1 q1.2.2.2.2.1 q1.2.2.2.2.2.1 a72_8 q1.2.2.2.2.2.2.1 q1.2.2.2.2.2.2.2.1 q1.2.2.2.2.2.2.2.2.1 q1.2.2.2.2.2.2.2.2.2.1 q1.2.2.2.2.2.2.2.2.2.2.1 q1.2.2.2.2.2.2.2.2.2.2.2.1 a72_21 a72_22 a72_29 a72_31 a72_35 a72_37 a72_38 a72_39 a72_40 a72_41 a72_44 a72_50), (74, o74 q1.2.2.2.2.2.2.2.2.2.2.2.2.1), (75, o75 q1.2.2.2.2.2.2.2.2.2.2.2.2.2.1), (76, o76 q1.2.2.2.2.2.2.2.2.2.2.2.2.2.2.1), (77, o77 q1.2.2.2.2.2.2.2.2.2.2.2.2.2.2.2.1), (78, o78 q1.2.2.2.2.2.2.2.2.2.2.2.2.2.2.2.2), (79, o79 A79)]) rfl ?_
    refine r_mat (k := 80) h80 (l' := [(72, o72 0 a72_2 q1.2.1 q1.2.2.1 q1.2.2.2.1 q1.2.2.2.2.1 q1.2.2.2.2.2.1 a72_8 q1.2.2.2.2.2.2.1 q1.2.2.2.2.2.2.2.1 q1.2.2.2.2.2.2.2.2.1 q1.2.2.2.2.2.2.2.2.2.1 q1.2.2.2.2.2.2.2.2.2.2.1 q1.2.2.2.2.2.2.2.2.2.2.2.1 a72_21 a72_22 a72_29 a72_31 a72_35 a72_37 a72_38 a72_39 a72_40 a72_41 a72_44 a72_50), (74, o74 q1.2.2.2.2.2.2.2.2.2.2.2.2.1), (75, o75 q1.2.2.2.2.2.2.2.2.2.2.2.2.2.1), (76, o76 q1.2.2.2.2.2.2.2.2.2.2.2.2.2.2.1), (77, o77 q1.2.2.2.2.2.2.2.2.2.2.2.2.2.2.2.1), (78, o78 q1.2.2.2.2.2.2.2.2.2.2.2.2.2.2.2.2), (79, o79 A79), (80, o80 A80)]) rfl ?_
    refine r_mat (k := 81) h81 (l' := [(72, o72 0 a72_2 q1.2.1 q1.2.2.1 q1.2.2.2.1 q1.2.2.2.2.1 q1.2.2.2.2.2.1 a72_8 q1.2.2.2.2.2.2.1 q1.2.2.2.2.2.2.2.1 q1.2.2.2.2.2.2.2.2.1 q1.2.2.2.2.2.2.2.2.2.1 q1.2.2.2.2.2.2.2.2.2.2.1 q1.2.2.2.2.2.2.2.2.2.2.2.1 a72_21 a72_22 a72_29 a72_31 a72_35 a72_37 a72_38 a72_39 a72_40 a72_41 a72_44 a72_50), (74, o74 q1.2.2.2.2.2.2.2.2.2.2.2.2.1), (75, o75 q1.2.2.2.2.2.2.2.2.2.2.2.2.2.1), (76, o76 q1.2.2.2.2.2.2.2.2.2.2.2.2.2.2.1), (77, o77 q1.2.2.2.2.2.2.2.2.2.2.2.2.2.2.2.1), (78, o78 q1.2.2.2.2.2.2.2.2.2.2.2.2.2.2.2.2), (79, o79 A79), (80, o80 A80), (81, o81 A81)]) rfl ?_
    refine r_mat (k := 82) h82 (l' := [(72, o72 0 a72_2 q1.2.1 q1.2.2.1 q1.2.2.2.1 q1.2.2.2.2.1 q1.2.2.2.2.2.1 a72_8 q1.2.2.2.2.2.2.1 q1.2.2.2.2.2.2.2.1 q1.2.2.2.2.2.2.2.2.1 q1.2.2.2.2.2.2.2.2.2.1 q1.2.2.2.2.2.2.2.2.2.2.1 q1.2.2.2.2.2.2.2.2.2.2.2.1 a72_21 a72_22 a72_29 a72_31 a72_35 a72_37 a72_38 a72_39 a72_40 a72_41 a72_44 a72_50), (74, o74 q1.2.2.2.2.2.2.2.2.2.2.2.2.1), (75, o75 q1.2.2.2.2.2.2.2.2.2.2.2.2.2.1), (76, o76 q1.2.2.2.2.2.2.2.2.2.2.2.2.2.2.1), (77, o77 q1.2.2.2.2.2.2.2.2.2.2.2.2.2.2.2.1), (78, o78 q1.2.2.2.2.2.2.2.2.2.2.2.2.2.2.2.2), (79, o79 A79), (80, o80 A80), (81, o81 A81), (82, o82 A82)]) rfl ?_
    refine r_mat (k := 83) h83 (l' := [(72, o72 0 a72_2 q1.2.1 q1.2.2.1 q1.2.2.2.1 q1.2.2.2.2.1 q1.2.2.2.2.2.1 a72_8 q1.2.2.2.2.2.2.1 q1.2.2.2.2.2.2.2.1 q1.2.2.2.2.2.2.2.2.1 q1.2.2.2.2.2.2.2.2.2.1 q1.2.2.2.2.2.2.2.2.2.2.1 q1.2.2.2.2.2.2.2.2.2.2.2.1 a72_21 a72_22 a72_29 a72_31 a72_35 a72_37 a72_38 a72_39 a72_40 a72_41 a72_44 a72_50), (74, o74 q1.2.2.2.2.2.2.2.2.2.2.2.2.1), (75, o75 q1.2.2.2.2.2.2.2.2.2.2.2.2.2.1), (76, o76 q1.2.2.2.2.2.2.2.2.2.2.2.2.2.2.1), (77, o77 q1.2.2.2.2.2.2.2.2.2.2.2.2.2.2.2.1), (78, o78 q1.2.2.2.2.2.2.2.2.2.2.2.2.2.2.2.2), (79, o79 A79), (80, o80 A80), (81, o81 A81), (82, o82 A82), (83, o83 A83)]) rfl ?_
    refine r_mat (k := 84) h84 (l' := [(72, o72 0 a72_2 q1.2.1 q1.2.2.1 q1.2.2.2.1 q1.2.2.2.2.1 q1.2.2.2.2.2.1 a72_8 q1.2.2.2.2.2.2.1 q1.2.2.2.2.2.2.2.1 q1.2.2.2.2.2.2.2.2.1 q1.2.2.2.2.2.2.2.2.2.1 q1.2.2.2.2.2.2.2.2.2.2.1 q1.2.2.2.2.2.2.2.2.2.2.2.1 a72_21 a72_22 a72_29 a72_31 a72_35 a72_37 a72_38 a72_39 a72_40 a72_41 a72_44 a72_50), (74, o74 q1.2.2.2.2.2.2.2.2.2.2.2.2.1), (75, o75 q1.2.2.2.2.2.2.2.2.2.2.2.2.2.1), (76, o76 q1.2.2.2.2.2.2.2.2.2.2.2.2.2.2.1), (77, o77 q1.2.2.2.2.2.2.2.2.2.2.2.2.2.2.2.1), (78, o78 q1.2.2.2.2.2.2.2.2.2.2.2.2.2.2.2.2), (79, o79 A79), (80, o80 A80), (81, o81 A81), (82, o82 A82), (83, o83 A83), (84, o84 A84)]) rfl ?_
    refine r_mat (k := 85) h85 (l' := [(72, o72 0 a72_2 q1.2.1 q1.2.2.1 q1.2.2.2.1 q1.2.2.2.2.1 q1.2.2.2.2.2.1 a72_8 q1.2.2.2.2.2.2.1 q1.2.2.2.2.2.2.2.1 q1.2.2.2.2.2.2.2.2.1 q1.2.2.2.2.2.2.2.2.2.1 q1.2.2.2.2.2.2.2.2.2.2.1 q1.2.2.2.2.2.2.2.2.2.2.2.1 a72_21 a72_22 a72_29 a72_31 a72_35 a72_37 a72_38 a72_39 a72_40 a72_41 a72_44 a72_50), (74, o74 q1.2.2.2.2.2.2.2.2.2.2.2.2.1), (75, o75 q1.2.2.2.2.2.2.2.2.2.2.2.2.2.1), (76, o76 q1.2.2.2.2.2.2.2.2.2.2.2.2.2.2.1), (77, o77 q1.2.2.2.2.2.2.2.2.2.2.2.2.2.2.2.1), (78, o78 q1.2.2.2.2.2.2.2.2.2.2.2.2.2.2.2.2), (79, o79 A79), (80, o80 A80), (81, o81 A81), (82, o82 A82), (83, o83 A83), (84, o84 A84), (85, o85 A85)]) rfl ?_
    obtain rfl := Option.some.inj hf
    exact r_iret F hq dX12_text_14 rfl rfl (Nat.le_refl _) (Nat.le_refl _) ⟨rfl, rfl⟩

def fX12_thrown (a72_0 : Int32)  : Option (Int32) :=
  some a72_0
set_option maxRecDepth 100000 in
theorem tX12_thrown_72 {G : eG} (hG : e_GS G) {la : Launch} {h : Nat → eO} {nx : Nat} (hnx : 99 ≤ nx) {a72_0 : Int32} {a72_2 : Int32} {a72_3 : Int32} {a72_4 : Int32} {a72_5 : Int32} {a72_6 : Int32} {a72_7 : Int32} {a72_8 : Bool} {a72_9 : Int32} {a72_10 : Int32} {a72_11 : Int32} {a72_17 : Bool} {a72_18 : Bool} {a72_19 : Bool} {a72_21 : Int32} {a72_22 : Int32} {a72_29 : Int32} {a72_31 : Int32} {a72_35 : Int32} {a72_37 : Bool} {a72_38 : Int32} {a72_39 : Int32} {a72_40 : Int32} {a72_41 : Int64} {a72_44 : Int32} {a72_50 : Bool}  (h72 : h 72 = o72 a72_0 a72_2 a72_3 a72_4 a72_5 a72_6 a72_7 a72_8 a72_9 a72_10 a72_11 a72_17 a72_18 a72_19 a72_21 a72_22 a72_29 a72_31 a72_35 a72_37 a72_38 a72_39 a72_40 a72_41 a72_44 a72_50) {R9 : Int32} (hf : fX12_thrown a72_0  = some R9) :
    eSem G la MX12_thrown [.ref 72] h nx 0 0 (fun r9 h9 => r9 = some (.int R9) ∧ h9 = h) := by
  refine eSem.of (k := 0) (L := [some (.ref 72)]) (by decide +kernel) rfl rfl (fun X F hxl hq hcR hsR => ?_)
  subst hxl
  unfold fX12_thrown at hf
  refine r_aload_n F dX12_thrown_0 rfl ?_
  refine r_get F dX12_thrown_1 flX12_86 h72 rfl (e_le rfl) (e_lt hnx rfl) ?_
  obtain rfl := Option.some.inj hf
  exact r_iret F hq dX12_thrown_4 rfl rfl (Nat.le_refl _) (Nat.le_refl _) ⟨rfl, rfl⟩

def fX12_undo (a72_0 : Int32) (a72_31 : Int32) (A79 : Nat → Int32) (A86 : Nat → Int32)  : Option (Int32 × Int32 × Int32 × (Nat → Int32)) :=
  if a72_31 = 0 then
    some ((-1), 0, a72_31, A79)
  else
    (e_loop (fun (v3 : Int32 × (Nat → Int32)) => (
        if 486 ≤ v3.1 then
          some (.inr v3.2)
        else
          e_g (e_in (((486 : Int32) * (a72_31 - 1)) + v3.1) 9720) (
          e_g (e_in v3.1 486) (
          some (.inl (v3.1 + 1, upd v3.2 (tn v3.1) (A86 (tn (((486 : Int32) * (a72_31 - 1)) + v3.1))))))) : Option ((Int32 × (Nat → Int32)) ⊕ ((Nat → Int32))))) e_fuel (0, A79)).bind (fun x4 =>
    some (a72_31 - 1, 0, a72_31 - 1, x4))
set_option maxRecDepth 100000 in
theorem tX12_undo_72 {G : eG} (hG : e_GS G) {la : Launch} {h : Nat → eO} {nx : Nat} (hnx : 99 ≤ nx) {a72_0 : Int32} {a72_2 : Int32} {a72_3 : Int32} {a72_4 : Int32} {a72_5 : Int32} {a72_6 : Int32} {a72_7 : Int32} {a72_8 : Bool} {a72_9 : Int32} {a72_10 : Int32} {a72_11 : Int32} {a72_17 : Bool} {a72_18 : Bool} {a72_19 : Bool} {a72_21 : Int32} {a72_22 : Int32} {a72_29 : Int32} {a72_31 : Int32} {a72_35 : Int32} {a72_37 : Bool} {a72_38 : Int32} {a72_39 : Int32} {a72_40 : Int32} {a72_41 : Int64} {a72_44 : Int32} {a72_50 : Bool} {A79 : Nat → Int32} {A86 : Nat → Int32}  (h72 : h 72 = o72 a72_0 a72_2 a72_3 a72_4 a72_5 a72_6 a72_7 a72_8 a72_9 a72_10 a72_11 a72_17 a72_18 a72_19 a72_21 a72_22 a72_29 a72_31 a72_35 a72_37 a72_38 a72_39 a72_40 a72_41 a72_44 a72_50) (h79 : h 79 = o79 A79) (h86 : h 86 = o86 A86) {R9 : Int32 × Int32 × Int32 × (Nat → Int32)} (hf : fX12_undo a72_0 a72_31 A79 A86  = some R9) :
    eSem G la MX12_undo [.ref 72] h nx 0 0 (fun r9 h9 => r9 = some (.int R9.1) ∧ h9 = e_up h [(72, o72 R9.2.1 a72_2 a72_3 a72_4 a72_5 a72_6 a72_7 a72_8 a72_9 a72_10 a72_11 a72_17 a72_18 a72_19 a72_21 a72_22 a72_29 R9.2.2.1 a72_35 a72_37 a72_38 a72_39 a72_40 a72_41 a72_44 a72_50), (79, o79 R9.2.2.2)]) := by
  refine eSem.of (k := 1) (L := [some (.ref 72), none]) (by decide +kernel) rfl rfl (fun X F hxl hq hcR hsR => ?_)
  subst hxl
  unfold fX12_undo at hf
  refine r_aload_n F dX12_undo_0 rfl ?_
  refine r_iconst F dX12_undo_1 (v := 0) (by decide) ?_
  refine r_put F dX12_undo_2 flX12_86 rfl rfl rfl h72 (e_le rfl) (e_le rfl) (e_lt hnx rfl) (l' := [(72, o72 0 a72_2 a72_3 a72_4 a72_5 a72_6 a72_7 a72_8 a72_9 a72_10 a72_11 a72_17 a72_18 a72_19 a72_21 a72_22 a72_29 a72_31 a72_35 a72_37 a72_38 a72_39 a72_40 a72_41 a72_44 a72_50)]) rfl ?_
  refine r_aload_n F dX12_undo_5 rfl ?_
  refine r_get F dX12_undo_6 flX12_229 rfl rfl (e_le rfl) (e_lt hnx rfl) ?_
  refine r_if_ne F dX12_undo_9 (tgt := 14) (by decide) (fun hc => ?_) (fun hc => ?_)
  · have hf := e_f hc hf
    refine r_aload_n F dX12_undo_14 rfl ?_
    refine r_dup F dX12_undo_15 rfl ?_
    refine r_get F dX12_undo_16 flX12_229 rfl rfl (e_le rfl) (e_lt hnx rfl) ?_
    refine r_iconst F dX12_undo_19 (v := 1) (by decide) ?_
    refine r_isub F dX12_undo_20 ?_
    refine r_put F dX12_undo_21 flX12_229 rfl rfl rfl rfl (e_le rfl) (e_le rfl) (e_lt hnx rfl) (l' := [(72, o72 0 a72_2 a72_3 a72_4 a72_5 a72_6 a72_7 a72_8 a72_9 a72_10 a72_11 a72_17 a72_18 a72_19 a72_21 a72_22 a72_29 (a72_31 - 1) a72_35 a72_37 a72_38 a72_39 a72_40 a72_41 a72_44 a72_50)]) rfl ?_
    refine r_iconst F dX12_undo_24 (v := 0) (by decide) ?_
    refine r_istore_n F dX12_undo_25 (e_le rfl) (L' := [some (.ref 72), some (.int 0)]) rfl ?_
    refine r_mat (k := 79) h79 (l' := [(72, o72 0 a72_2 a72_3 a72_4 a72_5 a72_6 a72_7 a72_8 a72_9 a72_10 a72_11 a72_17 a72_18 a72_19 a72_21 a72_22 a72_29 (a72_31 - 1) a72_35 a72_37 a72_38 a72_39 a72_40 a72_41 a72_44 a72_50), (79, o79 A79)]) rfl ?_
    obtain ⟨x4, hx5, hf⟩ := e_bd hf
    refine (e_loop_ok (P := fun (v3 : Int32 × (Nat → Int32)) => eRun G X 26 [some (.ref 72), some (.int v3.1)] [] h [(72, o72 0 a72_2 a72_3 a72_4 a72_5 a72_6 a72_7 a72_8 a72_9 a72_10 a72_11 a72_17 a72_18 a72_19 a72_21 a72_22 a72_29 (a72_31 - 1) a72_35 a72_37 a72_38 a72_39 a72_40 a72_41 a72_44 a72_50), (79, o79 v3.2)] nx 0 0) (K := fun (x4 : (Nat → Int32)) => eRun G X 60 [some (.ref 72), none] [] h [(72, o72 0 a72_2 a72_3 a72_4 a72_5 a72_6 a72_7 a72_8 a72_9 a72_10 a72_11 a72_17 a72_18 a72_19 a72_21 a72_22 a72_29 (a72_31 - 1) a72_35 a72_37 a72_38 a72_39 a72_40 a72_41 a72_44 a72_50), (79, o79 x4)] nx 0 0) ?_ e_fuel (0, A79) x4 hx5 ?_ : _)
    · intro v3 z hz ih hx
      refine r_iload_n F dX12_undo_26 rfl ?_
      refine r_sipush F dX12_undo_27 (v := 486) (by decide) ?_
      refine r_icmp_ge F dX12_undo_30 (tgt := 60) (by decide) (fun hc => ?_) (fun hc => ?_)
      · have hz := e_t hc hz
        refine r_drop 1 (L' := [some (.ref 72), none]) rfl ?_
        obtain rfl := Option.some.inj hz
        exact hx v3.2 rfl
      · have hz := e_f hc hz
        refine r_aload_n F dX12_undo_33 rfl ?_
        refine r_get F dX12_undo_34 flX12_28 rfl rfl (e_le rfl) (e_lt hnx rfl) ?_
        refine r_iload_n F dX12_undo_37 rfl ?_
        refine r_aload_n F dX12_undo_38 rfl ?_
        refine r_get F dX12_undo_39 flX12_49 rfl rfl (e_le rfl) (e_lt hnx rfl) ?_
        refine r_sipush F dX12_undo_42 (v := 486) (by decide) ?_
        refine r_aload_n F dX12_undo_45 rfl ?_
        refine r_get F dX12_undo_46 flX12_229 rfl rfl (e_le rfl) (e_lt hnx rfl) ?_
        refine r_imul F dX12_undo_49 ?_
        refine r_iload_n F dX12_undo_50 rfl ?_
        refine r_iadd F dX12_undo_51 ?_
        obtain ⟨hg, hz⟩ := e_gd hz
        refine r_iald F dX12_undo_52 (i := (((486 : Int32) * (a72_31 - 1)) + v3.1)) h86 (e_le rfl) (e_lt hnx rfl) (e_vp hg) ?_
        obtain ⟨hg, hz⟩ := e_gd hz
        refine r_iast F dX12_undo_53 rfl (e_le rfl) (e_lt hnx rfl) (e_vp hg) (l' := [(72, o72 0 a72_2 a72_3 a72_4 a72_5 a72_6 a72_7 a72_8 a72_9 a72_10 a72_11 a72_17 a72_18 a72_19 a72_21 a72_22 a72_29 (a72_31 - 1) a72_35 a72_37 a72_38 a72_39 a72_40 a72_41 a72_44 a72_50), (79, o79 (upd v3.2 (tn v3.1) (A86 (tn (((486 : Int32) * (a72_31 - 1)) + v3.1)))))]) rfl ?_
        refine r_inc F dX12_undo_54 (k9 := 1) (by decide) rfl (L' := [some (.ref 72), some (.int (v3.1 + 1))]) rfl ?_
        refine r_goto F dX12_undo_57 (tgt := 26) (by decide) ?_
        obtain rfl := Option.some.inj hz
        exact ih (v3.1 + 1, upd v3.2 (tn v3.1) (A86 (tn (((486 : Int32) * (a72_31 - 1)) + v3.1)))) rfl
    · show eRun G X 60 [some (.ref 72), none] [] h [(72, o72 0 a72_2 a72_3 a72_4 a72_5 a72_6 a72_7 a72_8 a72_9 a72_10 a72_11 a72_17 a72_18 a72_19 a72_21 a72_22 a72_29 (a72_31 - 1) a72_35 a72_37 a72_38 a72_39 a72_40 a72_41 a72_44 a72_50), (79, o79 x4)] nx 0 0
      refine r_aload_n F dX12_undo_60 rfl ?_
      refine r_get F dX12_undo_61 flX12_229 rfl rfl (e_le rfl) (e_lt hnx rfl) ?_
      obtain rfl := Option.some.inj hf
      exact r_iret F hq dX12_undo_64 rfl rfl (Nat.le_refl _) (Nat.le_refl _) ⟨rfl, rfl⟩
  · have hf := e_t hc hf
    refine r_iconst F dX12_undo_12 (v := (-1)) (by decide) ?_
    refine r_mat (k := 79) h79 (l' := [(72, o72 0 a72_2 a72_3 a72_4 a72_5 a72_6 a72_7 a72_8 a72_9 a72_10 a72_11 a72_17 a72_18 a72_19 a72_21 a72_22 a72_29 a72_31 a72_35 a72_37 a72_38 a72_39 a72_40 a72_41 a72_44 a72_50), (79, o79 A79)]) rfl ?_
    obtain rfl := Option.some.inj hf
    exact r_iret F hq dX12_undo_13 rfl rfl (Nat.le_refl _) (Nat.le_refl _) ⟨rfl, rfl⟩

def fX12_wall (a72_0 : Int32) (a72_21 : Int32) (a72_22 : Int32) (a72_44 : Int32) (A79 : Nat → Int32) (A91 : Nat → Int32) (A92 : Nat → Int32) (p0 : Int32) (p1 : Int32) : Option (Int32 × Int32 × Int32 × (Nat → Int32) × (Nat → Int32)) :=
  (fX12_isCrystal a72_21).bind (fun q1 =>
  if q1 = true then
    (fX12_laysWalls a72_21 a72_22 a72_44 A79 A91 A92).bind (fun q3 =>
    (fX12_in (Int32.toInt64 p0) 0 (Int32.toInt64 (q3.1 - 1))).bind (fun q5 =>
    if q5 = true then
      (fX12_in (Int32.toInt64 p1) 0 4).bind (fun q7 =>
      if q7 = true then
        e_g (e_in p0 162) (
        if p1 = 0 then
          (fX12_linksOf a72_21 a72_22 A79 q3.2.2.1 (q3.2.2.2 (tn p0))).bind (fun q9 =>
          some (q9, 0, q3.2.1, q3.2.2.1, q3.2.2.2))
        else
          if p1 = 1 then
            some (((q3.2.2.2 (tn p0)) / 2) - ((q3.2.2.2 (tn p0)) / 2) / 9 * 9, 0, q3.2.1, q3.2.2.1, q3.2.2.2)
          else
            if p1 = 2 then
              some (((q3.2.2.2 (tn p0)) / 2) / 9, 0, q3.2.1, q3.2.2.1, q3.2.2.2)
            else
              if p1 = 3 then
                some ((q3.2.2.2 (tn p0)) - (q3.2.2.2 (tn p0)) / 2 * 2, 0, q3.2.1, q3.2.2.1, q3.2.2.2)
              else
                (fX12_coresBeside a72_21 a72_22 A79 q3.2.2.1 (q3.2.2.2 (tn p0))).bind (fun q11 =>
                some (q11, 0, q3.2.1, q3.2.2.1, q3.2.2.2)))
      else
        some ((-1), 0, q3.2.1, q3.2.2.1, q3.2.2.2))
    else
      some ((-1), 0, q3.2.1, q3.2.2.1, q3.2.2.2)))
  else
    some ((-1), 0, a72_44, A91, A92))
set_option maxRecDepth 100000 in
theorem tX12_wall_72 {G : eG} (hG : e_GS G) {la : Launch} {h : Nat → eO} {nx : Nat} (hnx : 99 ≤ nx) {a72_0 : Int32} {a72_2 : Int32} {a72_3 : Int32} {a72_4 : Int32} {a72_5 : Int32} {a72_6 : Int32} {a72_7 : Int32} {a72_8 : Bool} {a72_9 : Int32} {a72_10 : Int32} {a72_11 : Int32} {a72_17 : Bool} {a72_18 : Bool} {a72_19 : Bool} {a72_21 : Int32} {a72_22 : Int32} {a72_29 : Int32} {a72_31 : Int32} {a72_35 : Int32} {a72_37 : Bool} {a72_38 : Int32} {a72_39 : Int32} {a72_40 : Int32} {a72_41 : Int64} {a72_44 : Int32} {a72_50 : Bool} {A79 : Nat → Int32} {A91 : Nat → Int32} {A92 : Nat → Int32} {p0 : Int32} {p1 : Int32} (h72 : h 72 = o72 a72_0 a72_2 a72_3 a72_4 a72_5 a72_6 a72_7 a72_8 a72_9 a72_10 a72_11 a72_17 a72_18 a72_19 a72_21 a72_22 a72_29 a72_31 a72_35 a72_37 a72_38 a72_39 a72_40 a72_41 a72_44 a72_50) (h79 : h 79 = o79 A79) (h91 : h 91 = o91 A91) (h92 : h 92 = o92 A92) {R9 : Int32 × Int32 × Int32 × (Nat → Int32) × (Nat → Int32)} (hf : fX12_wall a72_0 a72_21 a72_22 a72_44 A79 A91 A92 p0 p1 = some R9) :
    eSem G la MX12_wall [.ref 72, .int p0, .int p1] h nx 0 0 (fun r9 h9 => r9 = some (.int R9.1) ∧ h9 = e_up h [(72, o72 R9.2.1 a72_2 a72_3 a72_4 a72_5 a72_6 a72_7 a72_8 a72_9 a72_10 a72_11 a72_17 a72_18 a72_19 a72_21 a72_22 a72_29 a72_31 a72_35 a72_37 a72_38 a72_39 a72_40 a72_41 R9.2.2.1 a72_50), (91, o91 R9.2.2.2.1), (92, o92 R9.2.2.2.2)]) := by
  refine eSem.of (k := 1) (L := [some (.ref 72), some (.int p0), some (.int p1), none]) (by decide +kernel) rfl rfl (fun X F hxl hq hcR hsR => ?_)
  subst hxl
  unfold fX12_wall at hf
  refine r_aload_n F dX12_wall_0 rfl ?_
  refine r_iconst F dX12_wall_1 (v := 0) (by decide) ?_
  refine r_put F dX12_wall_2 flX12_86 rfl rfl rfl h72 (e_le rfl) (e_le rfl) (e_lt hnx rfl) (l' := [(72, o72 0 a72_2 a72_3 a72_4 a72_5 a72_6 a72_7 a72_8 a72_9 a72_10 a72_11 a72_17 a72_18 a72_19 a72_21 a72_22 a72_29 a72_31 a72_35 a72_37 a72_38 a72_39 a72_40 a72_41 a72_44 a72_50)]) rfl ?_
  refine r_aload_n F dX12_wall_5 rfl ?_
  obtain ⟨q1, hq2, hf⟩ := e_bd hf
  refine r_callV F dX12_wall_6 (b := 72) (dc := 0) (ds := 0) (As := []) (S0 := []) lkX12_306 mX12_isCrystal (tX12_isCrystal_72 hG (la := x_l X) (h := e_up h [(72, o72 0 a72_2 a72_3 a72_4 a72_5 a72_6 a72_7 a72_8 a72_9 a72_10 a72_11 a72_17 a72_18 a72_19 a72_21 a72_22 a72_29 a72_31 a72_35 a72_37 a72_38 a72_39 a72_40 a72_41 a72_44 a72_50)]) hnx rfl hq2) rfl rfl rfl (e_le rfl) (e_le rfl) (e_le rfl) rfl (ci := 12) e_cl12.1 rfl (e_le rfl) (e_lt hnx rfl) (Nat.zero_le _) (Nat.zero_le _) (e_k ?_)
  refine r_wr0 ?_
  refine r_z_eq F dX12_wall_9 (tgt := 40) (by decide) (fun hc => ?_) (fun hc => ?_)
  · have hf := e_t hc hf
    refine r_iload_n F dX12_wall_12 rfl ?_
    refine r_i2l F dX12_wall_13 ?_
    refine r_lconst F dX12_wall_14 (v := 0) (by decide) ?_
    refine r_aload_n F dX12_wall_15 rfl ?_
    obtain ⟨q3, hq4, hf⟩ := e_bd hf
    refine r_callV F dX12_wall_16 (b := 72) (dc := 0) (ds := 0) (As := []) (S0 := [.long 0, .long (Int32.toInt64 p0)]) lkX12_321 mX12_laysWalls (tX12_laysWalls_72 hG (la := x_l X) (h := e_up h [(72, o72 0 a72_2 a72_3 a72_4 a72_5 a72_6 a72_7 a72_8 a72_9 a72_10 a72_11 a72_17 a72_18 a72_19 a72_21 a72_22 a72_29 a72_31 a72_35 a72_37 a72_38 a72_39 a72_40 a72_41 a72_44 a72_50)]) hnx rfl h79 h91 h92 hq4) rfl rfl rfl (e_le rfl) (e_le rfl) (e_le rfl) rfl (ci := 12) e_cl12.1 rfl (e_le rfl) (e_lt hnx rfl) (Nat.zero_le _) (Nat.zero_le _) (e_k ?_)
    refine r_wr (l' := [(72, o72 0 a72_2 a72_3 a72_4 a72_5 a72_6 a72_7 a72_8 a72_9 a72_10 a72_11 a72_17 a72_18 a72_19 a72_21 a72_22 a72_29 a72_31 a72_35 a72_37 a72_38 a72_39 a72_40 a72_41 q3.2.1 a72_50), (91, o91 q3.2.2.1), (92, o92 q3.2.2.2)]) rfl rfl ?_
    refine r_iconst F dX12_wall_19 (v := 1) (by decide) ?_
    refine r_isub F dX12_wall_20 ?_
    refine r_i2l F dX12_wall_21 ?_
    obtain ⟨q5, hq6, hf⟩ := e_bd hf
    refine r_callS F dX12_wall_22 (dc := 0) (ds := 0) (As := [.long (Int32.toInt64 p0), .long 0, .long (Int32.toInt64 (q3.1 - 1))]) (S0 := []) lkX12_97 mX12_in (tX12_in hG (la := x_l X) (h := e_up h [(72, o72 0 a72_2 a72_3 a72_4 a72_5 a72_6 a72_7 a72_8 a72_9 a72_10 a72_11 a72_17 a72_18 a72_19 a72_21 a72_22 a72_29 a72_31 a72_35 a72_37 a72_38 a72_39 a72_40 a72_41 q3.2.1 a72_50), (91, o91 q3.2.2.1), (92, o92 q3.2.2.2)]) hnx  hq6) rfl rfl rfl (e_le rfl) (e_le rfl) (e_le rfl) (Nat.zero_le _) (Nat.zero_le _) (e_k ?_)
    refine r_wr0 ?_
    refine r_z_eq F dX12_wall_25 (tgt := 40) (by decide) (fun hc => ?_) (fun hc => ?_)
    · have hf := e_t hc hf
      refine r_iload_n F dX12_wall_28 rfl ?_
      refine r_i2l F dX12_wall_29 ?_
      refine r_lconst F dX12_wall_30 (v := 0) (by decide) ?_
      refine r_ldc2 F dX12_wall_31 klX12_352 ?_
      obtain ⟨q7, hq8, hf⟩ := e_bd hf
      refine r_callS F dX12_wall_34 (dc := 0) (ds := 0) (As := [.long (Int32.toInt64 p1), .long 0, .long 4]) (S0 := []) lkX12_97 mX12_in (tX12_in hG (la := x_l X) (h := e_up h [(72, o72 0 a72_2 a72_3 a72_4 a72_5 a72_6 a72_7 a72_8 a72_9 a72_10 a72_11 a72_17 a72_18 a72_19 a72_21 a72_22 a72_29 a72_31 a72_35 a72_37 a72_38 a72_39 a72_40 a72_41 q3.2.1 a72_50), (91, o91 q3.2.2.1), (92, o92 q3.2.2.2)]) hnx  hq8) rfl rfl rfl (e_le rfl) (e_le rfl) (e_le rfl) (Nat.zero_le _) (Nat.zero_le _) (e_k ?_)
      refine r_wr0 ?_
      refine r_z_ne F dX12_wall_37 (tgt := 42) (by decide) (fun hc => ?_) (fun hc => ?_)
      · have hf := e_t hc hf
        refine r_aload_n F dX12_wall_42 rfl ?_
        refine r_get F dX12_wall_43 flX12_68 rfl rfl (e_le rfl) (e_lt hnx rfl) ?_
        refine r_iload_n F dX12_wall_46 rfl ?_
        obtain ⟨hg, hf⟩ := e_gd hf
        refine r_iald F dX12_wall_47 (i := p0) rfl (e_le rfl) (e_lt hnx rfl) (e_vp hg) ?_
        refine r_istore_n F dX12_wall_48 (e_le rfl) (L' := [some (.ref 72), some (.int p0), some (.int p1), some (.int (q3.2.2.2 (tn p0)))]) rfl ?_
        refine r_iload_n F dX12_wall_49 rfl ?_
        refine Classical.byCases (p := p1 = 0) (fun hc => ?_) (fun hk0 => ?_)
        · have hf := e_t hc hf
          refine r_tsIn F dX12_wall_50 (by rw [hc]; decide) (by rw [hc]; decide) (off := 30) (by rw [hc]; decide) (tgt := 80) (by decide) ?_
          refine r_aload_n F dX12_wall_80 rfl ?_
          refine r_iload_n F dX12_wall_81 rfl ?_
          obtain ⟨q9, hq10, hf⟩ := e_bd hf
          refine r_callV F dX12_wall_82 (b := 72) (dc := 0) (ds := 0) (As := [.int (q3.2.2.2 (tn p0))]) (S0 := []) lkX12_434 mX12_linksOf (tX12_linksOf_72 hG (la := x_l X) (h := e_up h [(72, o72 0 a72_2 a72_3 a72_4 a72_5 a72_6 a72_7 a72_8 a72_9 a72_10 a72_11 a72_17 a72_18 a72_19 a72_21 a72_22 a72_29 a72_31 a72_35 a72_37 a72_38 a72_39 a72_40 a72_41 q3.2.1 a72_50), (91, o91 q3.2.2.1), (92, o92 q3.2.2.2)]) hnx rfl h79 rfl hq10) rfl rfl rfl (e_le rfl) (e_le rfl) (e_le rfl) rfl (ci := 12) e_cl12.1 rfl (e_le rfl) (e_lt hnx rfl) (Nat.zero_le _) (Nat.zero_le _) (e_k ?_)
          refine r_wr0 ?_
          obtain rfl := Option.some.inj hf
          exact r_iret F hq dX12_wall_85 rfl rfl (Nat.le_refl _) (Nat.le_refl _) ⟨rfl, rfl⟩
        have hf := e_f hk0 hf
        refine Classical.byCases (p := p1 = 1) (fun hc => ?_) (fun hk1 => ?_)
        · have hf := e_t hc hf
          refine r_tsIn F dX12_wall_50 (by rw [hc]; decide) (by rw [hc]; decide) (off := 36) (by rw [hc]; decide) (tgt := 86) (by decide) ?_
          refine r_iload_n F dX12_wall_86 rfl ?_
          refine r_iconst F dX12_wall_87 (v := 2) (by decide) ?_
          refine r_idiv F dX12_wall_88 (by decide) ?_
          refine r_bipush F dX12_wall_89 (v := 9) (by decide) ?_
          refine r_irem F dX12_wall_91 (by decide) ?_
          obtain rfl := Option.some.inj hf
          exact r_iret F hq dX12_wall_92 rfl rfl (Nat.le_refl _) (Nat.le_refl _) ⟨rfl, rfl⟩
        have hf := e_f hk1 hf
        refine Classical.byCases (p := p1 = 2) (fun hc => ?_) (fun hk2 => ?_)
        · have hf := e_t hc hf
          refine r_tsIn F dX12_wall_50 (by rw [hc]; decide) (by rw [hc]; decide) (off := 43) (by rw [hc]; decide) (tgt := 93) (by decide) ?_
          refine r_iload_n F dX12_wall_93 rfl ?_
          refine r_iconst F dX12_wall_94 (v := 2) (by decide) ?_
          refine r_idiv F dX12_wall_95 (by decide) ?_
          refine r_bipush F dX12_wall_96 (v := 9) (by decide) ?_
          refine r_idiv F dX12_wall_98 (by decide) ?_
          obtain rfl := Option.some.inj hf
          exact r_iret F hq dX12_wall_99 rfl rfl (Nat.le_refl _) (Nat.le_refl _) ⟨rfl, rfl⟩
        have hf := e_f hk2 hf
        refine Classical.byCases (p := p1 = 3) (fun hc => ?_) (fun hk3 => ?_)
        · have hf := e_t hc hf
          refine r_tsIn F dX12_wall_50 (by rw [hc]; decide) (by rw [hc]; decide) (off := 50) (by rw [hc]; decide) (tgt := 100) (by decide) ?_
          refine r_iload_n F dX12_wall_100 rfl ?_
          refine r_iconst F dX12_wall_101 (v := 2) (by decide) ?_
          refine r_irem F dX12_wall_102 (by decide) ?_
          obtain rfl := Option.some.inj hf
          exact r_iret F hq dX12_wall_103 rfl rfl (Nat.le_refl _) (Nat.le_refl _) ⟨rfl, rfl⟩
        have hf := e_f hk3 hf
        refine r_tsOut F dX12_wall_50 (e_out4 hk0 hk1 hk2 hk3) (tgt := 104) (by decide) ?_
        refine r_aload_n F dX12_wall_104 rfl ?_
        refine r_iload_n F dX12_wall_105 rfl ?_
        obtain ⟨q11, hq12, hf⟩ := e_bd hf
        refine r_callV F dX12_wall_106 (b := 72) (dc := 0) (ds := 0) (As := [.int (q3.2.2.2 (tn p0))]) (S0 := []) lkX12_437 mX12_coresBeside (tX12_coresBeside_72 hG (la := x_l X) (h := e_up h [(72, o72 0 a72_2 a72_3 a72_4 a72_5 a72_6 a72_7 a72_8 a72_9 a72_10 a72_11 a72_17 a72_18 a72_19 a72_21 a72_22 a72_29 a72_31 a72_35 a72_37 a72_38 a72_39 a72_40 a72_41 q3.2.1 a72_50), (91, o91 q3.2.2.1), (92, o92 q3.2.2.2)]) hnx rfl h79 rfl hq12) rfl rfl rfl (e_le rfl) (e_le rfl) (e_le rfl) rfl (ci := 12) e_cl12.1 rfl (e_le rfl) (e_lt hnx rfl) (Nat.zero_le _) (Nat.zero_le _) (e_k ?_)
        refine r_wr0 ?_
        obtain rfl := Option.some.inj hf
        exact r_iret F hq dX12_wall_109 rfl rfl (Nat.le_refl _) (Nat.le_refl _) ⟨rfl, rfl⟩
      · have hf := e_f hc hf
        refine r_iconst F dX12_wall_40 (v := (-1)) (by decide) ?_
        obtain rfl := Option.some.inj hf
        exact r_iret F hq dX12_wall_41 rfl rfl (Nat.le_refl _) (Nat.le_refl _) ⟨rfl, rfl⟩
    · have hf := e_f hc hf
      refine r_iconst F dX12_wall_40 (v := (-1)) (by decide) ?_
      obtain rfl := Option.some.inj hf
      exact r_iret F hq dX12_wall_41 rfl rfl (Nat.le_refl _) (Nat.le_refl _) ⟨rfl, rfl⟩
  · have hf := e_f hc hf
    refine r_iconst F dX12_wall_40 (v := (-1)) (by decide) ?_
    refine r_mat (k := 91) h91 (l' := [(72, o72 0 a72_2 a72_3 a72_4 a72_5 a72_6 a72_7 a72_8 a72_9 a72_10 a72_11 a72_17 a72_18 a72_19 a72_21 a72_22 a72_29 a72_31 a72_35 a72_37 a72_38 a72_39 a72_40 a72_41 a72_44 a72_50), (91, o91 A91)]) rfl ?_
    refine r_mat (k := 92) h92 (l' := [(72, o72 0 a72_2 a72_3 a72_4 a72_5 a72_6 a72_7 a72_8 a72_9 a72_10 a72_11 a72_17 a72_18 a72_19 a72_21 a72_22 a72_29 a72_31 a72_35 a72_37 a72_38 a72_39 a72_40 a72_41 a72_44 a72_50), (91, o91 A91), (92, o92 A92)]) rfl ?_
    obtain rfl := Option.some.inj hf
    exact r_iret F hq dX12_wall_41 rfl rfl (Nat.le_refl _) (Nat.le_refl _) ⟨rfl, rfl⟩

set_option maxRecDepth 100000 in
theorem tX1_clearTally_39 {G : eG} (hG : e_GS G) {la : Launch} {h : Nat → eO} {nx : Nat} (hnx : 99 ≤ nx) {A45 : Nat → Int32}  (h39 : h 39 = o39) (h45 : h 45 = o45 A45) {R9 : (Nat → Int32)} (hf : fX1_clearTally A45  = some R9) :
    eSem G la MX1_clearTally [.ref 39] h nx 0 0 (fun r9 h9 => r9 = none ∧ h9 = e_up h [(45, o45 R9)]) := by
  refine eSem.of (k := 1) (L := [some (.ref 39), none]) (by decide +kernel) rfl rfl (fun X F hxl hq hcR hsR => ?_)
  subst hxl
  unfold fX1_clearTally at hf
  refine r_iconst F dX1_clearTally_0 (v := 0) (by decide) ?_
  refine r_istore_n F dX1_clearTally_1 (e_le rfl) (L' := [some (.ref 39), some (.int 0)]) rfl ?_
  refine r_mat (k := 45) h45 (l' := [(45, o45 A45)]) rfl ?_
  obtain ⟨x4, hx5, hf⟩ := e_bd hf
  refine (e_loop_ok (P := fun (v3 : Int32 × (Nat → Int32)) => eRun G X 2 [some (.ref 39), some (.int v3.1)] [] h [(45, o45 v3.2)] nx 0 0) (K := fun (x4 : (Nat → Int32)) => eRun G X 24 [none, none] [] h [(45, o45 x4)] nx 0 0) ?_ e_fuel (0, A45) x4 hx5 ?_ : _)
  · intro v3 z hz ih hx
    refine r_iload_n F dX1_clearTally_2 rfl ?_
    refine r_aload_n F dX1_clearTally_3 rfl ?_
    refine r_get F dX1_clearTally_4 flX1_25 h39 rfl (e_le rfl) (e_lt hnx rfl) ?_
    refine r_alen F dX1_clearTally_7 rfl (e_le rfl) (e_lt hnx rfl) (v := 3) rfl ?_
    refine r_icmp_ge F dX1_clearTally_8 (tgt := 24) (by decide) (fun hc => ?_) (fun hc => ?_)
    · have hz := e_t hc hz
      refine r_drop 0 (L' := [none, some (.int v3.1)]) rfl ?_
      refine r_drop 1 (L' := [none, none]) rfl ?_
      obtain rfl := Option.some.inj hz
      exact hx v3.2 rfl
    · have hz := e_f hc hz
      refine r_aload_n F dX1_clearTally_11 rfl ?_
      refine r_get F dX1_clearTally_12 flX1_25 h39 rfl (e_le rfl) (e_lt hnx rfl) ?_
      refine r_iload_n F dX1_clearTally_15 rfl ?_
      refine r_iconst F dX1_clearTally_16 (v := 0) (by decide) ?_
      obtain ⟨hg, hz⟩ := e_gd hz
      refine r_iast F dX1_clearTally_17 rfl (e_le rfl) (e_lt hnx rfl) (e_vp hg) (l' := [(45, o45 (upd v3.2 (tn v3.1) 0))]) rfl ?_
      refine r_inc F dX1_clearTally_18 (k9 := 1) (by decide) rfl (L' := [some (.ref 39), some (.int (v3.1 + 1))]) rfl ?_
      refine r_goto F dX1_clearTally_21 (tgt := 2) (by decide) ?_
      obtain rfl := Option.some.inj hz
      exact ih (v3.1 + 1, upd v3.2 (tn v3.1) 0) rfl
  · show eRun G X 24 [none, none] [] h [(45, o45 x4)] nx 0 0
    obtain rfl := Option.some.inj hf
    exact r_vret F hq dX1_clearTally_24 rfl rfl (Nat.le_refl _) (Nat.le_refl _) ⟨rfl, rfl⟩

set_option maxRecDepth 100000 in
theorem tX1_isUnchanged_39 {G : eG} (hG : e_GS G) {la : Launch} {h : Nat → eO} {nx : Nat} (hnx : 99 ≤ nx) {a40_0 : Int32} {a40_1 : Int32} {A41 : Nat → Int32} {a42_0 : Int32} {A43 : Nat → Int32} {A44 : Nat → Int32} {p0 : Int32} (h39 : h 39 = o39) (h40 : h 40 = o40 a40_0 a40_1) (h41 : h 41 = o41 A41) (h42 : h 42 = o42 a42_0) (h43 : h 43 = o43 A43) (h44 : h 44 = o44 A44) {R9 : Bool} (hf : fX1_isUnchanged a40_0 a40_1 a42_0 A41 A43 A44 p0 = some R9) :
    eSem G la MX1_isUnchanged [.ref 39, .int p0] h nx 0 0 (fun r9 h9 => r9 = some (.int (e_b R9)) ∧ h9 = h) := by
  refine eSem.of (k := 2) (L := [some (.ref 39), some (.int p0), none, none]) (by decide +kernel) rfl rfl (fun X F hxl hq hcR hsR => ?_)
  subst hxl
  unfold fX1_isUnchanged at hf
  refine r_aload_n F dX1_isUnchanged_0 rfl ?_
  refine r_get F dX1_isUnchanged_1 flX1_21 h39 rfl (e_le rfl) (e_lt hnx rfl) ?_
  refine r_iload_n F dX1_isUnchanged_4 rfl ?_
  refine r_iconst F dX1_isUnchanged_5 (v := 0) (by decide) ?_
  obtain ⟨q1, hq2, hf⟩ := e_bd hf
  refine r_callV F dX1_isUnchanged_6 (b := 42) (dc := 0) (ds := 0) (As := [.int p0, .int 0]) (S0 := []) lkX1_82 mX0_placeOf (tX0_placeOf_42 hG (la := x_l X) (h := e_up h []) hnx h42 h43 hq2) rfl rfl rfl (e_le rfl) (e_le rfl) (e_le rfl) h42 (ci := 0) e_cl0.1 rfl (e_le rfl) (e_lt hnx rfl) (Nat.zero_le _) (Nat.zero_le _) (e_k ?_)
  refine r_wr0 ?_
  refine r_istore_n F dX1_isUnchanged_9 (e_le rfl) (L' := [some (.ref 39), some (.int p0), some (.int q1), none]) rfl ?_
  refine r_aload_n F dX1_isUnchanged_10 rfl ?_
  refine r_get F dX1_isUnchanged_11 flX1_21 h39 rfl (e_le rfl) (e_lt hnx rfl) ?_
  refine r_iload_n F dX1_isUnchanged_14 rfl ?_
  refine r_iconst F dX1_isUnchanged_15 (v := 1) (by decide) ?_
  obtain ⟨q3, hq4, hf⟩ := e_bd hf
  refine r_callV F dX1_isUnchanged_16 (b := 42) (dc := 0) (ds := 0) (As := [.int p0, .int 1]) (S0 := []) lkX1_82 mX0_placeOf (tX0_placeOf_42 hG (la := x_l X) (h := e_up h []) hnx h42 h43 hq4) rfl rfl rfl (e_le rfl) (e_le rfl) (e_le rfl) h42 (ci := 0) e_cl0.1 rfl (e_le rfl) (e_lt hnx rfl) (Nat.zero_le _) (Nat.zero_le _) (e_k ?_)
  refine r_wr0 ?_
  refine r_istore_n F dX1_isUnchanged_19 (e_le rfl) (L' := [some (.ref 39), some (.int p0), some (.int q1), some (.int q3)]) rfl ?_
  refine r_aload_n F dX1_isUnchanged_20 rfl ?_
  refine r_get F dX1_isUnchanged_21 flX1_12 h39 rfl (e_le rfl) (e_lt hnx rfl) ?_
  refine r_iload_n F dX1_isUnchanged_24 rfl ?_
  refine r_iload_n F dX1_isUnchanged_25 rfl ?_
  refine r_iconst F dX1_isUnchanged_26 (v := 0) (by decide) ?_
  obtain ⟨q5, hq6, hf⟩ := e_bd hf
  refine r_callV F dX1_isUnchanged_27 (b := 40) (dc := 0) (ds := 0) (As := [.int q1, .int q3, .int 0]) (S0 := []) lkX1_86 mX7_vectorOf (tX7_vectorOf_40 hG (la := x_l X) (h := e_up h []) hnx h40 h41 hq6) rfl rfl rfl (e_le rfl) (e_le rfl) (e_le rfl) h40 (ci := 7) e_cl7.1 rfl (e_le rfl) (e_lt hnx rfl) (Nat.zero_le _) (Nat.zero_le _) (e_k ?_)
  refine r_wr0 ?_
  refine r_aload_n F dX1_isUnchanged_30 rfl ?_
  refine r_get F dX1_isUnchanged_31 flX1_21 h39 rfl (e_le rfl) (e_lt hnx rfl) ?_
  refine r_iload_n F dX1_isUnchanged_34 rfl ?_
  refine r_iconst F dX1_isUnchanged_35 (v := 0) (by decide) ?_
  obtain ⟨q7, hq8, hf⟩ := e_bd hf
  refine r_callV F dX1_isUnchanged_36 (b := 42) (dc := 0) (ds := 0) (As := [.int p0, .int 0]) (S0 := [.int q5]) lkX1_90 mX0_numberOf (tX0_numberOf_42 hG (la := x_l X) (h := e_up h []) hnx h42 h44 hq8) rfl rfl rfl (e_le rfl) (e_le rfl) (e_le rfl) h42 (ci := 0) e_cl0.1 rfl (e_le rfl) (e_lt hnx rfl) (Nat.zero_le _) (Nat.zero_le _) (e_k ?_)
  refine r_wr0 ?_
  refine r_icmp_ne F dX1_isUnchanged_39 (tgt := 68) (by decide) (fun hc => ?_) (fun hc => ?_)
  · have hf := e_f hc hf
    refine r_iconst F dX1_isUnchanged_68 (v := 0) (by decide) ?_
    obtain rfl := Option.some.inj hf
    exact r_zret F hq (v := false) dX1_isUnchanged_69 rfl rfl (Nat.le_refl _) (Nat.le_refl _) ⟨rfl, rfl⟩
  · have hf := e_t hc hf
    refine r_aload_n F dX1_isUnchanged_42 rfl ?_
    refine r_get F dX1_isUnchanged_43 flX1_12 h39 rfl (e_le rfl) (e_lt hnx rfl) ?_
    refine r_iload_n F dX1_isUnchanged_46 rfl ?_
    refine r_iload_n F dX1_isUnchanged_47 rfl ?_
    refine r_iconst F dX1_isUnchanged_48 (v := 1) (by decide) ?_
    obtain ⟨q9, hq10, hf⟩ := e_bd hf
    refine r_callV F dX1_isUnchanged_49 (b := 40) (dc := 0) (ds := 0) (As := [.int q1, .int q3, .int 1]) (S0 := []) lkX1_86 mX7_vectorOf (tX7_vectorOf_40 hG (la := x_l X) (h := e_up h []) hnx h40 h41 hq10) rfl rfl rfl (e_le rfl) (e_le rfl) (e_le rfl) h40 (ci := 7) e_cl7.1 rfl (e_le rfl) (e_lt hnx rfl) (Nat.zero_le _) (Nat.zero_le _) (e_k ?_)
    refine r_wr0 ?_
    refine r_aload_n F dX1_isUnchanged_52 rfl ?_
    refine r_get F dX1_isUnchanged_53 flX1_21 h39 rfl (e_le rfl) (e_lt hnx rfl) ?_
    refine r_iload_n F dX1_isUnchanged_56 rfl ?_
    refine r_iconst F dX1_isUnchanged_57 (v := 1) (by decide) ?_
    obtain ⟨q11, hq12, hf⟩ := e_bd hf
    refine r_callV F dX1_isUnchanged_58 (b := 42) (dc := 0) (ds := 0) (As := [.int p0, .int 1]) (S0 := [.int q9]) lkX1_90 mX0_numberOf (tX0_numberOf_42 hG (la := x_l X) (h := e_up h []) hnx h42 h44 hq12) rfl rfl rfl (e_le rfl) (e_le rfl) (e_le rfl) h42 (ci := 0) e_cl0.1 rfl (e_le rfl) (e_lt hnx rfl) (Nat.zero_le _) (Nat.zero_le _) (e_k ?_)
    refine r_wr0 ?_
    refine r_icmp_ne F dX1_isUnchanged_61 (tgt := 68) (by decide) (fun hc => ?_) (fun hc => ?_)
    · have hf := e_f hc hf
      refine r_iconst F dX1_isUnchanged_68 (v := 0) (by decide) ?_
      obtain rfl := Option.some.inj hf
      exact r_zret F hq (v := false) dX1_isUnchanged_69 rfl rfl (Nat.le_refl _) (Nat.le_refl _) ⟨rfl, rfl⟩
    · have hf := e_t hc hf
      refine r_iconst F dX1_isUnchanged_64 (v := 1) (by decide) ?_
      refine r_goto F dX1_isUnchanged_65 (tgt := 69) (by decide) ?_
      obtain rfl := Option.some.inj hf
      exact r_zret F hq (v := true) dX1_isUnchanged_69 rfl rfl (Nat.le_refl _) (Nat.le_refl _) ⟨rfl, rfl⟩

set_option maxRecDepth 100000 in
theorem tX1_playRound_39_53 {G : eG} (hG : e_GS G) {la : Launch} {h : Nat → eO} {nx : Nat} (hnx : 99 ≤ nx) {a40_0 : Int32} {a40_1 : Int32} {A41 : Nat → Int32} {a42_0 : Int32} {A43 : Nat → Int32} {A44 : Nat → Int32} {A45 : Nat → Int32} {A53 : Nat → Int32}  (h39 : h 39 = o39) (h40 : h 40 = o40 a40_0 a40_1) (h41 : h 41 = o41 A41) (h42 : h 42 = o42 a42_0) (h43 : h 43 = o43 A43) (h44 : h 44 = o44 A44) (h45 : h 45 = o45 A45) (h53 : h 53 = o53 A53) {R9 : Int32 × (Nat → Int32) × (Nat → Int32) × (Nat → Int32) × (Nat → Int32)} (hf : fX1_playRound a40_0 a40_1 a42_0 A41 A43 A44 A45 A53  = some R9) :
    eSem G la MX1_playRound [.ref 39, .ref 53] h nx 0 0 (fun r9 h9 => r9 = none ∧ h9 = e_up h [(41, o41 R9.2.1), (42, o42 R9.1), (43, o43 R9.2.2.1), (44, o44 R9.2.2.2.1), (45, o45 R9.2.2.2.2)]) := by
  refine eSem.of (k := 2) (L := [some (.ref 39), some (.ref 53), none, none]) (by decide +kernel) rfl rfl (fun X F hxl hq hcR hsR => ?_)
  subst hxl
  unfold fX1_playRound at hf
  refine r_iconst F dX1_playRound_0 (v := 0) (by decide) ?_
  refine r_istore_n F dX1_playRound_1 (e_le rfl) (L' := [some (.ref 39), some (.ref 53), some (.int 0), none]) rfl ?_
  refine r_mat (k := 41) h41 (l' := [(41, o41 A41)]) rfl ?_
  refine r_mat (k := 45) h45 (l' := [(41, o41 A41), (45, o45 A45)]) rfl ?_
  obtain ⟨x4, hx5, hf⟩ := e_bd hf
  refine (e_loop_ok (P := fun (v3 : Int32 × (Nat → Int32) × (Nat → Int32)) => eRun G X 2 [some (.ref 39), some (.ref 53), some (.int v3.1), none] [] h [(41, o41 v3.2.1), (45, o45 v3.2.2)] nx 0 0) (K := fun (x4 : (Nat → Int32) × (Nat → Int32)) => eRun G X 67 [some (.ref 39), none, none, none] [] h [(41, o41 x4.1), (45, o45 x4.2)] nx 0 0) ?_ e_fuel (0, A41, A45) x4 hx5 ?_ : _)
  · intro v3 z hz ih hx
    refine r_iload_n F dX1_playRound_2 rfl ?_
    refine r_aload_n F dX1_playRound_3 rfl ?_
    refine r_get F dX1_playRound_4 flX1_21 h39 rfl (e_le rfl) (e_lt hnx rfl) ?_
    refine r_get F dX1_playRound_7 flX1_61 h42 rfl (e_le rfl) (e_lt hnx rfl) ?_
    refine r_icmp_ge F dX1_playRound_10 (tgt := 67) (by decide) (fun hc => ?_) (fun hc => ?_)
    · have hz := e_t hc hz
      refine r_drop 1 (L' := [some (.ref 39), none, some (.int v3.1), none]) rfl ?_
      refine r_drop 2 (L' := [some (.ref 39), none, none, none]) rfl ?_
      obtain rfl := Option.some.inj hz
      exact hx (v3.2.1, v3.2.2) rfl
    · have hz := e_f hc hz
      refine r_aload_n F dX1_playRound_13 rfl ?_
      refine r_get F dX1_playRound_14 flX1_21 h39 rfl (e_le rfl) (e_lt hnx rfl) ?_
      refine r_iload_n F dX1_playRound_17 rfl ?_
      refine r_aload_n F dX1_playRound_18 rfl ?_
      obtain ⟨q6, hq7, hz⟩ := e_bd hz
      refine r_callV F dX1_playRound_19 (b := 42) (dc := 0) (ds := 0) (As := [.int v3.1, .ref 53]) (S0 := []) lkX1_64 mX0_forceOn (tX0_forceOn_42_53 hG (la := x_l X) (h := e_up h [(41, o41 v3.2.1), (45, o45 v3.2.2)]) hnx h42 h43 h44 h53 hq7) rfl rfl rfl (e_le rfl) (e_le rfl) (e_le rfl) h42 (ci := 0) e_cl0.1 rfl (e_le rfl) (e_lt hnx rfl) (Nat.zero_le _) (Nat.zero_le _) (e_k ?_)
      refine r_wr0 ?_
      refine r_istore_n F dX1_playRound_22 (e_le rfl) (L' := [some (.ref 39), some (.ref 53), some (.int v3.1), some (.int q6)]) rfl ?_
      refine r_iconst F dX1_playRound_23 (v := 2) (by decide) ?_
      refine r_aload_n F dX1_playRound_24 rfl ?_
      refine r_alen F dX1_playRound_25 h53 (e_le rfl) (e_lt hnx rfl) (v := 4) rfl ?_
      refine r_icmp_ge_f F dX1_playRound_26 (tgt := 61) (by decide) (by decide) ?_
      refine r_iload_n F dX1_playRound_29 rfl ?_
      obtain ⟨q8, hq9, hz⟩ := e_bd hz
      refine r_callS F dX1_playRound_30 (dc := 0) (ds := 0) (As := [.int q6]) (S0 := []) lkX1_68 mJ9_abs_0f7a4 (tJ9_abs_0f7a4 hG (la := x_l X) (h := e_up h [(41, o41 v3.2.1), (45, o45 v3.2.2)]) hnx  hq9) rfl rfl rfl (e_le rfl) (e_le rfl) (e_le rfl) (Nat.zero_le _) (Nat.zero_le _) (e_k ?_)
      refine r_wr0 ?_
      refine r_aload_n F dX1_playRound_33 rfl ?_
      refine r_iconst F dX1_playRound_34 (v := 2) (by decide) ?_
      refine r_iald F dX1_playRound_35 (i := 2) h53 (e_le rfl) (e_lt hnx rfl) (e_vp (by decide)) ?_
      obtain ⟨q10, hq11, hz⟩ := e_bd hz
      have Jq10 : eRun G X 61 [some (.ref 39), some (.ref 53), some (.int v3.1), none] [] h [(41, o41 q10.1), (45, o45 q10.2)] nx 0 0 := by
        refine r_inc F dX1_playRound_61 (k9 := 1) (by decide) rfl (L' := [some (.ref 39), some (.ref 53), some (.int (v3.1 + 1)), none]) rfl ?_
        refine r_goto F dX1_playRound_64 (tgt := 2) (by decide) ?_
        obtain rfl := Option.some.inj hz
        exact ih (v3.1 + 1, q10.1, q10.2) rfl
      refine r_icmp_le F dX1_playRound_36 (tgt := 61) (by decide) (fun hc => ?_) (fun hc => ?_)
      · have hq11 := e_t hc hq11
        refine r_drop 3 (L' := [some (.ref 39), some (.ref 53), some (.int v3.1), none]) rfl ?_
        obtain rfl := Option.some.inj hq11
        exact Jq10
      · have hq11 := e_f hc hq11
        refine r_aload_n F dX1_playRound_39 rfl ?_
        refine r_iload_n F dX1_playRound_40 rfl ?_
        obtain ⟨q12, hq13, hq11⟩ := e_bd hq11
        refine r_callV F dX1_playRound_41 (b := 39) (dc := 0) (ds := 0) (As := [.int v3.1]) (S0 := []) lkX1_74 mX1_isUnchanged (tX1_isUnchanged_39 hG (la := x_l X) (h := e_up h [(41, o41 v3.2.1), (45, o45 v3.2.2)]) hnx h39 h40 rfl h42 h43 h44 hq13) rfl rfl rfl (e_le rfl) (e_le rfl) (e_le rfl) h39 (ci := 1) e_cl1.1 rfl (e_le rfl) (e_lt hnx rfl) (Nat.zero_le _) (Nat.zero_le _) (e_k ?_)
        refine r_wr0 ?_
        refine r_z_eq F dX1_playRound_44 (tgt := 61) (by decide) (fun hc => ?_) (fun hc => ?_)
        · have hq11 := e_t hc hq11
          refine r_aload_n F dX1_playRound_47 rfl ?_
          refine r_iload_n F dX1_playRound_48 rfl ?_
          refine r_iload_n F dX1_playRound_49 rfl ?_
          obtain ⟨q14, hq15, hq11⟩ := e_bd hq11
          have Jq14 : eRun G X 58 [some (.ref 39), some (.ref 53), some (.int v3.1), none] [.int (e_b q14), .int v3.1, .ref 39] h [(41, o41 v3.2.1), (45, o45 v3.2.2)] nx 0 0 := by
            obtain ⟨q16, hq17, hq11⟩ := e_bd hq11
            refine r_callV F dX1_playRound_58 (b := 39) (dc := 0) (ds := 0) (As := [.int v3.1, .int (e_b q14)]) (S0 := []) lkX1_78 mX1_glide (tX1_glide_39 hG (la := x_l X) (h := e_up h [(41, o41 v3.2.1), (45, o45 v3.2.2)]) hnx h39 h40 rfl h42 h43 h44 rfl hq17) rfl rfl rfl (e_le rfl) (e_le rfl) (e_le rfl) h39 (ci := 1) e_cl1.1 rfl (e_le rfl) (e_lt hnx rfl) (Nat.zero_le _) (Nat.zero_le _) (e_k ?_)
            refine r_wr (l' := [(41, o41 q16.1), (45, o45 q16.2)]) rfl rfl ?_
            obtain rfl := Option.some.inj hq11
            exact Jq10
          refine r_if_le F dX1_playRound_50 (tgt := 57) (by decide) (fun hc => ?_) (fun hc => ?_)
          · have hq15 := e_t hc hq15
            refine r_iconst F dX1_playRound_57 (v := 0) (by decide) ?_
            refine r_drop 3 (L' := [some (.ref 39), some (.ref 53), some (.int v3.1), none]) rfl ?_
            obtain rfl := Option.some.inj hq15
            exact Jq14
          · have hq15 := e_f hc hq15
            refine r_iconst F dX1_playRound_53 (v := 1) (by decide) ?_
            refine r_goto F dX1_playRound_54 (tgt := 58) (by decide) ?_
            refine r_drop 3 (L' := [some (.ref 39), some (.ref 53), some (.int v3.1), none]) rfl ?_
            obtain rfl := Option.some.inj hq15
            exact Jq14
        · have hq11 := e_f hc hq11
          refine r_drop 3 (L' := [some (.ref 39), some (.ref 53), some (.int v3.1), none]) rfl ?_
          obtain rfl := Option.some.inj hq11
          exact Jq10
  · show eRun G X 67 [some (.ref 39), none, none, none] [] h [(41, o41 x4.1), (45, o45 x4.2)] nx 0 0
    refine r_aload_n F dX1_playRound_67 rfl ?_
    refine r_get F dX1_playRound_68 flX1_21 h39 rfl (e_le rfl) (e_lt hnx rfl) ?_
    refine r_aload_n F dX1_playRound_71 rfl ?_
    refine r_get F dX1_playRound_72 flX1_12 h39 rfl (e_le rfl) (e_lt hnx rfl) ?_
    obtain ⟨q18, hq19, hf⟩ := e_bd hf
    refine r_callV F dX1_playRound_75 (b := 42) (dc := 0) (ds := 0) (As := [.ref 40]) (S0 := []) lkX1_54 mX0_find (tX0_find_42_40 hG (la := x_l X) (h := e_up h [(41, o41 x4.1), (45, o45 x4.2)]) hnx h40 rfl h42 h43 h44 hq19) rfl rfl rfl (e_le rfl) (e_le rfl) (e_le rfl) h42 (ci := 0) e_cl0.1 rfl (e_le rfl) (e_lt hnx rfl) (Nat.zero_le _) (Nat.zero_le _) (e_k ?_)
    refine r_wr (l' := [(41, o41 x4.1), (42, o42 q18.1), (43, o43 q18.2.1), (44, o44 q18.2.2), (45, o45 x4.2)]) rfl rfl ?_
    obtain rfl := Option.some.inj hf
    exact r_vret F hq dX1_playRound_78 rfl rfl (Nat.le_refl _) (Nat.le_refl _) ⟨rfl, rfl⟩

def fX3_add (a54_1 : Int32) (A45 : Nat → Int32) (A55 : Nat → Int32) (p1 : Int32) : Option (Int32 × (Nat → Int32)) :=
  (fJ9_floorMod_7cf53 a54_1 40).bind (fun q1 =>
  (e_loop (fun (v5 : Int32 × (Nat → Int32)) => (
      if 3 ≤ v5.1 then
        some (.inr v5.2)
      else
        if 3 ≤ v5.1 then
          some (.inr v5.2)
        else
          e_g (e_in v5.1 3) (
          e_g (e_in (((4 : Int32) * q1) + v5.1) 160) (
          some (.inl (v5.1 + 1, upd v5.2 (tn (((4 : Int32) * q1) + v5.1)) (A45 (tn v5.1)))))) : Option ((Int32 × (Nat → Int32)) ⊕ ((Nat → Int32))))) e_fuel (0, A55)).bind (fun x6 =>
  e_g (e_in ((((4 : Int32) * q1) + 4) - 1) 160) (
  some (a54_1 + 1, upd x6 (tn ((((4 : Int32) * q1) + 4) - 1)) p1))))
set_option maxRecDepth 100000 in
theorem tX3_add_54_45 {G : eG} (hG : e_GS G) {la : Launch} {h : Nat → eO} {nx : Nat} (hnx : 99 ≤ nx) {A45 : Nat → Int32} {a54_1 : Int32} {A55 : Nat → Int32} {p1 : Int32} (h45 : h 45 = o45 A45) (h54 : h 54 = o54 a54_1) (h55 : h 55 = o55 A55) {R9 : Int32 × (Nat → Int32)} (hf : fX3_add a54_1 A45 A55 p1 = some R9) :
    eSem G la MX3_add [.ref 54, .ref 45, .int p1] h nx 0 0 (fun r9 h9 => r9 = none ∧ h9 = e_up h [(54, o54 R9.1), (55, o55 R9.2)]) := by
  refine eSem.of (k := 2) (L := [some (.ref 54), some (.ref 45), some (.int p1), none, none]) (by decide +kernel) rfl rfl (fun X F hxl hq hcR hsR => ?_)
  subst hxl
  unfold fX3_add at hf
  refine r_iconst F dX3_add_0 (v := 4) (by decide) ?_
  refine r_aload_n F dX3_add_1 rfl ?_
  refine r_get F dX3_add_2 flX3_15 h54 rfl (e_le rfl) (e_lt hnx rfl) ?_
  refine r_bipush F dX3_add_5 (v := 40) (by decide) ?_
  obtain ⟨q1, hq2, hf⟩ := e_bd hf
  refine r_callS F dX3_add_7 (dc := 0) (ds := 0) (As := [.int a54_1, .int 40]) (S0 := [.int 4]) lkX3_25 mJ9_floorMod_7cf53 (tJ9_floorMod_7cf53 hG (la := x_l X) (h := e_up h []) hnx  hq2) rfl rfl rfl (e_le rfl) (e_le rfl) (e_le rfl) (Nat.zero_le _) (Nat.zero_le _) (e_k ?_)
  refine r_wr0 ?_
  refine r_imul F dX3_add_10 ?_
  refine r_istore_n F dX3_add_11 (e_le rfl) (L' := [some (.ref 54), some (.ref 45), some (.int p1), some (.int ((4 : Int32) * q1)), none]) rfl ?_
  refine r_iconst F dX3_add_12 (v := 0) (by decide) ?_
  refine r_istore F dX3_add_13 (e_le rfl) (L' := [some (.ref 54), some (.ref 45), some (.int p1), some (.int ((4 : Int32) * q1)), some (.int 0)]) rfl ?_
  refine r_mat (k := 55) h55 (l' := [(55, o55 A55)]) rfl ?_
  obtain ⟨x6, hx7, hf⟩ := e_bd hf
  refine (e_loop_ok (P := fun (v5 : Int32 × (Nat → Int32)) => eRun G X 15 [some (.ref 54), some (.ref 45), some (.int p1), some (.int ((4 : Int32) * q1)), some (.int v5.1)] [] h [(55, o55 v5.2)] nx 0 0) (K := fun (x6 : (Nat → Int32)) => eRun G X 47 [some (.ref 54), none, some (.int p1), some (.int ((4 : Int32) * q1)), none] [] h [(55, o55 x6)] nx 0 0) ?_ e_fuel (0, A55) x6 hx7 ?_ : _)
  · intro v5 z hz ih hx
    refine r_iload F dX3_add_15 rfl ?_
    refine r_aload_n F dX3_add_17 rfl ?_
    refine r_alen F dX3_add_18 h45 (e_le rfl) (e_lt hnx rfl) (v := 3) rfl ?_
    refine r_icmp_ge F dX3_add_19 (tgt := 47) (by decide) (fun hc => ?_) (fun hc => ?_)
    · have hz := e_t hc hz
      refine r_drop 1 (L' := [some (.ref 54), none, some (.int p1), some (.int ((4 : Int32) * q1)), some (.int v5.1)]) rfl ?_
      refine r_drop 4 (L' := [some (.ref 54), none, some (.int p1), some (.int ((4 : Int32) * q1)), none]) rfl ?_
      obtain rfl := Option.some.inj hz
      exact hx v5.2 rfl
    · have hz := e_f hc hz
      refine r_iload F dX3_add_22 rfl ?_
      refine r_iconst F dX3_add_24 (v := 3) (by decide) ?_
      refine r_icmp_ge F dX3_add_25 (tgt := 47) (by decide) (fun hc => ?_) (fun hc => ?_)
      · have hz := e_t hc hz
        refine r_drop 1 (L' := [some (.ref 54), none, some (.int p1), some (.int ((4 : Int32) * q1)), some (.int v5.1)]) rfl ?_
        refine r_drop 4 (L' := [some (.ref 54), none, some (.int p1), some (.int ((4 : Int32) * q1)), none]) rfl ?_
        obtain rfl := Option.some.inj hz
        exact hx v5.2 rfl
      · have hz := e_f hc hz
        refine r_aload_n F dX3_add_28 rfl ?_
        refine r_get F dX3_add_29 flX3_11 h54 rfl (e_le rfl) (e_lt hnx rfl) ?_
        refine r_iload_n F dX3_add_32 rfl ?_
        refine r_iload F dX3_add_33 rfl ?_
        refine r_iadd F dX3_add_35 ?_
        refine r_aload_n F dX3_add_36 rfl ?_
        refine r_iload F dX3_add_37 rfl ?_
        obtain ⟨hg, hz⟩ := e_gd hz
        refine r_iald F dX3_add_39 (i := v5.1) h45 (e_le rfl) (e_lt hnx rfl) (e_vp hg) ?_
        obtain ⟨hg, hz⟩ := e_gd hz
        refine r_iast F dX3_add_40 rfl (e_le rfl) (e_lt hnx rfl) (e_vp hg) (l' := [(55, o55 (upd v5.2 (tn (((4 : Int32) * q1) + v5.1)) (A45 (tn v5.1))))]) rfl ?_
        refine r_inc F dX3_add_41 (k9 := 1) (by decide) rfl (L' := [some (.ref 54), some (.ref 45), some (.int p1), some (.int ((4 : Int32) * q1)), some (.int (v5.1 + 1))]) rfl ?_
        refine r_goto F dX3_add_44 (tgt := 15) (by decide) ?_
        obtain rfl := Option.some.inj hz
        exact ih (v5.1 + 1, upd v5.2 (tn (((4 : Int32) * q1) + v5.1)) (A45 (tn v5.1))) rfl
  · show eRun G X 47 [some (.ref 54), none, some (.int p1), some (.int ((4 : Int32) * q1)), none] [] h [(55, o55 x6)] nx 0 0
    refine r_aload_n F dX3_add_47 rfl ?_
    refine r_get F dX3_add_48 flX3_11 h54 rfl (e_le rfl) (e_lt hnx rfl) ?_
    refine r_iload_n F dX3_add_51 rfl ?_
    refine r_iconst F dX3_add_52 (v := 4) (by decide) ?_
    refine r_iadd F dX3_add_53 ?_
    refine r_iconst F dX3_add_54 (v := 1) (by decide) ?_
    refine r_isub F dX3_add_55 ?_
    refine r_iload_n F dX3_add_56 rfl ?_
    obtain ⟨hg, hf⟩ := e_gd hf
    refine r_iast F dX3_add_57 rfl (e_le rfl) (e_lt hnx rfl) (e_vp hg) (l' := [(55, o55 (upd x6 (tn ((((4 : Int32) * q1) + 4) - 1)) p1))]) rfl ?_
    refine r_aload_n F dX3_add_58 rfl ?_
    refine r_dup F dX3_add_59 rfl ?_
    refine r_get F dX3_add_60 flX3_15 h54 rfl (e_le rfl) (e_lt hnx rfl) ?_
    refine r_iconst F dX3_add_63 (v := 1) (by decide) ?_
    refine r_iadd F dX3_add_64 ?_
    refine r_put F dX3_add_65 flX3_15 rfl rfl rfl h54 (e_le rfl) (e_le rfl) (e_lt hnx rfl) (l' := [(54, o54 (a54_1 + 1)), (55, o55 (upd x6 (tn ((((4 : Int32) * q1) + 4) - 1)) p1))]) rfl ?_
    obtain rfl := Option.some.inj hf
    exact r_vret F hq dX3_add_68 rfl rfl (Nat.le_refl _) (Nat.le_refl _) ⟨rfl, rfl⟩
