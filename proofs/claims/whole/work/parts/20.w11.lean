def fX12_laysRid (a72_21 : Int32) (a72_22 : Int32) (a72_29 : Int32) (A79 : Nat → Int32) (A80 : Nat → Int32) (A81 : Nat → Int32) (A82 : Nat → Int32) (A83 : Nat → Int32) (A84 : Nat → Int32) (A85 : Nat → Int32) (A93 : Nat → Int32) (A94 : Nat → Int32) (A95 : Nat → Int32) (p0 : Int32) : Option (Int32 × Int32 × (Nat → Int32) × (Nat → Int32) × (Nat → Int32) × (Nat → Int32) × (Nat → Int32) × (Nat → Int32) × (Nat → Int32) × (Nat → Int32)) :=
  (fX12_laysCores a72_21 a72_22 a72_29 A79 A80 A81 A82 A83 A84 A85).bind (fun q1 =>
  (e_loop (fun (v5 : Int32 × (Nat → Int32) × (Nat → Int32)) => (
      if ((1 : Int32) <<< (q1.2.1 &&& 31)) ≤ v5.1 then
        some (.inr (v5.2.1, v5.2.2))
      else
        (e_loop (fun (v10 : Int32) => (
            if ((v5.1 >>> (v10 &&& 31)) &&& 1) = 0 then
              some (.inl (v10 + 1))
            else
              some (.inr v10) : Option ((Int32) ⊕ (Int32)))) e_fuel 0).bind (fun x11 =>
        e_g (e_in (v5.1 &&& (((1 : Int32) <<< (x11 &&& 31)) ^^^ (-1))) 4096) (
        (fX12_costOut a72_21 a72_22 q1.2.2.1 q1.2.2.2.1 q1.2.2.2.2.1 q1.2.2.2.2.2.1 x11 p0).bind (fun q13 =>
        (e_loop (fun (v16 : Int32 × Int32 × Int32) => (
            if q1.2.1 ≤ v16.2.2 then
              some (.inr (v16.1, v16.2.1))
            else
              Option.bind (α := Int32 × Int32) (
                if (((v5.1 &&& (((1 : Int32) <<< (x11 &&& 31)) ^^^ (-1))) >>> (v16.2.2 &&& 31)) &&& 1) = 1 then
                  (fX12_areOpposite q1.2.2.2.2.1 q1.2.2.2.2.2.1 x11 v16.2.2).bind (fun q21 =>
                  if q21 = true then
                    e_g (e_in ((v5.1 &&& (((1 : Int32) <<< (x11 &&& 31)) ^^^ (-1))) &&& (((1 : Int32) <<< (v16.2.2 &&& 31)) ^^^ (-1))) 4096) (
                    (fX12_costMeeting q1.2.2.1 q1.2.2.2.1 q1.2.2.2.2.1 q1.2.2.2.2.2.1 x11 v16.2.2 p0).bind (fun q23 =>
                    Option.bind (α := Int32) (
                      if v16.1 ≤ ((v5.2.1 (tn ((v5.1 &&& (((1 : Int32) <<< (x11 &&& 31)) ^^^ (-1))) &&& (((1 : Int32) <<< (v16.2.2 &&& 31)) ^^^ (-1))))) + q23) then
                        some v16.2.1
                      else
                        some v16.2.2) (fun q25 =>
                    (fJ9_min_7cf53 v16.1 ((v5.2.1 (tn ((v5.1 &&& (((1 : Int32) <<< (x11 &&& 31)) ^^^ (-1))) &&& (((1 : Int32) <<< (v16.2.2 &&& 31)) ^^^ (-1))))) + q23)).bind (fun q27 =>
                    some (q27, q25)))))
                  else
                    some (v16.1, v16.2.1))
                else
                  some (v16.1, v16.2.1)) (fun q19 =>
              some (.inl (q19.1, q19.2, v16.2.2 + 1))) : Option ((Int32 × Int32 × Int32) ⊕ (Int32 × Int32)))) e_fuel ((v5.2.1 (tn (v5.1 &&& (((1 : Int32) <<< (x11 &&& 31)) ^^^ (-1))))) + q13, x11, x11 + 1)).bind (fun x17 =>
        e_g (e_in v5.1 4096) (
        e_g (e_in v5.1 4096) (
        some (.inl (v5.1 + 1, upd v5.2.1 (tn v5.1) x17.1, upd v5.2.2 (tn v5.1) x17.2)))))))) : Option ((Int32 × (Nat → Int32) × (Nat → Int32)) ⊕ ((Nat → Int32) × (Nat → Int32))))) e_fuel (1, upd A93 (tn 0) 0, A94)).bind (fun x6 =>
  (e_loop (fun (v31 : Int32 × Int32 × (Nat → Int32)) => (
      if q1.2.1 ≤ v31.2.1 then
        some (.inr v31.2.2)
      else
        Option.bind (α := Int32 × (Nat → Int32)) (
          if ((v31.1 >>> (v31.2.1 &&& 31)) &&& 1) = 1 then
            e_g (e_in v31.1 4096) (
            e_g (e_in v31.2.1 12) (
            e_g (e_in (x6.2 (tn v31.1)) 12) (
            some (v31.1 &&& ((((1 : Int32) <<< (v31.2.1 &&& 31)) ^^^ (-1)) &&& (((1 : Int32) <<< ((x6.2 (tn v31.1)) &&& 31)) ^^^ (-1))), upd (upd v31.2.2 (tn v31.2.1) (x6.2 (tn v31.1))) (tn (x6.2 (tn v31.1))) v31.2.1))))
          else
            some (v31.1, v31.2.2)) (fun q34 =>
        some (.inl (q34.1, v31.2.1 + 1, q34.2))) : Option ((Int32 × Int32 × (Nat → Int32)) ⊕ ((Nat → Int32))))) e_fuel (((1 : Int32) <<< (q1.2.1 &&& 31)) - 1, 0, A95)).bind (fun x32 =>
  e_g (e_in (((1 : Int32) <<< (q1.2.1 &&& 31)) - 1) 4096) (
  some (x6.1 (tn (((1 : Int32) <<< (q1.2.1 &&& 31)) - 1)), q1.2.1, q1.2.2.1, q1.2.2.2.1, q1.2.2.2.2.1, q1.2.2.2.2.2.1, q1.2.2.2.2.2.2, x6.1, x6.2, x32)))))
set_option maxRecDepth 100000 in
theorem tX12_laysRid_72 {G : eG} (hG : e_GS G) {la : Launch} {h : Nat → eO} {nx : Nat} (hnx : 99 ≤ nx) {a72_0 : Int32} {a72_2 : Int32} {a72_3 : Int32} {a72_4 : Int32} {a72_5 : Int32} {a72_6 : Int32} {a72_7 : Int32} {a72_8 : Bool} {a72_9 : Int32} {a72_10 : Int32} {a72_11 : Int32} {a72_17 : Bool} {a72_18 : Bool} {a72_19 : Bool} {a72_21 : Int32} {a72_22 : Int32} {a72_29 : Int32} {a72_31 : Int32} {a72_35 : Int32} {a72_37 : Bool} {a72_38 : Int32} {a72_39 : Int32} {a72_40 : Int32} {a72_41 : Int64} {a72_44 : Int32} {a72_50 : Bool} {A79 : Nat → Int32} {A80 : Nat → Int32} {A81 : Nat → Int32} {A82 : Nat → Int32} {A83 : Nat → Int32} {A84 : Nat → Int32} {A85 : Nat → Int32} {A93 : Nat → Int32} {A94 : Nat → Int32} {A95 : Nat → Int32} {p0 : Int32} (h72 : h 72 = o72 a72_0 a72_2 a72_3 a72_4 a72_5 a72_6 a72_7 a72_8 a72_9 a72_10 a72_11 a72_17 a72_18 a72_19 a72_21 a72_22 a72_29 a72_31 a72_35 a72_37 a72_38 a72_39 a72_40 a72_41 a72_44 a72_50) (h79 : h 79 = o79 A79) (h80 : h 80 = o80 A80) (h81 : h 81 = o81 A81) (h82 : h 82 = o82 A82) (h83 : h 83 = o83 A83) (h84 : h 84 = o84 A84) (h85 : h 85 = o85 A85) (h93 : h 93 = o93 A93) (h94 : h 94 = o94 A94) (h95 : h 95 = o95 A95) {R9 : Int32 × Int32 × (Nat → Int32) × (Nat → Int32) × (Nat → Int32) × (Nat → Int32) × (Nat → Int32) × (Nat → Int32) × (Nat → Int32) × (Nat → Int32)} (hf : fX12_laysRid a72_21 a72_22 a72_29 A79 A80 A81 A82 A83 A84 A85 A93 A94 A95 p0 = some R9) :
    eSem G la MX12_laysRid [.ref 72, .int p0] h nx 0 0 (fun r9 h9 => r9 = some (.int R9.1) ∧ h9 = e_up h [(72, o72 a72_0 a72_2 a72_3 a72_4 a72_5 a72_6 a72_7 a72_8 a72_9 a72_10 a72_11 a72_17 a72_18 a72_19 a72_21 a72_22 R9.2.1 a72_31 a72_35 a72_37 a72_38 a72_39 a72_40 a72_41 a72_44 a72_50), (81, o81 R9.2.2.1), (82, o82 R9.2.2.2.1), (83, o83 R9.2.2.2.2.1), (84, o84 R9.2.2.2.2.2.1), (85, o85 R9.2.2.2.2.2.2.1), (93, o93 R9.2.2.2.2.2.2.2.1), (94, o94 R9.2.2.2.2.2.2.2.2.1), (95, o95 R9.2.2.2.2.2.2.2.2.2)]) := by
  refine eSem.of (k := 7) (L := [some (.ref 72), some (.int p0), none, none, none, none, none, none, none]) (by decide +kernel) rfl rfl (fun X F hxl hq hcR hsR => ?_)
  subst hxl
  unfold fX12_laysRid at hf
  refine r_aload_n F dX12_laysRid_0 rfl ?_
  obtain ⟨q1, hq2, hf⟩ := e_bd hf
  refine r_callV F dX12_laysRid_1 (b := 72) (dc := 0) (ds := 0) (As := []) (S0 := []) lkX12_238 mX12_laysCores (tX12_laysCores_72 hG (la := x_l X) (h := e_up h []) hnx h72 h79 h80 h81 h82 h83 h84 h85 hq2) rfl rfl rfl (e_le rfl) (e_le rfl) (e_le rfl) h72 (ci := 12) e_cl12.1 rfl (e_le rfl) (e_lt hnx rfl) (Nat.zero_le _) (Nat.zero_le _) (e_k ?_)
  refine r_wr (l' := [(72, o72 a72_0 a72_2 a72_3 a72_4 a72_5 a72_6 a72_7 a72_8 a72_9 a72_10 a72_11 a72_17 a72_18 a72_19 a72_21 a72_22 q1.2.1 a72_31 a72_35 a72_37 a72_38 a72_39 a72_40 a72_41 a72_44 a72_50), (81, o81 q1.2.2.1), (82, o82 q1.2.2.2.1), (83, o83 q1.2.2.2.2.1), (84, o84 q1.2.2.2.2.2.1), (85, o85 q1.2.2.2.2.2.2)]) rfl rfl ?_
  refine r_pop F dX12_laysRid_4 rfl ?_
  refine r_aload_n F dX12_laysRid_5 rfl ?_
  refine r_get F dX12_laysRid_6 flX12_71 rfl rfl (e_le rfl) (e_lt hnx rfl) ?_
  refine r_iconst F dX12_laysRid_9 (v := 0) (by decide) ?_
  refine r_iconst F dX12_laysRid_10 (v := 0) (by decide) ?_
  refine r_iast F dX12_laysRid_11 h93 (e_le rfl) (e_lt hnx rfl) (e_vp (by decide)) (l' := [(72, o72 a72_0 a72_2 a72_3 a72_4 a72_5 a72_6 a72_7 a72_8 a72_9 a72_10 a72_11 a72_17 a72_18 a72_19 a72_21 a72_22 q1.2.1 a72_31 a72_35 a72_37 a72_38 a72_39 a72_40 a72_41 a72_44 a72_50), (81, o81 q1.2.2.1), (82, o82 q1.2.2.2.1), (83, o83 q1.2.2.2.2.1), (84, o84 q1.2.2.2.2.2.1), (85, o85 q1.2.2.2.2.2.2), (93, o93 (upd A93 (tn 0) 0))]) rfl ?_
  refine r_iconst F dX12_laysRid_12 (v := 1) (by decide) ?_
  refine r_istore_n F dX12_laysRid_13 (e_le rfl) (L' := [some (.ref 72), some (.int p0), some (.int 1), none, none, none, none, none, none]) rfl ?_
  refine r_mat (k := 94) h94 (l' := [(72, o72 a72_0 a72_2 a72_3 a72_4 a72_5 a72_6 a72_7 a72_8 a72_9 a72_10 a72_11 a72_17 a72_18 a72_19 a72_21 a72_22 q1.2.1 a72_31 a72_35 a72_37 a72_38 a72_39 a72_40 a72_41 a72_44 a72_50), (81, o81 q1.2.2.1), (82, o82 q1.2.2.2.1), (83, o83 q1.2.2.2.2.1), (84, o84 q1.2.2.2.2.2.1), (85, o85 q1.2.2.2.2.2.2), (93, o93 (upd A93 (tn 0) 0)), (94, o94 A94)]) rfl ?_
  obtain ⟨x6, hx7, hf⟩ := e_bd hf
  refine (e_loop_ok (P := fun (v5 : Int32 × (Nat → Int32) × (Nat → Int32)) => eRun G X 14 [some (.ref 72), some (.int p0), some (.int v5.1), none, none, none, none, none, none] [] h [(72, o72 a72_0 a72_2 a72_3 a72_4 a72_5 a72_6 a72_7 a72_8 a72_9 a72_10 a72_11 a72_17 a72_18 a72_19 a72_21 a72_22 q1.2.1 a72_31 a72_35 a72_37 a72_38 a72_39 a72_40 a72_41 a72_44 a72_50), (81, o81 q1.2.2.1), (82, o82 q1.2.2.2.1), (83, o83 q1.2.2.2.2.1), (84, o84 q1.2.2.2.2.2.1), (85, o85 q1.2.2.2.2.2.2), (93, o93 v5.2.1), (94, o94 v5.2.2)] nx 0 0) (K := fun (x6 : (Nat → Int32) × (Nat → Int32)) => eRun G X 181 [some (.ref 72), none, none, none, none, none, none, none, none] [] h [(72, o72 a72_0 a72_2 a72_3 a72_4 a72_5 a72_6 a72_7 a72_8 a72_9 a72_10 a72_11 a72_17 a72_18 a72_19 a72_21 a72_22 q1.2.1 a72_31 a72_35 a72_37 a72_38 a72_39 a72_40 a72_41 a72_44 a72_50), (81, o81 q1.2.2.1), (82, o82 q1.2.2.2.1), (83, o83 q1.2.2.2.2.1), (84, o84 q1.2.2.2.2.2.1), (85, o85 q1.2.2.2.2.2.2), (93, o93 x6.1), (94, o94 x6.2)] nx 0 0) ?_ e_fuel (1, upd A93 (tn 0) 0, A94) x6 hx7 ?_ : _)
  · intro v5 z hz ih hx
    refine r_iload_n F dX12_laysRid_14 rfl ?_
    refine r_iconst F dX12_laysRid_15 (v := 1) (by decide) ?_
    refine r_aload_n F dX12_laysRid_16 rfl ?_
    refine r_get F dX12_laysRid_17 flX12_241 rfl rfl (e_le rfl) (e_lt hnx rfl) ?_
    refine r_ishl F dX12_laysRid_20 ?_
    refine r_icmp_ge F dX12_laysRid_21 (tgt := 181) (by decide) (fun hc => ?_) (fun hc => ?_)
    · have hz := e_t hc hz
      refine r_drop 1 (L' := [some (.ref 72), none, some (.int v5.1), none, none, none, none, none, none]) rfl ?_
      refine r_drop 2 (L' := [some (.ref 72), none, none, none, none, none, none, none, none]) rfl ?_
      obtain rfl := Option.some.inj hz
      exact hx (v5.2.1, v5.2.2) rfl
    · have hz := e_f hc hz
      refine r_iconst F dX12_laysRid_24 (v := 0) (by decide) ?_
      refine r_istore_n F dX12_laysRid_25 (e_le rfl) (L' := [some (.ref 72), some (.int p0), some (.int v5.1), some (.int 0), none, none, none, none, none]) rfl ?_
      obtain ⟨x11, hx12, hz⟩ := e_bd hz
      refine (e_loop_ok (P := fun (v10 : Int32) => eRun G X 26 [some (.ref 72), some (.int p0), some (.int v5.1), some (.int v10), none, none, none, none, none] [] h [(72, o72 a72_0 a72_2 a72_3 a72_4 a72_5 a72_6 a72_7 a72_8 a72_9 a72_10 a72_11 a72_17 a72_18 a72_19 a72_21 a72_22 q1.2.1 a72_31 a72_35 a72_37 a72_38 a72_39 a72_40 a72_41 a72_44 a72_50), (81, o81 q1.2.2.1), (82, o82 q1.2.2.2.1), (83, o83 q1.2.2.2.2.1), (84, o84 q1.2.2.2.2.2.1), (85, o85 q1.2.2.2.2.2.2), (93, o93 v5.2.1), (94, o94 v5.2.2)] nx 0 0) (K := fun (x11 : Int32) => eRun G X 40 [some (.ref 72), some (.int p0), some (.int v5.1), some (.int x11), none, none, none, none, none] [] h [(72, o72 a72_0 a72_2 a72_3 a72_4 a72_5 a72_6 a72_7 a72_8 a72_9 a72_10 a72_11 a72_17 a72_18 a72_19 a72_21 a72_22 q1.2.1 a72_31 a72_35 a72_37 a72_38 a72_39 a72_40 a72_41 a72_44 a72_50), (81, o81 q1.2.2.1), (82, o82 q1.2.2.2.1), (83, o83 q1.2.2.2.2.1), (84, o84 q1.2.2.2.2.2.1), (85, o85 q1.2.2.2.2.2.2), (93, o93 v5.2.1), (94, o94 v5.2.2)] nx 0 0) ?_ e_fuel 0 x11 hx12 ?_ : _)
      · intro v10 z hz ih hx
        refine r_iload_n F dX12_laysRid_26 rfl ?_
        refine r_iload_n F dX12_laysRid_27 rfl ?_
        refine r_ishr F dX12_laysRid_28 ?_
        refine r_iconst F dX12_laysRid_29 (v := 1) (by decide) ?_
        refine r_iand F dX12_laysRid_30 ?_
        refine r_if_ne F dX12_laysRid_31 (tgt := 40) (by decide) (fun hc => ?_) (fun hc => ?_)
        · have hz := e_f hc hz
          obtain rfl := Option.some.inj hz
          exact hx v10 rfl
        · have hz := e_t hc hz
          refine r_inc F dX12_laysRid_34 (k9 := 1) (by decide) rfl (L' := [some (.ref 72), some (.int p0), some (.int v5.1), some (.int (v10 + 1)), none, none, none, none, none]) rfl ?_
          refine r_goto F dX12_laysRid_37 (tgt := 26) (by decide) ?_
          obtain rfl := Option.some.inj hz
          exact ih (v10 + 1) rfl
      · show eRun G X 40 [some (.ref 72), some (.int p0), some (.int v5.1), some (.int x11), none, none, none, none, none] [] h [(72, o72 a72_0 a72_2 a72_3 a72_4 a72_5 a72_6 a72_7 a72_8 a72_9 a72_10 a72_11 a72_17 a72_18 a72_19 a72_21 a72_22 q1.2.1 a72_31 a72_35 a72_37 a72_38 a72_39 a72_40 a72_41 a72_44 a72_50), (81, o81 q1.2.2.1), (82, o82 q1.2.2.2.1), (83, o83 q1.2.2.2.2.1), (84, o84 q1.2.2.2.2.2.1), (85, o85 q1.2.2.2.2.2.2), (93, o93 v5.2.1), (94, o94 v5.2.2)] nx 0 0
        refine r_iload_n F dX12_laysRid_40 rfl ?_
        refine r_iconst F dX12_laysRid_41 (v := 1) (by decide) ?_
        refine r_iload_n F dX12_laysRid_42 rfl ?_
        refine r_ishl F dX12_laysRid_43 ?_
        refine r_iconst F dX12_laysRid_44 (v := (-1)) (by decide) ?_
        refine r_ixor F dX12_laysRid_45 ?_
        refine r_iand F dX12_laysRid_46 ?_
        refine r_istore F dX12_laysRid_47 (e_le rfl) (L' := [some (.ref 72), some (.int p0), some (.int v5.1), some (.int x11), some (.int (v5.1 &&& (((1 : Int32) <<< (x11 &&& 31)) ^^^ (-1)))), none, none, none, none]) rfl ?_
        refine r_aload_n F dX12_laysRid_49 rfl ?_
        refine r_get F dX12_laysRid_50 flX12_71 rfl rfl (e_le rfl) (e_lt hnx rfl) ?_
        refine r_iload F dX12_laysRid_53 rfl ?_
        obtain ⟨hg, hz⟩ := e_gd hz
        refine r_iald F dX12_laysRid_55 (i := (v5.1 &&& (((1 : Int32) <<< (x11 &&& 31)) ^^^ (-1)))) rfl (e_le rfl) (e_lt hnx rfl) (e_vp hg) ?_
        refine r_aload_n F dX12_laysRid_56 rfl ?_
        refine r_iload_n F dX12_laysRid_57 rfl ?_
        refine r_iload_n F dX12_laysRid_58 rfl ?_
        obtain ⟨q13, hq14, hz⟩ := e_bd hz
        refine r_callV F dX12_laysRid_59 (b := 72) (dc := 0) (ds := 0) (As := [.int x11, .int p0]) (S0 := [.int (v5.2.1 (tn (v5.1 &&& (((1 : Int32) <<< (x11 &&& 31)) ^^^ (-1)))))]) lkX12_443 mX12_costOut (tX12_costOut_72 hG (la := x_l X) (h := e_up h [(72, o72 a72_0 a72_2 a72_3 a72_4 a72_5 a72_6 a72_7 a72_8 a72_9 a72_10 a72_11 a72_17 a72_18 a72_19 a72_21 a72_22 q1.2.1 a72_31 a72_35 a72_37 a72_38 a72_39 a72_40 a72_41 a72_44 a72_50), (81, o81 q1.2.2.1), (82, o82 q1.2.2.2.1), (83, o83 q1.2.2.2.2.1), (84, o84 q1.2.2.2.2.2.1), (85, o85 q1.2.2.2.2.2.2), (93, o93 v5.2.1), (94, o94 v5.2.2)]) hnx rfl rfl rfl rfl rfl hq14) rfl rfl rfl (e_le rfl) (e_le rfl) (e_le rfl) rfl (ci := 12) e_cl12.1 rfl (e_le rfl) (e_lt hnx rfl) (Nat.zero_le _) (Nat.zero_le _) (e_k ?_)
        refine r_wr0 ?_
        refine r_iadd F dX12_laysRid_62 ?_
        refine r_istore F dX12_laysRid_63 (e_le rfl) (L' := [some (.ref 72), some (.int p0), some (.int v5.1), some (.int x11), some (.int (v5.1 &&& (((1 : Int32) <<< (x11 &&& 31)) ^^^ (-1)))), some (.int ((v5.2.1 (tn (v5.1 &&& (((1 : Int32) <<< (x11 &&& 31)) ^^^ (-1))))) + q13)), none, none, none]) rfl ?_
        refine r_iload_n F dX12_laysRid_65 rfl ?_
        refine r_istore F dX12_laysRid_66 (e_le rfl) (L' := [some (.ref 72), some (.int p0), some (.int v5.1), some (.int x11), some (.int (v5.1 &&& (((1 : Int32) <<< (x11 &&& 31)) ^^^ (-1)))), some (.int ((v5.2.1 (tn (v5.1 &&& (((1 : Int32) <<< (x11 &&& 31)) ^^^ (-1))))) + q13)), some (.int x11), none, none]) rfl ?_
        refine r_iload_n F dX12_laysRid_68 rfl ?_
        refine r_iconst F dX12_laysRid_69 (v := 1) (by decide) ?_
        refine r_iadd F dX12_laysRid_70 ?_
        refine r_istore F dX12_laysRid_71 (e_le rfl) (L' := [some (.ref 72), some (.int p0), some (.int v5.1), some (.int x11), some (.int (v5.1 &&& (((1 : Int32) <<< (x11 &&& 31)) ^^^ (-1)))), some (.int ((v5.2.1 (tn (v5.1 &&& (((1 : Int32) <<< (x11 &&& 31)) ^^^ (-1))))) + q13)), some (.int x11), some (.int (x11 + 1)), none]) rfl ?_
        obtain ⟨x17, hx18, hz⟩ := e_bd hz
        refine (e_loop_ok (P := fun (v16 : Int32 × Int32 × Int32) => eRun G X 73 [some (.ref 72), some (.int p0), some (.int v5.1), some (.int x11), some (.int (v5.1 &&& (((1 : Int32) <<< (x11 &&& 31)) ^^^ (-1)))), some (.int v16.1), some (.int v16.2.1), some (.int v16.2.2), none] [] h [(72, o72 a72_0 a72_2 a72_3 a72_4 a72_5 a72_6 a72_7 a72_8 a72_9 a72_10 a72_11 a72_17 a72_18 a72_19 a72_21 a72_22 q1.2.1 a72_31 a72_35 a72_37 a72_38 a72_39 a72_40 a72_41 a72_44 a72_50), (81, o81 q1.2.2.1), (82, o82 q1.2.2.2.1), (83, o83 q1.2.2.2.2.1), (84, o84 q1.2.2.2.2.2.1), (85, o85 q1.2.2.2.2.2.2), (93, o93 v5.2.1), (94, o94 v5.2.2)] nx 0 0) (K := fun (x17 : Int32 × Int32) => eRun G X 159 [some (.ref 72), some (.int p0), some (.int v5.1), none, none, some (.int x17.1), some (.int x17.2), none, none] [] h [(72, o72 a72_0 a72_2 a72_3 a72_4 a72_5 a72_6 a72_7 a72_8 a72_9 a72_10 a72_11 a72_17 a72_18 a72_19 a72_21 a72_22 q1.2.1 a72_31 a72_35 a72_37 a72_38 a72_39 a72_40 a72_41 a72_44 a72_50), (81, o81 q1.2.2.1), (82, o82 q1.2.2.2.1), (83, o83 q1.2.2.2.2.1), (84, o84 q1.2.2.2.2.2.1), (85, o85 q1.2.2.2.2.2.2), (93, o93 v5.2.1), (94, o94 v5.2.2)] nx 0 0) ?_ e_fuel ((v5.2.1 (tn (v5.1 &&& (((1 : Int32) <<< (x11 &&& 31)) ^^^ (-1))))) + q13, x11, x11 + 1) x17 hx18 ?_ : _)
        · intro v16 z hz ih hx
          refine r_iload F dX12_laysRid_73 rfl ?_
          refine r_aload_n F dX12_laysRid_75 rfl ?_
          refine r_get F dX12_laysRid_76 flX12_241 rfl rfl (e_le rfl) (e_lt hnx rfl) ?_
          refine r_icmp_ge F dX12_laysRid_79 (tgt := 159) (by decide) (fun hc => ?_) (fun hc => ?_)
          · have hz := e_t hc hz
            refine r_drop 3 (L' := [some (.ref 72), some (.int p0), some (.int v5.1), none, some (.int (v5.1 &&& (((1 : Int32) <<< (x11 &&& 31)) ^^^ (-1)))), some (.int v16.1), some (.int v16.2.1), some (.int v16.2.2), none]) rfl ?_
            refine r_drop 4 (L' := [some (.ref 72), some (.int p0), some (.int v5.1), none, none, some (.int v16.1), some (.int v16.2.1), some (.int v16.2.2), none]) rfl ?_
            refine r_drop 7 (L' := [some (.ref 72), some (.int p0), some (.int v5.1), none, none, some (.int v16.1), some (.int v16.2.1), none, none]) rfl ?_
            obtain rfl := Option.some.inj hz
            exact hx (v16.1, v16.2.1) rfl
          · have hz := e_f hc hz
            refine r_iload F dX12_laysRid_82 rfl ?_
            refine r_iload F dX12_laysRid_84 rfl ?_
            refine r_ishr F dX12_laysRid_86 ?_
            refine r_iconst F dX12_laysRid_87 (v := 1) (by decide) ?_
            refine r_iand F dX12_laysRid_88 ?_
            refine r_iconst F dX12_laysRid_89 (v := 1) (by decide) ?_
            obtain ⟨q19, hq20, hz⟩ := e_bd hz
            have Jq19 : eRun G X 153 [some (.ref 72), some (.int p0), some (.int v5.1), some (.int x11), some (.int (v5.1 &&& (((1 : Int32) <<< (x11 &&& 31)) ^^^ (-1)))), some (.int q19.1), some (.int q19.2), some (.int v16.2.2), none] [] h [(72, o72 a72_0 a72_2 a72_3 a72_4 a72_5 a72_6 a72_7 a72_8 a72_9 a72_10 a72_11 a72_17 a72_18 a72_19 a72_21 a72_22 q1.2.1 a72_31 a72_35 a72_37 a72_38 a72_39 a72_40 a72_41 a72_44 a72_50), (81, o81 q1.2.2.1), (82, o82 q1.2.2.2.1), (83, o83 q1.2.2.2.2.1), (84, o84 q1.2.2.2.2.2.1), (85, o85 q1.2.2.2.2.2.2), (93, o93 v5.2.1), (94, o94 v5.2.2)] nx 0 0 := by
              refine r_inc F dX12_laysRid_153 (k9 := 1) (by decide) rfl (L' := [some (.ref 72), some (.int p0), some (.int v5.1), some (.int x11), some (.int (v5.1 &&& (((1 : Int32) <<< (x11 &&& 31)) ^^^ (-1)))), some (.int q19.1), some (.int q19.2), some (.int (v16.2.2 + 1)), none]) rfl ?_
              refine r_goto F dX12_laysRid_156 (tgt := 73) (by decide) ?_
              obtain rfl := Option.some.inj hz
              exact ih (q19.1, q19.2, v16.2.2 + 1) rfl
            refine r_icmp_ne F dX12_laysRid_90 (tgt := 153) (by decide) (fun hc => ?_) (fun hc => ?_)
            · have hq20 := e_f hc hq20
              obtain rfl := Option.some.inj hq20
              exact Jq19
            · have hq20 := e_t hc hq20
              refine r_aload_n F dX12_laysRid_93 rfl ?_
              refine r_iload_n F dX12_laysRid_94 rfl ?_
              refine r_iload F dX12_laysRid_95 rfl ?_
              obtain ⟨q21, hq22, hq20⟩ := e_bd hq20
              refine r_callV F dX12_laysRid_97 (b := 72) (dc := 0) (ds := 0) (As := [.int x11, .int v16.2.2]) (S0 := []) lkX12_446 mX12_areOpposite (tX12_areOpposite_72 hG (la := x_l X) (h := e_up h [(72, o72 a72_0 a72_2 a72_3 a72_4 a72_5 a72_6 a72_7 a72_8 a72_9 a72_10 a72_11 a72_17 a72_18 a72_19 a72_21 a72_22 q1.2.1 a72_31 a72_35 a72_37 a72_38 a72_39 a72_40 a72_41 a72_44 a72_50), (81, o81 q1.2.2.1), (82, o82 q1.2.2.2.1), (83, o83 q1.2.2.2.2.1), (84, o84 q1.2.2.2.2.2.1), (85, o85 q1.2.2.2.2.2.2), (93, o93 v5.2.1), (94, o94 v5.2.2)]) hnx rfl rfl rfl hq22) rfl rfl rfl (e_le rfl) (e_le rfl) (e_le rfl) rfl (ci := 12) e_cl12.1 rfl (e_le rfl) (e_lt hnx rfl) (Nat.zero_le _) (Nat.zero_le _) (e_k ?_)
              refine r_wr0 ?_
              refine r_z_eq F dX12_laysRid_100 (tgt := 153) (by decide) (fun hc => ?_) (fun hc => ?_)
              · have hq20 := e_t hc hq20
                refine r_aload_n F dX12_laysRid_103 rfl ?_
                refine r_get F dX12_laysRid_104 flX12_71 rfl rfl (e_le rfl) (e_lt hnx rfl) ?_
                refine r_iload F dX12_laysRid_107 rfl ?_
                refine r_iconst F dX12_laysRid_109 (v := 1) (by decide) ?_
                refine r_iload F dX12_laysRid_110 rfl ?_
                refine r_ishl F dX12_laysRid_112 ?_
                refine r_iconst F dX12_laysRid_113 (v := (-1)) (by decide) ?_
                refine r_ixor F dX12_laysRid_114 ?_
                refine r_iand F dX12_laysRid_115 ?_
                obtain ⟨hg, hq20⟩ := e_gd hq20
                refine r_iald F dX12_laysRid_116 (i := ((v5.1 &&& (((1 : Int32) <<< (x11 &&& 31)) ^^^ (-1))) &&& (((1 : Int32) <<< (v16.2.2 &&& 31)) ^^^ (-1)))) rfl (e_le rfl) (e_lt hnx rfl) (e_vp hg) ?_
                refine r_aload_n F dX12_laysRid_117 rfl ?_
                refine r_iload_n F dX12_laysRid_118 rfl ?_
                refine r_iload F dX12_laysRid_119 rfl ?_
                refine r_iload_n F dX12_laysRid_121 rfl ?_
                obtain ⟨q23, hq24, hq20⟩ := e_bd hq20
                refine r_callV F dX12_laysRid_122 (b := 72) (dc := 0) (ds := 0) (As := [.int x11, .int v16.2.2, .int p0]) (S0 := [.int (v5.2.1 (tn ((v5.1 &&& (((1 : Int32) <<< (x11 &&& 31)) ^^^ (-1))) &&& (((1 : Int32) <<< (v16.2.2 &&& 31)) ^^^ (-1)))))]) lkX12_449 mX12_costMeeting (tX12_costMeeting_72 hG (la := x_l X) (h := e_up h [(72, o72 a72_0 a72_2 a72_3 a72_4 a72_5 a72_6 a72_7 a72_8 a72_9 a72_10 a72_11 a72_17 a72_18 a72_19 a72_21 a72_22 q1.2.1 a72_31 a72_35 a72_37 a72_38 a72_39 a72_40 a72_41 a72_44 a72_50), (81, o81 q1.2.2.1), (82, o82 q1.2.2.2.1), (83, o83 q1.2.2.2.2.1), (84, o84 q1.2.2.2.2.2.1), (85, o85 q1.2.2.2.2.2.2), (93, o93 v5.2.1), (94, o94 v5.2.2)]) hnx rfl rfl rfl rfl rfl hq24) rfl rfl rfl (e_le rfl) (e_le rfl) (e_le rfl) rfl (ci := 12) e_cl12.1 rfl (e_le rfl) (e_lt hnx rfl) (Nat.zero_le _) (Nat.zero_le _) (e_k ?_)
                refine r_wr0 ?_
                refine r_iadd F dX12_laysRid_125 ?_
                refine r_istore F dX12_laysRid_126 (e_le rfl) (L' := [some (.ref 72), some (.int p0), some (.int v5.1), some (.int x11), some (.int (v5.1 &&& (((1 : Int32) <<< (x11 &&& 31)) ^^^ (-1)))), some (.int v16.1), some (.int v16.2.1), some (.int v16.2.2), some (.int ((v5.2.1 (tn ((v5.1 &&& (((1 : Int32) <<< (x11 &&& 31)) ^^^ (-1))) &&& (((1 : Int32) <<< (v16.2.2 &&& 31)) ^^^ (-1))))) + q23))]) rfl ?_
                refine r_iload F dX12_laysRid_128 rfl ?_
                refine r_iload F dX12_laysRid_130 rfl ?_
                obtain ⟨q25, hq26, hq20⟩ := e_bd hq20
                have Jq25 : eRun G X 142 [some (.ref 72), some (.int p0), some (.int v5.1), some (.int x11), some (.int (v5.1 &&& (((1 : Int32) <<< (x11 &&& 31)) ^^^ (-1)))), some (.int v16.1), none, some (.int v16.2.2), some (.int ((v5.2.1 (tn ((v5.1 &&& (((1 : Int32) <<< (x11 &&& 31)) ^^^ (-1))) &&& (((1 : Int32) <<< (v16.2.2 &&& 31)) ^^^ (-1))))) + q23))] [.int q25] h [(72, o72 a72_0 a72_2 a72_3 a72_4 a72_5 a72_6 a72_7 a72_8 a72_9 a72_10 a72_11 a72_17 a72_18 a72_19 a72_21 a72_22 q1.2.1 a72_31 a72_35 a72_37 a72_38 a72_39 a72_40 a72_41 a72_44 a72_50), (81, o81 q1.2.2.1), (82, o82 q1.2.2.2.1), (83, o83 q1.2.2.2.2.1), (84, o84 q1.2.2.2.2.2.1), (85, o85 q1.2.2.2.2.2.2), (93, o93 v5.2.1), (94, o94 v5.2.2)] nx 0 0 := by
                  refine r_istore F dX12_laysRid_142 (e_le rfl) (L' := [some (.ref 72), some (.int p0), some (.int v5.1), some (.int x11), some (.int (v5.1 &&& (((1 : Int32) <<< (x11 &&& 31)) ^^^ (-1)))), some (.int v16.1), some (.int q25), some (.int v16.2.2), some (.int ((v5.2.1 (tn ((v5.1 &&& (((1 : Int32) <<< (x11 &&& 31)) ^^^ (-1))) &&& (((1 : Int32) <<< (v16.2.2 &&& 31)) ^^^ (-1))))) + q23))]) rfl ?_
                  refine r_iload F dX12_laysRid_144 rfl ?_
                  refine r_iload F dX12_laysRid_146 rfl ?_
                  obtain ⟨q27, hq28, hq20⟩ := e_bd hq20
                  refine r_callS F dX12_laysRid_148 (dc := 0) (ds := 0) (As := [.int v16.1, .int ((v5.2.1 (tn ((v5.1 &&& (((1 : Int32) <<< (x11 &&& 31)) ^^^ (-1))) &&& (((1 : Int32) <<< (v16.2.2 &&& 31)) ^^^ (-1))))) + q23)]) (S0 := []) lkX12_128 mJ9_min_7cf53 (tJ9_min_7cf53 hG (la := x_l X) (h := e_up h [(72, o72 a72_0 a72_2 a72_3 a72_4 a72_5 a72_6 a72_7 a72_8 a72_9 a72_10 a72_11 a72_17 a72_18 a72_19 a72_21 a72_22 q1.2.1 a72_31 a72_35 a72_37 a72_38 a72_39 a72_40 a72_41 a72_44 a72_50), (81, o81 q1.2.2.1), (82, o82 q1.2.2.2.1), (83, o83 q1.2.2.2.2.1), (84, o84 q1.2.2.2.2.2.1), (85, o85 q1.2.2.2.2.2.2), (93, o93 v5.2.1), (94, o94 v5.2.2)]) hnx  hq28) rfl rfl rfl (e_le rfl) (e_le rfl) (e_le rfl) (Nat.zero_le _) (Nat.zero_le _) (e_k ?_)
                  refine r_wr0 ?_
                  refine r_istore F dX12_laysRid_151 (e_le rfl) (L' := [some (.ref 72), some (.int p0), some (.int v5.1), some (.int x11), some (.int (v5.1 &&& (((1 : Int32) <<< (x11 &&& 31)) ^^^ (-1)))), some (.int q27), some (.int q25), some (.int v16.2.2), some (.int ((v5.2.1 (tn ((v5.1 &&& (((1 : Int32) <<< (x11 &&& 31)) ^^^ (-1))) &&& (((1 : Int32) <<< (v16.2.2 &&& 31)) ^^^ (-1))))) + q23))]) rfl ?_
                  refine r_drop 8 (L' := [some (.ref 72), some (.int p0), some (.int v5.1), some (.int x11), some (.int (v5.1 &&& (((1 : Int32) <<< (x11 &&& 31)) ^^^ (-1)))), some (.int q27), some (.int q25), some (.int v16.2.2), none]) rfl ?_
                  obtain rfl := Option.some.inj hq20
                  exact Jq19
                refine r_icmp_ge F dX12_laysRid_132 (tgt := 140) (by decide) (fun hc => ?_) (fun hc => ?_)
                · have hq26 := e_t hc hq26
                  refine r_iload F dX12_laysRid_140 rfl ?_
                  refine r_drop 6 (L' := [some (.ref 72), some (.int p0), some (.int v5.1), some (.int x11), some (.int (v5.1 &&& (((1 : Int32) <<< (x11 &&& 31)) ^^^ (-1)))), some (.int v16.1), none, some (.int v16.2.2), some (.int ((v5.2.1 (tn ((v5.1 &&& (((1 : Int32) <<< (x11 &&& 31)) ^^^ (-1))) &&& (((1 : Int32) <<< (v16.2.2 &&& 31)) ^^^ (-1))))) + q23))]) rfl ?_
                  obtain rfl := Option.some.inj hq26
                  exact Jq25
                · have hq26 := e_f hc hq26
                  refine r_iload F dX12_laysRid_135 rfl ?_
                  refine r_goto F dX12_laysRid_137 (tgt := 142) (by decide) ?_
                  refine r_drop 6 (L' := [some (.ref 72), some (.int p0), some (.int v5.1), some (.int x11), some (.int (v5.1 &&& (((1 : Int32) <<< (x11 &&& 31)) ^^^ (-1)))), some (.int v16.1), none, some (.int v16.2.2), some (.int ((v5.2.1 (tn ((v5.1 &&& (((1 : Int32) <<< (x11 &&& 31)) ^^^ (-1))) &&& (((1 : Int32) <<< (v16.2.2 &&& 31)) ^^^ (-1))))) + q23))]) rfl ?_
                  obtain rfl := Option.some.inj hq26
                  exact Jq25
              · have hq20 := e_f hc hq20
                obtain rfl := Option.some.inj hq20
                exact Jq19
        · show eRun G X 159 [some (.ref 72), some (.int p0), some (.int v5.1), none, none, some (.int x17.1), some (.int x17.2), none, none] [] h [(72, o72 a72_0 a72_2 a72_3 a72_4 a72_5 a72_6 a72_7 a72_8 a72_9 a72_10 a72_11 a72_17 a72_18 a72_19 a72_21 a72_22 q1.2.1 a72_31 a72_35 a72_37 a72_38 a72_39 a72_40 a72_41 a72_44 a72_50), (81, o81 q1.2.2.1), (82, o82 q1.2.2.2.1), (83, o83 q1.2.2.2.2.1), (84, o84 q1.2.2.2.2.2.1), (85, o85 q1.2.2.2.2.2.2), (93, o93 v5.2.1), (94, o94 v5.2.2)] nx 0 0
          refine r_aload_n F dX12_laysRid_159 rfl ?_
          refine r_get F dX12_laysRid_160 flX12_71 rfl rfl (e_le rfl) (e_lt hnx rfl) ?_
          refine r_iload_n F dX12_laysRid_163 rfl ?_
          refine r_iload F dX12_laysRid_164 rfl ?_
          obtain ⟨hg, hz⟩ := e_gd hz
          refine r_iast F dX12_laysRid_166 rfl (e_le rfl) (e_lt hnx rfl) (e_vp hg) (l' := [(72, o72 a72_0 a72_2 a72_3 a72_4 a72_5 a72_6 a72_7 a72_8 a72_9 a72_10 a72_11 a72_17 a72_18 a72_19 a72_21 a72_22 q1.2.1 a72_31 a72_35 a72_37 a72_38 a72_39 a72_40 a72_41 a72_44 a72_50), (81, o81 q1.2.2.1), (82, o82 q1.2.2.2.1), (83, o83 q1.2.2.2.2.1), (84, o84 q1.2.2.2.2.2.1), (85, o85 q1.2.2.2.2.2.2), (93, o93 (upd v5.2.1 (tn v5.1) x17.1)), (94, o94 v5.2.2)]) rfl ?_
          refine r_aload_n F dX12_laysRid_167 rfl ?_
          refine r_get F dX12_laysRid_168 flX12_74 rfl rfl (e_le rfl) (e_lt hnx rfl) ?_
          refine r_iload_n F dX12_laysRid_171 rfl ?_
          refine r_iload F dX12_laysRid_172 rfl ?_
          obtain ⟨hg, hz⟩ := e_gd hz
          refine r_iast F dX12_laysRid_174 rfl (e_le rfl) (e_lt hnx rfl) (e_vp hg) (l' := [(72, o72 a72_0 a72_2 a72_3 a72_4 a72_5 a72_6 a72_7 a72_8 a72_9 a72_10 a72_11 a72_17 a72_18 a72_19 a72_21 a72_22 q1.2.1 a72_31 a72_35 a72_37 a72_38 a72_39 a72_40 a72_41 a72_44 a72_50), (81, o81 q1.2.2.1), (82, o82 q1.2.2.2.1), (83, o83 q1.2.2.2.2.1), (84, o84 q1.2.2.2.2.2.1), (85, o85 q1.2.2.2.2.2.2), (93, o93 (upd v5.2.1 (tn v5.1) x17.1)), (94, o94 (upd v5.2.2 (tn v5.1) x17.2))]) rfl ?_
          refine r_inc F dX12_laysRid_175 (k9 := 1) (by decide) rfl (L' := [some (.ref 72), some (.int p0), some (.int (v5.1 + 1)), none, none, some (.int x17.1), some (.int x17.2), none, none]) rfl ?_
          refine r_goto F dX12_laysRid_178 (tgt := 14) (by decide) ?_
          refine r_drop 5 (L' := [some (.ref 72), some (.int p0), some (.int (v5.1 + 1)), none, none, none, some (.int x17.2), none, none]) rfl ?_
          refine r_drop 6 (L' := [some (.ref 72), some (.int p0), some (.int (v5.1 + 1)), none, none, none, none, none, none]) rfl ?_
          obtain rfl := Option.some.inj hz
          exact ih (v5.1 + 1, upd v5.2.1 (tn v5.1) x17.1, upd v5.2.2 (tn v5.1) x17.2) rfl
  · show eRun G X 181 [some (.ref 72), none, none, none, none, none, none, none, none] [] h [(72, o72 a72_0 a72_2 a72_3 a72_4 a72_5 a72_6 a72_7 a72_8 a72_9 a72_10 a72_11 a72_17 a72_18 a72_19 a72_21 a72_22 q1.2.1 a72_31 a72_35 a72_37 a72_38 a72_39 a72_40 a72_41 a72_44 a72_50), (81, o81 q1.2.2.1), (82, o82 q1.2.2.2.1), (83, o83 q1.2.2.2.2.1), (84, o84 q1.2.2.2.2.2.1), (85, o85 q1.2.2.2.2.2.2), (93, o93 x6.1), (94, o94 x6.2)] nx 0 0
    refine r_iconst F dX12_laysRid_181 (v := 1) (by decide) ?_
    refine r_aload_n F dX12_laysRid_182 rfl ?_
    refine r_get F dX12_laysRid_183 flX12_241 rfl rfl (e_le rfl) (e_lt hnx rfl) ?_
    refine r_ishl F dX12_laysRid_186 ?_
    refine r_iconst F dX12_laysRid_187 (v := 1) (by decide) ?_
    refine r_isub F dX12_laysRid_188 ?_
    refine r_istore_n F dX12_laysRid_189 (e_le rfl) (L' := [some (.ref 72), none, some (.int (((1 : Int32) <<< (q1.2.1 &&& 31)) - 1)), none, none, none, none, none, none]) rfl ?_
    refine r_iconst F dX12_laysRid_190 (v := 0) (by decide) ?_
    refine r_istore_n F dX12_laysRid_191 (e_le rfl) (L' := [some (.ref 72), none, some (.int (((1 : Int32) <<< (q1.2.1 &&& 31)) - 1)), some (.int 0), none, none, none, none, none]) rfl ?_
    refine r_mat (k := 95) h95 (l' := [(72, o72 a72_0 a72_2 a72_3 a72_4 a72_5 a72_6 a72_7 a72_8 a72_9 a72_10 a72_11 a72_17 a72_18 a72_19 a72_21 a72_22 q1.2.1 a72_31 a72_35 a72_37 a72_38 a72_39 a72_40 a72_41 a72_44 a72_50), (81, o81 q1.2.2.1), (82, o82 q1.2.2.2.1), (83, o83 q1.2.2.2.2.1), (84, o84 q1.2.2.2.2.2.1), (85, o85 q1.2.2.2.2.2.2), (93, o93 x6.1), (94, o94 x6.2), (95, o95 A95)]) rfl ?_
    obtain ⟨x32, hx33, hf⟩ := e_bd hf
    refine (e_loop_ok (P := fun (v31 : Int32 × Int32 × (Nat → Int32)) => eRun G X 192 [some (.ref 72), none, some (.int v31.1), some (.int v31.2.1), none, none, none, none, none] [] h [(72, o72 a72_0 a72_2 a72_3 a72_4 a72_5 a72_6 a72_7 a72_8 a72_9 a72_10 a72_11 a72_17 a72_18 a72_19 a72_21 a72_22 q1.2.1 a72_31 a72_35 a72_37 a72_38 a72_39 a72_40 a72_41 a72_44 a72_50), (81, o81 q1.2.2.1), (82, o82 q1.2.2.2.1), (83, o83 q1.2.2.2.2.1), (84, o84 q1.2.2.2.2.2.1), (85, o85 q1.2.2.2.2.2.2), (93, o93 x6.1), (94, o94 x6.2), (95, o95 v31.2.2)] nx 0 0) (K := fun (x32 : (Nat → Int32)) => eRun G X 254 [some (.ref 72), none, none, none, none, none, none, none, none] [] h [(72, o72 a72_0 a72_2 a72_3 a72_4 a72_5 a72_6 a72_7 a72_8 a72_9 a72_10 a72_11 a72_17 a72_18 a72_19 a72_21 a72_22 q1.2.1 a72_31 a72_35 a72_37 a72_38 a72_39 a72_40 a72_41 a72_44 a72_50), (81, o81 q1.2.2.1), (82, o82 q1.2.2.2.1), (83, o83 q1.2.2.2.2.1), (84, o84 q1.2.2.2.2.2.1), (85, o85 q1.2.2.2.2.2.2), (93, o93 x6.1), (94, o94 x6.2), (95, o95 x32)] nx 0 0) ?_ e_fuel (((1 : Int32) <<< (q1.2.1 &&& 31)) - 1, 0, A95) x32 hx33 ?_ : _)
    · intro v31 z hz ih hx
      refine r_iload_n F dX12_laysRid_192 rfl ?_
      refine r_aload_n F dX12_laysRid_193 rfl ?_
      refine r_get F dX12_laysRid_194 flX12_241 rfl rfl (e_le rfl) (e_lt hnx rfl) ?_
      refine r_icmp_ge F dX12_laysRid_197 (tgt := 254) (by decide) (fun hc => ?_) (fun hc => ?_)
      · have hz := e_t hc hz
        refine r_drop 2 (L' := [some (.ref 72), none, none, some (.int v31.2.1), none, none, none, none, none]) rfl ?_
        refine r_drop 3 (L' := [some (.ref 72), none, none, none, none, none, none, none, none]) rfl ?_
        obtain rfl := Option.some.inj hz
        exact hx v31.2.2 rfl
      · have hz := e_f hc hz
        refine r_iload_n F dX12_laysRid_200 rfl ?_
        refine r_iload_n F dX12_laysRid_201 rfl ?_
        refine r_ishr F dX12_laysRid_202 ?_
        refine r_iconst F dX12_laysRid_203 (v := 1) (by decide) ?_
        refine r_iand F dX12_laysRid_204 ?_
        refine r_iconst F dX12_laysRid_205 (v := 1) (by decide) ?_
        obtain ⟨q34, hq35, hz⟩ := e_bd hz
        have Jq34 : eRun G X 248 [some (.ref 72), none, some (.int q34.1), some (.int v31.2.1), none, none, none, none, none] [] h [(72, o72 a72_0 a72_2 a72_3 a72_4 a72_5 a72_6 a72_7 a72_8 a72_9 a72_10 a72_11 a72_17 a72_18 a72_19 a72_21 a72_22 q1.2.1 a72_31 a72_35 a72_37 a72_38 a72_39 a72_40 a72_41 a72_44 a72_50), (81, o81 q1.2.2.1), (82, o82 q1.2.2.2.1), (83, o83 q1.2.2.2.2.1), (84, o84 q1.2.2.2.2.2.1), (85, o85 q1.2.2.2.2.2.2), (93, o93 x6.1), (94, o94 x6.2), (95, o95 q34.2)] nx 0 0 := by
          refine r_inc F dX12_laysRid_248 (k9 := 1) (by decide) rfl (L' := [some (.ref 72), none, some (.int q34.1), some (.int (v31.2.1 + 1)), none, none, none, none, none]) rfl ?_
          refine r_goto F dX12_laysRid_251 (tgt := 192) (by decide) ?_
          obtain rfl := Option.some.inj hz
          exact ih (q34.1, v31.2.1 + 1, q34.2) rfl
        refine r_icmp_ne F dX12_laysRid_206 (tgt := 248) (by decide) (fun hc => ?_) (fun hc => ?_)
        · have hq35 := e_f hc hq35
          obtain rfl := Option.some.inj hq35
          exact Jq34
        · have hq35 := e_t hc hq35
          refine r_aload_n F dX12_laysRid_209 rfl ?_
          refine r_get F dX12_laysRid_210 flX12_74 rfl rfl (e_le rfl) (e_lt hnx rfl) ?_
          refine r_iload_n F dX12_laysRid_213 rfl ?_
          obtain ⟨hg, hq35⟩ := e_gd hq35
          refine r_iald F dX12_laysRid_214 (i := v31.1) rfl (e_le rfl) (e_lt hnx rfl) (e_vp hg) ?_
          refine r_istore F dX12_laysRid_215 (e_le rfl) (L' := [some (.ref 72), none, some (.int v31.1), some (.int v31.2.1), some (.int (x6.2 (tn v31.1))), none, none, none, none]) rfl ?_
          refine r_aload_n F dX12_laysRid_217 rfl ?_
          refine r_get F dX12_laysRid_218 flX12_77 rfl rfl (e_le rfl) (e_lt hnx rfl) ?_
          refine r_iload_n F dX12_laysRid_221 rfl ?_
          refine r_iload F dX12_laysRid_222 rfl ?_
          obtain ⟨hg, hq35⟩ := e_gd hq35
          refine r_iast F dX12_laysRid_224 rfl (e_le rfl) (e_lt hnx rfl) (e_vp hg) (l' := [(72, o72 a72_0 a72_2 a72_3 a72_4 a72_5 a72_6 a72_7 a72_8 a72_9 a72_10 a72_11 a72_17 a72_18 a72_19 a72_21 a72_22 q1.2.1 a72_31 a72_35 a72_37 a72_38 a72_39 a72_40 a72_41 a72_44 a72_50), (81, o81 q1.2.2.1), (82, o82 q1.2.2.2.1), (83, o83 q1.2.2.2.2.1), (84, o84 q1.2.2.2.2.2.1), (85, o85 q1.2.2.2.2.2.2), (93, o93 x6.1), (94, o94 x6.2), (95, o95 (upd v31.2.2 (tn v31.2.1) (x6.2 (tn v31.1))))]) rfl ?_
          refine r_aload_n F dX12_laysRid_225 rfl ?_
          refine r_get F dX12_laysRid_226 flX12_77 rfl rfl (e_le rfl) (e_lt hnx rfl) ?_
          refine r_iload F dX12_laysRid_229 rfl ?_
          refine r_iload_n F dX12_laysRid_231 rfl ?_
          obtain ⟨hg, hq35⟩ := e_gd hq35
          refine r_iast F dX12_laysRid_232 rfl (e_le rfl) (e_lt hnx rfl) (e_vp hg) (l' := [(72, o72 a72_0 a72_2 a72_3 a72_4 a72_5 a72_6 a72_7 a72_8 a72_9 a72_10 a72_11 a72_17 a72_18 a72_19 a72_21 a72_22 q1.2.1 a72_31 a72_35 a72_37 a72_38 a72_39 a72_40 a72_41 a72_44 a72_50), (81, o81 q1.2.2.1), (82, o82 q1.2.2.2.1), (83, o83 q1.2.2.2.2.1), (84, o84 q1.2.2.2.2.2.1), (85, o85 q1.2.2.2.2.2.2), (93, o93 x6.1), (94, o94 x6.2), (95, o95 (upd (upd v31.2.2 (tn v31.2.1) (x6.2 (tn v31.1))) (tn (x6.2 (tn v31.1))) v31.2.1))]) rfl ?_
          refine r_iload_n F dX12_laysRid_233 rfl ?_
          refine r_iconst F dX12_laysRid_234 (v := 1) (by decide) ?_
          refine r_iload_n F dX12_laysRid_235 rfl ?_
          refine r_ishl F dX12_laysRid_236 ?_
          refine r_iconst F dX12_laysRid_237 (v := (-1)) (by decide) ?_
          refine r_ixor F dX12_laysRid_238 ?_
          refine r_iconst F dX12_laysRid_239 (v := 1) (by decide) ?_
          refine r_iload F dX12_laysRid_240 rfl ?_
          refine r_ishl F dX12_laysRid_242 ?_
          refine r_iconst F dX12_laysRid_243 (v := (-1)) (by decide) ?_
          refine r_ixor F dX12_laysRid_244 ?_
          refine r_iand F dX12_laysRid_245 ?_
          refine r_iand F dX12_laysRid_246 ?_
          refine r_istore_n F dX12_laysRid_247 (e_le rfl) (L' := [some (.ref 72), none, some (.int (v31.1 &&& ((((1 : Int32) <<< (v31.2.1 &&& 31)) ^^^ (-1)) &&& (((1 : Int32) <<< ((x6.2 (tn v31.1)) &&& 31)) ^^^ (-1))))), some (.int v31.2.1), some (.int (x6.2 (tn v31.1))), none, none, none, none]) rfl ?_
          refine r_drop 4 (L' := [some (.ref 72), none, some (.int (v31.1 &&& ((((1 : Int32) <<< (v31.2.1 &&& 31)) ^^^ (-1)) &&& (((1 : Int32) <<< ((x6.2 (tn v31.1)) &&& 31)) ^^^ (-1))))), some (.int v31.2.1), none, none, none, none, none]) rfl ?_
          obtain rfl := Option.some.inj hq35
          exact Jq34
    · show eRun G X 254 [some (.ref 72), none, none, none, none, none, none, none, none] [] h [(72, o72 a72_0 a72_2 a72_3 a72_4 a72_5 a72_6 a72_7 a72_8 a72_9 a72_10 a72_11 a72_17 a72_18 a72_19 a72_21 a72_22 q1.2.1 a72_31 a72_35 a72_37 a72_38 a72_39 a72_40 a72_41 a72_44 a72_50), (81, o81 q1.2.2.1), (82, o82 q1.2.2.2.1), (83, o83 q1.2.2.2.2.1), (84, o84 q1.2.2.2.2.2.1), (85, o85 q1.2.2.2.2.2.2), (93, o93 x6.1), (94, o94 x6.2), (95, o95 x32)] nx 0 0
      refine r_aload_n F dX12_laysRid_254 rfl ?_
      refine r_get F dX12_laysRid_255 flX12_71 rfl rfl (e_le rfl) (e_lt hnx rfl) ?_
      refine r_iconst F dX12_laysRid_258 (v := 1) (by decide) ?_
      refine r_aload_n F dX12_laysRid_259 rfl ?_
      refine r_get F dX12_laysRid_260 flX12_241 rfl rfl (e_le rfl) (e_lt hnx rfl) ?_
      refine r_ishl F dX12_laysRid_263 ?_
      refine r_iconst F dX12_laysRid_264 (v := 1) (by decide) ?_
      refine r_isub F dX12_laysRid_265 ?_
      obtain ⟨hg, hf⟩ := e_gd hf
      refine r_iald F dX12_laysRid_266 (i := (((1 : Int32) <<< (q1.2.1 &&& 31)) - 1)) rfl (e_le rfl) (e_lt hnx rfl) (e_vp hg) ?_
      obtain rfl := Option.some.inj hf
      exact r_iret F hq dX12_laysRid_267 rfl rfl (Nat.le_refl _) (Nat.le_refl _) ⟨rfl, rfl⟩

def fX12_laysWalls (a72_21 : Int32) (a72_22 : Int32) (a72_44 : Int32) (A79 : Nat → Int32) (A91 : Nat → Int32) (A92 : Nat → Int32)  : Option (Int32 × Int32 × (Nat → Int32) × (Nat → Int32)) :=
  (e_loop (fun (v3 : Int32 × (Nat → Int32)) => (
      if 162 ≤ v3.1 then
        some (.inr v3.2)
      else
        e_g (e_in v3.1 162) (
        some (.inl (v3.1 + 1, upd v3.2 (tn v3.1) v3.1))) : Option ((Int32 × (Nat → Int32)) ⊕ ((Nat → Int32))))) e_fuel (0, A91)).bind (fun x4 =>
  (e_loop (fun (v8 : Bool × (Nat → Int32)) => (
      if v8.1 = true then
        (e_loop (fun (v13 : Bool × Int32 × (Nat → Int32)) => (
            if (a72_22 - 1) ≤ v13.2.1 then
              some (.inr (v13.1, v13.2.2))
            else
              (e_loop (fun (v18 : Bool × Int32 × (Nat → Int32)) => (
                  if (a72_21 - 1) ≤ v18.2.1 then
                    some (.inr (v18.1, v18.2.2))
                  else
                    (fX12_joins a72_21 a72_22 A79 v18.2.2 v18.2.1 v13.2.1).bind (fun q21 =>
                    Option.bind (α := Bool) (
                      if q21.1 = true then
                        some true
                      else
                        if v18.1 = true then
                          some true
                        else
                          some false) (fun q23 =>
                    some (.inl (q23, v18.2.1 + 1, q21.2)))) : Option ((Bool × Int32 × (Nat → Int32)) ⊕ (Bool × (Nat → Int32))))) e_fuel (v13.1, 0, v13.2.2)).bind (fun x19 =>
              some (.inl (x19.1, v13.2.1 + 1, x19.2))) : Option ((Bool × Int32 × (Nat → Int32)) ⊕ (Bool × (Nat → Int32))))) e_fuel (false, 0, v8.2)).bind (fun x14 =>
        some (.inl (x14.1, x14.2)))
      else
        some (.inr v8.2) : Option ((Bool × (Nat → Int32)) ⊕ ((Nat → Int32))))) e_fuel (true, x4)).bind (fun x9 =>
  (e_loop (fun (v27 : Int32 × Int32 × (Nat → Int32)) => (
      if 162 ≤ v27.1 then
        some (.inr (v27.2.1, v27.2.2))
      else
        (fX12_isSlippedAt a72_21 a72_22 A79 v27.1).bind (fun q30 =>
        Option.bind (α := Int32 × (Nat → Int32)) (
          if q30 = true then
            e_g (e_in v27.1 162) (
            if (x9 (tn v27.1)) = v27.1 then
              e_g (e_in v27.2.1 162) (
              some (v27.2.1 + 1, upd v27.2.2 (tn v27.2.1) v27.1))
            else
              some (v27.2.1, v27.2.2))
          else
            some (v27.2.1, v27.2.2)) (fun q32 =>
        some (.inl (v27.1 + 1, q32.1, q32.2)))) : Option ((Int32 × Int32 × (Nat → Int32)) ⊕ (Int32 × (Nat → Int32))))) e_fuel (0, 0, A92)).bind (fun x28 =>
  some (x28.1, x28.1, x9, x28.2))))
set_option maxRecDepth 100000 in
theorem tX12_laysWalls_72 {G : eG} (hG : e_GS G) {la : Launch} {h : Nat → eO} {nx : Nat} (hnx : 99 ≤ nx) {a72_0 : Int32} {a72_2 : Int32} {a72_3 : Int32} {a72_4 : Int32} {a72_5 : Int32} {a72_6 : Int32} {a72_7 : Int32} {a72_8 : Bool} {a72_9 : Int32} {a72_10 : Int32} {a72_11 : Int32} {a72_17 : Bool} {a72_18 : Bool} {a72_19 : Bool} {a72_21 : Int32} {a72_22 : Int32} {a72_29 : Int32} {a72_31 : Int32} {a72_35 : Int32} {a72_37 : Bool} {a72_38 : Int32} {a72_39 : Int32} {a72_40 : Int32} {a72_41 : Int64} {a72_44 : Int32} {a72_50 : Bool} {A79 : Nat → Int32} {A91 : Nat → Int32} {A92 : Nat → Int32}  (h72 : h 72 = o72 a72_0 a72_2 a72_3 a72_4 a72_5 a72_6 a72_7 a72_8 a72_9 a72_10 a72_11 a72_17 a72_18 a72_19 a72_21 a72_22 a72_29 a72_31 a72_35 a72_37 a72_38 a72_39 a72_40 a72_41 a72_44 a72_50) (h79 : h 79 = o79 A79) (h91 : h 91 = o91 A91) (h92 : h 92 = o92 A92) {R9 : Int32 × Int32 × (Nat → Int32) × (Nat → Int32)} (hf : fX12_laysWalls a72_21 a72_22 a72_44 A79 A91 A92  = some R9) :
    eSem G la MX12_laysWalls [.ref 72] h nx 0 0 (fun r9 h9 => r9 = some (.int R9.1) ∧ h9 = e_up h [(72, o72 a72_0 a72_2 a72_3 a72_4 a72_5 a72_6 a72_7 a72_8 a72_9 a72_10 a72_11 a72_17 a72_18 a72_19 a72_21 a72_22 a72_29 a72_31 a72_35 a72_37 a72_38 a72_39 a72_40 a72_41 R9.2.1 a72_50), (91, o91 R9.2.2.1), (92, o92 R9.2.2.2)]) := by
  refine eSem.of (k := 3) (L := [some (.ref 72), none, none, none]) (by decide +kernel) rfl rfl (fun X F hxl hq hcR hsR => ?_)
  subst hxl
  unfold fX12_laysWalls at hf
  refine r_iconst F dX12_laysWalls_0 (v := 0) (by decide) ?_
  refine r_istore_n F dX12_laysWalls_1 (e_le rfl) (L' := [some (.ref 72), some (.int 0), none, none]) rfl ?_
  refine r_mat (k := 91) h91 (l' := [(91, o91 A91)]) rfl ?_
  obtain ⟨x4, hx5, hf⟩ := e_bd hf
  refine (e_loop_ok (P := fun (v3 : Int32 × (Nat → Int32)) => eRun G X 2 [some (.ref 72), some (.int v3.1), none, none] [] h [(91, o91 v3.2)] nx 0 0) (K := fun (x4 : (Nat → Int32)) => eRun G X 22 [some (.ref 72), none, none, none] [] h [(91, o91 x4)] nx 0 0) ?_ e_fuel (0, A91) x4 hx5 ?_ : _)
  · intro v3 z hz ih hx
    refine r_iload_n F dX12_laysWalls_2 rfl ?_
    refine r_sipush F dX12_laysWalls_3 (v := 162) (by decide) ?_
    refine r_icmp_ge F dX12_laysWalls_6 (tgt := 22) (by decide) (fun hc => ?_) (fun hc => ?_)
    · have hz := e_t hc hz
      refine r_drop 1 (L' := [some (.ref 72), none, none, none]) rfl ?_
      obtain rfl := Option.some.inj hz
      exact hx v3.2 rfl
    · have hz := e_f hc hz
      refine r_aload_n F dX12_laysWalls_9 rfl ?_
      refine r_get F dX12_laysWalls_10 flX12_65 h72 rfl (e_le rfl) (e_lt hnx rfl) ?_
      refine r_iload_n F dX12_laysWalls_13 rfl ?_
      refine r_iload_n F dX12_laysWalls_14 rfl ?_
      obtain ⟨hg, hz⟩ := e_gd hz
      refine r_iast F dX12_laysWalls_15 rfl (e_le rfl) (e_lt hnx rfl) (e_vp hg) (l' := [(91, o91 (upd v3.2 (tn v3.1) v3.1))]) rfl ?_
      refine r_inc F dX12_laysWalls_16 (k9 := 1) (by decide) rfl (L' := [some (.ref 72), some (.int (v3.1 + 1)), none, none]) rfl ?_
      refine r_goto F dX12_laysWalls_19 (tgt := 2) (by decide) ?_
      obtain rfl := Option.some.inj hz
      exact ih (v3.1 + 1, upd v3.2 (tn v3.1) v3.1) rfl
  · show eRun G X 22 [some (.ref 72), none, none, none] [] h [(91, o91 x4)] nx 0 0
    refine r_iconst F dX12_laysWalls_22 (v := 1) (by decide) ?_
    refine r_istore_n F dX12_laysWalls_23 (e_le rfl) (L' := [some (.ref 72), some (.int 1), none, none]) rfl ?_
    obtain ⟨x9, hx10, hf⟩ := e_bd hf
    refine (e_loop_ok (P := fun (v8 : Bool × (Nat → Int32)) => eRun G X 24 [some (.ref 72), some (.int (e_b v8.1)), none, none] [] h [(91, o91 v8.2)] nx 0 0) (K := fun (x9 : (Nat → Int32)) => eRun G X 88 [some (.ref 72), none, none, none] [] h [(91, o91 x9)] nx 0 0) ?_ e_fuel (true, x4) x9 hx10 ?_ : _)
    · intro v8 z hz ih hx
      refine r_iload_n F dX12_laysWalls_24 rfl ?_
      refine r_z_eq F dX12_laysWalls_25 (tgt := 88) (by decide) (fun hc => ?_) (fun hc => ?_)
      · have hz := e_t hc hz
        refine r_iconst F dX12_laysWalls_28 (v := 0) (by decide) ?_
        refine r_istore_n F dX12_laysWalls_29 (e_le rfl) (L' := [some (.ref 72), some (.int 0), none, none]) rfl ?_
        refine r_iconst F dX12_laysWalls_30 (v := 0) (by decide) ?_
        refine r_istore_n F dX12_laysWalls_31 (e_le rfl) (L' := [some (.ref 72), some (.int 0), some (.int 0), none]) rfl ?_
        obtain ⟨x14, hx15, hz⟩ := e_bd hz
        refine (e_loop_ok (P := fun (v13 : Bool × Int32 × (Nat → Int32)) => eRun G X 32 [some (.ref 72), some (.int (e_b v13.1)), some (.int v13.2.1), none] [] h [(91, o91 v13.2.2)] nx 0 0) (K := fun (x14 : Bool × (Nat → Int32)) => eRun G X 85 [some (.ref 72), some (.int (e_b x14.1)), none, none] [] h [(91, o91 x14.2)] nx 0 0) ?_ e_fuel (false, 0, v8.2) x14 hx15 ?_ : _)
        · intro v13 z hz ih hx
          refine r_iload_n F dX12_laysWalls_32 rfl ?_
          refine r_aload_n F dX12_laysWalls_33 rfl ?_
          refine r_get F dX12_laysWalls_34 flX12_208 h72 rfl (e_le rfl) (e_lt hnx rfl) ?_
          refine r_iconst F dX12_laysWalls_37 (v := 1) (by decide) ?_
          refine r_isub F dX12_laysWalls_38 ?_
          refine r_icmp_ge F dX12_laysWalls_39 (tgt := 85) (by decide) (fun hc => ?_) (fun hc => ?_)
          · have hz := e_t hc hz
            refine r_drop 2 (L' := [some (.ref 72), some (.int (e_b v13.1)), none, none]) rfl ?_
            obtain rfl := Option.some.inj hz
            exact hx (v13.1, v13.2.2) rfl
          · have hz := e_f hc hz
            refine r_iconst F dX12_laysWalls_42 (v := 0) (by decide) ?_
            refine r_istore_n F dX12_laysWalls_43 (e_le rfl) (L' := [some (.ref 72), some (.int (e_b v13.1)), some (.int v13.2.1), some (.int 0)]) rfl ?_
            obtain ⟨x19, hx20, hz⟩ := e_bd hz
            refine (e_loop_ok (P := fun (v18 : Bool × Int32 × (Nat → Int32)) => eRun G X 44 [some (.ref 72), some (.int (e_b v18.1)), some (.int v13.2.1), some (.int v18.2.1)] [] h [(91, o91 v18.2.2)] nx 0 0) (K := fun (x19 : Bool × (Nat → Int32)) => eRun G X 79 [some (.ref 72), some (.int (e_b x19.1)), some (.int v13.2.1), none] [] h [(91, o91 x19.2)] nx 0 0) ?_ e_fuel (v13.1, 0, v13.2.2) x19 hx20 ?_ : _)
            · intro v18 z hz ih hx
              refine r_iload_n F dX12_laysWalls_44 rfl ?_
              refine r_aload_n F dX12_laysWalls_45 rfl ?_
              refine r_get F dX12_laysWalls_46 flX12_205 h72 rfl (e_le rfl) (e_lt hnx rfl) ?_
              refine r_iconst F dX12_laysWalls_49 (v := 1) (by decide) ?_
              refine r_isub F dX12_laysWalls_50 ?_
              refine r_icmp_ge F dX12_laysWalls_51 (tgt := 79) (by decide) (fun hc => ?_) (fun hc => ?_)
              · have hz := e_t hc hz
                refine r_drop 3 (L' := [some (.ref 72), some (.int (e_b v18.1)), some (.int v13.2.1), none]) rfl ?_
                obtain rfl := Option.some.inj hz
                exact hx (v18.1, v18.2.2) rfl
              · have hz := e_f hc hz
                refine r_aload_n F dX12_laysWalls_54 rfl ?_
                refine r_iload_n F dX12_laysWalls_55 rfl ?_
                refine r_iload_n F dX12_laysWalls_56 rfl ?_
                obtain ⟨q21, hq22, hz⟩ := e_bd hz
                refine r_callV F dX12_laysWalls_57 (b := 72) (dc := 0) (ds := 0) (As := [.int v18.2.1, .int v13.2.1]) (S0 := []) lkX12_428 mX12_joins (tX12_joins_72 hG (la := x_l X) (h := e_up h [(91, o91 v18.2.2)]) hnx h72 h79 rfl hq22) rfl rfl rfl (e_le rfl) (e_le rfl) (e_le rfl) h72 (ci := 12) e_cl12.1 rfl (e_le rfl) (e_lt hnx rfl) (Nat.zero_le _) (Nat.zero_le _) (e_k ?_)
                refine r_wr (l' := [(91, o91 q21.2)]) rfl rfl ?_
                obtain ⟨q23, hq24, hz⟩ := e_bd hz
                have Jq23 : eRun G X 72 [some (.ref 72), none, some (.int v13.2.1), some (.int v18.2.1)] [.int (e_b q23)] h [(91, o91 q21.2)] nx 0 0 := by
                  refine r_istore_n F dX12_laysWalls_72 (e_le rfl) (L' := [some (.ref 72), some (.int (e_b q23)), some (.int v13.2.1), some (.int v18.2.1)]) rfl ?_
                  refine r_inc F dX12_laysWalls_73 (k9 := 1) (by decide) rfl (L' := [some (.ref 72), some (.int (e_b q23)), some (.int v13.2.1), some (.int (v18.2.1 + 1))]) rfl ?_
                  refine r_goto F dX12_laysWalls_76 (tgt := 44) (by decide) ?_
                  obtain rfl := Option.some.inj hz
                  exact ih (q23, v18.2.1 + 1, q21.2) rfl
                refine r_z_ne F dX12_laysWalls_60 (tgt := 67) (by decide) (fun hc => ?_) (fun hc => ?_)
                · have hq24 := e_t hc hq24
                  refine r_iconst F dX12_laysWalls_67 (v := 1) (by decide) ?_
                  refine r_goto F dX12_laysWalls_68 (tgt := 72) (by decide) ?_
                  refine r_drop 1 (L' := [some (.ref 72), none, some (.int v13.2.1), some (.int v18.2.1)]) rfl ?_
                  obtain rfl := Option.some.inj hq24
                  exact Jq23
                · have hq24 := e_f hc hq24
                  refine r_iload_n F dX12_laysWalls_63 rfl ?_
                  refine r_z_eq F dX12_laysWalls_64 (tgt := 71) (by decide) (fun hc => ?_) (fun hc => ?_)
                  · have hq24 := e_t hc hq24
                    refine r_iconst F dX12_laysWalls_67 (v := 1) (by decide) ?_
                    refine r_goto F dX12_laysWalls_68 (tgt := 72) (by decide) ?_
                    refine r_drop 1 (L' := [some (.ref 72), none, some (.int v13.2.1), some (.int v18.2.1)]) rfl ?_
                    obtain rfl := Option.some.inj hq24
                    exact Jq23
                  · have hq24 := e_f hc hq24
                    refine r_iconst F dX12_laysWalls_71 (v := 0) (by decide) ?_
                    refine r_drop 1 (L' := [some (.ref 72), none, some (.int v13.2.1), some (.int v18.2.1)]) rfl ?_
                    obtain rfl := Option.some.inj hq24
                    exact Jq23
            · show eRun G X 79 [some (.ref 72), some (.int (e_b x19.1)), some (.int v13.2.1), none] [] h [(91, o91 x19.2)] nx 0 0
              refine r_inc F dX12_laysWalls_79 (k9 := 1) (by decide) rfl (L' := [some (.ref 72), some (.int (e_b x19.1)), some (.int (v13.2.1 + 1)), none]) rfl ?_
              refine r_goto F dX12_laysWalls_82 (tgt := 32) (by decide) ?_
              obtain rfl := Option.some.inj hz
              exact ih (x19.1, v13.2.1 + 1, x19.2) rfl
        · show eRun G X 85 [some (.ref 72), some (.int (e_b x14.1)), none, none] [] h [(91, o91 x14.2)] nx 0 0
          refine r_goto F dX12_laysWalls_85 (tgt := 24) (by decide) ?_
          obtain rfl := Option.some.inj hz
          exact ih (x14.1, x14.2) rfl
      · have hz := e_f hc hz
        refine r_drop 1 (L' := [some (.ref 72), none, none, none]) rfl ?_
        obtain rfl := Option.some.inj hz
        exact hx v8.2 rfl
    · show eRun G X 88 [some (.ref 72), none, none, none] [] h [(91, o91 x9)] nx 0 0
      refine r_aload_n F dX12_laysWalls_88 rfl ?_
      refine r_iconst F dX12_laysWalls_89 (v := 0) (by decide) ?_
      refine r_put F dX12_laysWalls_90 flX12_431 rfl rfl rfl h72 (e_le rfl) (e_le rfl) (e_lt hnx rfl) (l' := [(72, o72 a72_0 a72_2 a72_3 a72_4 a72_5 a72_6 a72_7 a72_8 a72_9 a72_10 a72_11 a72_17 a72_18 a72_19 a72_21 a72_22 a72_29 a72_31 a72_35 a72_37 a72_38 a72_39 a72_40 a72_41 0 a72_50), (91, o91 x9)]) rfl ?_
      refine r_iconst F dX12_laysWalls_93 (v := 0) (by decide) ?_
      refine r_istore_n F dX12_laysWalls_94 (e_le rfl) (L' := [some (.ref 72), none, some (.int 0), none]) rfl ?_
      refine r_mat (k := 92) h92 (l' := [(72, o72 a72_0 a72_2 a72_3 a72_4 a72_5 a72_6 a72_7 a72_8 a72_9 a72_10 a72_11 a72_17 a72_18 a72_19 a72_21 a72_22 a72_29 a72_31 a72_35 a72_37 a72_38 a72_39 a72_40 a72_41 0 a72_50), (91, o91 x9), (92, o92 A92)]) rfl ?_
      obtain ⟨x28, hx29, hf⟩ := e_bd hf
      refine (e_loop_ok (P := fun (v27 : Int32 × Int32 × (Nat → Int32)) => eRun G X 95 [some (.ref 72), none, some (.int v27.1), none] [] h [(72, o72 a72_0 a72_2 a72_3 a72_4 a72_5 a72_6 a72_7 a72_8 a72_9 a72_10 a72_11 a72_17 a72_18 a72_19 a72_21 a72_22 a72_29 a72_31 a72_35 a72_37 a72_38 a72_39 a72_40 a72_41 v27.2.1 a72_50), (91, o91 x9), (92, o92 v27.2.2)] nx 0 0) (K := fun (x28 : Int32 × (Nat → Int32)) => eRun G X 146 [some (.ref 72), none, none, none] [] h [(72, o72 a72_0 a72_2 a72_3 a72_4 a72_5 a72_6 a72_7 a72_8 a72_9 a72_10 a72_11 a72_17 a72_18 a72_19 a72_21 a72_22 a72_29 a72_31 a72_35 a72_37 a72_38 a72_39 a72_40 a72_41 x28.1 a72_50), (91, o91 x9), (92, o92 x28.2)] nx 0 0) ?_ e_fuel (0, 0, A92) x28 hx29 ?_ : _)
      · intro v27 z hz ih hx
        refine r_iload_n F dX12_laysWalls_95 rfl ?_
        refine r_sipush F dX12_laysWalls_96 (v := 162) (by decide) ?_
        refine r_icmp_ge F dX12_laysWalls_99 (tgt := 146) (by decide) (fun hc => ?_) (fun hc => ?_)
        · have hz := e_t hc hz
          refine r_drop 2 (L' := [some (.ref 72), none, none, none]) rfl ?_
          obtain rfl := Option.some.inj hz
          exact hx (v27.2.1, v27.2.2) rfl
        · have hz := e_f hc hz
          refine r_aload_n F dX12_laysWalls_102 rfl ?_
          refine r_iload_n F dX12_laysWalls_103 rfl ?_
          obtain ⟨q30, hq31, hz⟩ := e_bd hz
          refine r_callV F dX12_laysWalls_104 (b := 72) (dc := 0) (ds := 0) (As := [.int v27.1]) (S0 := []) lkX12_293 mX12_isSlippedAt (tX12_isSlippedAt_72 hG (la := x_l X) (h := e_up h [(72, o72 a72_0 a72_2 a72_3 a72_4 a72_5 a72_6 a72_7 a72_8 a72_9 a72_10 a72_11 a72_17 a72_18 a72_19 a72_21 a72_22 a72_29 a72_31 a72_35 a72_37 a72_38 a72_39 a72_40 a72_41 v27.2.1 a72_50), (91, o91 x9), (92, o92 v27.2.2)]) hnx rfl h79 hq31) rfl rfl rfl (e_le rfl) (e_le rfl) (e_le rfl) rfl (ci := 12) e_cl12.1 rfl (e_le rfl) (e_lt hnx rfl) (Nat.zero_le _) (Nat.zero_le _) (e_k ?_)
          refine r_wr0 ?_
          obtain ⟨q32, hq33, hz⟩ := e_bd hz
          have Jq32 : eRun G X 140 [some (.ref 72), none, some (.int v27.1), none] [] h [(72, o72 a72_0 a72_2 a72_3 a72_4 a72_5 a72_6 a72_7 a72_8 a72_9 a72_10 a72_11 a72_17 a72_18 a72_19 a72_21 a72_22 a72_29 a72_31 a72_35 a72_37 a72_38 a72_39 a72_40 a72_41 q32.1 a72_50), (91, o91 x9), (92, o92 q32.2)] nx 0 0 := by
            refine r_inc F dX12_laysWalls_140 (k9 := 1) (by decide) rfl (L' := [some (.ref 72), none, some (.int (v27.1 + 1)), none]) rfl ?_
            refine r_goto F dX12_laysWalls_143 (tgt := 95) (by decide) ?_
            obtain rfl := Option.some.inj hz
            exact ih (v27.1 + 1, q32.1, q32.2) rfl
          refine r_z_eq F dX12_laysWalls_107 (tgt := 140) (by decide) (fun hc => ?_) (fun hc => ?_)
          · have hq33 := e_t hc hq33
            refine r_aload_n F dX12_laysWalls_110 rfl ?_
            refine r_get F dX12_laysWalls_111 flX12_65 rfl rfl (e_le rfl) (e_lt hnx rfl) ?_
            refine r_iload_n F dX12_laysWalls_114 rfl ?_
            obtain ⟨hg, hq33⟩ := e_gd hq33
            refine r_iald F dX12_laysWalls_115 (i := v27.1) rfl (e_le rfl) (e_lt hnx rfl) (e_vp hg) ?_
            refine r_iload_n F dX12_laysWalls_116 rfl ?_
            refine r_icmp_ne F dX12_laysWalls_117 (tgt := 140) (by decide) (fun hc => ?_) (fun hc => ?_)
            · have hq33 := e_f hc hq33
              obtain rfl := Option.some.inj hq33
              exact Jq32
            · have hq33 := e_t hc hq33
              refine r_aload_n F dX12_laysWalls_120 rfl ?_
              refine r_get F dX12_laysWalls_121 flX12_68 rfl rfl (e_le rfl) (e_lt hnx rfl) ?_
              refine r_aload_n F dX12_laysWalls_124 rfl ?_
              refine r_get F dX12_laysWalls_125 flX12_431 rfl rfl (e_le rfl) (e_lt hnx rfl) ?_
              refine r_iload_n F dX12_laysWalls_128 rfl ?_
              obtain ⟨hg, hq33⟩ := e_gd hq33
              refine r_iast F dX12_laysWalls_129 rfl (e_le rfl) (e_lt hnx rfl) (e_vp hg) (l' := [(72, o72 a72_0 a72_2 a72_3 a72_4 a72_5 a72_6 a72_7 a72_8 a72_9 a72_10 a72_11 a72_17 a72_18 a72_19 a72_21 a72_22 a72_29 a72_31 a72_35 a72_37 a72_38 a72_39 a72_40 a72_41 v27.2.1 a72_50), (91, o91 x9), (92, o92 (upd v27.2.2 (tn v27.2.1) v27.1))]) rfl ?_
              refine r_aload_n F dX12_laysWalls_130 rfl ?_
              refine r_dup F dX12_laysWalls_131 rfl ?_
              refine r_get F dX12_laysWalls_132 flX12_431 rfl rfl (e_le rfl) (e_lt hnx rfl) ?_
              refine r_iconst F dX12_laysWalls_135 (v := 1) (by decide) ?_
              refine r_iadd F dX12_laysWalls_136 ?_
              refine r_put F dX12_laysWalls_137 flX12_431 rfl rfl rfl rfl (e_le rfl) (e_le rfl) (e_lt hnx rfl) (l' := [(72, o72 a72_0 a72_2 a72_3 a72_4 a72_5 a72_6 a72_7 a72_8 a72_9 a72_10 a72_11 a72_17 a72_18 a72_19 a72_21 a72_22 a72_29 a72_31 a72_35 a72_37 a72_38 a72_39 a72_40 a72_41 (v27.2.1 + 1) a72_50), (91, o91 x9), (92, o92 (upd v27.2.2 (tn v27.2.1) v27.1))]) rfl ?_
              obtain rfl := Option.some.inj hq33
              exact Jq32
          · have hq33 := e_f hc hq33
            obtain rfl := Option.some.inj hq33
            exact Jq32
      · show eRun G X 146 [some (.ref 72), none, none, none] [] h [(72, o72 a72_0 a72_2 a72_3 a72_4 a72_5 a72_6 a72_7 a72_8 a72_9 a72_10 a72_11 a72_17 a72_18 a72_19 a72_21 a72_22 a72_29 a72_31 a72_35 a72_37 a72_38 a72_39 a72_40 a72_41 x28.1 a72_50), (91, o91 x9), (92, o92 x28.2)] nx 0 0
        refine r_aload_n F dX12_laysWalls_146 rfl ?_
        refine r_get F dX12_laysWalls_147 flX12_431 rfl rfl (e_le rfl) (e_lt hnx rfl) ?_
        obtain rfl := Option.some.inj hf
        exact r_iret F hq dX12_laysWalls_150 rfl rfl (Nat.le_refl _) (Nat.le_refl _) ⟨rfl, rfl⟩

def fX12_nextOn (a72_29 : Int32) (A81 : Nat → Int32) (A82 : Nat → Int32) (p0 : Int32) (p1 : Int32) (p2 : Bool) : Option (Int32) :=
  (e_loop (fun (v3 : Int32 × Int32) => (
      if a72_29 ≤ v3.2 then
        some (.inr v3.1)
      else
        Option.bind (α := Int32) (
          if v3.2 = p0 then
            some v3.1
          else
            (fX12_placeAlong A81 A82 v3.2 ((1 : Int32) - p1)).bind (fun q8 =>
            (fX12_placeAlong A81 A82 p0 ((1 : Int32) - p1)).bind (fun q10 =>
            if q8 = q10 then
              (fX12_placeAlong A81 A82 v3.2 p1).bind (fun q12 =>
              (fX12_placeAlong A81 A82 p0 p1).bind (fun q14 =>
              Option.bind (α := Bool) (
                if q12 ≤ q14 then
                  some false
                else
                  some true) (fun q16 =>
              if (e_b q16) = (e_b p2) then
                Option.bind (α := Bool) (
                  if v3.1 = (-1) then
                    some true
                  else
                    (fX12_placeAlong A81 A82 v3.2 p1).bind (fun q22 =>
                    (fX12_placeAlong A81 A82 v3.1 p1).bind (fun q24 =>
                    Option.bind (α := Bool) (
                      if q24 ≤ q22 then
                        some false
                      else
                        some true) (fun q26 =>
                    if (e_b q26) = (e_b p2) then
                      some true
                    else
                      some false)))) (fun q18 =>
                Option.bind (α := Int32) (
                  if q18 = true then
                    some v3.2
                  else
                    some v3.1) (fun q20 =>
                some q20))
              else
                some v3.1)))
            else
              some v3.1))) (fun q6 =>
        some (.inl (q6, v3.2 + 1))) : Option ((Int32 × Int32) ⊕ (Int32)))) e_fuel ((-1), 0)).bind (fun x4 =>
  some x4)
set_option maxRecDepth 100000 in
theorem tX12_nextOn_72 {G : eG} (hG : e_GS G) {la : Launch} {h : Nat → eO} {nx : Nat} (hnx : 99 ≤ nx) {a72_0 : Int32} {a72_2 : Int32} {a72_3 : Int32} {a72_4 : Int32} {a72_5 : Int32} {a72_6 : Int32} {a72_7 : Int32} {a72_8 : Bool} {a72_9 : Int32} {a72_10 : Int32} {a72_11 : Int32} {a72_17 : Bool} {a72_18 : Bool} {a72_19 : Bool} {a72_21 : Int32} {a72_22 : Int32} {a72_29 : Int32} {a72_31 : Int32} {a72_35 : Int32} {a72_37 : Bool} {a72_38 : Int32} {a72_39 : Int32} {a72_40 : Int32} {a72_41 : Int64} {a72_44 : Int32} {a72_50 : Bool} {A81 : Nat → Int32} {A82 : Nat → Int32} {p0 : Int32} {p1 : Int32} {p2 : Bool} (h72 : h 72 = o72 a72_0 a72_2 a72_3 a72_4 a72_5 a72_6 a72_7 a72_8 a72_9 a72_10 a72_11 a72_17 a72_18 a72_19 a72_21 a72_22 a72_29 a72_31 a72_35 a72_37 a72_38 a72_39 a72_40 a72_41 a72_44 a72_50) (h81 : h 81 = o81 A81) (h82 : h 82 = o82 A82) {R9 : Int32} (hf : fX12_nextOn a72_29 A81 A82 p0 p1 p2 = some R9) :
    eSem G la MX12_nextOn [.ref 72, .int p0, .int p1, .int (e_b p2)] h nx 0 0 (fun r9 h9 => r9 = some (.int R9) ∧ h9 = h) := by
  refine eSem.of (k := 3) (L := [some (.ref 72), some (.int p0), some (.int p1), some (.int (e_b p2)), none, none, none]) (by decide +kernel) rfl rfl (fun X F hxl hq hcR hsR => ?_)
  subst hxl
  unfold fX12_nextOn at hf
  refine r_iconst F dX12_nextOn_0 (v := (-1)) (by decide) ?_
  refine r_istore F dX12_nextOn_1 (e_le rfl) (L' := [some (.ref 72), some (.int p0), some (.int p1), some (.int (e_b p2)), some (.int (-1)), none, none]) rfl ?_
  refine r_iconst F dX12_nextOn_3 (v := 0) (by decide) ?_
  refine r_istore F dX12_nextOn_4 (e_le rfl) (L' := [some (.ref 72), some (.int p0), some (.int p1), some (.int (e_b p2)), some (.int (-1)), some (.int 0), none]) rfl ?_
  obtain ⟨x4, hx5, hf⟩ := e_bd hf
  refine (e_loop_ok (P := fun (v3 : Int32 × Int32) => eRun G X 6 [some (.ref 72), some (.int p0), some (.int p1), some (.int (e_b p2)), some (.int v3.1), some (.int v3.2), none] [] h [] nx 0 0) (K := fun (x4 : Int32) => eRun G X 125 [none, none, none, none, some (.int x4), none, none] [] h [] nx 0 0) ?_ e_fuel ((-1), 0) x4 hx5 ?_ : _)
  · intro v3 z hz ih hx
    refine r_iload F dX12_nextOn_6 rfl ?_
    refine r_aload_n F dX12_nextOn_8 rfl ?_
    refine r_get F dX12_nextOn_9 flX12_241 h72 rfl (e_le rfl) (e_lt hnx rfl) ?_
    refine r_icmp_ge F dX12_nextOn_12 (tgt := 125) (by decide) (fun hc => ?_) (fun hc => ?_)
    · have hz := e_t hc hz
      refine r_drop 0 (L' := [none, some (.int p0), some (.int p1), some (.int (e_b p2)), some (.int v3.1), some (.int v3.2), none]) rfl ?_
      refine r_drop 1 (L' := [none, none, some (.int p1), some (.int (e_b p2)), some (.int v3.1), some (.int v3.2), none]) rfl ?_
      refine r_drop 2 (L' := [none, none, none, some (.int (e_b p2)), some (.int v3.1), some (.int v3.2), none]) rfl ?_
      refine r_drop 3 (L' := [none, none, none, none, some (.int v3.1), some (.int v3.2), none]) rfl ?_
      refine r_drop 5 (L' := [none, none, none, none, some (.int v3.1), none, none]) rfl ?_
      obtain rfl := Option.some.inj hz
      exact hx v3.1 rfl
    · have hz := e_f hc hz
      refine r_iload F dX12_nextOn_15 rfl ?_
      refine r_iload_n F dX12_nextOn_17 rfl ?_
      obtain ⟨q6, hq7, hz⟩ := e_bd hz
      have Jq6 : eRun G X 119 [some (.ref 72), some (.int p0), some (.int p1), some (.int (e_b p2)), some (.int q6), some (.int v3.2), none] [] h [] nx 0 0 := by
        refine r_inc F dX12_nextOn_119 (k9 := 1) (by decide) rfl (L' := [some (.ref 72), some (.int p0), some (.int p1), some (.int (e_b p2)), some (.int q6), some (.int (v3.2 + 1)), none]) rfl ?_
        refine r_goto F dX12_nextOn_122 (tgt := 6) (by decide) ?_
        obtain rfl := Option.some.inj hz
        exact ih (q6, v3.2 + 1) rfl
      refine r_icmp_eq F dX12_nextOn_18 (tgt := 119) (by decide) (fun hc => ?_) (fun hc => ?_)
      · have hq7 := e_t hc hq7
        obtain rfl := Option.some.inj hq7
        exact Jq6
      · have hq7 := e_f hc hq7
        refine r_aload_n F dX12_nextOn_21 rfl ?_
        refine r_iload F dX12_nextOn_22 rfl ?_
        refine r_iconst F dX12_nextOn_24 (v := 1) (by decide) ?_
        refine r_iload_n F dX12_nextOn_25 rfl ?_
        refine r_isub F dX12_nextOn_26 ?_
        obtain ⟨q8, hq9, hq7⟩ := e_bd hq7
        refine r_callV F dX12_nextOn_27 (b := 72) (dc := 0) (ds := 0) (As := [.int v3.2, .int ((1 : Int32) - p1)]) (S0 := []) lkX12_275 mX12_placeAlong (tX12_placeAlong_72 hG (la := x_l X) (h := e_up h []) hnx h72 h81 h82 hq9) rfl rfl rfl (e_le rfl) (e_le rfl) (e_le rfl) h72 (ci := 12) e_cl12.1 rfl (e_le rfl) (e_lt hnx rfl) (Nat.zero_le _) (Nat.zero_le _) (e_k ?_)
        refine r_wr0 ?_
        refine r_aload_n F dX12_nextOn_30 rfl ?_
        refine r_iload_n F dX12_nextOn_31 rfl ?_
        refine r_iconst F dX12_nextOn_32 (v := 1) (by decide) ?_
        refine r_iload_n F dX12_nextOn_33 rfl ?_
        refine r_isub F dX12_nextOn_34 ?_
        obtain ⟨q10, hq11, hq7⟩ := e_bd hq7
        refine r_callV F dX12_nextOn_35 (b := 72) (dc := 0) (ds := 0) (As := [.int p0, .int ((1 : Int32) - p1)]) (S0 := [.int q8]) lkX12_275 mX12_placeAlong (tX12_placeAlong_72 hG (la := x_l X) (h := e_up h []) hnx h72 h81 h82 hq11) rfl rfl rfl (e_le rfl) (e_le rfl) (e_le rfl) h72 (ci := 12) e_cl12.1 rfl (e_le rfl) (e_lt hnx rfl) (Nat.zero_le _) (Nat.zero_le _) (e_k ?_)
        refine r_wr0 ?_
        refine r_icmp_ne F dX12_nextOn_38 (tgt := 119) (by decide) (fun hc => ?_) (fun hc => ?_)
        · have hq7 := e_f hc hq7
          obtain rfl := Option.some.inj hq7
          exact Jq6
        · have hq7 := e_t hc hq7
          refine r_aload_n F dX12_nextOn_41 rfl ?_
          refine r_iload F dX12_nextOn_42 rfl ?_
          refine r_iload_n F dX12_nextOn_44 rfl ?_
          obtain ⟨q12, hq13, hq7⟩ := e_bd hq7
          refine r_callV F dX12_nextOn_45 (b := 72) (dc := 0) (ds := 0) (As := [.int v3.2, .int p1]) (S0 := []) lkX12_275 mX12_placeAlong (tX12_placeAlong_72 hG (la := x_l X) (h := e_up h []) hnx h72 h81 h82 hq13) rfl rfl rfl (e_le rfl) (e_le rfl) (e_le rfl) h72 (ci := 12) e_cl12.1 rfl (e_le rfl) (e_lt hnx rfl) (Nat.zero_le _) (Nat.zero_le _) (e_k ?_)
          refine r_wr0 ?_
          refine r_aload_n F dX12_nextOn_48 rfl ?_
          refine r_iload_n F dX12_nextOn_49 rfl ?_
          refine r_iload_n F dX12_nextOn_50 rfl ?_
          obtain ⟨q14, hq15, hq7⟩ := e_bd hq7
          refine r_callV F dX12_nextOn_51 (b := 72) (dc := 0) (ds := 0) (As := [.int p0, .int p1]) (S0 := [.int q12]) lkX12_275 mX12_placeAlong (tX12_placeAlong_72 hG (la := x_l X) (h := e_up h []) hnx h72 h81 h82 hq15) rfl rfl rfl (e_le rfl) (e_le rfl) (e_le rfl) h72 (ci := 12) e_cl12.1 rfl (e_le rfl) (e_lt hnx rfl) (Nat.zero_le _) (Nat.zero_le _) (e_k ?_)
          refine r_wr0 ?_
          obtain ⟨q16, hq17, hq7⟩ := e_bd hq7
          have Jq16 : eRun G X 62 [some (.ref 72), some (.int p0), some (.int p1), some (.int (e_b p2)), some (.int v3.1), some (.int v3.2), none] [.int (e_b q16)] h [] nx 0 0 := by
            refine r_iload_n F dX12_nextOn_62 rfl ?_
            refine r_icmp_ne F dX12_nextOn_63 (tgt := 119) (by decide) (fun hc => ?_) (fun hc => ?_)
            · have hq7 := e_f hc hq7
              obtain rfl := Option.some.inj hq7
              exact Jq6
            · have hq7 := e_t hc hq7
              refine r_iload F dX12_nextOn_66 rfl ?_
              refine r_iconst F dX12_nextOn_68 (v := (-1)) (by decide) ?_
              obtain ⟨q18, hq19, hq7⟩ := e_bd hq7
              have Jq18 : eRun G X 103 [some (.ref 72), some (.int p0), some (.int p1), some (.int (e_b p2)), some (.int v3.1), some (.int v3.2), none] [.int (e_b q18)] h [] nx 0 0 := by
                refine r_istore F dX12_nextOn_103 (e_le rfl) (L' := [some (.ref 72), some (.int p0), some (.int p1), some (.int (e_b p2)), some (.int v3.1), some (.int v3.2), some (.int (e_b q18))]) rfl ?_
                refine r_iload F dX12_nextOn_105 rfl ?_
                obtain ⟨q20, hq21, hq7⟩ := e_bd hq7
                have Jq20 : eRun G X 117 [some (.ref 72), some (.int p0), some (.int p1), some (.int (e_b p2)), none, some (.int v3.2), none] [.int q20] h [] nx 0 0 := by
                  refine r_istore F dX12_nextOn_117 (e_le rfl) (L' := [some (.ref 72), some (.int p0), some (.int p1), some (.int (e_b p2)), some (.int q20), some (.int v3.2), none]) rfl ?_
                  obtain rfl := Option.some.inj hq7
                  exact Jq6
                refine r_z_eq F dX12_nextOn_107 (tgt := 115) (by decide) (fun hc => ?_) (fun hc => ?_)
                · have hq21 := e_t hc hq21
                  refine r_iload F dX12_nextOn_110 rfl ?_
                  refine r_goto F dX12_nextOn_112 (tgt := 117) (by decide) ?_
                  refine r_drop 4 (L' := [some (.ref 72), some (.int p0), some (.int p1), some (.int (e_b p2)), none, some (.int v3.2), some (.int (e_b q18))]) rfl ?_
                  refine r_drop 6 (L' := [some (.ref 72), some (.int p0), some (.int p1), some (.int (e_b p2)), none, some (.int v3.2), none]) rfl ?_
                  obtain rfl := Option.some.inj hq21
                  exact Jq20
                · have hq21 := e_f hc hq21
                  refine r_iload F dX12_nextOn_115 rfl ?_
                  refine r_drop 4 (L' := [some (.ref 72), some (.int p0), some (.int p1), some (.int (e_b p2)), none, some (.int v3.2), some (.int (e_b q18))]) rfl ?_
                  refine r_drop 6 (L' := [some (.ref 72), some (.int p0), some (.int p1), some (.int (e_b p2)), none, some (.int v3.2), none]) rfl ?_
                  obtain rfl := Option.some.inj hq21
                  exact Jq20
              refine r_icmp_eq F dX12_nextOn_69 (tgt := 98) (by decide) (fun hc => ?_) (fun hc => ?_)
              · have hq19 := e_t hc hq19
                refine r_iconst F dX12_nextOn_98 (v := 1) (by decide) ?_
                refine r_goto F dX12_nextOn_99 (tgt := 103) (by decide) ?_
                obtain rfl := Option.some.inj hq19
                exact Jq18
              · have hq19 := e_f hc hq19
                refine r_aload_n F dX12_nextOn_72 rfl ?_
                refine r_iload F dX12_nextOn_73 rfl ?_
                refine r_iload_n F dX12_nextOn_75 rfl ?_
                obtain ⟨q22, hq23, hq19⟩ := e_bd hq19
                refine r_callV F dX12_nextOn_76 (b := 72) (dc := 0) (ds := 0) (As := [.int v3.2, .int p1]) (S0 := []) lkX12_275 mX12_placeAlong (tX12_placeAlong_72 hG (la := x_l X) (h := e_up h []) hnx h72 h81 h82 hq23) rfl rfl rfl (e_le rfl) (e_le rfl) (e_le rfl) h72 (ci := 12) e_cl12.1 rfl (e_le rfl) (e_lt hnx rfl) (Nat.zero_le _) (Nat.zero_le _) (e_k ?_)
                refine r_wr0 ?_
                refine r_aload_n F dX12_nextOn_79 rfl ?_
                refine r_iload F dX12_nextOn_80 rfl ?_
                refine r_iload_n F dX12_nextOn_82 rfl ?_
                obtain ⟨q24, hq25, hq19⟩ := e_bd hq19
                refine r_callV F dX12_nextOn_83 (b := 72) (dc := 0) (ds := 0) (As := [.int v3.1, .int p1]) (S0 := [.int q22]) lkX12_275 mX12_placeAlong (tX12_placeAlong_72 hG (la := x_l X) (h := e_up h []) hnx h72 h81 h82 hq25) rfl rfl rfl (e_le rfl) (e_le rfl) (e_le rfl) h72 (ci := 12) e_cl12.1 rfl (e_le rfl) (e_lt hnx rfl) (Nat.zero_le _) (Nat.zero_le _) (e_k ?_)
                refine r_wr0 ?_
                obtain ⟨q26, hq27, hq19⟩ := e_bd hq19
                have Jq26 : eRun G X 94 [some (.ref 72), some (.int p0), some (.int p1), some (.int (e_b p2)), some (.int v3.1), some (.int v3.2), none] [.int (e_b q26)] h [] nx 0 0 := by
                  refine r_iload_n F dX12_nextOn_94 rfl ?_
                  refine r_icmp_ne F dX12_nextOn_95 (tgt := 102) (by decide) (fun hc => ?_) (fun hc => ?_)
                  · have hq19 := e_f hc hq19
                    refine r_iconst F dX12_nextOn_102 (v := 0) (by decide) ?_
                    obtain rfl := Option.some.inj hq19
                    exact Jq18
                  · have hq19 := e_t hc hq19
                    refine r_iconst F dX12_nextOn_98 (v := 1) (by decide) ?_
                    refine r_goto F dX12_nextOn_99 (tgt := 103) (by decide) ?_
                    obtain rfl := Option.some.inj hq19
                    exact Jq18
                refine r_icmp_ge F dX12_nextOn_86 (tgt := 93) (by decide) (fun hc => ?_) (fun hc => ?_)
                · have hq27 := e_t hc hq27
                  refine r_iconst F dX12_nextOn_93 (v := 0) (by decide) ?_
                  obtain rfl := Option.some.inj hq27
                  exact Jq26
                · have hq27 := e_f hc hq27
                  refine r_iconst F dX12_nextOn_89 (v := 1) (by decide) ?_
                  refine r_goto F dX12_nextOn_90 (tgt := 94) (by decide) ?_
                  obtain rfl := Option.some.inj hq27
                  exact Jq26
          refine r_icmp_le F dX12_nextOn_54 (tgt := 61) (by decide) (fun hc => ?_) (fun hc => ?_)
          · have hq17 := e_t hc hq17
            refine r_iconst F dX12_nextOn_61 (v := 0) (by decide) ?_
            obtain rfl := Option.some.inj hq17
            exact Jq16
          · have hq17 := e_f hc hq17
            refine r_iconst F dX12_nextOn_57 (v := 1) (by decide) ?_
            refine r_goto F dX12_nextOn_58 (tgt := 62) (by decide) ?_
            obtain rfl := Option.some.inj hq17
            exact Jq16
  · show eRun G X 125 [none, none, none, none, some (.int x4), none, none] [] h [] nx 0 0
    refine r_iload F dX12_nextOn_125 rfl ?_
    obtain rfl := Option.some.inj hf
    exact r_iret F hq dX12_nextOn_127 rfl rfl (Nat.le_refl _) (Nat.le_refl _) ⟨rfl, rfl⟩

def fX12_line (a72_0 : Int32) (a72_21 : Int32) (a72_22 : Int32) (a72_29 : Int32) (A79 : Nat → Int32) (A80 : Nat → Int32) (A81 : Nat → Int32) (A82 : Nat → Int32) (A83 : Nat → Int32) (A84 : Nat → Int32) (A85 : Nat → Int32) (p0 : Int32) (p1 : Int32) : Option (Int32 × Int32 × Int32 × (Nat → Int32) × (Nat → Int32) × (Nat → Int32) × (Nat → Int32) × (Nat → Int32)) :=
  (fX12_isCrystal a72_21).bind (fun q1 =>
  if q1 = true then
    (fX12_in (Int32.toInt64 p1) 0 3).bind (fun q3 =>
    if q3 = true then
      (fX12_laysCores a72_21 a72_22 a72_29 A79 A80 A81 A82 A83 A84 A85).bind (fun q5 =>
      (fX12_in (Int32.toInt64 p0) 0 (Int32.toInt64 (q5.2.1 - 1))).bind (fun q7 =>
      if q7 = true then
        (fX12_way q5.2.2.2.2.1 q5.2.2.2.2.2.1 p0).bind (fun q9 =>
        if q9 = (-1) then
          some ((-1000000), 0, q5.2.1, q5.2.2.1, q5.2.2.2.1, q5.2.2.2.2.1, q5.2.2.2.2.2.1, q5.2.2.2.2.2.2)
        else
          (fX12_way q5.2.2.2.2.1 q5.2.2.2.2.2.1 p0).bind (fun q11 =>
          Option.bind (α := Bool) (
            if 2 ≤ p1 then
              some false
            else
              some true) (fun q13 =>
          (fX12_nextOn q5.2.1 q5.2.2.1 q5.2.2.2.1 p0 q11 q13).bind (fun q15 =>
          if q15 = (-1) then
            some (q15, 0, q5.2.1, q5.2.2.1, q5.2.2.2.1, q5.2.2.2.2.1, q5.2.2.2.2.2.1, q5.2.2.2.2.2.2)
          else
            if (p1 - p1 / 2 * 2) = 0 then
              some (q15, 0, q5.2.1, q5.2.2.1, q5.2.2.2.1, q5.2.2.2.2.1, q5.2.2.2.2.2.1, q5.2.2.2.2.2.2)
            else
              (fX12_placeAlong q5.2.2.1 q5.2.2.2.1 q15 q11).bind (fun q17 =>
              (fX12_placeAlong q5.2.2.1 q5.2.2.2.1 p0 q11).bind (fun q19 =>
              (fJ9_abs_0f7a4 (q17 - q19)).bind (fun q21 =>
              some (q21, 0, q5.2.1, q5.2.2.1, q5.2.2.2.1, q5.2.2.2.2.1, q5.2.2.2.2.2.1, q5.2.2.2.2.2.2))))))))
      else
        some ((-1000000), 0, q5.2.1, q5.2.2.1, q5.2.2.2.1, q5.2.2.2.2.1, q5.2.2.2.2.2.1, q5.2.2.2.2.2.2)))
    else
      some ((-1000000), 0, a72_29, A81, A82, A83, A84, A85))
  else
    some ((-1000000), 0, a72_29, A81, A82, A83, A84, A85))
set_option maxRecDepth 100000 in
theorem tX12_line_72 {G : eG} (hG : e_GS G) {la : Launch} {h : Nat → eO} {nx : Nat} (hnx : 99 ≤ nx) {a72_0 : Int32} {a72_2 : Int32} {a72_3 : Int32} {a72_4 : Int32} {a72_5 : Int32} {a72_6 : Int32} {a72_7 : Int32} {a72_8 : Bool} {a72_9 : Int32} {a72_10 : Int32} {a72_11 : Int32} {a72_17 : Bool} {a72_18 : Bool} {a72_19 : Bool} {a72_21 : Int32} {a72_22 : Int32} {a72_29 : Int32} {a72_31 : Int32} {a72_35 : Int32} {a72_37 : Bool} {a72_38 : Int32} {a72_39 : Int32} {a72_40 : Int32} {a72_41 : Int64} {a72_44 : Int32} {a72_50 : Bool} {A79 : Nat → Int32} {A80 : Nat → Int32} {A81 : Nat → Int32} {A82 : Nat → Int32} {A83 : Nat → Int32} {A84 : Nat → Int32} {A85 : Nat → Int32} {p0 : Int32} {p1 : Int32} (h72 : h 72 = o72 a72_0 a72_2 a72_3 a72_4 a72_5 a72_6 a72_7 a72_8 a72_9 a72_10 a72_11 a72_17 a72_18 a72_19 a72_21 a72_22 a72_29 a72_31 a72_35 a72_37 a72_38 a72_39 a72_40 a72_41 a72_44 a72_50) (h79 : h 79 = o79 A79) (h80 : h 80 = o80 A80) (h81 : h 81 = o81 A81) (h82 : h 82 = o82 A82) (h83 : h 83 = o83 A83) (h84 : h 84 = o84 A84) (h85 : h 85 = o85 A85) {R9 : Int32 × Int32 × Int32 × (Nat → Int32) × (Nat → Int32) × (Nat → Int32) × (Nat → Int32) × (Nat → Int32)} (hf : fX12_line a72_0 a72_21 a72_22 a72_29 A79 A80 A81 A82 A83 A84 A85 p0 p1 = some R9) :
    eSem G la MX12_line [.ref 72, .int p0, .int p1] h nx 0 0 (fun r9 h9 => r9 = some (.int R9.1) ∧ h9 = e_up h [(72, o72 R9.2.1 a72_2 a72_3 a72_4 a72_5 a72_6 a72_7 a72_8 a72_9 a72_10 a72_11 a72_17 a72_18 a72_19 a72_21 a72_22 R9.2.2.1 a72_31 a72_35 a72_37 a72_38 a72_39 a72_40 a72_41 a72_44 a72_50), (81, o81 R9.2.2.2.1), (82, o82 R9.2.2.2.2.1), (83, o83 R9.2.2.2.2.2.1), (84, o84 R9.2.2.2.2.2.2.1), (85, o85 R9.2.2.2.2.2.2.2)]) := by
  refine eSem.of (k := 2) (L := [some (.ref 72), some (.int p0), some (.int p1), none, none]) (by decide +kernel) rfl rfl (fun X F hxl hq hcR hsR => ?_)
  subst hxl
  unfold fX12_line at hf
  refine r_aload_n F dX12_line_0 rfl ?_
  refine r_iconst F dX12_line_1 (v := 0) (by decide) ?_
  refine r_put F dX12_line_2 flX12_86 rfl rfl rfl h72 (e_le rfl) (e_le rfl) (e_lt hnx rfl) (l' := [(72, o72 0 a72_2 a72_3 a72_4 a72_5 a72_6 a72_7 a72_8 a72_9 a72_10 a72_11 a72_17 a72_18 a72_19 a72_21 a72_22 a72_29 a72_31 a72_35 a72_37 a72_38 a72_39 a72_40 a72_41 a72_44 a72_50)]) rfl ?_
  refine r_aload_n F dX12_line_5 rfl ?_
  obtain ⟨q1, hq2, hf⟩ := e_bd hf
  refine r_callV F dX12_line_6 (b := 72) (dc := 0) (ds := 0) (As := []) (S0 := []) lkX12_306 mX12_isCrystal (tX12_isCrystal_72 hG (la := x_l X) (h := e_up h [(72, o72 0 a72_2 a72_3 a72_4 a72_5 a72_6 a72_7 a72_8 a72_9 a72_10 a72_11 a72_17 a72_18 a72_19 a72_21 a72_22 a72_29 a72_31 a72_35 a72_37 a72_38 a72_39 a72_40 a72_41 a72_44 a72_50)]) hnx rfl hq2) rfl rfl rfl (e_le rfl) (e_le rfl) (e_le rfl) rfl (ci := 12) e_cl12.1 rfl (e_le rfl) (e_lt hnx rfl) (Nat.zero_le _) (Nat.zero_le _) (e_k ?_)
  refine r_wr0 ?_
  refine r_z_eq F dX12_line_9 (tgt := 24) (by decide) (fun hc => ?_) (fun hc => ?_)
  · have hf := e_t hc hf
    refine r_iload_n F dX12_line_12 rfl ?_
    refine r_i2l F dX12_line_13 ?_
    refine r_lconst F dX12_line_14 (v := 0) (by decide) ?_
    refine r_ldc2 F dX12_line_15 klX12_291 ?_
    obtain ⟨q3, hq4, hf⟩ := e_bd hf
    refine r_callS F dX12_line_18 (dc := 0) (ds := 0) (As := [.long (Int32.toInt64 p1), .long 0, .long 3]) (S0 := []) lkX12_97 mX12_in (tX12_in hG (la := x_l X) (h := e_up h [(72, o72 0 a72_2 a72_3 a72_4 a72_5 a72_6 a72_7 a72_8 a72_9 a72_10 a72_11 a72_17 a72_18 a72_19 a72_21 a72_22 a72_29 a72_31 a72_35 a72_37 a72_38 a72_39 a72_40 a72_41 a72_44 a72_50)]) hnx  hq4) rfl rfl rfl (e_le rfl) (e_le rfl) (e_le rfl) (Nat.zero_le _) (Nat.zero_le _) (e_k ?_)
    refine r_wr0 ?_
    refine r_z_ne F dX12_line_21 (tgt := 28) (by decide) (fun hc => ?_) (fun hc => ?_)
    · have hf := e_t hc hf
      refine r_aload_n F dX12_line_28 rfl ?_
      obtain ⟨q5, hq6, hf⟩ := e_bd hf
      refine r_callV F dX12_line_29 (b := 72) (dc := 0) (ds := 0) (As := []) (S0 := []) lkX12_238 mX12_laysCores (tX12_laysCores_72 hG (la := x_l X) (h := e_up h [(72, o72 0 a72_2 a72_3 a72_4 a72_5 a72_6 a72_7 a72_8 a72_9 a72_10 a72_11 a72_17 a72_18 a72_19 a72_21 a72_22 a72_29 a72_31 a72_35 a72_37 a72_38 a72_39 a72_40 a72_41 a72_44 a72_50)]) hnx rfl h79 h80 h81 h82 h83 h84 h85 hq6) rfl rfl rfl (e_le rfl) (e_le rfl) (e_le rfl) rfl (ci := 12) e_cl12.1 rfl (e_le rfl) (e_lt hnx rfl) (Nat.zero_le _) (Nat.zero_le _) (e_k ?_)
      refine r_wr (l' := [(72, o72 0 a72_2 a72_3 a72_4 a72_5 a72_6 a72_7 a72_8 a72_9 a72_10 a72_11 a72_17 a72_18 a72_19 a72_21 a72_22 q5.2.1 a72_31 a72_35 a72_37 a72_38 a72_39 a72_40 a72_41 a72_44 a72_50), (81, o81 q5.2.2.1), (82, o82 q5.2.2.2.1), (83, o83 q5.2.2.2.2.1), (84, o84 q5.2.2.2.2.2.1), (85, o85 q5.2.2.2.2.2.2)]) rfl rfl ?_
      refine r_pop F dX12_line_32 rfl ?_
      refine r_iload_n F dX12_line_33 rfl ?_
      refine r_i2l F dX12_line_34 ?_
      refine r_lconst F dX12_line_35 (v := 0) (by decide) ?_
      refine r_aload_n F dX12_line_36 rfl ?_
      refine r_get F dX12_line_37 flX12_241 rfl rfl (e_le rfl) (e_lt hnx rfl) ?_
      refine r_iconst F dX12_line_40 (v := 1) (by decide) ?_
      refine r_isub F dX12_line_41 ?_
      refine r_i2l F dX12_line_42 ?_
      obtain ⟨q7, hq8, hf⟩ := e_bd hf
      refine r_callS F dX12_line_43 (dc := 0) (ds := 0) (As := [.long (Int32.toInt64 p0), .long 0, .long (Int32.toInt64 (q5.2.1 - 1))]) (S0 := []) lkX12_97 mX12_in (tX12_in hG (la := x_l X) (h := e_up h [(72, o72 0 a72_2 a72_3 a72_4 a72_5 a72_6 a72_7 a72_8 a72_9 a72_10 a72_11 a72_17 a72_18 a72_19 a72_21 a72_22 q5.2.1 a72_31 a72_35 a72_37 a72_38 a72_39 a72_40 a72_41 a72_44 a72_50), (81, o81 q5.2.2.1), (82, o82 q5.2.2.2.1), (83, o83 q5.2.2.2.2.1), (84, o84 q5.2.2.2.2.2.1), (85, o85 q5.2.2.2.2.2.2)]) hnx  hq8) rfl rfl rfl (e_le rfl) (e_le rfl) (e_le rfl) (Nat.zero_le _) (Nat.zero_le _) (e_k ?_)
      refine r_wr0 ?_
      refine r_z_eq F dX12_line_46 (tgt := 58) (by decide) (fun hc => ?_) (fun hc => ?_)
      · have hf := e_t hc hf
        refine r_aload_n F dX12_line_49 rfl ?_
        refine r_iload_n F dX12_line_50 rfl ?_
        obtain ⟨q9, hq10, hf⟩ := e_bd hf
        refine r_callV F dX12_line_51 (b := 72) (dc := 0) (ds := 0) (As := [.int p0]) (S0 := []) lkX12_269 mX12_way (tX12_way_72 hG (la := x_l X) (h := e_up h [(72, o72 0 a72_2 a72_3 a72_4 a72_5 a72_6 a72_7 a72_8 a72_9 a72_10 a72_11 a72_17 a72_18 a72_19 a72_21 a72_22 q5.2.1 a72_31 a72_35 a72_37 a72_38 a72_39 a72_40 a72_41 a72_44 a72_50), (81, o81 q5.2.2.1), (82, o82 q5.2.2.2.1), (83, o83 q5.2.2.2.2.1), (84, o84 q5.2.2.2.2.2.1), (85, o85 q5.2.2.2.2.2.2)]) hnx rfl rfl rfl hq10) rfl rfl rfl (e_le rfl) (e_le rfl) (e_le rfl) rfl (ci := 12) e_cl12.1 rfl (e_le rfl) (e_lt hnx rfl) (Nat.zero_le _) (Nat.zero_le _) (e_k ?_)
        refine r_wr0 ?_
        refine r_iconst F dX12_line_54 (v := (-1)) (by decide) ?_
        refine r_icmp_ne F dX12_line_55 (tgt := 62) (by decide) (fun hc => ?_) (fun hc => ?_)
        · have hf := e_f hc hf
          refine r_aload_n F dX12_line_62 rfl ?_
          refine r_iload_n F dX12_line_63 rfl ?_
          obtain ⟨q11, hq12, hf⟩ := e_bd hf
          refine r_callV F dX12_line_64 (b := 72) (dc := 0) (ds := 0) (As := [.int p0]) (S0 := []) lkX12_269 mX12_way (tX12_way_72 hG (la := x_l X) (h := e_up h [(72, o72 0 a72_2 a72_3 a72_4 a72_5 a72_6 a72_7 a72_8 a72_9 a72_10 a72_11 a72_17 a72_18 a72_19 a72_21 a72_22 q5.2.1 a72_31 a72_35 a72_37 a72_38 a72_39 a72_40 a72_41 a72_44 a72_50), (81, o81 q5.2.2.1), (82, o82 q5.2.2.2.1), (83, o83 q5.2.2.2.2.1), (84, o84 q5.2.2.2.2.2.1), (85, o85 q5.2.2.2.2.2.2)]) hnx rfl rfl rfl hq12) rfl rfl rfl (e_le rfl) (e_le rfl) (e_le rfl) rfl (ci := 12) e_cl12.1 rfl (e_le rfl) (e_lt hnx rfl) (Nat.zero_le _) (Nat.zero_le _) (e_k ?_)
          refine r_wr0 ?_
          refine r_istore_n F dX12_line_67 (e_le rfl) (L' := [some (.ref 72), some (.int p0), some (.int p1), some (.int q11), none]) rfl ?_
          refine r_aload_n F dX12_line_68 rfl ?_
          refine r_iload_n F dX12_line_69 rfl ?_
          refine r_iload_n F dX12_line_70 rfl ?_
          refine r_iload_n F dX12_line_71 rfl ?_
          refine r_iconst F dX12_line_72 (v := 2) (by decide) ?_
          obtain ⟨q13, hq14, hf⟩ := e_bd hf
          have Jq13 : eRun G X 81 [some (.ref 72), some (.int p0), some (.int p1), some (.int q11), none] [.int (e_b q13), .int q11, .int p0, .ref 72] h [(72, o72 0 a72_2 a72_3 a72_4 a72_5 a72_6 a72_7 a72_8 a72_9 a72_10 a72_11 a72_17 a72_18 a72_19 a72_21 a72_22 q5.2.1 a72_31 a72_35 a72_37 a72_38 a72_39 a72_40 a72_41 a72_44 a72_50), (81, o81 q5.2.2.1), (82, o82 q5.2.2.2.1), (83, o83 q5.2.2.2.2.1), (84, o84 q5.2.2.2.2.2.1), (85, o85 q5.2.2.2.2.2.2)] nx 0 0 := by
            obtain ⟨q15, hq16, hf⟩ := e_bd hf
            refine r_callV F dX12_line_81 (b := 72) (dc := 0) (ds := 0) (As := [.int p0, .int q11, .int (e_b q13)]) (S0 := []) lkX12_470 mX12_nextOn (tX12_nextOn_72 hG (la := x_l X) (h := e_up h [(72, o72 0 a72_2 a72_3 a72_4 a72_5 a72_6 a72_7 a72_8 a72_9 a72_10 a72_11 a72_17 a72_18 a72_19 a72_21 a72_22 q5.2.1 a72_31 a72_35 a72_37 a72_38 a72_39 a72_40 a72_41 a72_44 a72_50), (81, o81 q5.2.2.1), (82, o82 q5.2.2.2.1), (83, o83 q5.2.2.2.2.1), (84, o84 q5.2.2.2.2.2.1), (85, o85 q5.2.2.2.2.2.2)]) hnx rfl rfl rfl hq16) rfl rfl rfl (e_le rfl) (e_le rfl) (e_le rfl) rfl (ci := 12) e_cl12.1 rfl (e_le rfl) (e_lt hnx rfl) (Nat.zero_le _) (Nat.zero_le _) (e_k ?_)
            refine r_wr0 ?_
            refine r_istore F dX12_line_84 (e_le rfl) (L' := [some (.ref 72), some (.int p0), some (.int p1), some (.int q11), some (.int q15)]) rfl ?_
            refine r_iload F dX12_line_86 rfl ?_
            refine r_iconst F dX12_line_88 (v := (-1)) (by decide) ?_
            refine r_icmp_eq F dX12_line_89 (tgt := 98) (by decide) (fun hc => ?_) (fun hc => ?_)
            · have hf := e_t hc hf
              refine r_iload F dX12_line_98 rfl ?_
              refine r_goto F dX12_line_100 (tgt := 120) (by decide) ?_
              obtain rfl := Option.some.inj hf
              exact r_iret F hq dX12_line_120 rfl rfl (Nat.le_refl _) (Nat.le_refl _) ⟨rfl, rfl⟩
            · have hf := e_f hc hf
              refine r_iload_n F dX12_line_92 rfl ?_
              refine r_iconst F dX12_line_93 (v := 2) (by decide) ?_
              refine r_irem F dX12_line_94 (by decide) ?_
              refine r_if_ne F dX12_line_95 (tgt := 103) (by decide) (fun hc => ?_) (fun hc => ?_)
              · have hf := e_f hc hf
                refine r_aload_n F dX12_line_103 rfl ?_
                refine r_iload F dX12_line_104 rfl ?_
                refine r_iload_n F dX12_line_106 rfl ?_
                obtain ⟨q17, hq18, hf⟩ := e_bd hf
                refine r_callV F dX12_line_107 (b := 72) (dc := 0) (ds := 0) (As := [.int q15, .int q11]) (S0 := []) lkX12_275 mX12_placeAlong (tX12_placeAlong_72 hG (la := x_l X) (h := e_up h [(72, o72 0 a72_2 a72_3 a72_4 a72_5 a72_6 a72_7 a72_8 a72_9 a72_10 a72_11 a72_17 a72_18 a72_19 a72_21 a72_22 q5.2.1 a72_31 a72_35 a72_37 a72_38 a72_39 a72_40 a72_41 a72_44 a72_50), (81, o81 q5.2.2.1), (82, o82 q5.2.2.2.1), (83, o83 q5.2.2.2.2.1), (84, o84 q5.2.2.2.2.2.1), (85, o85 q5.2.2.2.2.2.2)]) hnx rfl rfl rfl hq18) rfl rfl rfl (e_le rfl) (e_le rfl) (e_le rfl) rfl (ci := 12) e_cl12.1 rfl (e_le rfl) (e_lt hnx rfl) (Nat.zero_le _) (Nat.zero_le _) (e_k ?_)
                refine r_wr0 ?_
                refine r_aload_n F dX12_line_110 rfl ?_
                refine r_iload_n F dX12_line_111 rfl ?_
                refine r_iload_n F dX12_line_112 rfl ?_
                obtain ⟨q19, hq20, hf⟩ := e_bd hf
                refine r_callV F dX12_line_113 (b := 72) (dc := 0) (ds := 0) (As := [.int p0, .int q11]) (S0 := [.int q17]) lkX12_275 mX12_placeAlong (tX12_placeAlong_72 hG (la := x_l X) (h := e_up h [(72, o72 0 a72_2 a72_3 a72_4 a72_5 a72_6 a72_7 a72_8 a72_9 a72_10 a72_11 a72_17 a72_18 a72_19 a72_21 a72_22 q5.2.1 a72_31 a72_35 a72_37 a72_38 a72_39 a72_40 a72_41 a72_44 a72_50), (81, o81 q5.2.2.1), (82, o82 q5.2.2.2.1), (83, o83 q5.2.2.2.2.1), (84, o84 q5.2.2.2.2.2.1), (85, o85 q5.2.2.2.2.2.2)]) hnx rfl rfl rfl hq20) rfl rfl rfl (e_le rfl) (e_le rfl) (e_le rfl) rfl (ci := 12) e_cl12.1 rfl (e_le rfl) (e_lt hnx rfl) (Nat.zero_le _) (Nat.zero_le _) (e_k ?_)
                refine r_wr0 ?_
                refine r_isub F dX12_line_116 ?_
                obtain ⟨q21, hq22, hf⟩ := e_bd hf
                refine r_callS F dX12_line_117 (dc := 0) (ds := 0) (As := [.int (q17 - q19)]) (S0 := []) lkX12_370 mJ9_abs_0f7a4 (tJ9_abs_0f7a4 hG (la := x_l X) (h := e_up h [(72, o72 0 a72_2 a72_3 a72_4 a72_5 a72_6 a72_7 a72_8 a72_9 a72_10 a72_11 a72_17 a72_18 a72_19 a72_21 a72_22 q5.2.1 a72_31 a72_35 a72_37 a72_38 a72_39 a72_40 a72_41 a72_44 a72_50), (81, o81 q5.2.2.1), (82, o82 q5.2.2.2.1), (83, o83 q5.2.2.2.2.1), (84, o84 q5.2.2.2.2.2.1), (85, o85 q5.2.2.2.2.2.2)]) hnx  hq22) rfl rfl rfl (e_le rfl) (e_le rfl) (e_le rfl) (Nat.zero_le _) (Nat.zero_le _) (e_k ?_)
                refine r_wr0 ?_
                obtain rfl := Option.some.inj hf
                exact r_iret F hq dX12_line_120 rfl rfl (Nat.le_refl _) (Nat.le_refl _) ⟨rfl, rfl⟩
              · have hf := e_t hc hf
                refine r_iload F dX12_line_98 rfl ?_
                refine r_goto F dX12_line_100 (tgt := 120) (by decide) ?_
                obtain rfl := Option.some.inj hf
                exact r_iret F hq dX12_line_120 rfl rfl (Nat.le_refl _) (Nat.le_refl _) ⟨rfl, rfl⟩
          refine r_icmp_ge F dX12_line_73 (tgt := 80) (by decide) (fun hc => ?_) (fun hc => ?_)
          · have hq14 := e_t hc hq14
            refine r_iconst F dX12_line_80 (v := 0) (by decide) ?_
            obtain rfl := Option.some.inj hq14
            exact Jq13
          · have hq14 := e_f hc hq14
            refine r_iconst F dX12_line_76 (v := 1) (by decide) ?_
            refine r_goto F dX12_line_77 (tgt := 81) (by decide) ?_
            obtain rfl := Option.some.inj hq14
            exact Jq13
        · have hf := e_t hc hf
          refine r_ldcw F dX12_line_58 kcX12_310 ?_
          obtain rfl := Option.some.inj hf
          exact r_iret F hq dX12_line_61 rfl rfl (Nat.le_refl _) (Nat.le_refl _) ⟨rfl, rfl⟩
      · have hf := e_f hc hf
        refine r_ldcw F dX12_line_58 kcX12_310 ?_
        obtain rfl := Option.some.inj hf
        exact r_iret F hq dX12_line_61 rfl rfl (Nat.le_refl _) (Nat.le_refl _) ⟨rfl, rfl⟩
    · have hf := e_f hc hf
      refine r_ldcw F dX12_line_24 kcX12_310 ?_
      refine r_mat (k := 81) h81 (l' := [(72, o72 0 a72_2 a72_3 a72_4 a72_5 a72_6 a72_7 a72_8 a72_9 a72_10 a72_11 a72_17 a72_18 a72_19 a72_21 a72_22 a72_29 a72_31 a72_35 a72_37 a72_38 a72_39 a72_40 a72_41 a72_44 a72_50), (81, o81 A81)]) rfl ?_
      refine r_mat (k := 82) h82 (l' := [(72, o72 0 a72_2 a72_3 a72_4 a72_5 a72_6 a72_7 a72_8 a72_9 a72_10 a72_11 a72_17 a72_18 a72_19 a72_21 a72_22 a72_29 a72_31 a72_35 a72_37 a72_38 a72_39 a72_40 a72_41 a72_44 a72_50), (81, o81 A81), (82, o82 A82)]) rfl ?_
      refine r_mat (k := 83) h83 (l' := [(72, o72 0 a72_2 a72_3 a72_4 a72_5 a72_6 a72_7 a72_8 a72_9 a72_10 a72_11 a72_17 a72_18 a72_19 a72_21 a72_22 a72_29 a72_31 a72_35 a72_37 a72_38 a72_39 a72_40 a72_41 a72_44 a72_50), (81, o81 A81), (82, o82 A82), (83, o83 A83)]) rfl ?_
      refine r_mat (k := 84) h84 (l' := [(72, o72 0 a72_2 a72_3 a72_4 a72_5 a72_6 a72_7 a72_8 a72_9 a72_10 a72_11 a72_17 a72_18 a72_19 a72_21 a72_22 a72_29 a72_31 a72_35 a72_37 a72_38 a72_39 a72_40 a72_41 a72_44 a72_50), (81, o81 A81), (82, o82 A82), (83, o83 A83), (84, o84 A84)]) rfl ?_
      refine r_mat (k := 85) h85 (l' := [(72, o72 0 a72_2 a72_3 a72_4 a72_5 a72_6 a72_7 a72_8 a72_9 a72_10 a72_11 a72_17 a72_18 a72_19 a72_21 a72_22 a72_29 a72_31 a72_35 a72_37 a72_38 a72_39 a72_40 a72_41 a72_44 a72_50), (81, o81 A81), (82, o82 A82), (83, o83 A83), (84, o84 A84), (85, o85 A85)]) rfl ?_
      obtain rfl := Option.some.inj hf
      exact r_iret F hq dX12_line_27 rfl rfl (Nat.le_refl _) (Nat.le_refl _) ⟨rfl, rfl⟩
  · have hf := e_f hc hf
    refine r_ldcw F dX12_line_24 kcX12_310 ?_
    refine r_mat (k := 81) h81 (l' := [(72, o72 0 a72_2 a72_3 a72_4 a72_5 a72_6 a72_7 a72_8 a72_9 a72_10 a72_11 a72_17 a72_18 a72_19 a72_21 a72_22 a72_29 a72_31 a72_35 a72_37 a72_38 a72_39 a72_40 a72_41 a72_44 a72_50), (81, o81 A81)]) rfl ?_
    refine r_mat (k := 82) h82 (l' := [(72, o72 0 a72_2 a72_3 a72_4 a72_5 a72_6 a72_7 a72_8 a72_9 a72_10 a72_11 a72_17 a72_18 a72_19 a72_21 a72_22 a72_29 a72_31 a72_35 a72_37 a72_38 a72_39 a72_40 a72_41 a72_44 a72_50), (81, o81 A81), (82, o82 A82)]) rfl ?_
    refine r_mat (k := 83) h83 (l' := [(72, o72 0 a72_2 a72_3 a72_4 a72_5 a72_6 a72_7 a72_8 a72_9 a72_10 a72_11 a72_17 a72_18 a72_19 a72_21 a72_22 a72_29 a72_31 a72_35 a72_37 a72_38 a72_39 a72_40 a72_41 a72_44 a72_50), (81, o81 A81), (82, o82 A82), (83, o83 A83)]) rfl ?_
    refine r_mat (k := 84) h84 (l' := [(72, o72 0 a72_2 a72_3 a72_4 a72_5 a72_6 a72_7 a72_8 a72_9 a72_10 a72_11 a72_17 a72_18 a72_19 a72_21 a72_22 a72_29 a72_31 a72_35 a72_37 a72_38 a72_39 a72_40 a72_41 a72_44 a72_50), (81, o81 A81), (82, o82 A82), (83, o83 A83), (84, o84 A84)]) rfl ?_
    refine r_mat (k := 85) h85 (l' := [(72, o72 0 a72_2 a72_3 a72_4 a72_5 a72_6 a72_7 a72_8 a72_9 a72_10 a72_11 a72_17 a72_18 a72_19 a72_21 a72_22 a72_29 a72_31 a72_35 a72_37 a72_38 a72_39 a72_40 a72_41 a72_44 a72_50), (81, o81 A81), (82, o82 A82), (83, o83 A83), (84, o84 A84), (85, o85 A85)]) rfl ?_
    obtain rfl := Option.some.inj hf
    exact r_iret F hq dX12_line_27 rfl rfl (Nat.le_refl _) (Nat.le_refl _) ⟨rfl, rfl⟩

def fX12_link (a72_0 : Int32) (a72_21 : Int32) (a72_22 : Int32) (A79 : Nat → Int32) (p0 : Int32) (p1 : Int32) (p2 : Bool) (p3 : Int32) : Option (Int32 × Int32) :=
  (fX12_isCrystal a72_21).bind (fun q1 =>
  if q1 = true then
    (fX12_isLink a72_21 a72_22 p0 p1 p2).bind (fun q3 =>
    if q3 = true then
      (fX12_in (Int32.toInt64 p3) 0 1).bind (fun q5 =>
      if q5 = true then
        (fX12_step A79 p0 p1 p2 p3).bind (fun q7 =>
        some (q7, 0))
      else
        some ((-1000000), 0))
    else
      some ((-1000000), 0))
  else
    some ((-1000000), 0))
set_option maxRecDepth 100000 in
theorem tX12_link_72 {G : eG} (hG : e_GS G) {la : Launch} {h : Nat → eO} {nx : Nat} (hnx : 99 ≤ nx) {a72_0 : Int32} {a72_2 : Int32} {a72_3 : Int32} {a72_4 : Int32} {a72_5 : Int32} {a72_6 : Int32} {a72_7 : Int32} {a72_8 : Bool} {a72_9 : Int32} {a72_10 : Int32} {a72_11 : Int32} {a72_17 : Bool} {a72_18 : Bool} {a72_19 : Bool} {a72_21 : Int32} {a72_22 : Int32} {a72_29 : Int32} {a72_31 : Int32} {a72_35 : Int32} {a72_37 : Bool} {a72_38 : Int32} {a72_39 : Int32} {a72_40 : Int32} {a72_41 : Int64} {a72_44 : Int32} {a72_50 : Bool} {A79 : Nat → Int32} {p0 : Int32} {p1 : Int32} {p2 : Bool} {p3 : Int32} (h72 : h 72 = o72 a72_0 a72_2 a72_3 a72_4 a72_5 a72_6 a72_7 a72_8 a72_9 a72_10 a72_11 a72_17 a72_18 a72_19 a72_21 a72_22 a72_29 a72_31 a72_35 a72_37 a72_38 a72_39 a72_40 a72_41 a72_44 a72_50) (h79 : h 79 = o79 A79) {R9 : Int32 × Int32} (hf : fX12_link a72_0 a72_21 a72_22 A79 p0 p1 p2 p3 = some R9) :
    eSem G la MX12_link [.ref 72, .int p0, .int p1, .int (e_b p2), .int p3] h nx 0 0 (fun r9 h9 => r9 = some (.int R9.1) ∧ h9 = e_up h [(72, o72 R9.2 a72_2 a72_3 a72_4 a72_5 a72_6 a72_7 a72_8 a72_9 a72_10 a72_11 a72_17 a72_18 a72_19 a72_21 a72_22 a72_29 a72_31 a72_35 a72_37 a72_38 a72_39 a72_40 a72_41 a72_44 a72_50)]) := by
  refine eSem.of (k := 0) (L := [some (.ref 72), some (.int p0), some (.int p1), some (.int (e_b p2)), some (.int p3)]) (by decide +kernel) rfl rfl (fun X F hxl hq hcR hsR => ?_)
  subst hxl
  unfold fX12_link at hf
  refine r_aload_n F dX12_link_0 rfl ?_
  refine r_iconst F dX12_link_1 (v := 0) (by decide) ?_
  refine r_put F dX12_link_2 flX12_86 rfl rfl rfl h72 (e_le rfl) (e_le rfl) (e_lt hnx rfl) (l' := [(72, o72 0 a72_2 a72_3 a72_4 a72_5 a72_6 a72_7 a72_8 a72_9 a72_10 a72_11 a72_17 a72_18 a72_19 a72_21 a72_22 a72_29 a72_31 a72_35 a72_37 a72_38 a72_39 a72_40 a72_41 a72_44 a72_50)]) rfl ?_
  refine r_aload_n F dX12_link_5 rfl ?_
  obtain ⟨q1, hq2, hf⟩ := e_bd hf
  refine r_callV F dX12_link_6 (b := 72) (dc := 0) (ds := 0) (As := []) (S0 := []) lkX12_306 mX12_isCrystal (tX12_isCrystal_72 hG (la := x_l X) (h := e_up h [(72, o72 0 a72_2 a72_3 a72_4 a72_5 a72_6 a72_7 a72_8 a72_9 a72_10 a72_11 a72_17 a72_18 a72_19 a72_21 a72_22 a72_29 a72_31 a72_35 a72_37 a72_38 a72_39 a72_40 a72_41 a72_44 a72_50)]) hnx rfl hq2) rfl rfl rfl (e_le rfl) (e_le rfl) (e_le rfl) rfl (ci := 12) e_cl12.1 rfl (e_le rfl) (e_lt hnx rfl) (Nat.zero_le _) (Nat.zero_le _) (e_k ?_)
  refine r_wr0 ?_
  refine r_z_eq F dX12_link_9 (tgt := 45) (by decide) (fun hc => ?_) (fun hc => ?_)
  · have hf := e_t hc hf
    refine r_aload_n F dX12_link_12 rfl ?_
    refine r_iload_n F dX12_link_13 rfl ?_
    refine r_iload_n F dX12_link_14 rfl ?_
    refine r_iload_n F dX12_link_15 rfl ?_
    obtain ⟨q3, hq4, hf⟩ := e_bd hf
    refine r_callV F dX12_link_16 (b := 72) (dc := 0) (ds := 0) (As := [.int p0, .int p1, .int (e_b p2)]) (S0 := []) lkX12_296 mX12_isLink (tX12_isLink_72 hG (la := x_l X) (h := e_up h [(72, o72 0 a72_2 a72_3 a72_4 a72_5 a72_6 a72_7 a72_8 a72_9 a72_10 a72_11 a72_17 a72_18 a72_19 a72_21 a72_22 a72_29 a72_31 a72_35 a72_37 a72_38 a72_39 a72_40 a72_41 a72_44 a72_50)]) hnx rfl hq4) rfl rfl rfl (e_le rfl) (e_le rfl) (e_le rfl) rfl (ci := 12) e_cl12.1 rfl (e_le rfl) (e_lt hnx rfl) (Nat.zero_le _) (Nat.zero_le _) (e_k ?_)
    refine r_wr0 ?_
    refine r_z_eq F dX12_link_19 (tgt := 45) (by decide) (fun hc => ?_) (fun hc => ?_)
    · have hf := e_t hc hf
      refine r_iload F dX12_link_22 rfl ?_
      refine r_i2l F dX12_link_24 ?_
      refine r_lconst F dX12_link_25 (v := 0) (by decide) ?_
      refine r_lconst F dX12_link_26 (v := 1) (by decide) ?_
      obtain ⟨q5, hq6, hf⟩ := e_bd hf
      refine r_callS F dX12_link_27 (dc := 0) (ds := 0) (As := [.long (Int32.toInt64 p3), .long 0, .long 1]) (S0 := []) lkX12_97 mX12_in (tX12_in hG (la := x_l X) (h := e_up h [(72, o72 0 a72_2 a72_3 a72_4 a72_5 a72_6 a72_7 a72_8 a72_9 a72_10 a72_11 a72_17 a72_18 a72_19 a72_21 a72_22 a72_29 a72_31 a72_35 a72_37 a72_38 a72_39 a72_40 a72_41 a72_44 a72_50)]) hnx  hq6) rfl rfl rfl (e_le rfl) (e_le rfl) (e_le rfl) (Nat.zero_le _) (Nat.zero_le _) (e_k ?_)
      refine r_wr0 ?_
      refine r_z_eq F dX12_link_30 (tgt := 45) (by decide) (fun hc => ?_) (fun hc => ?_)
      · have hf := e_t hc hf
        refine r_aload_n F dX12_link_33 rfl ?_
        refine r_iload_n F dX12_link_34 rfl ?_
        refine r_iload_n F dX12_link_35 rfl ?_
        refine r_iload_n F dX12_link_36 rfl ?_
        refine r_iload F dX12_link_37 rfl ?_
        obtain ⟨q7, hq8, hf⟩ := e_bd hf
        refine r_callV F dX12_link_39 (b := 72) (dc := 0) (ds := 0) (As := [.int p0, .int p1, .int (e_b p2), .int p3]) (S0 := []) lkX12_218 mX12_step (tX12_step_72 hG (la := x_l X) (h := e_up h [(72, o72 0 a72_2 a72_3 a72_4 a72_5 a72_6 a72_7 a72_8 a72_9 a72_10 a72_11 a72_17 a72_18 a72_19 a72_21 a72_22 a72_29 a72_31 a72_35 a72_37 a72_38 a72_39 a72_40 a72_41 a72_44 a72_50)]) hnx rfl h79 hq8) rfl rfl rfl (e_le rfl) (e_le rfl) (e_le rfl) rfl (ci := 12) e_cl12.1 rfl (e_le rfl) (e_lt hnx rfl) (Nat.zero_le _) (Nat.zero_le _) (e_k ?_)
        refine r_wr0 ?_
        refine r_goto F dX12_link_42 (tgt := 48) (by decide) ?_
        obtain rfl := Option.some.inj hf
        exact r_iret F hq dX12_link_48 rfl rfl (Nat.le_refl _) (Nat.le_refl _) ⟨rfl, rfl⟩
      · have hf := e_f hc hf
        refine r_ldcw F dX12_link_45 kcX12_310 ?_
        obtain rfl := Option.some.inj hf
        exact r_iret F hq dX12_link_48 rfl rfl (Nat.le_refl _) (Nat.le_refl _) ⟨rfl, rfl⟩
    · have hf := e_f hc hf
      refine r_ldcw F dX12_link_45 kcX12_310 ?_
      obtain rfl := Option.some.inj hf
      exact r_iret F hq dX12_link_48 rfl rfl (Nat.le_refl _) (Nat.le_refl _) ⟨rfl, rfl⟩
  · have hf := e_f hc hf
    refine r_ldcw F dX12_link_45 kcX12_310 ?_
    obtain rfl := Option.some.inj hf
    exact r_iret F hq dX12_link_48 rfl rfl (Nat.le_refl _) (Nat.le_refl _) ⟨rfl, rfl⟩

def fX12_linksOf (a72_21 : Int32) (a72_22 : Int32) (A79 : Nat → Int32) (A91 : Nat → Int32) (p0 : Int32) : Option (Int32) :=
  (e_loop (fun (v3 : Int32 × Int32) => (
      if 162 ≤ v3.2 then
        some (.inr v3.1)
      else
        (fX12_isSlippedAt a72_21 a72_22 A79 v3.2).bind (fun q6 =>
        Option.bind (α := Bool) (
          if q6 = true then
            e_g (e_in v3.2 162) (
            if (A91 (tn v3.2)) = p0 then
              some true
            else
              some false)
          else
            some false) (fun q8 =>
        some (.inl (v3.1 + (e_b q8), v3.2 + 1)))) : Option ((Int32 × Int32) ⊕ (Int32)))) e_fuel (0, 0)).bind (fun x4 =>
  some x4)
set_option maxRecDepth 100000 in
theorem tX12_linksOf_72 {G : eG} (hG : e_GS G) {la : Launch} {h : Nat → eO} {nx : Nat} (hnx : 99 ≤ nx) {a72_0 : Int32} {a72_2 : Int32} {a72_3 : Int32} {a72_4 : Int32} {a72_5 : Int32} {a72_6 : Int32} {a72_7 : Int32} {a72_8 : Bool} {a72_9 : Int32} {a72_10 : Int32} {a72_11 : Int32} {a72_17 : Bool} {a72_18 : Bool} {a72_19 : Bool} {a72_21 : Int32} {a72_22 : Int32} {a72_29 : Int32} {a72_31 : Int32} {a72_35 : Int32} {a72_37 : Bool} {a72_38 : Int32} {a72_39 : Int32} {a72_40 : Int32} {a72_41 : Int64} {a72_44 : Int32} {a72_50 : Bool} {A79 : Nat → Int32} {A91 : Nat → Int32} {p0 : Int32} (h72 : h 72 = o72 a72_0 a72_2 a72_3 a72_4 a72_5 a72_6 a72_7 a72_8 a72_9 a72_10 a72_11 a72_17 a72_18 a72_19 a72_21 a72_22 a72_29 a72_31 a72_35 a72_37 a72_38 a72_39 a72_40 a72_41 a72_44 a72_50) (h79 : h 79 = o79 A79) (h91 : h 91 = o91 A91) {R9 : Int32} (hf : fX12_linksOf a72_21 a72_22 A79 A91 p0 = some R9) :
    eSem G la MX12_linksOf [.ref 72, .int p0] h nx 0 0 (fun r9 h9 => r9 = some (.int R9) ∧ h9 = h) := by
  refine eSem.of (k := 2) (L := [some (.ref 72), some (.int p0), none, none]) (by decide +kernel) rfl rfl (fun X F hxl hq hcR hsR => ?_)
  subst hxl
  unfold fX12_linksOf at hf
  refine r_iconst F dX12_linksOf_0 (v := 0) (by decide) ?_
  refine r_istore_n F dX12_linksOf_1 (e_le rfl) (L' := [some (.ref 72), some (.int p0), some (.int 0), none]) rfl ?_
  refine r_iconst F dX12_linksOf_2 (v := 0) (by decide) ?_
  refine r_istore_n F dX12_linksOf_3 (e_le rfl) (L' := [some (.ref 72), some (.int p0), some (.int 0), some (.int 0)]) rfl ?_
  obtain ⟨x4, hx5, hf⟩ := e_bd hf
  refine (e_loop_ok (P := fun (v3 : Int32 × Int32) => eRun G X 4 [some (.ref 72), some (.int p0), some (.int v3.1), some (.int v3.2)] [] h [] nx 0 0) (K := fun (x4 : Int32) => eRun G X 43 [none, none, some (.int x4), none] [] h [] nx 0 0) ?_ e_fuel (0, 0) x4 hx5 ?_ : _)
  · intro v3 z hz ih hx
    refine r_iload_n F dX12_linksOf_4 rfl ?_
    refine r_sipush F dX12_linksOf_5 (v := 162) (by decide) ?_
    refine r_icmp_ge F dX12_linksOf_8 (tgt := 43) (by decide) (fun hc => ?_) (fun hc => ?_)
    · have hz := e_t hc hz
      refine r_drop 0 (L' := [none, some (.int p0), some (.int v3.1), some (.int v3.2)]) rfl ?_
      refine r_drop 1 (L' := [none, none, some (.int v3.1), some (.int v3.2)]) rfl ?_
      refine r_drop 3 (L' := [none, none, some (.int v3.1), none]) rfl ?_
      obtain rfl := Option.some.inj hz
      exact hx v3.1 rfl
    · have hz := e_f hc hz
      refine r_iload_n F dX12_linksOf_11 rfl ?_
      refine r_aload_n F dX12_linksOf_12 rfl ?_
      refine r_iload_n F dX12_linksOf_13 rfl ?_
      obtain ⟨q6, hq7, hz⟩ := e_bd hz
      refine r_callV F dX12_linksOf_14 (b := 72) (dc := 0) (ds := 0) (As := [.int v3.2]) (S0 := [.int v3.1]) lkX12_293 mX12_isSlippedAt (tX12_isSlippedAt_72 hG (la := x_l X) (h := e_up h []) hnx h72 h79 hq7) rfl rfl rfl (e_le rfl) (e_le rfl) (e_le rfl) h72 (ci := 12) e_cl12.1 rfl (e_le rfl) (e_lt hnx rfl) (Nat.zero_le _) (Nat.zero_le _) (e_k ?_)
      refine r_wr0 ?_
      obtain ⟨q8, hq9, hz⟩ := e_bd hz
      have Jq8 : eRun G X 35 [some (.ref 72), some (.int p0), none, some (.int v3.2)] [.int (e_b q8), .int v3.1] h [] nx 0 0 := by
        refine r_iadd F dX12_linksOf_35 ?_
        refine r_istore_n F dX12_linksOf_36 (e_le rfl) (L' := [some (.ref 72), some (.int p0), some (.int (v3.1 + (e_b q8))), some (.int v3.2)]) rfl ?_
        refine r_inc F dX12_linksOf_37 (k9 := 1) (by decide) rfl (L' := [some (.ref 72), some (.int p0), some (.int (v3.1 + (e_b q8))), some (.int (v3.2 + 1))]) rfl ?_
        refine r_goto F dX12_linksOf_40 (tgt := 4) (by decide) ?_
        obtain rfl := Option.some.inj hz
        exact ih (v3.1 + (e_b q8), v3.2 + 1) rfl
      refine r_z_eq F dX12_linksOf_17 (tgt := 34) (by decide) (fun hc => ?_) (fun hc => ?_)
      · have hq9 := e_t hc hq9
        refine r_aload_n F dX12_linksOf_20 rfl ?_
        refine r_get F dX12_linksOf_21 flX12_65 h72 rfl (e_le rfl) (e_lt hnx rfl) ?_
        refine r_iload_n F dX12_linksOf_24 rfl ?_
        obtain ⟨hg, hq9⟩ := e_gd hq9
        refine r_iald F dX12_linksOf_25 (i := v3.2) h91 (e_le rfl) (e_lt hnx rfl) (e_vp hg) ?_
        refine r_iload_n F dX12_linksOf_26 rfl ?_
        refine r_icmp_ne F dX12_linksOf_27 (tgt := 34) (by decide) (fun hc => ?_) (fun hc => ?_)
        · have hq9 := e_f hc hq9
          refine r_iconst F dX12_linksOf_34 (v := 0) (by decide) ?_
          refine r_drop 2 (L' := [some (.ref 72), some (.int p0), none, some (.int v3.2)]) rfl ?_
          obtain rfl := Option.some.inj hq9
          exact Jq8
        · have hq9 := e_t hc hq9
          refine r_iconst F dX12_linksOf_30 (v := 1) (by decide) ?_
          refine r_goto F dX12_linksOf_31 (tgt := 35) (by decide) ?_
          refine r_drop 2 (L' := [some (.ref 72), some (.int p0), none, some (.int v3.2)]) rfl ?_
          obtain rfl := Option.some.inj hq9
          exact Jq8
      · have hq9 := e_f hc hq9
        refine r_iconst F dX12_linksOf_34 (v := 0) (by decide) ?_
        refine r_drop 2 (L' := [some (.ref 72), some (.int p0), none, some (.int v3.2)]) rfl ?_
        obtain rfl := Option.some.inj hq9
        exact Jq8
  · show eRun G X 43 [none, none, some (.int x4), none] [] h [] nx 0 0
    refine r_iload_n F dX12_linksOf_43 rfl ?_
    obtain rfl := Option.some.inj hf
    exact r_iret F hq dX12_linksOf_44 rfl rfl (Nat.le_refl _) (Nat.le_refl _) ⟨rfl, rfl⟩

def fX12_log (a72_0 : Int32) (A79 : Nat → Int32) (p0 : Int32) (p1 : Int32) : Option (Int32 × Int32) :=
  (fX12_in (Int32.toInt64 p0) 0 (Int32.toInt64 ((A79 (tn 324)) - 1))).bind (fun q1 =>
  if q1 = true then
    (fX12_in (Int32.toInt64 p1) 0 3).bind (fun q3 =>
    if q3 = true then
      e_g (e_in (((326 : Int32) + ((4 : Int32) * (((A79 (tn 324)) - 1) - p0))) + p1) 486) (
      some (A79 (tn (((326 : Int32) + ((4 : Int32) * (((A79 (tn 324)) - 1) - p0))) + p1)), 0))
    else
      some ((-1), 0))
  else
    some ((-1), 0))
set_option maxRecDepth 100000 in
theorem tX12_log_72 {G : eG} (hG : e_GS G) {la : Launch} {h : Nat → eO} {nx : Nat} (hnx : 99 ≤ nx) {a72_0 : Int32} {a72_2 : Int32} {a72_3 : Int32} {a72_4 : Int32} {a72_5 : Int32} {a72_6 : Int32} {a72_7 : Int32} {a72_8 : Bool} {a72_9 : Int32} {a72_10 : Int32} {a72_11 : Int32} {a72_17 : Bool} {a72_18 : Bool} {a72_19 : Bool} {a72_21 : Int32} {a72_22 : Int32} {a72_29 : Int32} {a72_31 : Int32} {a72_35 : Int32} {a72_37 : Bool} {a72_38 : Int32} {a72_39 : Int32} {a72_40 : Int32} {a72_41 : Int64} {a72_44 : Int32} {a72_50 : Bool} {A79 : Nat → Int32} {p0 : Int32} {p1 : Int32} (h72 : h 72 = o72 a72_0 a72_2 a72_3 a72_4 a72_5 a72_6 a72_7 a72_8 a72_9 a72_10 a72_11 a72_17 a72_18 a72_19 a72_21 a72_22 a72_29 a72_31 a72_35 a72_37 a72_38 a72_39 a72_40 a72_41 a72_44 a72_50) (h79 : h 79 = o79 A79) {R9 : Int32 × Int32} (hf : fX12_log a72_0 A79 p0 p1 = some R9) :
    eSem G la MX12_log [.ref 72, .int p0, .int p1] h nx 0 0 (fun r9 h9 => r9 = some (.int R9.1) ∧ h9 = e_up h [(72, o72 R9.2 a72_2 a72_3 a72_4 a72_5 a72_6 a72_7 a72_8 a72_9 a72_10 a72_11 a72_17 a72_18 a72_19 a72_21 a72_22 a72_29 a72_31 a72_35 a72_37 a72_38 a72_39 a72_40 a72_41 a72_44 a72_50)]) := by
  refine eSem.of (k := 0) (L := [some (.ref 72), some (.int p0), some (.int p1)]) (by decide +kernel) rfl rfl (fun X F hxl hq hcR hsR => ?_)
  subst hxl
  unfold fX12_log at hf
  refine r_aload_n F dX12_log_0 rfl ?_
  refine r_iconst F dX12_log_1 (v := 0) (by decide) ?_
  refine r_put F dX12_log_2 flX12_86 rfl rfl rfl h72 (e_le rfl) (e_le rfl) (e_lt hnx rfl) (l' := [(72, o72 0 a72_2 a72_3 a72_4 a72_5 a72_6 a72_7 a72_8 a72_9 a72_10 a72_11 a72_17 a72_18 a72_19 a72_21 a72_22 a72_29 a72_31 a72_35 a72_37 a72_38 a72_39 a72_40 a72_41 a72_44 a72_50)]) rfl ?_
  refine r_iload_n F dX12_log_5 rfl ?_
  refine r_i2l F dX12_log_6 ?_
  refine r_lconst F dX12_log_7 (v := 0) (by decide) ?_
  refine r_aload_n F dX12_log_8 rfl ?_
  refine r_get F dX12_log_9 flX12_28 rfl rfl (e_le rfl) (e_lt hnx rfl) ?_
  refine r_sipush F dX12_log_12 (v := 324) (by decide) ?_
  refine r_iald F dX12_log_15 (i := 324) h79 (e_le rfl) (e_lt hnx rfl) (e_vp (by decide)) ?_
  refine r_iconst F dX12_log_16 (v := 1) (by decide) ?_
  refine r_isub F dX12_log_17 ?_
  refine r_i2l F dX12_log_18 ?_
  obtain ⟨q1, hq2, hf⟩ := e_bd hf
  refine r_callS F dX12_log_19 (dc := 0) (ds := 0) (As := [.long (Int32.toInt64 p0), .long 0, .long (Int32.toInt64 ((A79 (tn 324)) - 1))]) (S0 := []) lkX12_97 mX12_in (tX12_in hG (la := x_l X) (h := e_up h [(72, o72 0 a72_2 a72_3 a72_4 a72_5 a72_6 a72_7 a72_8 a72_9 a72_10 a72_11 a72_17 a72_18 a72_19 a72_21 a72_22 a72_29 a72_31 a72_35 a72_37 a72_38 a72_39 a72_40 a72_41 a72_44 a72_50)]) hnx  hq2) rfl rfl rfl (e_le rfl) (e_le rfl) (e_le rfl) (Nat.zero_le _) (Nat.zero_le _) (e_k ?_)
  refine r_wr0 ?_
  refine r_z_eq F dX12_log_22 (tgt := 65) (by decide) (fun hc => ?_) (fun hc => ?_)
  · have hf := e_t hc hf
    refine r_iload_n F dX12_log_25 rfl ?_
    refine r_i2l F dX12_log_26 ?_
    refine r_lconst F dX12_log_27 (v := 0) (by decide) ?_
    refine r_ldc2 F dX12_log_28 klX12_291 ?_
    obtain ⟨q3, hq4, hf⟩ := e_bd hf
    refine r_callS F dX12_log_31 (dc := 0) (ds := 0) (As := [.long (Int32.toInt64 p1), .long 0, .long 3]) (S0 := []) lkX12_97 mX12_in (tX12_in hG (la := x_l X) (h := e_up h [(72, o72 0 a72_2 a72_3 a72_4 a72_5 a72_6 a72_7 a72_8 a72_9 a72_10 a72_11 a72_17 a72_18 a72_19 a72_21 a72_22 a72_29 a72_31 a72_35 a72_37 a72_38 a72_39 a72_40 a72_41 a72_44 a72_50)]) hnx  hq4) rfl rfl rfl (e_le rfl) (e_le rfl) (e_le rfl) (Nat.zero_le _) (Nat.zero_le _) (e_k ?_)
    refine r_wr0 ?_
    refine r_z_eq F dX12_log_34 (tgt := 65) (by decide) (fun hc => ?_) (fun hc => ?_)
    · have hf := e_t hc hf
      refine r_aload_n F dX12_log_37 rfl ?_
      refine r_get F dX12_log_38 flX12_28 rfl rfl (e_le rfl) (e_lt hnx rfl) ?_
      refine r_sipush F dX12_log_41 (v := 326) (by decide) ?_
      refine r_iconst F dX12_log_44 (v := 4) (by decide) ?_
      refine r_aload_n F dX12_log_45 rfl ?_
      refine r_get F dX12_log_46 flX12_28 rfl rfl (e_le rfl) (e_lt hnx rfl) ?_
      refine r_sipush F dX12_log_49 (v := 324) (by decide) ?_
      refine r_iald F dX12_log_52 (i := 324) h79 (e_le rfl) (e_lt hnx rfl) (e_vp (by decide)) ?_
      refine r_iconst F dX12_log_53 (v := 1) (by decide) ?_
      refine r_isub F dX12_log_54 ?_
      refine r_iload_n F dX12_log_55 rfl ?_
      refine r_isub F dX12_log_56 ?_
      refine r_imul F dX12_log_57 ?_
      refine r_iadd F dX12_log_58 ?_
      refine r_iload_n F dX12_log_59 rfl ?_
      refine r_iadd F dX12_log_60 ?_
      obtain ⟨hg, hf⟩ := e_gd hf
      refine r_iald F dX12_log_61 (i := (((326 : Int32) + ((4 : Int32) * (((A79 (tn 324)) - 1) - p0))) + p1)) h79 (e_le rfl) (e_lt hnx rfl) (e_vp hg) ?_
      refine r_goto F dX12_log_62 (tgt := 66) (by decide) ?_
      obtain rfl := Option.some.inj hf
      exact r_iret F hq dX12_log_66 rfl rfl (Nat.le_refl _) (Nat.le_refl _) ⟨rfl, rfl⟩
    · have hf := e_f hc hf
      refine r_iconst F dX12_log_65 (v := (-1)) (by decide) ?_
      obtain rfl := Option.some.inj hf
      exact r_iret F hq dX12_log_66 rfl rfl (Nat.le_refl _) (Nat.le_refl _) ⟨rfl, rfl⟩
  · have hf := e_f hc hf
    refine r_iconst F dX12_log_65 (v := (-1)) (by decide) ?_
    obtain rfl := Option.some.inj hf
    exact r_iret F hq dX12_log_66 rfl rfl (Nat.le_refl _) (Nat.le_refl _) ⟨rfl, rfl⟩

def fX12_longestWall (a72_21 : Int32) (a72_22 : Int32) (a72_44 : Int32) (A79 : Nat → Int32) (A91 : Nat → Int32) (A92 : Nat → Int32)  : Option (Int32 × Int32 × (Nat → Int32) × (Nat → Int32)) :=
  (fX12_laysWalls a72_21 a72_22 a72_44 A79 A91 A92).bind (fun q1 =>
  (e_loop (fun (v5 : Int32 × Int32) => (
      if q1.1 ≤ v5.2 then
        some (.inr v5.1)
      else
        e_g (e_in v5.2 162) (
        (fX12_linksOf a72_21 a72_22 A79 q1.2.2.1 (q1.2.2.2 (tn v5.2))).bind (fun q8 =>
        (fJ9_max_7cf53 v5.1 q8).bind (fun q10 =>
        some (.inl (q10, v5.2 + 1))))) : Option ((Int32 × Int32) ⊕ (Int32)))) e_fuel (0, 0)).bind (fun x6 =>
  some (x6, q1.2.1, q1.2.2.1, q1.2.2.2)))
set_option maxRecDepth 100000 in
theorem tX12_longestWall_72 {G : eG} (hG : e_GS G) {la : Launch} {h : Nat → eO} {nx : Nat} (hnx : 99 ≤ nx) {a72_0 : Int32} {a72_2 : Int32} {a72_3 : Int32} {a72_4 : Int32} {a72_5 : Int32} {a72_6 : Int32} {a72_7 : Int32} {a72_8 : Bool} {a72_9 : Int32} {a72_10 : Int32} {a72_11 : Int32} {a72_17 : Bool} {a72_18 : Bool} {a72_19 : Bool} {a72_21 : Int32} {a72_22 : Int32} {a72_29 : Int32} {a72_31 : Int32} {a72_35 : Int32} {a72_37 : Bool} {a72_38 : Int32} {a72_39 : Int32} {a72_40 : Int32} {a72_41 : Int64} {a72_44 : Int32} {a72_50 : Bool} {A79 : Nat → Int32} {A91 : Nat → Int32} {A92 : Nat → Int32}  (h72 : h 72 = o72 a72_0 a72_2 a72_3 a72_4 a72_5 a72_6 a72_7 a72_8 a72_9 a72_10 a72_11 a72_17 a72_18 a72_19 a72_21 a72_22 a72_29 a72_31 a72_35 a72_37 a72_38 a72_39 a72_40 a72_41 a72_44 a72_50) (h79 : h 79 = o79 A79) (h91 : h 91 = o91 A91) (h92 : h 92 = o92 A92) {R9 : Int32 × Int32 × (Nat → Int32) × (Nat → Int32)} (hf : fX12_longestWall a72_21 a72_22 a72_44 A79 A91 A92  = some R9) :
    eSem G la MX12_longestWall [.ref 72] h nx 0 0 (fun r9 h9 => r9 = some (.int R9.1) ∧ h9 = e_up h [(72, o72 a72_0 a72_2 a72_3 a72_4 a72_5 a72_6 a72_7 a72_8 a72_9 a72_10 a72_11 a72_17 a72_18 a72_19 a72_21 a72_22 a72_29 a72_31 a72_35 a72_37 a72_38 a72_39 a72_40 a72_41 R9.2.1 a72_50), (91, o91 R9.2.2.1), (92, o92 R9.2.2.2)]) := by
  refine eSem.of (k := 3) (L := [some (.ref 72), none, none, none]) (by decide +kernel) rfl rfl (fun X F hxl hq hcR hsR => ?_)
  subst hxl
  unfold fX12_longestWall at hf
  refine r_iconst F dX12_longestWall_0 (v := 0) (by decide) ?_
  refine r_istore_n F dX12_longestWall_1 (e_le rfl) (L' := [some (.ref 72), some (.int 0), none, none]) rfl ?_
  refine r_aload_n F dX12_longestWall_2 rfl ?_
  obtain ⟨q1, hq2, hf⟩ := e_bd hf
  refine r_callV F dX12_longestWall_3 (b := 72) (dc := 0) (ds := 0) (As := []) (S0 := []) lkX12_321 mX12_laysWalls (tX12_laysWalls_72 hG (la := x_l X) (h := e_up h []) hnx h72 h79 h91 h92 hq2) rfl rfl rfl (e_le rfl) (e_le rfl) (e_le rfl) h72 (ci := 12) e_cl12.1 rfl (e_le rfl) (e_lt hnx rfl) (Nat.zero_le _) (Nat.zero_le _) (e_k ?_)
  refine r_wr (l' := [(72, o72 a72_0 a72_2 a72_3 a72_4 a72_5 a72_6 a72_7 a72_8 a72_9 a72_10 a72_11 a72_17 a72_18 a72_19 a72_21 a72_22 a72_29 a72_31 a72_35 a72_37 a72_38 a72_39 a72_40 a72_41 q1.2.1 a72_50), (91, o91 q1.2.2.1), (92, o92 q1.2.2.2)]) rfl rfl ?_
  refine r_istore_n F dX12_longestWall_6 (e_le rfl) (L' := [some (.ref 72), some (.int 0), some (.int q1.1), none]) rfl ?_
  refine r_iconst F dX12_longestWall_7 (v := 0) (by decide) ?_
  refine r_istore_n F dX12_longestWall_8 (e_le rfl) (L' := [some (.ref 72), some (.int 0), some (.int q1.1), some (.int 0)]) rfl ?_
  obtain ⟨x6, hx7, hf⟩ := e_bd hf
  refine (e_loop_ok (P := fun (v5 : Int32 × Int32) => eRun G X 9 [some (.ref 72), some (.int v5.1), some (.int q1.1), some (.int v5.2)] [] h [(72, o72 a72_0 a72_2 a72_3 a72_4 a72_5 a72_6 a72_7 a72_8 a72_9 a72_10 a72_11 a72_17 a72_18 a72_19 a72_21 a72_22 a72_29 a72_31 a72_35 a72_37 a72_38 a72_39 a72_40 a72_41 q1.2.1 a72_50), (91, o91 q1.2.2.1), (92, o92 q1.2.2.2)] nx 0 0) (K := fun (x6 : Int32) => eRun G X 35 [none, some (.int x6), none, none] [] h [(72, o72 a72_0 a72_2 a72_3 a72_4 a72_5 a72_6 a72_7 a72_8 a72_9 a72_10 a72_11 a72_17 a72_18 a72_19 a72_21 a72_22 a72_29 a72_31 a72_35 a72_37 a72_38 a72_39 a72_40 a72_41 q1.2.1 a72_50), (91, o91 q1.2.2.1), (92, o92 q1.2.2.2)] nx 0 0) ?_ e_fuel (0, 0) x6 hx7 ?_ : _)
  · intro v5 z hz ih hx
    refine r_iload_n F dX12_longestWall_9 rfl ?_
    refine r_iload_n F dX12_longestWall_10 rfl ?_
    refine r_icmp_ge F dX12_longestWall_11 (tgt := 35) (by decide) (fun hc => ?_) (fun hc => ?_)
    · have hz := e_t hc hz
      refine r_drop 0 (L' := [none, some (.int v5.1), some (.int q1.1), some (.int v5.2)]) rfl ?_
      refine r_drop 2 (L' := [none, some (.int v5.1), none, some (.int v5.2)]) rfl ?_
      refine r_drop 3 (L' := [none, some (.int v5.1), none, none]) rfl ?_
      obtain rfl := Option.some.inj hz
      exact hx v5.1 rfl
    · have hz := e_f hc hz
      refine r_iload_n F dX12_longestWall_14 rfl ?_
      refine r_aload_n F dX12_longestWall_15 rfl ?_
      refine r_aload_n F dX12_longestWall_16 rfl ?_
      refine r_get F dX12_longestWall_17 flX12_68 rfl rfl (e_le rfl) (e_lt hnx rfl) ?_
      refine r_iload_n F dX12_longestWall_20 rfl ?_
      obtain ⟨hg, hz⟩ := e_gd hz
      refine r_iald F dX12_longestWall_21 (i := v5.2) rfl (e_le rfl) (e_lt hnx rfl) (e_vp hg) ?_
      obtain ⟨q8, hq9, hz⟩ := e_bd hz
      refine r_callV F dX12_longestWall_22 (b := 72) (dc := 0) (ds := 0) (As := [.int (q1.2.2.2 (tn v5.2))]) (S0 := [.int v5.1]) lkX12_434 mX12_linksOf (tX12_linksOf_72 hG (la := x_l X) (h := e_up h [(72, o72 a72_0 a72_2 a72_3 a72_4 a72_5 a72_6 a72_7 a72_8 a72_9 a72_10 a72_11 a72_17 a72_18 a72_19 a72_21 a72_22 a72_29 a72_31 a72_35 a72_37 a72_38 a72_39 a72_40 a72_41 q1.2.1 a72_50), (91, o91 q1.2.2.1), (92, o92 q1.2.2.2)]) hnx rfl h79 rfl hq9) rfl rfl rfl (e_le rfl) (e_le rfl) (e_le rfl) rfl (ci := 12) e_cl12.1 rfl (e_le rfl) (e_lt hnx rfl) (Nat.zero_le _) (Nat.zero_le _) (e_k ?_)
      refine r_wr0 ?_
      obtain ⟨q10, hq11, hz⟩ := e_bd hz
      refine r_callS F dX12_longestWall_25 (dc := 0) (ds := 0) (As := [.int v5.1, .int q8]) (S0 := []) lkX12_464 mJ9_max_7cf53 (tJ9_max_7cf53 hG (la := x_l X) (h := e_up h [(72, o72 a72_0 a72_2 a72_3 a72_4 a72_5 a72_6 a72_7 a72_8 a72_9 a72_10 a72_11 a72_17 a72_18 a72_19 a72_21 a72_22 a72_29 a72_31 a72_35 a72_37 a72_38 a72_39 a72_40 a72_41 q1.2.1 a72_50), (91, o91 q1.2.2.1), (92, o92 q1.2.2.2)]) hnx  hq11) rfl rfl rfl (e_le rfl) (e_le rfl) (e_le rfl) (Nat.zero_le _) (Nat.zero_le _) (e_k ?_)
      refine r_wr0 ?_
      refine r_istore_n F dX12_longestWall_28 (e_le rfl) (L' := [some (.ref 72), some (.int q10), some (.int q1.1), some (.int v5.2)]) rfl ?_
      refine r_inc F dX12_longestWall_29 (k9 := 1) (by decide) rfl (L' := [some (.ref 72), some (.int q10), some (.int q1.1), some (.int (v5.2 + 1))]) rfl ?_
      refine r_goto F dX12_longestWall_32 (tgt := 9) (by decide) ?_
      obtain rfl := Option.some.inj hz
      exact ih (q10, v5.2 + 1) rfl
  · show eRun G X 35 [none, some (.int x6), none, none] [] h [(72, o72 a72_0 a72_2 a72_3 a72_4 a72_5 a72_6 a72_7 a72_8 a72_9 a72_10 a72_11 a72_17 a72_18 a72_19 a72_21 a72_22 a72_29 a72_31 a72_35 a72_37 a72_38 a72_39 a72_40 a72_41 q1.2.1 a72_50), (91, o91 q1.2.2.1), (92, o92 q1.2.2.2)] nx 0 0
    refine r_iload_n F dX12_longestWall_35 rfl ?_
    obtain rfl := Option.some.inj hf
    exact r_iret F hq dX12_longestWall_36 rfl rfl (Nat.le_refl _) (Nat.le_refl _) ⟨rfl, rfl⟩

def fX12_meets (a72_0 : Int32) (a72_21 : Int32) (a72_22 : Int32) (a72_29 : Int32) (A79 : Nat → Int32) (A80 : Nat → Int32) (A81 : Nat → Int32) (A82 : Nat → Int32) (A83 : Nat → Int32) (A84 : Nat → Int32) (A85 : Nat → Int32) (A93 : Nat → Int32) (A94 : Nat → Int32) (A95 : Nat → Int32) (p0 : Int32) (p1 : Int32) : Option (Int32 × Int32 × Int32 × (Nat → Int32) × (Nat → Int32) × (Nat → Int32) × (Nat → Int32) × (Nat → Int32) × (Nat → Int32) × (Nat → Int32) × (Nat → Int32)) :=
  (fX12_isCrystal a72_21).bind (fun q1 =>
  if q1 = true then
    (fX12_in (Int32.toInt64 p0) 1 9).bind (fun q3 =>
    if q3 = true then
      (fX12_laysRid a72_21 a72_22 a72_29 A79 A80 A81 A82 A83 A84 A85 A93 A94 A95 p0).bind (fun q5 =>
      (fX12_in (Int32.toInt64 p1) 0 (Int32.toInt64 (q5.2.1 - 1))).bind (fun q7 =>
      if q7 = true then
        e_g (e_in p1 12) (
        some (q5.2.2.2.2.2.2.2.2.2 (tn p1), 0, q5.2.1, q5.2.2.1, q5.2.2.2.1, q5.2.2.2.2.1, q5.2.2.2.2.2.1, q5.2.2.2.2.2.2.1, q5.2.2.2.2.2.2.2.1, q5.2.2.2.2.2.2.2.2.1, q5.2.2.2.2.2.2.2.2.2))
      else
        some ((-1), 0, q5.2.1, q5.2.2.1, q5.2.2.2.1, q5.2.2.2.2.1, q5.2.2.2.2.2.1, q5.2.2.2.2.2.2.1, q5.2.2.2.2.2.2.2.1, q5.2.2.2.2.2.2.2.2.1, q5.2.2.2.2.2.2.2.2.2)))
    else
      some ((-1), 0, a72_29, A81, A82, A83, A84, A85, A93, A94, A95))
  else
    some ((-1), 0, a72_29, A81, A82, A83, A84, A85, A93, A94, A95))
set_option maxRecDepth 100000 in
theorem tX12_meets_72 {G : eG} (hG : e_GS G) {la : Launch} {h : Nat → eO} {nx : Nat} (hnx : 99 ≤ nx) {a72_0 : Int32} {a72_2 : Int32} {a72_3 : Int32} {a72_4 : Int32} {a72_5 : Int32} {a72_6 : Int32} {a72_7 : Int32} {a72_8 : Bool} {a72_9 : Int32} {a72_10 : Int32} {a72_11 : Int32} {a72_17 : Bool} {a72_18 : Bool} {a72_19 : Bool} {a72_21 : Int32} {a72_22 : Int32} {a72_29 : Int32} {a72_31 : Int32} {a72_35 : Int32} {a72_37 : Bool} {a72_38 : Int32} {a72_39 : Int32} {a72_40 : Int32} {a72_41 : Int64} {a72_44 : Int32} {a72_50 : Bool} {A79 : Nat → Int32} {A80 : Nat → Int32} {A81 : Nat → Int32} {A82 : Nat → Int32} {A83 : Nat → Int32} {A84 : Nat → Int32} {A85 : Nat → Int32} {A93 : Nat → Int32} {A94 : Nat → Int32} {A95 : Nat → Int32} {p0 : Int32} {p1 : Int32} (h72 : h 72 = o72 a72_0 a72_2 a72_3 a72_4 a72_5 a72_6 a72_7 a72_8 a72_9 a72_10 a72_11 a72_17 a72_18 a72_19 a72_21 a72_22 a72_29 a72_31 a72_35 a72_37 a72_38 a72_39 a72_40 a72_41 a72_44 a72_50) (h79 : h 79 = o79 A79) (h80 : h 80 = o80 A80) (h81 : h 81 = o81 A81) (h82 : h 82 = o82 A82) (h83 : h 83 = o83 A83) (h84 : h 84 = o84 A84) (h85 : h 85 = o85 A85) (h93 : h 93 = o93 A93) (h94 : h 94 = o94 A94) (h95 : h 95 = o95 A95) {R9 : Int32 × Int32 × Int32 × (Nat → Int32) × (Nat → Int32) × (Nat → Int32) × (Nat → Int32) × (Nat → Int32) × (Nat → Int32) × (Nat → Int32) × (Nat → Int32)} (hf : fX12_meets a72_0 a72_21 a72_22 a72_29 A79 A80 A81 A82 A83 A84 A85 A93 A94 A95 p0 p1 = some R9) :
    eSem G la MX12_meets [.ref 72, .int p0, .int p1] h nx 0 0 (fun r9 h9 => r9 = some (.int R9.1) ∧ h9 = e_up h [(72, o72 R9.2.1 a72_2 a72_3 a72_4 a72_5 a72_6 a72_7 a72_8 a72_9 a72_10 a72_11 a72_17 a72_18 a72_19 a72_21 a72_22 R9.2.2.1 a72_31 a72_35 a72_37 a72_38 a72_39 a72_40 a72_41 a72_44 a72_50), (81, o81 R9.2.2.2.1), (82, o82 R9.2.2.2.2.1), (83, o83 R9.2.2.2.2.2.1), (84, o84 R9.2.2.2.2.2.2.1), (85, o85 R9.2.2.2.2.2.2.2.1), (93, o93 R9.2.2.2.2.2.2.2.2.1), (94, o94 R9.2.2.2.2.2.2.2.2.2.1), (95, o95 R9.2.2.2.2.2.2.2.2.2.2)]) := by
  refine eSem.of (k := 0) (L := [some (.ref 72), some (.int p0), some (.int p1)]) (by decide +kernel) rfl rfl (fun X F hxl hq hcR hsR => ?_)
  subst hxl
  unfold fX12_meets at hf
  refine r_aload_n F dX12_meets_0 rfl ?_
  refine r_iconst F dX12_meets_1 (v := 0) (by decide) ?_
  refine r_put F dX12_meets_2 flX12_86 rfl rfl rfl h72 (e_le rfl) (e_le rfl) (e_lt hnx rfl) (l' := [(72, o72 0 a72_2 a72_3 a72_4 a72_5 a72_6 a72_7 a72_8 a72_9 a72_10 a72_11 a72_17 a72_18 a72_19 a72_21 a72_22 a72_29 a72_31 a72_35 a72_37 a72_38 a72_39 a72_40 a72_41 a72_44 a72_50)]) rfl ?_
  refine r_aload_n F dX12_meets_5 rfl ?_
  obtain ⟨q1, hq2, hf⟩ := e_bd hf
  refine r_callV F dX12_meets_6 (b := 72) (dc := 0) (ds := 0) (As := []) (S0 := []) lkX12_306 mX12_isCrystal (tX12_isCrystal_72 hG (la := x_l X) (h := e_up h [(72, o72 0 a72_2 a72_3 a72_4 a72_5 a72_6 a72_7 a72_8 a72_9 a72_10 a72_11 a72_17 a72_18 a72_19 a72_21 a72_22 a72_29 a72_31 a72_35 a72_37 a72_38 a72_39 a72_40 a72_41 a72_44 a72_50)]) hnx rfl hq2) rfl rfl rfl (e_le rfl) (e_le rfl) (e_le rfl) rfl (ci := 12) e_cl12.1 rfl (e_le rfl) (e_lt hnx rfl) (Nat.zero_le _) (Nat.zero_le _) (e_k ?_)
  refine r_wr0 ?_
  refine r_z_eq F dX12_meets_9 (tgt := 24) (by decide) (fun hc => ?_) (fun hc => ?_)
  · have hf := e_t hc hf
    refine r_iload_n F dX12_meets_12 rfl ?_
    refine r_i2l F dX12_meets_13 ?_
    refine r_lconst F dX12_meets_14 (v := 1) (by decide) ?_
    refine r_ldc2 F dX12_meets_15 klX12_399 ?_
    obtain ⟨q3, hq4, hf⟩ := e_bd hf
    refine r_callS F dX12_meets_18 (dc := 0) (ds := 0) (As := [.long (Int32.toInt64 p0), .long 1, .long 9]) (S0 := []) lkX12_97 mX12_in (tX12_in hG (la := x_l X) (h := e_up h [(72, o72 0 a72_2 a72_3 a72_4 a72_5 a72_6 a72_7 a72_8 a72_9 a72_10 a72_11 a72_17 a72_18 a72_19 a72_21 a72_22 a72_29 a72_31 a72_35 a72_37 a72_38 a72_39 a72_40 a72_41 a72_44 a72_50)]) hnx  hq4) rfl rfl rfl (e_le rfl) (e_le rfl) (e_le rfl) (Nat.zero_le _) (Nat.zero_le _) (e_k ?_)
    refine r_wr0 ?_
    refine r_z_ne F dX12_meets_21 (tgt := 26) (by decide) (fun hc => ?_) (fun hc => ?_)
    · have hf := e_t hc hf
      refine r_aload_n F dX12_meets_26 rfl ?_
      refine r_iload_n F dX12_meets_27 rfl ?_
      obtain ⟨q5, hq6, hf⟩ := e_bd hf
      refine r_callV F dX12_meets_28 (b := 72) (dc := 0) (ds := 0) (As := [.int p0]) (S0 := []) lkX12_452 mX12_laysRid (tX12_laysRid_72 hG (la := x_l X) (h := e_up h [(72, o72 0 a72_2 a72_3 a72_4 a72_5 a72_6 a72_7 a72_8 a72_9 a72_10 a72_11 a72_17 a72_18 a72_19 a72_21 a72_22 a72_29 a72_31 a72_35 a72_37 a72_38 a72_39 a72_40 a72_41 a72_44 a72_50)]) hnx rfl h79 h80 h81 h82 h83 h84 h85 h93 h94 h95 hq6) rfl rfl rfl (e_le rfl) (e_le rfl) (e_le rfl) rfl (ci := 12) e_cl12.1 rfl (e_le rfl) (e_lt hnx rfl) (Nat.zero_le _) (Nat.zero_le _) (e_k ?_)
      refine r_wr (l' := [(72, o72 0 a72_2 a72_3 a72_4 a72_5 a72_6 a72_7 a72_8 a72_9 a72_10 a72_11 a72_17 a72_18 a72_19 a72_21 a72_22 q5.2.1 a72_31 a72_35 a72_37 a72_38 a72_39 a72_40 a72_41 a72_44 a72_50), (81, o81 q5.2.2.1), (82, o82 q5.2.2.2.1), (83, o83 q5.2.2.2.2.1), (84, o84 q5.2.2.2.2.2.1), (85, o85 q5.2.2.2.2.2.2.1), (93, o93 q5.2.2.2.2.2.2.2.1), (94, o94 q5.2.2.2.2.2.2.2.2.1), (95, o95 q5.2.2.2.2.2.2.2.2.2)]) rfl rfl ?_
      refine r_pop F dX12_meets_31 rfl ?_
      refine r_iload_n F dX12_meets_32 rfl ?_
      refine r_i2l F dX12_meets_33 ?_
      refine r_lconst F dX12_meets_34 (v := 0) (by decide) ?_
      refine r_aload_n F dX12_meets_35 rfl ?_
      refine r_get F dX12_meets_36 flX12_241 rfl rfl (e_le rfl) (e_lt hnx rfl) ?_
      refine r_iconst F dX12_meets_39 (v := 1) (by decide) ?_
      refine r_isub F dX12_meets_40 ?_
      refine r_i2l F dX12_meets_41 ?_
      obtain ⟨q7, hq8, hf⟩ := e_bd hf
      refine r_callS F dX12_meets_42 (dc := 0) (ds := 0) (As := [.long (Int32.toInt64 p1), .long 0, .long (Int32.toInt64 (q5.2.1 - 1))]) (S0 := []) lkX12_97 mX12_in (tX12_in hG (la := x_l X) (h := e_up h [(72, o72 0 a72_2 a72_3 a72_4 a72_5 a72_6 a72_7 a72_8 a72_9 a72_10 a72_11 a72_17 a72_18 a72_19 a72_21 a72_22 q5.2.1 a72_31 a72_35 a72_37 a72_38 a72_39 a72_40 a72_41 a72_44 a72_50), (81, o81 q5.2.2.1), (82, o82 q5.2.2.2.1), (83, o83 q5.2.2.2.2.1), (84, o84 q5.2.2.2.2.2.1), (85, o85 q5.2.2.2.2.2.2.1), (93, o93 q5.2.2.2.2.2.2.2.1), (94, o94 q5.2.2.2.2.2.2.2.2.1), (95, o95 q5.2.2.2.2.2.2.2.2.2)]) hnx  hq8) rfl rfl rfl (e_le rfl) (e_le rfl) (e_le rfl) (Nat.zero_le _) (Nat.zero_le _) (e_k ?_)
      refine r_wr0 ?_
      refine r_z_eq F dX12_meets_45 (tgt := 57) (by decide) (fun hc => ?_) (fun hc => ?_)
      · have hf := e_t hc hf
        refine r_aload_n F dX12_meets_48 rfl ?_
        refine r_get F dX12_meets_49 flX12_77 rfl rfl (e_le rfl) (e_lt hnx rfl) ?_
        refine r_iload_n F dX12_meets_52 rfl ?_
        obtain ⟨hg, hf⟩ := e_gd hf
        refine r_iald F dX12_meets_53 (i := p1) rfl (e_le rfl) (e_lt hnx rfl) (e_vp hg) ?_
        refine r_goto F dX12_meets_54 (tgt := 58) (by decide) ?_
        obtain rfl := Option.some.inj hf
        exact r_iret F hq dX12_meets_58 rfl rfl (Nat.le_refl _) (Nat.le_refl _) ⟨rfl, rfl⟩
      · have hf := e_f hc hf
        refine r_iconst F dX12_meets_57 (v := (-1)) (by decide) ?_
        obtain rfl := Option.some.inj hf
        exact r_iret F hq dX12_meets_58 rfl rfl (Nat.le_refl _) (Nat.le_refl _) ⟨rfl, rfl⟩
    · have hf := e_f hc hf
      refine r_iconst F dX12_meets_24 (v := (-1)) (by decide) ?_
      refine r_mat (k := 81) h81 (l' := [(72, o72 0 a72_2 a72_3 a72_4 a72_5 a72_6 a72_7 a72_8 a72_9 a72_10 a72_11 a72_17 a72_18 a72_19 a72_21 a72_22 a72_29 a72_31 a72_35 a72_37 a72_38 a72_39 a72_40 a72_41 a72_44 a72_50), (81, o81 A81)]) rfl ?_
      refine r_mat (k := 82) h82 (l' := [(72, o72 0 a72_2 a72_3 a72_4 a72_5 a72_6 a72_7 a72_8 a72_9 a72_10 a72_11 a72_17 a72_18 a72_19 a72_21 a72_22 a72_29 a72_31 a72_35 a72_37 a72_38 a72_39 a72_40 a72_41 a72_44 a72_50), (81, o81 A81), (82, o82 A82)]) rfl ?_
      refine r_mat (k := 83) h83 (l' := [(72, o72 0 a72_2 a72_3 a72_4 a72_5 a72_6 a72_7 a72_8 a72_9 a72_10 a72_11 a72_17 a72_18 a72_19 a72_21 a72_22 a72_29 a72_31 a72_35 a72_37 a72_38 a72_39 a72_40 a72_41 a72_44 a72_50), (81, o81 A81), (82, o82 A82), (83, o83 A83)]) rfl ?_
      refine r_mat (k := 84) h84 (l' := [(72, o72 0 a72_2 a72_3 a72_4 a72_5 a72_6 a72_7 a72_8 a72_9 a72_10 a72_11 a72_17 a72_18 a72_19 a72_21 a72_22 a72_29 a72_31 a72_35 a72_37 a72_38 a72_39 a72_40 a72_41 a72_44 a72_50), (81, o81 A81), (82, o82 A82), (83, o83 A83), (84, o84 A84)]) rfl ?_
      refine r_mat (k := 85) h85 (l' := [(72, o72 0 a72_2 a72_3 a72_4 a72_5 a72_6 a72_7 a72_8 a72_9 a72_10 a72_11 a72_17 a72_18 a72_19 a72_21 a72_22 a72_29 a72_31 a72_35 a72_37 a72_38 a72_39 a72_40 a72_41 a72_44 a72_50), (81, o81 A81), (82, o82 A82), (83, o83 A83), (84, o84 A84), (85, o85 A85)]) rfl ?_
      refine r_mat (k := 93) h93 (l' := [(72, o72 0 a72_2 a72_3 a72_4 a72_5 a72_6 a72_7 a72_8 a72_9 a72_10 a72_11 a72_17 a72_18 a72_19 a72_21 a72_22 a72_29 a72_31 a72_35 a72_37 a72_38 a72_39 a72_40 a72_41 a72_44 a72_50), (81, o81 A81), (82, o82 A82), (83, o83 A83), (84, o84 A84), (85, o85 A85), (93, o93 A93)]) rfl ?_
      refine r_mat (k := 94) h94 (l' := [(72, o72 0 a72_2 a72_3 a72_4 a72_5 a72_6 a72_7 a72_8 a72_9 a72_10 a72_11 a72_17 a72_18 a72_19 a72_21 a72_22 a72_29 a72_31 a72_35 a72_37 a72_38 a72_39 a72_40 a72_41 a72_44 a72_50), (81, o81 A81), (82, o82 A82), (83, o83 A83), (84, o84 A84), (85, o85 A85), (93, o93 A93), (94, o94 A94)]) rfl ?_
      refine r_mat (k := 95) h95 (l' := [(72, o72 0 a72_2 a72_3 a72_4 a72_5 a72_6 a72_7 a72_8 a72_9 a72_10 a72_11 a72_17 a72_18 a72_19 a72_21 a72_22 a72_29 a72_31 a72_35 a72_37 a72_38 a72_39 a72_40 a72_41 a72_44 a72_50), (81, o81 A81), (82, o82 A82), (83, o83 A83), (84, o84 A84), (85, o85 A85), (93, o93 A93), (94, o94 A94), (95, o95 A95)]) rfl ?_
      obtain rfl := Option.some.inj hf
      exact r_iret F hq dX12_meets_25 rfl rfl (Nat.le_refl _) (Nat.le_refl _) ⟨rfl, rfl⟩
  · have hf := e_f hc hf
    refine r_iconst F dX12_meets_24 (v := (-1)) (by decide) ?_
    refine r_mat (k := 81) h81 (l' := [(72, o72 0 a72_2 a72_3 a72_4 a72_5 a72_6 a72_7 a72_8 a72_9 a72_10 a72_11 a72_17 a72_18 a72_19 a72_21 a72_22 a72_29 a72_31 a72_35 a72_37 a72_38 a72_39 a72_40 a72_41 a72_44 a72_50), (81, o81 A81)]) rfl ?_
    refine r_mat (k := 82) h82 (l' := [(72, o72 0 a72_2 a72_3 a72_4 a72_5 a72_6 a72_7 a72_8 a72_9 a72_10 a72_11 a72_17 a72_18 a72_19 a72_21 a72_22 a72_29 a72_31 a72_35 a72_37 a72_38 a72_39 a72_40 a72_41 a72_44 a72_50), (81, o81 A81), (82, o82 A82)]) rfl ?_
    refine r_mat (k := 83) h83 (l' := [(72, o72 0 a72_2 a72_3 a72_4 a72_5 a72_6 a72_7 a72_8 a72_9 a72_10 a72_11 a72_17 a72_18 a72_19 a72_21 a72_22 a72_29 a72_31 a72_35 a72_37 a72_38 a72_39 a72_40 a72_41 a72_44 a72_50), (81, o81 A81), (82, o82 A82), (83, o83 A83)]) rfl ?_
    refine r_mat (k := 84) h84 (l' := [(72, o72 0 a72_2 a72_3 a72_4 a72_5 a72_6 a72_7 a72_8 a72_9 a72_10 a72_11 a72_17 a72_18 a72_19 a72_21 a72_22 a72_29 a72_31 a72_35 a72_37 a72_38 a72_39 a72_40 a72_41 a72_44 a72_50), (81, o81 A81), (82, o82 A82), (83, o83 A83), (84, o84 A84)]) rfl ?_
    refine r_mat (k := 85) h85 (l' := [(72, o72 0 a72_2 a72_3 a72_4 a72_5 a72_6 a72_7 a72_8 a72_9 a72_10 a72_11 a72_17 a72_18 a72_19 a72_21 a72_22 a72_29 a72_31 a72_35 a72_37 a72_38 a72_39 a72_40 a72_41 a72_44 a72_50), (81, o81 A81), (82, o82 A82), (83, o83 A83), (84, o84 A84), (85, o85 A85)]) rfl ?_
    refine r_mat (k := 93) h93 (l' := [(72, o72 0 a72_2 a72_3 a72_4 a72_5 a72_6 a72_7 a72_8 a72_9 a72_10 a72_11 a72_17 a72_18 a72_19 a72_21 a72_22 a72_29 a72_31 a72_35 a72_37 a72_38 a72_39 a72_40 a72_41 a72_44 a72_50), (81, o81 A81), (82, o82 A82), (83, o83 A83), (84, o84 A84), (85, o85 A85), (93, o93 A93)]) rfl ?_
    refine r_mat (k := 94) h94 (l' := [(72, o72 0 a72_2 a72_3 a72_4 a72_5 a72_6 a72_7 a72_8 a72_9 a72_10 a72_11 a72_17 a72_18 a72_19 a72_21 a72_22 a72_29 a72_31 a72_35 a72_37 a72_38 a72_39 a72_40 a72_41 a72_44 a72_50), (81, o81 A81), (82, o82 A82), (83, o83 A83), (84, o84 A84), (85, o85 A85), (93, o93 A93), (94, o94 A94)]) rfl ?_
    refine r_mat (k := 95) h95 (l' := [(72, o72 0 a72_2 a72_3 a72_4 a72_5 a72_6 a72_7 a72_8 a72_9 a72_10 a72_11 a72_17 a72_18 a72_19 a72_21 a72_22 a72_29 a72_31 a72_35 a72_37 a72_38 a72_39 a72_40 a72_41 a72_44 a72_50), (81, o81 A81), (82, o82 A82), (83, o83 A83), (84, o84 A84), (85, o85 A85), (93, o93 A93), (94, o94 A94), (95, o95 A95)]) rfl ?_
    obtain rfl := Option.some.inj hf
    exact r_iret F hq dX12_meets_25 rfl rfl (Nat.le_refl _) (Nat.le_refl _) ⟨rfl, rfl⟩

def fX12_mostAlike (a72_29 : Int32) (A81 : Nat → Int32) (A83 : Nat → Int32) (A84 : Nat → Int32) (p0 : Bool) : Option (Int32) :=
  (e_loop (fun (v3 : Int32 × Int32 × Int32) => (
      if a72_29 ≤ v3.2.2 then
        some (.inr (v3.1, v3.2.1))
      else
        (fX12_alikeWith a72_29 A81 A83 A84 v3.2.2).bind (fun q6 =>
        Option.bind (α := Int32 × Int32) (
          if v3.1 < q6 then
            e_g (e_in v3.2.2 64) (
            some (q6, A81 (tn v3.2.2)))
          else
            if q6 = v3.1 then
              e_g (e_in v3.2.2 64) (
              if v3.2.1 ≤ (A81 (tn v3.2.2)) then
                some (v3.1, v3.2.1)
              else
                e_g (e_in v3.2.2 64) (
                some (q6, A81 (tn v3.2.2))))
            else
              some (v3.1, v3.2.1)) (fun q8 =>
        some (.inl (q8.1, q8.2, v3.2.2 + 1)))) : Option ((Int32 × Int32 × Int32) ⊕ (Int32 × Int32)))) e_fuel (0, (-1), 0)).bind (fun x4 =>
  if p0 = true then
    some x4.2
  else
    some x4.1)
set_option maxRecDepth 100000 in
theorem tX12_mostAlike_72 {G : eG} (hG : e_GS G) {la : Launch} {h : Nat → eO} {nx : Nat} (hnx : 99 ≤ nx) {a72_0 : Int32} {a72_2 : Int32} {a72_3 : Int32} {a72_4 : Int32} {a72_5 : Int32} {a72_6 : Int32} {a72_7 : Int32} {a72_8 : Bool} {a72_9 : Int32} {a72_10 : Int32} {a72_11 : Int32} {a72_17 : Bool} {a72_18 : Bool} {a72_19 : Bool} {a72_21 : Int32} {a72_22 : Int32} {a72_29 : Int32} {a72_31 : Int32} {a72_35 : Int32} {a72_37 : Bool} {a72_38 : Int32} {a72_39 : Int32} {a72_40 : Int32} {a72_41 : Int64} {a72_44 : Int32} {a72_50 : Bool} {A81 : Nat → Int32} {A83 : Nat → Int32} {A84 : Nat → Int32} {p0 : Bool} (h72 : h 72 = o72 a72_0 a72_2 a72_3 a72_4 a72_5 a72_6 a72_7 a72_8 a72_9 a72_10 a72_11 a72_17 a72_18 a72_19 a72_21 a72_22 a72_29 a72_31 a72_35 a72_37 a72_38 a72_39 a72_40 a72_41 a72_44 a72_50) (h81 : h 81 = o81 A81) (h83 : h 83 = o83 A83) (h84 : h 84 = o84 A84) {R9 : Int32} (hf : fX12_mostAlike a72_29 A81 A83 A84 p0 = some R9) :
    eSem G la MX12_mostAlike [.ref 72, .int (e_b p0)] h nx 0 0 (fun r9 h9 => r9 = some (.int R9) ∧ h9 = h) := by
  refine eSem.of (k := 4) (L := [some (.ref 72), some (.int (e_b p0)), none, none, none, none]) (by decide +kernel) rfl rfl (fun X F hxl hq hcR hsR => ?_)
  subst hxl
  unfold fX12_mostAlike at hf
  refine r_iconst F dX12_mostAlike_0 (v := 0) (by decide) ?_
  refine r_istore_n F dX12_mostAlike_1 (e_le rfl) (L' := [some (.ref 72), some (.int (e_b p0)), some (.int 0), none, none, none]) rfl ?_
  refine r_iconst F dX12_mostAlike_2 (v := (-1)) (by decide) ?_
  refine r_istore_n F dX12_mostAlike_3 (e_le rfl) (L' := [some (.ref 72), some (.int (e_b p0)), some (.int 0), some (.int (-1)), none, none]) rfl ?_
  refine r_iconst F dX12_mostAlike_4 (v := 0) (by decide) ?_
  refine r_istore F dX12_mostAlike_5 (e_le rfl) (L' := [some (.ref 72), some (.int (e_b p0)), some (.int 0), some (.int (-1)), some (.int 0), none]) rfl ?_
  obtain ⟨x4, hx5, hf⟩ := e_bd hf
  refine (e_loop_ok (P := fun (v3 : Int32 × Int32 × Int32) => eRun G X 7 [some (.ref 72), some (.int (e_b p0)), some (.int v3.1), some (.int v3.2.1), some (.int v3.2.2), none] [] h [] nx 0 0) (K := fun (x4 : Int32 × Int32) => eRun G X 64 [none, some (.int (e_b p0)), some (.int x4.1), some (.int x4.2), none, none] [] h [] nx 0 0) ?_ e_fuel (0, (-1), 0) x4 hx5 ?_ : _)
  · intro v3 z hz ih hx
    refine r_iload F dX12_mostAlike_7 rfl ?_
    refine r_aload_n F dX12_mostAlike_9 rfl ?_
    refine r_get F dX12_mostAlike_10 flX12_241 h72 rfl (e_le rfl) (e_lt hnx rfl) ?_
    refine r_icmp_ge F dX12_mostAlike_13 (tgt := 64) (by decide) (fun hc => ?_) (fun hc => ?_)
    · have hz := e_t hc hz
      refine r_drop 0 (L' := [none, some (.int (e_b p0)), some (.int v3.1), some (.int v3.2.1), some (.int v3.2.2), none]) rfl ?_
      refine r_drop 4 (L' := [none, some (.int (e_b p0)), some (.int v3.1), some (.int v3.2.1), none, none]) rfl ?_
      obtain rfl := Option.some.inj hz
      exact hx (v3.1, v3.2.1) rfl
    · have hz := e_f hc hz
      refine r_aload_n F dX12_mostAlike_16 rfl ?_
      refine r_iload F dX12_mostAlike_17 rfl ?_
      obtain ⟨q6, hq7, hz⟩ := e_bd hz
      refine r_callV F dX12_mostAlike_19 (b := 72) (dc := 0) (ds := 0) (As := [.int v3.2.2]) (S0 := []) lkX12_473 mX12_alikeWith (tX12_alikeWith_72 hG (la := x_l X) (h := e_up h []) hnx h72 h81 h83 h84 hq7) rfl rfl rfl (e_le rfl) (e_le rfl) (e_le rfl) h72 (ci := 12) e_cl12.1 rfl (e_le rfl) (e_lt hnx rfl) (Nat.zero_le _) (Nat.zero_le _) (e_k ?_)
      refine r_wr0 ?_
      refine r_istore F dX12_mostAlike_22 (e_le rfl) (L' := [some (.ref 72), some (.int (e_b p0)), some (.int v3.1), some (.int v3.2.1), some (.int v3.2.2), some (.int q6)]) rfl ?_
      refine r_iload F dX12_mostAlike_24 rfl ?_
      refine r_iload_n F dX12_mostAlike_26 rfl ?_
      obtain ⟨q8, hq9, hz⟩ := e_bd hz
      have Jq8 : eRun G X 58 [some (.ref 72), some (.int (e_b p0)), some (.int q8.1), some (.int q8.2), some (.int v3.2.2), none] [] h [] nx 0 0 := by
        refine r_inc F dX12_mostAlike_58 (k9 := 1) (by decide) rfl (L' := [some (.ref 72), some (.int (e_b p0)), some (.int q8.1), some (.int q8.2), some (.int (v3.2.2 + 1)), none]) rfl ?_
        refine r_goto F dX12_mostAlike_61 (tgt := 7) (by decide) ?_
        obtain rfl := Option.some.inj hz
        exact ih (q8.1, q8.2, v3.2.2 + 1) rfl
      refine r_icmp_gt F dX12_mostAlike_27 (tgt := 47) (by decide) (fun hc => ?_) (fun hc => ?_)
      · have hq9 := e_t hc hq9
        refine r_iload F dX12_mostAlike_47 rfl ?_
        refine r_istore_n F dX12_mostAlike_49 (e_le rfl) (L' := [some (.ref 72), some (.int (e_b p0)), some (.int q6), some (.int v3.2.1), some (.int v3.2.2), some (.int q6)]) rfl ?_
        refine r_aload_n F dX12_mostAlike_50 rfl ?_
        refine r_get F dX12_mostAlike_51 flX12_34 h72 rfl (e_le rfl) (e_lt hnx rfl) ?_
        refine r_iload F dX12_mostAlike_54 rfl ?_
        obtain ⟨hg, hq9⟩ := e_gd hq9
        refine r_iald F dX12_mostAlike_56 (i := v3.2.2) h81 (e_le rfl) (e_lt hnx rfl) (e_vp hg) ?_
        refine r_istore_n F dX12_mostAlike_57 (e_le rfl) (L' := [some (.ref 72), some (.int (e_b p0)), some (.int q6), some (.int (A81 (tn v3.2.2))), some (.int v3.2.2), some (.int q6)]) rfl ?_
        refine r_drop 5 (L' := [some (.ref 72), some (.int (e_b p0)), some (.int q6), some (.int (A81 (tn v3.2.2))), some (.int v3.2.2), none]) rfl ?_
        obtain rfl := Option.some.inj hq9
        exact Jq8
      · have hq9 := e_f hc hq9
        refine r_iload F dX12_mostAlike_30 rfl ?_
        refine r_iload_n F dX12_mostAlike_32 rfl ?_
        refine r_icmp_ne F dX12_mostAlike_33 (tgt := 58) (by decide) (fun hc => ?_) (fun hc => ?_)
        · have hq9 := e_f hc hq9
          refine r_drop 5 (L' := [some (.ref 72), some (.int (e_b p0)), some (.int v3.1), some (.int v3.2.1), some (.int v3.2.2), none]) rfl ?_
          obtain rfl := Option.some.inj hq9
          exact Jq8
        · have hq9 := e_t hc hq9
          refine r_aload_n F dX12_mostAlike_36 rfl ?_
          refine r_get F dX12_mostAlike_37 flX12_34 h72 rfl (e_le rfl) (e_lt hnx rfl) ?_
          refine r_iload F dX12_mostAlike_40 rfl ?_
          obtain ⟨hg, hq9⟩ := e_gd hq9
          refine r_iald F dX12_mostAlike_42 (i := v3.2.2) h81 (e_le rfl) (e_lt hnx rfl) (e_vp hg) ?_
          refine r_iload_n F dX12_mostAlike_43 rfl ?_
          refine r_icmp_ge F dX12_mostAlike_44 (tgt := 58) (by decide) (fun hc => ?_) (fun hc => ?_)
          · have hq9 := e_t hc hq9
            refine r_drop 5 (L' := [some (.ref 72), some (.int (e_b p0)), some (.int v3.1), some (.int v3.2.1), some (.int v3.2.2), none]) rfl ?_
            obtain rfl := Option.some.inj hq9
            exact Jq8
          · have hq9 := e_f hc hq9
            refine r_iload F dX12_mostAlike_47 rfl ?_
            refine r_istore_n F dX12_mostAlike_49 (e_le rfl) (L' := [some (.ref 72), some (.int (e_b p0)), some (.int q6), some (.int v3.2.1), some (.int v3.2.2), some (.int q6)]) rfl ?_
            refine r_aload_n F dX12_mostAlike_50 rfl ?_
            refine r_get F dX12_mostAlike_51 flX12_34 h72 rfl (e_le rfl) (e_lt hnx rfl) ?_
            refine r_iload F dX12_mostAlike_54 rfl ?_
            obtain ⟨hg, hq9⟩ := e_gd hq9
            refine r_iald F dX12_mostAlike_56 (i := v3.2.2) h81 (e_le rfl) (e_lt hnx rfl) (e_vp hg) ?_
            refine r_istore_n F dX12_mostAlike_57 (e_le rfl) (L' := [some (.ref 72), some (.int (e_b p0)), some (.int q6), some (.int (A81 (tn v3.2.2))), some (.int v3.2.2), some (.int q6)]) rfl ?_
            refine r_drop 5 (L' := [some (.ref 72), some (.int (e_b p0)), some (.int q6), some (.int (A81 (tn v3.2.2))), some (.int v3.2.2), none]) rfl ?_
            obtain rfl := Option.some.inj hq9
            exact Jq8
  · show eRun G X 64 [none, some (.int (e_b p0)), some (.int x4.1), some (.int x4.2), none, none] [] h [] nx 0 0
    refine r_iload_n F dX12_mostAlike_64 rfl ?_
    refine r_z_eq F dX12_mostAlike_65 (tgt := 72) (by decide) (fun hc => ?_) (fun hc => ?_)
    · have hf := e_t hc hf
      refine r_iload_n F dX12_mostAlike_68 rfl ?_
      refine r_goto F dX12_mostAlike_69 (tgt := 73) (by decide) ?_
      obtain rfl := Option.some.inj hf
      exact r_iret F hq dX12_mostAlike_73 rfl rfl (Nat.le_refl _) (Nat.le_refl _) ⟨rfl, rfl⟩
    · have hf := e_f hc hf
      refine r_iload_n F dX12_mostAlike_72 rfl ?_
      obtain rfl := Option.some.inj hf
      exact r_iret F hq dX12_mostAlike_73 rfl rfl (Nat.le_refl _) (Nat.le_refl _) ⟨rfl, rfl⟩

def fX12_strongest (a72_29 : Int32) (A85 : Nat → Int32)  : Option (Int32) :=
  (e_loop (fun (v3 : Int32 × Int32) => (
      if a72_29 ≤ v3.2 then
        some (.inr v3.1)
      else
        Option.bind (α := Int32) (
          if v3.1 = (-1) then
            some v3.2
          else
            e_g (e_in v3.2 64) (
            (fJ9_abs_0f7a4 (A85 (tn v3.2))).bind (fun q8 =>
            e_g (e_in v3.1 64) (
            (fJ9_abs_0f7a4 (A85 (tn v3.1))).bind (fun q10 =>
            if q8 ≤ q10 then
              some v3.1
            else
              some v3.2))))) (fun q6 =>
        some (.inl (q6, v3.2 + 1))) : Option ((Int32 × Int32) ⊕ (Int32)))) e_fuel ((-1), 0)).bind (fun x4 =>
  some x4)
set_option maxRecDepth 100000 in
theorem tX12_strongest_72 {G : eG} (hG : e_GS G) {la : Launch} {h : Nat → eO} {nx : Nat} (hnx : 99 ≤ nx) {a72_0 : Int32} {a72_2 : Int32} {a72_3 : Int32} {a72_4 : Int32} {a72_5 : Int32} {a72_6 : Int32} {a72_7 : Int32} {a72_8 : Bool} {a72_9 : Int32} {a72_10 : Int32} {a72_11 : Int32} {a72_17 : Bool} {a72_18 : Bool} {a72_19 : Bool} {a72_21 : Int32} {a72_22 : Int32} {a72_29 : Int32} {a72_31 : Int32} {a72_35 : Int32} {a72_37 : Bool} {a72_38 : Int32} {a72_39 : Int32} {a72_40 : Int32} {a72_41 : Int64} {a72_44 : Int32} {a72_50 : Bool} {A85 : Nat → Int32}  (h72 : h 72 = o72 a72_0 a72_2 a72_3 a72_4 a72_5 a72_6 a72_7 a72_8 a72_9 a72_10 a72_11 a72_17 a72_18 a72_19 a72_21 a72_22 a72_29 a72_31 a72_35 a72_37 a72_38 a72_39 a72_40 a72_41 a72_44 a72_50) (h85 : h 85 = o85 A85) {R9 : Int32} (hf : fX12_strongest a72_29 A85  = some R9) :
    eSem G la MX12_strongest [.ref 72] h nx 0 0 (fun r9 h9 => r9 = some (.int R9) ∧ h9 = h) := by
  refine eSem.of (k := 2) (L := [some (.ref 72), none, none]) (by decide +kernel) rfl rfl (fun X F hxl hq hcR hsR => ?_)
  subst hxl
  unfold fX12_strongest at hf
  refine r_iconst F dX12_strongest_0 (v := (-1)) (by decide) ?_
  refine r_istore_n F dX12_strongest_1 (e_le rfl) (L' := [some (.ref 72), some (.int (-1)), none]) rfl ?_
  refine r_iconst F dX12_strongest_2 (v := 0) (by decide) ?_
  refine r_istore_n F dX12_strongest_3 (e_le rfl) (L' := [some (.ref 72), some (.int (-1)), some (.int 0)]) rfl ?_
  obtain ⟨x4, hx5, hf⟩ := e_bd hf
  refine (e_loop_ok (P := fun (v3 : Int32 × Int32) => eRun G X 4 [some (.ref 72), some (.int v3.1), some (.int v3.2)] [] h [] nx 0 0) (K := fun (x4 : Int32) => eRun G X 50 [none, some (.int x4), none] [] h [] nx 0 0) ?_ e_fuel ((-1), 0) x4 hx5 ?_ : _)
  · intro v3 z hz ih hx
    refine r_iload_n F dX12_strongest_4 rfl ?_
    refine r_aload_n F dX12_strongest_5 rfl ?_
    refine r_get F dX12_strongest_6 flX12_241 h72 rfl (e_le rfl) (e_lt hnx rfl) ?_
    refine r_icmp_ge F dX12_strongest_9 (tgt := 50) (by decide) (fun hc => ?_) (fun hc => ?_)
    · have hz := e_t hc hz
      refine r_drop 0 (L' := [none, some (.int v3.1), some (.int v3.2)]) rfl ?_
      refine r_drop 2 (L' := [none, some (.int v3.1), none]) rfl ?_
      obtain rfl := Option.some.inj hz
      exact hx v3.1 rfl
    · have hz := e_f hc hz
      refine r_iload_n F dX12_strongest_12 rfl ?_
      refine r_iconst F dX12_strongest_13 (v := (-1)) (by decide) ?_
      obtain ⟨q6, hq7, hz⟩ := e_bd hz
      have Jq6 : eRun G X 43 [some (.ref 72), none, some (.int v3.2)] [.int q6] h [] nx 0 0 := by
        refine r_istore_n F dX12_strongest_43 (e_le rfl) (L' := [some (.ref 72), some (.int q6), some (.int v3.2)]) rfl ?_
        refine r_inc F dX12_strongest_44 (k9 := 1) (by decide) rfl (L' := [some (.ref 72), some (.int q6), some (.int (v3.2 + 1))]) rfl ?_
        refine r_goto F dX12_strongest_47 (tgt := 4) (by decide) ?_
        obtain rfl := Option.some.inj hz
        exact ih (q6, v3.2 + 1) rfl
      refine r_icmp_eq F dX12_strongest_14 (tgt := 38) (by decide) (fun hc => ?_) (fun hc => ?_)
      · have hq7 := e_t hc hq7
        refine r_iload_n F dX12_strongest_38 rfl ?_
        refine r_goto F dX12_strongest_39 (tgt := 43) (by decide) ?_
        refine r_drop 1 (L' := [some (.ref 72), none, some (.int v3.2)]) rfl ?_
        obtain rfl := Option.some.inj hq7
        exact Jq6
      · have hq7 := e_f hc hq7
        refine r_aload_n F dX12_strongest_17 rfl ?_
        refine r_get F dX12_strongest_18 flX12_46 h72 rfl (e_le rfl) (e_lt hnx rfl) ?_
        refine r_iload_n F dX12_strongest_21 rfl ?_
        obtain ⟨hg, hq7⟩ := e_gd hq7
        refine r_iald F dX12_strongest_22 (i := v3.2) h85 (e_le rfl) (e_lt hnx rfl) (e_vp hg) ?_
        obtain ⟨q8, hq9, hq7⟩ := e_bd hq7
        refine r_callS F dX12_strongest_23 (dc := 0) (ds := 0) (As := [.int (A85 (tn v3.2))]) (S0 := []) lkX12_370 mJ9_abs_0f7a4 (tJ9_abs_0f7a4 hG (la := x_l X) (h := e_up h []) hnx  hq9) rfl rfl rfl (e_le rfl) (e_le rfl) (e_le rfl) (Nat.zero_le _) (Nat.zero_le _) (e_k ?_)
        refine r_wr0 ?_
        refine r_aload_n F dX12_strongest_26 rfl ?_
        refine r_get F dX12_strongest_27 flX12_46 h72 rfl (e_le rfl) (e_lt hnx rfl) ?_
        refine r_iload_n F dX12_strongest_30 rfl ?_
        obtain ⟨hg, hq7⟩ := e_gd hq7
        refine r_iald F dX12_strongest_31 (i := v3.1) h85 (e_le rfl) (e_lt hnx rfl) (e_vp hg) ?_
        obtain ⟨q10, hq11, hq7⟩ := e_bd hq7
        refine r_callS F dX12_strongest_32 (dc := 0) (ds := 0) (As := [.int (A85 (tn v3.1))]) (S0 := [.int q8]) lkX12_370 mJ9_abs_0f7a4 (tJ9_abs_0f7a4 hG (la := x_l X) (h := e_up h []) hnx  hq11) rfl rfl rfl (e_le rfl) (e_le rfl) (e_le rfl) (Nat.zero_le _) (Nat.zero_le _) (e_k ?_)
        refine r_wr0 ?_
        refine r_icmp_le F dX12_strongest_35 (tgt := 42) (by decide) (fun hc => ?_) (fun hc => ?_)
        · have hq7 := e_t hc hq7
          refine r_iload_n F dX12_strongest_42 rfl ?_
          refine r_drop 1 (L' := [some (.ref 72), none, some (.int v3.2)]) rfl ?_
          obtain rfl := Option.some.inj hq7
          exact Jq6
        · have hq7 := e_f hc hq7
          refine r_iload_n F dX12_strongest_38 rfl ?_
          refine r_goto F dX12_strongest_39 (tgt := 43) (by decide) ?_
          refine r_drop 1 (L' := [some (.ref 72), none, some (.int v3.2)]) rfl ?_
          obtain rfl := Option.some.inj hq7
          exact Jq6
  · show eRun G X 50 [none, some (.int x4), none] [] h [] nx 0 0
    refine r_iload_n F dX12_strongest_50 rfl ?_
    obtain rfl := Option.some.inj hf
    exact r_iret F hq dX12_strongest_51 rfl rfl (Nat.le_refl _) (Nat.le_refl _) ⟨rfl, rfl⟩

def fX12_nearest (a72_29 : Int32) (A81 : Nat → Int32) (A82 : Nat → Int32) (p0 : Bool) : Option (Int32) :=
  (e_loop (fun (v3 : Int32 × Int32 × Int32) => (
      if a72_29 ≤ v3.2.2 then
        some (.inr (v3.1, v3.2.1))
      else
        (e_loop (fun (v7 : Int32 × Int32 × Int32) => (
            if a72_29 ≤ v7.2.2 then
              some (.inr (v7.1, v7.2.1))
            else
              Option.bind (α := Int32 × Int32) (
                if v7.1 = (-1) then
                  (fX12_squareApart A81 A82 v3.2.2 v7.2.2).bind (fun q12 =>
                  some (((16 : Int32) * v3.2.2) + v7.2.2, q12))
                else
                  (fX12_squareApart A81 A82 v3.2.2 v7.2.2).bind (fun q14 =>
                  if v7.2.1 ≤ q14 then
                    some (v7.1, v7.2.1)
                  else
                    (fX12_squareApart A81 A82 v3.2.2 v7.2.2).bind (fun q16 =>
                    some (((16 : Int32) * v3.2.2) + v7.2.2, q16)))) (fun q10 =>
              some (.inl (q10.1, q10.2, v7.2.2 + 1))) : Option ((Int32 × Int32 × Int32) ⊕ (Int32 × Int32)))) e_fuel (v3.1, v3.2.1, v3.2.2 + 1)).bind (fun x8 =>
        some (.inl (x8.1, x8.2, v3.2.2 + 1))) : Option ((Int32 × Int32 × Int32) ⊕ (Int32 × Int32)))) e_fuel ((-1), (-1), 0)).bind (fun x4 =>
  if p0 = true then
    (fJ9_max_7cf53 0 x4.2).bind (fun q18 =>
    some q18)
  else
    some x4.1)
set_option maxRecDepth 100000 in
theorem tX12_nearest_72 {G : eG} (hG : e_GS G) {la : Launch} {h : Nat → eO} {nx : Nat} (hnx : 99 ≤ nx) {a72_0 : Int32} {a72_2 : Int32} {a72_3 : Int32} {a72_4 : Int32} {a72_5 : Int32} {a72_6 : Int32} {a72_7 : Int32} {a72_8 : Bool} {a72_9 : Int32} {a72_10 : Int32} {a72_11 : Int32} {a72_17 : Bool} {a72_18 : Bool} {a72_19 : Bool} {a72_21 : Int32} {a72_22 : Int32} {a72_29 : Int32} {a72_31 : Int32} {a72_35 : Int32} {a72_37 : Bool} {a72_38 : Int32} {a72_39 : Int32} {a72_40 : Int32} {a72_41 : Int64} {a72_44 : Int32} {a72_50 : Bool} {A81 : Nat → Int32} {A82 : Nat → Int32} {p0 : Bool} (h72 : h 72 = o72 a72_0 a72_2 a72_3 a72_4 a72_5 a72_6 a72_7 a72_8 a72_9 a72_10 a72_11 a72_17 a72_18 a72_19 a72_21 a72_22 a72_29 a72_31 a72_35 a72_37 a72_38 a72_39 a72_40 a72_41 a72_44 a72_50) (h81 : h 81 = o81 A81) (h82 : h 82 = o82 A82) {R9 : Int32} (hf : fX12_nearest a72_29 A81 A82 p0 = some R9) :
    eSem G la MX12_nearest [.ref 72, .int (e_b p0)] h nx 0 0 (fun r9 h9 => r9 = some (.int R9) ∧ h9 = h) := by
  refine eSem.of (k := 4) (L := [some (.ref 72), some (.int (e_b p0)), none, none, none, none]) (by decide +kernel) rfl rfl (fun X F hxl hq hcR hsR => ?_)
  subst hxl
  unfold fX12_nearest at hf
  refine r_iconst F dX12_nearest_0 (v := (-1)) (by decide) ?_
  refine r_istore_n F dX12_nearest_1 (e_le rfl) (L' := [some (.ref 72), some (.int (e_b p0)), some (.int (-1)), none, none, none]) rfl ?_
  refine r_iconst F dX12_nearest_2 (v := (-1)) (by decide) ?_
  refine r_istore_n F dX12_nearest_3 (e_le rfl) (L' := [some (.ref 72), some (.int (e_b p0)), some (.int (-1)), some (.int (-1)), none, none]) rfl ?_
  refine r_iconst F dX12_nearest_4 (v := 0) (by decide) ?_
  refine r_istore F dX12_nearest_5 (e_le rfl) (L' := [some (.ref 72), some (.int (e_b p0)), some (.int (-1)), some (.int (-1)), some (.int 0), none]) rfl ?_
  obtain ⟨x4, hx5, hf⟩ := e_bd hf
  refine (e_loop_ok (P := fun (v3 : Int32 × Int32 × Int32) => eRun G X 7 [some (.ref 72), some (.int (e_b p0)), some (.int v3.1), some (.int v3.2.1), some (.int v3.2.2), none] [] h [] nx 0 0) (K := fun (x4 : Int32 × Int32) => eRun G X 78 [none, some (.int (e_b p0)), some (.int x4.1), some (.int x4.2), none, none] [] h [] nx 0 0) ?_ e_fuel ((-1), (-1), 0) x4 hx5 ?_ : _)
  · intro v3 z hz ih hx
    refine r_iload F dX12_nearest_7 rfl ?_
    refine r_aload_n F dX12_nearest_9 rfl ?_
    refine r_get F dX12_nearest_10 flX12_241 h72 rfl (e_le rfl) (e_lt hnx rfl) ?_
    refine r_icmp_ge F dX12_nearest_13 (tgt := 78) (by decide) (fun hc => ?_) (fun hc => ?_)
    · have hz := e_t hc hz
      refine r_drop 0 (L' := [none, some (.int (e_b p0)), some (.int v3.1), some (.int v3.2.1), some (.int v3.2.2), none]) rfl ?_
      refine r_drop 4 (L' := [none, some (.int (e_b p0)), some (.int v3.1), some (.int v3.2.1), none, none]) rfl ?_
      obtain rfl := Option.some.inj hz
      exact hx (v3.1, v3.2.1) rfl
    · have hz := e_f hc hz
      refine r_iload F dX12_nearest_16 rfl ?_
      refine r_iconst F dX12_nearest_18 (v := 1) (by decide) ?_
      refine r_iadd F dX12_nearest_19 ?_
      refine r_istore F dX12_nearest_20 (e_le rfl) (L' := [some (.ref 72), some (.int (e_b p0)), some (.int v3.1), some (.int v3.2.1), some (.int v3.2.2), some (.int (v3.2.2 + 1))]) rfl ?_
      obtain ⟨x8, hx9, hz⟩ := e_bd hz
      refine (e_loop_ok (P := fun (v7 : Int32 × Int32 × Int32) => eRun G X 22 [some (.ref 72), some (.int (e_b p0)), some (.int v7.1), some (.int v7.2.1), some (.int v3.2.2), some (.int v7.2.2)] [] h [] nx 0 0) (K := fun (x8 : Int32 × Int32) => eRun G X 72 [some (.ref 72), some (.int (e_b p0)), some (.int x8.1), some (.int x8.2), some (.int v3.2.2), none] [] h [] nx 0 0) ?_ e_fuel (v3.1, v3.2.1, v3.2.2 + 1) x8 hx9 ?_ : _)
      · intro v7 z hz ih hx
        refine r_iload F dX12_nearest_22 rfl ?_
        refine r_aload_n F dX12_nearest_24 rfl ?_
        refine r_get F dX12_nearest_25 flX12_241 h72 rfl (e_le rfl) (e_lt hnx rfl) ?_
        refine r_icmp_ge F dX12_nearest_28 (tgt := 72) (by decide) (fun hc => ?_) (fun hc => ?_)
        · have hz := e_t hc hz
          refine r_drop 5 (L' := [some (.ref 72), some (.int (e_b p0)), some (.int v7.1), some (.int v7.2.1), some (.int v3.2.2), none]) rfl ?_
          obtain rfl := Option.some.inj hz
          exact hx (v7.1, v7.2.1) rfl
        · have hz := e_f hc hz
          refine r_iload_n F dX12_nearest_31 rfl ?_
          refine r_iconst F dX12_nearest_32 (v := (-1)) (by decide) ?_
          obtain ⟨q10, hq11, hz⟩ := e_bd hz
          have Jq10 : eRun G X 66 [some (.ref 72), some (.int (e_b p0)), some (.int q10.1), some (.int q10.2), some (.int v3.2.2), some (.int v7.2.2)] [] h [] nx 0 0 := by
            refine r_inc F dX12_nearest_66 (k9 := 1) (by decide) rfl (L' := [some (.ref 72), some (.int (e_b p0)), some (.int q10.1), some (.int q10.2), some (.int v3.2.2), some (.int (v7.2.2 + 1))]) rfl ?_
            refine r_goto F dX12_nearest_69 (tgt := 22) (by decide) ?_
            obtain rfl := Option.some.inj hz
            exact ih (q10.1, q10.2, v7.2.2 + 1) rfl
          refine r_icmp_eq F dX12_nearest_33 (tgt := 48) (by decide) (fun hc => ?_) (fun hc => ?_)
          · have hq11 := e_t hc hq11
            refine r_bipush F dX12_nearest_48 (v := 16) (by decide) ?_
            refine r_iload F dX12_nearest_50 rfl ?_
            refine r_imul F dX12_nearest_52 ?_
            refine r_iload F dX12_nearest_53 rfl ?_
            refine r_iadd F dX12_nearest_55 ?_
            refine r_istore_n F dX12_nearest_56 (e_le rfl) (L' := [some (.ref 72), some (.int (e_b p0)), some (.int (((16 : Int32) * v3.2.2) + v7.2.2)), some (.int v7.2.1), some (.int v3.2.2), some (.int v7.2.2)]) rfl ?_
            refine r_aload_n F dX12_nearest_57 rfl ?_
            refine r_iload F dX12_nearest_58 rfl ?_
            refine r_iload F dX12_nearest_60 rfl ?_
            obtain ⟨q12, hq13, hq11⟩ := e_bd hq11
            refine r_callV F dX12_nearest_62 (b := 72) (dc := 0) (ds := 0) (As := [.int v3.2.2, .int v7.2.2]) (S0 := []) lkX12_303 mX12_squareApart (tX12_squareApart_72 hG (la := x_l X) (h := e_up h []) hnx h72 h81 h82 hq13) rfl rfl rfl (e_le rfl) (e_le rfl) (e_le rfl) h72 (ci := 12) e_cl12.1 rfl (e_le rfl) (e_lt hnx rfl) (Nat.zero_le _) (Nat.zero_le _) (e_k ?_)
            refine r_wr0 ?_
            refine r_istore_n F dX12_nearest_65 (e_le rfl) (L' := [some (.ref 72), some (.int (e_b p0)), some (.int (((16 : Int32) * v3.2.2) + v7.2.2)), some (.int q12), some (.int v3.2.2), some (.int v7.2.2)]) rfl ?_
            obtain rfl := Option.some.inj hq11
            exact Jq10
          · have hq11 := e_f hc hq11
            refine r_aload_n F dX12_nearest_36 rfl ?_
            refine r_iload F dX12_nearest_37 rfl ?_
            refine r_iload F dX12_nearest_39 rfl ?_
            obtain ⟨q14, hq15, hq11⟩ := e_bd hq11
            refine r_callV F dX12_nearest_41 (b := 72) (dc := 0) (ds := 0) (As := [.int v3.2.2, .int v7.2.2]) (S0 := []) lkX12_303 mX12_squareApart (tX12_squareApart_72 hG (la := x_l X) (h := e_up h []) hnx h72 h81 h82 hq15) rfl rfl rfl (e_le rfl) (e_le rfl) (e_le rfl) h72 (ci := 12) e_cl12.1 rfl (e_le rfl) (e_lt hnx rfl) (Nat.zero_le _) (Nat.zero_le _) (e_k ?_)
            refine r_wr0 ?_
            refine r_iload_n F dX12_nearest_44 rfl ?_
            refine r_icmp_ge F dX12_nearest_45 (tgt := 66) (by decide) (fun hc => ?_) (fun hc => ?_)
            · have hq11 := e_t hc hq11
              obtain rfl := Option.some.inj hq11
              exact Jq10
            · have hq11 := e_f hc hq11
              refine r_bipush F dX12_nearest_48 (v := 16) (by decide) ?_
              refine r_iload F dX12_nearest_50 rfl ?_
              refine r_imul F dX12_nearest_52 ?_
              refine r_iload F dX12_nearest_53 rfl ?_
              refine r_iadd F dX12_nearest_55 ?_
              refine r_istore_n F dX12_nearest_56 (e_le rfl) (L' := [some (.ref 72), some (.int (e_b p0)), some (.int (((16 : Int32) * v3.2.2) + v7.2.2)), some (.int v7.2.1), some (.int v3.2.2), some (.int v7.2.2)]) rfl ?_
              refine r_aload_n F dX12_nearest_57 rfl ?_
              refine r_iload F dX12_nearest_58 rfl ?_
              refine r_iload F dX12_nearest_60 rfl ?_
              obtain ⟨q16, hq17, hq11⟩ := e_bd hq11
              refine r_callV F dX12_nearest_62 (b := 72) (dc := 0) (ds := 0) (As := [.int v3.2.2, .int v7.2.2]) (S0 := []) lkX12_303 mX12_squareApart (tX12_squareApart_72 hG (la := x_l X) (h := e_up h []) hnx h72 h81 h82 hq17) rfl rfl rfl (e_le rfl) (e_le rfl) (e_le rfl) h72 (ci := 12) e_cl12.1 rfl (e_le rfl) (e_lt hnx rfl) (Nat.zero_le _) (Nat.zero_le _) (e_k ?_)
              refine r_wr0 ?_
              refine r_istore_n F dX12_nearest_65 (e_le rfl) (L' := [some (.ref 72), some (.int (e_b p0)), some (.int (((16 : Int32) * v3.2.2) + v7.2.2)), some (.int q16), some (.int v3.2.2), some (.int v7.2.2)]) rfl ?_
              obtain rfl := Option.some.inj hq11
              exact Jq10
      · show eRun G X 72 [some (.ref 72), some (.int (e_b p0)), some (.int x8.1), some (.int x8.2), some (.int v3.2.2), none] [] h [] nx 0 0
        refine r_inc F dX12_nearest_72 (k9 := 1) (by decide) rfl (L' := [some (.ref 72), some (.int (e_b p0)), some (.int x8.1), some (.int x8.2), some (.int (v3.2.2 + 1)), none]) rfl ?_
        refine r_goto F dX12_nearest_75 (tgt := 7) (by decide) ?_
        obtain rfl := Option.some.inj hz
        exact ih (x8.1, x8.2, v3.2.2 + 1) rfl
  · show eRun G X 78 [none, some (.int (e_b p0)), some (.int x4.1), some (.int x4.2), none, none] [] h [] nx 0 0
    refine r_iload_n F dX12_nearest_78 rfl ?_
    refine r_z_eq F dX12_nearest_79 (tgt := 90) (by decide) (fun hc => ?_) (fun hc => ?_)
    · have hf := e_t hc hf
      refine r_iconst F dX12_nearest_82 (v := 0) (by decide) ?_
      refine r_iload_n F dX12_nearest_83 rfl ?_
      obtain ⟨q18, hq19, hf⟩ := e_bd hf
      refine r_callS F dX12_nearest_84 (dc := 0) (ds := 0) (As := [.int 0, .int x4.2]) (S0 := []) lkX12_464 mJ9_max_7cf53 (tJ9_max_7cf53 hG (la := x_l X) (h := e_up h []) hnx  hq19) rfl rfl rfl (e_le rfl) (e_le rfl) (e_le rfl) (Nat.zero_le _) (Nat.zero_le _) (e_k ?_)
      refine r_wr0 ?_
      refine r_goto F dX12_nearest_87 (tgt := 91) (by decide) ?_
      obtain rfl := Option.some.inj hf
      exact r_iret F hq dX12_nearest_91 rfl rfl (Nat.le_refl _) (Nat.le_refl _) ⟨rfl, rfl⟩
    · have hf := e_f hc hf
      refine r_iload_n F dX12_nearest_90 rfl ?_
      obtain rfl := Option.some.inj hf
      exact r_iret F hq dX12_nearest_91 rfl rfl (Nat.le_refl _) (Nat.le_refl _) ⟨rfl, rfl⟩

def fX12_opposed (a72_29 : Int32) (A83 : Nat → Int32) (A84 : Nat → Int32)  : Option (Int32) :=
  (e_loop (fun (v3 : Int32 × Int32) => (
      if a72_29 ≤ v3.2 then
        some (.inr v3.1)
      else
        (e_loop (fun (v8 : Bool × Int32) => (
            if a72_29 ≤ v8.2 then
              some (.inr v8.1)
            else
              Option.bind (α := Bool) (
                if v8.1 = true then
                  some true
                else
                  (fX12_areOpposite A83 A84 v3.2 v8.2).bind (fun q13 =>
                  if q13 = true then
                    some true
                  else
                    some false)) (fun q11 =>
              some (.inl (q11, v8.2 + 1))) : Option ((Bool × Int32) ⊕ (Bool)))) e_fuel (false, 0)).bind (fun x9 =>
        Option.bind (α := Bool) (
          if x9 = true then
            some true
          else
            some false) (fun q15 =>
        some (.inl (v3.1 + (e_b q15), v3.2 + 1)))) : Option ((Int32 × Int32) ⊕ (Int32)))) e_fuel (0, 0)).bind (fun x4 =>
  some x4)
set_option maxRecDepth 100000 in
theorem tX12_opposed_72 {G : eG} (hG : e_GS G) {la : Launch} {h : Nat → eO} {nx : Nat} (hnx : 99 ≤ nx) {a72_0 : Int32} {a72_2 : Int32} {a72_3 : Int32} {a72_4 : Int32} {a72_5 : Int32} {a72_6 : Int32} {a72_7 : Int32} {a72_8 : Bool} {a72_9 : Int32} {a72_10 : Int32} {a72_11 : Int32} {a72_17 : Bool} {a72_18 : Bool} {a72_19 : Bool} {a72_21 : Int32} {a72_22 : Int32} {a72_29 : Int32} {a72_31 : Int32} {a72_35 : Int32} {a72_37 : Bool} {a72_38 : Int32} {a72_39 : Int32} {a72_40 : Int32} {a72_41 : Int64} {a72_44 : Int32} {a72_50 : Bool} {A83 : Nat → Int32} {A84 : Nat → Int32}  (h72 : h 72 = o72 a72_0 a72_2 a72_3 a72_4 a72_5 a72_6 a72_7 a72_8 a72_9 a72_10 a72_11 a72_17 a72_18 a72_19 a72_21 a72_22 a72_29 a72_31 a72_35 a72_37 a72_38 a72_39 a72_40 a72_41 a72_44 a72_50) (h83 : h 83 = o83 A83) (h84 : h 84 = o84 A84) {R9 : Int32} (hf : fX12_opposed a72_29 A83 A84  = some R9) :
    eSem G la MX12_opposed [.ref 72] h nx 0 0 (fun r9 h9 => r9 = some (.int R9) ∧ h9 = h) := by
  refine eSem.of (k := 4) (L := [some (.ref 72), none, none, none, none]) (by decide +kernel) rfl rfl (fun X F hxl hq hcR hsR => ?_)
  subst hxl
  unfold fX12_opposed at hf
  refine r_iconst F dX12_opposed_0 (v := 0) (by decide) ?_
  refine r_istore_n F dX12_opposed_1 (e_le rfl) (L' := [some (.ref 72), some (.int 0), none, none, none]) rfl ?_
  refine r_iconst F dX12_opposed_2 (v := 0) (by decide) ?_
  refine r_istore_n F dX12_opposed_3 (e_le rfl) (L' := [some (.ref 72), some (.int 0), some (.int 0), none, none]) rfl ?_
  obtain ⟨x4, hx5, hf⟩ := e_bd hf
  refine (e_loop_ok (P := fun (v3 : Int32 × Int32) => eRun G X 4 [some (.ref 72), some (.int v3.1), some (.int v3.2), none, none] [] h [] nx 0 0) (K := fun (x4 : Int32) => eRun G X 70 [none, some (.int x4), none, none, none] [] h [] nx 0 0) ?_ e_fuel (0, 0) x4 hx5 ?_ : _)
  · intro v3 z hz ih hx
    refine r_iload_n F dX12_opposed_4 rfl ?_
    refine r_aload_n F dX12_opposed_5 rfl ?_
    refine r_get F dX12_opposed_6 flX12_241 h72 rfl (e_le rfl) (e_lt hnx rfl) ?_
    refine r_icmp_ge F dX12_opposed_9 (tgt := 70) (by decide) (fun hc => ?_) (fun hc => ?_)
    · have hz := e_t hc hz
      refine r_drop 0 (L' := [none, some (.int v3.1), some (.int v3.2), none, none]) rfl ?_
      refine r_drop 2 (L' := [none, some (.int v3.1), none, none, none]) rfl ?_
      obtain rfl := Option.some.inj hz
      exact hx v3.1 rfl
    · have hz := e_f hc hz
      refine r_iconst F dX12_opposed_12 (v := 0) (by decide) ?_
      refine r_istore_n F dX12_opposed_13 (e_le rfl) (L' := [some (.ref 72), some (.int v3.1), some (.int v3.2), some (.int 0), none]) rfl ?_
      refine r_iconst F dX12_opposed_14 (v := 0) (by decide) ?_
      refine r_istore F dX12_opposed_15 (e_le rfl) (L' := [some (.ref 72), some (.int v3.1), some (.int v3.2), some (.int 0), some (.int 0)]) rfl ?_
      obtain ⟨x9, hx10, hz⟩ := e_bd hz
      refine (e_loop_ok (P := fun (v8 : Bool × Int32) => eRun G X 17 [some (.ref 72), some (.int v3.1), some (.int v3.2), some (.int (e_b v8.1)), some (.int v8.2)] [] h [] nx 0 0) (K := fun (x9 : Bool) => eRun G X 52 [some (.ref 72), some (.int v3.1), some (.int v3.2), some (.int (e_b x9)), none] [] h [] nx 0 0) ?_ e_fuel (false, 0) x9 hx10 ?_ : _)
      · intro v8 z hz ih hx
        refine r_iload F dX12_opposed_17 rfl ?_
        refine r_aload_n F dX12_opposed_19 rfl ?_
        refine r_get F dX12_opposed_20 flX12_241 h72 rfl (e_le rfl) (e_lt hnx rfl) ?_
        refine r_icmp_ge F dX12_opposed_23 (tgt := 52) (by decide) (fun hc => ?_) (fun hc => ?_)
        · have hz := e_t hc hz
          refine r_drop 4 (L' := [some (.ref 72), some (.int v3.1), some (.int v3.2), some (.int (e_b v8.1)), none]) rfl ?_
          obtain rfl := Option.some.inj hz
          exact hx v8.1 rfl
        · have hz := e_f hc hz
          refine r_iload_n F dX12_opposed_26 rfl ?_
          obtain ⟨q11, hq12, hz⟩ := e_bd hz
          have Jq11 : eRun G X 45 [some (.ref 72), some (.int v3.1), some (.int v3.2), none, some (.int v8.2)] [.int (e_b q11)] h [] nx 0 0 := by
            refine r_istore_n F dX12_opposed_45 (e_le rfl) (L' := [some (.ref 72), some (.int v3.1), some (.int v3.2), some (.int (e_b q11)), some (.int v8.2)]) rfl ?_
            refine r_inc F dX12_opposed_46 (k9 := 1) (by decide) rfl (L' := [some (.ref 72), some (.int v3.1), some (.int v3.2), some (.int (e_b q11)), some (.int (v8.2 + 1))]) rfl ?_
            refine r_goto F dX12_opposed_49 (tgt := 17) (by decide) ?_
            obtain rfl := Option.some.inj hz
            exact ih (q11, v8.2 + 1) rfl
          refine r_z_ne F dX12_opposed_27 (tgt := 40) (by decide) (fun hc => ?_) (fun hc => ?_)
          · have hq12 := e_t hc hq12
            refine r_iconst F dX12_opposed_40 (v := 1) (by decide) ?_
            refine r_goto F dX12_opposed_41 (tgt := 45) (by decide) ?_
            refine r_drop 3 (L' := [some (.ref 72), some (.int v3.1), some (.int v3.2), none, some (.int v8.2)]) rfl ?_
            obtain rfl := Option.some.inj hq12
            exact Jq11
          · have hq12 := e_f hc hq12
            refine r_aload_n F dX12_opposed_30 rfl ?_
            refine r_iload_n F dX12_opposed_31 rfl ?_
            refine r_iload F dX12_opposed_32 rfl ?_
            obtain ⟨q13, hq14, hq12⟩ := e_bd hq12
            refine r_callV F dX12_opposed_34 (b := 72) (dc := 0) (ds := 0) (As := [.int v3.2, .int v8.2]) (S0 := []) lkX12_446 mX12_areOpposite (tX12_areOpposite_72 hG (la := x_l X) (h := e_up h []) hnx h72 h83 h84 hq14) rfl rfl rfl (e_le rfl) (e_le rfl) (e_le rfl) h72 (ci := 12) e_cl12.1 rfl (e_le rfl) (e_lt hnx rfl) (Nat.zero_le _) (Nat.zero_le _) (e_k ?_)
            refine r_wr0 ?_
            refine r_z_eq F dX12_opposed_37 (tgt := 44) (by decide) (fun hc => ?_) (fun hc => ?_)
            · have hq12 := e_t hc hq12
              refine r_iconst F dX12_opposed_40 (v := 1) (by decide) ?_
              refine r_goto F dX12_opposed_41 (tgt := 45) (by decide) ?_
              refine r_drop 3 (L' := [some (.ref 72), some (.int v3.1), some (.int v3.2), none, some (.int v8.2)]) rfl ?_
              obtain rfl := Option.some.inj hq12
              exact Jq11
            · have hq12 := e_f hc hq12
              refine r_iconst F dX12_opposed_44 (v := 0) (by decide) ?_
              refine r_drop 3 (L' := [some (.ref 72), some (.int v3.1), some (.int v3.2), none, some (.int v8.2)]) rfl ?_
              obtain rfl := Option.some.inj hq12
              exact Jq11
      · show eRun G X 52 [some (.ref 72), some (.int v3.1), some (.int v3.2), some (.int (e_b x9)), none] [] h [] nx 0 0
        refine r_iload_n F dX12_opposed_52 rfl ?_
        refine r_iload_n F dX12_opposed_53 rfl ?_
        obtain ⟨q15, hq16, hz⟩ := e_bd hz
        have Jq15 : eRun G X 62 [some (.ref 72), none, some (.int v3.2), none, none] [.int (e_b q15), .int v3.1] h [] nx 0 0 := by
          refine r_iadd F dX12_opposed_62 ?_
          refine r_istore_n F dX12_opposed_63 (e_le rfl) (L' := [some (.ref 72), some (.int (v3.1 + (e_b q15))), some (.int v3.2), none, none]) rfl ?_
          refine r_inc F dX12_opposed_64 (k9 := 1) (by decide) rfl (L' := [some (.ref 72), some (.int (v3.1 + (e_b q15))), some (.int (v3.2 + 1)), none, none]) rfl ?_
          refine r_goto F dX12_opposed_67 (tgt := 4) (by decide) ?_
          obtain rfl := Option.some.inj hz
          exact ih (v3.1 + (e_b q15), v3.2 + 1) rfl
        refine r_z_eq F dX12_opposed_54 (tgt := 61) (by decide) (fun hc => ?_) (fun hc => ?_)
        · have hq16 := e_t hc hq16
          refine r_iconst F dX12_opposed_57 (v := 1) (by decide) ?_
          refine r_goto F dX12_opposed_58 (tgt := 62) (by decide) ?_
          refine r_drop 1 (L' := [some (.ref 72), none, some (.int v3.2), some (.int (e_b x9)), none]) rfl ?_
          refine r_drop 3 (L' := [some (.ref 72), none, some (.int v3.2), none, none]) rfl ?_
          obtain rfl := Option.some.inj hq16
          exact Jq15
        · have hq16 := e_f hc hq16
          refine r_iconst F dX12_opposed_61 (v := 0) (by decide) ?_
          refine r_drop 1 (L' := [some (.ref 72), none, some (.int v3.2), some (.int (e_b x9)), none]) rfl ?_
          refine r_drop 3 (L' := [some (.ref 72), none, some (.int v3.2), none, none]) rfl ?_
          obtain rfl := Option.some.inj hq16
          exact Jq15
  · show eRun G X 70 [none, some (.int x4), none, none, none] [] h [] nx 0 0
    refine r_iload_n F dX12_opposed_70 rfl ?_
    obtain rfl := Option.some.inj hf
    exact r_iret F hq dX12_opposed_71 rfl rfl (Nat.le_refl _) (Nat.le_refl _) ⟨rfl, rfl⟩

def fX12_most (a72_0 : Int32) (a72_21 : Int32) (a72_22 : Int32) (a72_29 : Int32) (a72_44 : Int32) (A79 : Nat → Int32) (A80 : Nat → Int32) (A81 : Nat → Int32) (A82 : Nat → Int32) (A83 : Nat → Int32) (A84 : Nat → Int32) (A85 : Nat → Int32) (A91 : Nat → Int32) (A92 : Nat → Int32) (p0 : Int32) : Option (Int32 × Int32 × Int32 × Int32 × (Nat → Int32) × (Nat → Int32) × (Nat → Int32) × (Nat → Int32) × (Nat → Int32) × (Nat → Int32) × (Nat → Int32)) :=
  (fX12_isCrystal a72_21).bind (fun q1 =>
  if q1 = true then
    (fX12_laysCores a72_21 a72_22 a72_29 A79 A80 A81 A82 A83 A84 A85).bind (fun q3 =>
    if p0 = 0 then
      (fX12_mostAlike q3.2.1 q3.2.2.1 q3.2.2.2.2.1 q3.2.2.2.2.2.1 false).bind (fun q5 =>
      some (q5, 0, q3.2.1, a72_44, q3.2.2.1, q3.2.2.2.1, q3.2.2.2.2.1, q3.2.2.2.2.2.1, q3.2.2.2.2.2.2, A91, A92))
    else
      if p0 = 1 then
        (fX12_mostAlike q3.2.1 q3.2.2.1 q3.2.2.2.2.1 q3.2.2.2.2.2.1 true).bind (fun q7 =>
        some (q7, 0, q3.2.1, a72_44, q3.2.2.1, q3.2.2.2.1, q3.2.2.2.2.1, q3.2.2.2.2.2.1, q3.2.2.2.2.2.2, A91, A92))
      else
        if p0 = 2 then
          (fX12_strongest q3.2.1 q3.2.2.2.2.2.2).bind (fun q9 =>
          some (q9, 0, q3.2.1, a72_44, q3.2.2.1, q3.2.2.2.1, q3.2.2.2.2.1, q3.2.2.2.2.2.1, q3.2.2.2.2.2.2, A91, A92))
        else
          if p0 = 3 then
            (fX12_nearest q3.2.1 q3.2.2.1 q3.2.2.2.1 false).bind (fun q11 =>
            some (q11, 0, q3.2.1, a72_44, q3.2.2.1, q3.2.2.2.1, q3.2.2.2.2.1, q3.2.2.2.2.2.1, q3.2.2.2.2.2.2, A91, A92))
          else
            if p0 = 4 then
              (fX12_nearest q3.2.1 q3.2.2.1 q3.2.2.2.1 true).bind (fun q13 =>
              some (q13, 0, q3.2.1, a72_44, q3.2.2.1, q3.2.2.2.1, q3.2.2.2.2.1, q3.2.2.2.2.2.1, q3.2.2.2.2.2.2, A91, A92))
            else
              if p0 = 5 then
                (fX12_longestWall a72_21 a72_22 a72_44 A79 A91 A92).bind (fun q15 =>
                some (q15.1, 0, q3.2.1, q15.2.1, q3.2.2.1, q3.2.2.2.1, q3.2.2.2.2.1, q3.2.2.2.2.2.1, q3.2.2.2.2.2.2, q15.2.2.1, q15.2.2.2))
              else
                if p0 = 6 then
                  (fX12_greatestNumber q3.2.1 q3.2.2.2.2.1 q3.2.2.2.2.2.1).bind (fun q17 =>
                  some (q17, 0, q3.2.1, a72_44, q3.2.2.1, q3.2.2.2.1, q3.2.2.2.2.1, q3.2.2.2.2.2.1, q3.2.2.2.2.2.2, A91, A92))
                else
                  if p0 = 7 then
                    (fX12_opposed q3.2.1 q3.2.2.2.2.1 q3.2.2.2.2.2.1).bind (fun q19 =>
                    some (q19, 0, q3.2.1, a72_44, q3.2.2.1, q3.2.2.2.1, q3.2.2.2.2.1, q3.2.2.2.2.2.1, q3.2.2.2.2.2.2, A91, A92))
                  else
                    some ((-1), 0, q3.2.1, a72_44, q3.2.2.1, q3.2.2.2.1, q3.2.2.2.2.1, q3.2.2.2.2.2.1, q3.2.2.2.2.2.2, A91, A92))
  else
    some ((-1), 0, a72_29, a72_44, A81, A82, A83, A84, A85, A91, A92))
set_option maxRecDepth 100000 in
theorem tX12_most_72 {G : eG} (hG : e_GS G) {la : Launch} {h : Nat → eO} {nx : Nat} (hnx : 99 ≤ nx) {a72_0 : Int32} {a72_2 : Int32} {a72_3 : Int32} {a72_4 : Int32} {a72_5 : Int32} {a72_6 : Int32} {a72_7 : Int32} {a72_8 : Bool} {a72_9 : Int32} {a72_10 : Int32} {a72_11 : Int32} {a72_17 : Bool} {a72_18 : Bool} {a72_19 : Bool} {a72_21 : Int32} {a72_22 : Int32} {a72_29 : Int32} {a72_31 : Int32} {a72_35 : Int32} {a72_37 : Bool} {a72_38 : Int32} {a72_39 : Int32} {a72_40 : Int32} {a72_41 : Int64} {a72_44 : Int32} {a72_50 : Bool} {A79 : Nat → Int32} {A80 : Nat → Int32} {A81 : Nat → Int32} {A82 : Nat → Int32} {A83 : Nat → Int32} {A84 : Nat → Int32} {A85 : Nat → Int32} {A91 : Nat → Int32} {A92 : Nat → Int32} {p0 : Int32} (h72 : h 72 = o72 a72_0 a72_2 a72_3 a72_4 a72_5 a72_6 a72_7 a72_8 a72_9 a72_10 a72_11 a72_17 a72_18 a72_19 a72_21 a72_22 a72_29 a72_31 a72_35 a72_37 a72_38 a72_39 a72_40 a72_41 a72_44 a72_50) (h79 : h 79 = o79 A79) (h80 : h 80 = o80 A80) (h81 : h 81 = o81 A81) (h82 : h 82 = o82 A82) (h83 : h 83 = o83 A83) (h84 : h 84 = o84 A84) (h85 : h 85 = o85 A85) (h91 : h 91 = o91 A91) (h92 : h 92 = o92 A92) {R9 : Int32 × Int32 × Int32 × Int32 × (Nat → Int32) × (Nat → Int32) × (Nat → Int32) × (Nat → Int32) × (Nat → Int32) × (Nat → Int32) × (Nat → Int32)} (hf : fX12_most a72_0 a72_21 a72_22 a72_29 a72_44 A79 A80 A81 A82 A83 A84 A85 A91 A92 p0 = some R9) :
    eSem G la MX12_most [.ref 72, .int p0] h nx 0 0 (fun r9 h9 => r9 = some (.int R9.1) ∧ h9 = e_up h [(72, o72 R9.2.1 a72_2 a72_3 a72_4 a72_5 a72_6 a72_7 a72_8 a72_9 a72_10 a72_11 a72_17 a72_18 a72_19 a72_21 a72_22 R9.2.2.1 a72_31 a72_35 a72_37 a72_38 a72_39 a72_40 a72_41 R9.2.2.2.1 a72_50), (81, o81 R9.2.2.2.2.1), (82, o82 R9.2.2.2.2.2.1), (83, o83 R9.2.2.2.2.2.2.1), (84, o84 R9.2.2.2.2.2.2.2.1), (85, o85 R9.2.2.2.2.2.2.2.2.1), (91, o91 R9.2.2.2.2.2.2.2.2.2.1), (92, o92 R9.2.2.2.2.2.2.2.2.2.2)]) := by
  refine eSem.of (k := 0) (L := [some (.ref 72), some (.int p0)]) (by decide +kernel) rfl rfl (fun X F hxl hq hcR hsR => ?_)
  subst hxl
  unfold fX12_most at hf
  refine r_aload_n F dX12_most_0 rfl ?_
  refine r_iconst F dX12_most_1 (v := 0) (by decide) ?_
  refine r_put F dX12_most_2 flX12_86 rfl rfl rfl h72 (e_le rfl) (e_le rfl) (e_lt hnx rfl) (l' := [(72, o72 0 a72_2 a72_3 a72_4 a72_5 a72_6 a72_7 a72_8 a72_9 a72_10 a72_11 a72_17 a72_18 a72_19 a72_21 a72_22 a72_29 a72_31 a72_35 a72_37 a72_38 a72_39 a72_40 a72_41 a72_44 a72_50)]) rfl ?_
  refine r_aload_n F dX12_most_5 rfl ?_
  obtain ⟨q1, hq2, hf⟩ := e_bd hf
  refine r_callV F dX12_most_6 (b := 72) (dc := 0) (ds := 0) (As := []) (S0 := []) lkX12_306 mX12_isCrystal (tX12_isCrystal_72 hG (la := x_l X) (h := e_up h [(72, o72 0 a72_2 a72_3 a72_4 a72_5 a72_6 a72_7 a72_8 a72_9 a72_10 a72_11 a72_17 a72_18 a72_19 a72_21 a72_22 a72_29 a72_31 a72_35 a72_37 a72_38 a72_39 a72_40 a72_41 a72_44 a72_50)]) hnx rfl hq2) rfl rfl rfl (e_le rfl) (e_le rfl) (e_le rfl) rfl (ci := 12) e_cl12.1 rfl (e_le rfl) (e_lt hnx rfl) (Nat.zero_le _) (Nat.zero_le _) (e_k ?_)
  refine r_wr0 ?_
  refine r_z_ne F dX12_most_9 (tgt := 14) (by decide) (fun hc => ?_) (fun hc => ?_)
  · have hf := e_t hc hf
    refine r_aload_n F dX12_most_14 rfl ?_
    obtain ⟨q3, hq4, hf⟩ := e_bd hf
    refine r_callV F dX12_most_15 (b := 72) (dc := 0) (ds := 0) (As := []) (S0 := []) lkX12_238 mX12_laysCores (tX12_laysCores_72 hG (la := x_l X) (h := e_up h [(72, o72 0 a72_2 a72_3 a72_4 a72_5 a72_6 a72_7 a72_8 a72_9 a72_10 a72_11 a72_17 a72_18 a72_19 a72_21 a72_22 a72_29 a72_31 a72_35 a72_37 a72_38 a72_39 a72_40 a72_41 a72_44 a72_50)]) hnx rfl h79 h80 h81 h82 h83 h84 h85 hq4) rfl rfl rfl (e_le rfl) (e_le rfl) (e_le rfl) rfl (ci := 12) e_cl12.1 rfl (e_le rfl) (e_lt hnx rfl) (Nat.zero_le _) (Nat.zero_le _) (e_k ?_)
    refine r_wr (l' := [(72, o72 0 a72_2 a72_3 a72_4 a72_5 a72_6 a72_7 a72_8 a72_9 a72_10 a72_11 a72_17 a72_18 a72_19 a72_21 a72_22 q3.2.1 a72_31 a72_35 a72_37 a72_38 a72_39 a72_40 a72_41 a72_44 a72_50), (81, o81 q3.2.2.1), (82, o82 q3.2.2.2.1), (83, o83 q3.2.2.2.2.1), (84, o84 q3.2.2.2.2.2.1), (85, o85 q3.2.2.2.2.2.2)]) rfl rfl ?_
    refine r_pop F dX12_most_18 rfl ?_
    refine r_iload_n F dX12_most_19 rfl ?_
    refine Classical.byCases (p := p0 = 0) (fun hc => ?_) (fun hk0 => ?_)
    · have hf := e_t hc hf
      refine r_tsIn F dX12_most_20 (by rw [hc]; decide) (by rw [hc]; decide) (off := 48) (by rw [hc]; decide) (tgt := 68) (by decide) ?_
      refine r_aload_n F dX12_most_68 rfl ?_
      refine r_iconst F dX12_most_69 (v := 0) (by decide) ?_
      obtain ⟨q5, hq6, hf⟩ := e_bd hf
      refine r_callV F dX12_most_70 (b := 72) (dc := 0) (ds := 0) (As := [.int 0]) (S0 := []) lkX12_476 mX12_mostAlike (tX12_mostAlike_72 hG (la := x_l X) (h := e_up h [(72, o72 0 a72_2 a72_3 a72_4 a72_5 a72_6 a72_7 a72_8 a72_9 a72_10 a72_11 a72_17 a72_18 a72_19 a72_21 a72_22 q3.2.1 a72_31 a72_35 a72_37 a72_38 a72_39 a72_40 a72_41 a72_44 a72_50), (81, o81 q3.2.2.1), (82, o82 q3.2.2.2.1), (83, o83 q3.2.2.2.2.1), (84, o84 q3.2.2.2.2.2.1), (85, o85 q3.2.2.2.2.2.2)]) hnx rfl rfl rfl rfl hq6) rfl rfl rfl (e_le rfl) (e_le rfl) (e_le rfl) rfl (ci := 12) e_cl12.1 rfl (e_le rfl) (e_lt hnx rfl) (Nat.zero_le _) (Nat.zero_le _) (e_k ?_)
      refine r_wr0 ?_
      refine r_mat (k := 91) h91 (l' := [(72, o72 0 a72_2 a72_3 a72_4 a72_5 a72_6 a72_7 a72_8 a72_9 a72_10 a72_11 a72_17 a72_18 a72_19 a72_21 a72_22 q3.2.1 a72_31 a72_35 a72_37 a72_38 a72_39 a72_40 a72_41 a72_44 a72_50), (81, o81 q3.2.2.1), (82, o82 q3.2.2.2.1), (83, o83 q3.2.2.2.2.1), (84, o84 q3.2.2.2.2.2.1), (85, o85 q3.2.2.2.2.2.2), (91, o91 A91)]) rfl ?_
      refine r_mat (k := 92) h92 (l' := [(72, o72 0 a72_2 a72_3 a72_4 a72_5 a72_6 a72_7 a72_8 a72_9 a72_10 a72_11 a72_17 a72_18 a72_19 a72_21 a72_22 q3.2.1 a72_31 a72_35 a72_37 a72_38 a72_39 a72_40 a72_41 a72_44 a72_50), (81, o81 q3.2.2.1), (82, o82 q3.2.2.2.1), (83, o83 q3.2.2.2.2.1), (84, o84 q3.2.2.2.2.2.1), (85, o85 q3.2.2.2.2.2.2), (91, o91 A91), (92, o92 A92)]) rfl ?_
      obtain rfl := Option.some.inj hf
      exact r_iret F hq dX12_most_73 rfl rfl (Nat.le_refl _) (Nat.le_refl _) ⟨rfl, rfl⟩
    have hf := e_f hk0 hf
    refine Classical.byCases (p := p0 = 1) (fun hc => ?_) (fun hk1 => ?_)
    · have hf := e_t hc hf
      refine r_tsIn F dX12_most_20 (by rw [hc]; decide) (by rw [hc]; decide) (off := 54) (by rw [hc]; decide) (tgt := 74) (by decide) ?_
      refine r_aload_n F dX12_most_74 rfl ?_
      refine r_iconst F dX12_most_75 (v := 1) (by decide) ?_
      obtain ⟨q7, hq8, hf⟩ := e_bd hf
      refine r_callV F dX12_most_76 (b := 72) (dc := 0) (ds := 0) (As := [.int 1]) (S0 := []) lkX12_476 mX12_mostAlike (tX12_mostAlike_72 hG (la := x_l X) (h := e_up h [(72, o72 0 a72_2 a72_3 a72_4 a72_5 a72_6 a72_7 a72_8 a72_9 a72_10 a72_11 a72_17 a72_18 a72_19 a72_21 a72_22 q3.2.1 a72_31 a72_35 a72_37 a72_38 a72_39 a72_40 a72_41 a72_44 a72_50), (81, o81 q3.2.2.1), (82, o82 q3.2.2.2.1), (83, o83 q3.2.2.2.2.1), (84, o84 q3.2.2.2.2.2.1), (85, o85 q3.2.2.2.2.2.2)]) hnx rfl rfl rfl rfl hq8) rfl rfl rfl (e_le rfl) (e_le rfl) (e_le rfl) rfl (ci := 12) e_cl12.1 rfl (e_le rfl) (e_lt hnx rfl) (Nat.zero_le _) (Nat.zero_le _) (e_k ?_)
      refine r_wr0 ?_
      refine r_mat (k := 91) h91 (l' := [(72, o72 0 a72_2 a72_3 a72_4 a72_5 a72_6 a72_7 a72_8 a72_9 a72_10 a72_11 a72_17 a72_18 a72_19 a72_21 a72_22 q3.2.1 a72_31 a72_35 a72_37 a72_38 a72_39 a72_40 a72_41 a72_44 a72_50), (81, o81 q3.2.2.1), (82, o82 q3.2.2.2.1), (83, o83 q3.2.2.2.2.1), (84, o84 q3.2.2.2.2.2.1), (85, o85 q3.2.2.2.2.2.2), (91, o91 A91)]) rfl ?_
      refine r_mat (k := 92) h92 (l' := [(72, o72 0 a72_2 a72_3 a72_4 a72_5 a72_6 a72_7 a72_8 a72_9 a72_10 a72_11 a72_17 a72_18 a72_19 a72_21 a72_22 q3.2.1 a72_31 a72_35 a72_37 a72_38 a72_39 a72_40 a72_41 a72_44 a72_50), (81, o81 q3.2.2.1), (82, o82 q3.2.2.2.1), (83, o83 q3.2.2.2.2.1), (84, o84 q3.2.2.2.2.2.1), (85, o85 q3.2.2.2.2.2.2), (91, o91 A91), (92, o92 A92)]) rfl ?_
      obtain rfl := Option.some.inj hf
      exact r_iret F hq dX12_most_79 rfl rfl (Nat.le_refl _) (Nat.le_refl _) ⟨rfl, rfl⟩
    have hf := e_f hk1 hf
    refine Classical.byCases (p := p0 = 2) (fun hc => ?_) (fun hk2 => ?_)
    · have hf := e_t hc hf
      refine r_tsIn F dX12_most_20 (by rw [hc]; decide) (by rw [hc]; decide) (off := 60) (by rw [hc]; decide) (tgt := 80) (by decide) ?_
      refine r_aload_n F dX12_most_80 rfl ?_
      obtain ⟨q9, hq10, hf⟩ := e_bd hf
      refine r_callV F dX12_most_81 (b := 72) (dc := 0) (ds := 0) (As := []) (S0 := []) lkX12_480 mX12_strongest (tX12_strongest_72 hG (la := x_l X) (h := e_up h [(72, o72 0 a72_2 a72_3 a72_4 a72_5 a72_6 a72_7 a72_8 a72_9 a72_10 a72_11 a72_17 a72_18 a72_19 a72_21 a72_22 q3.2.1 a72_31 a72_35 a72_37 a72_38 a72_39 a72_40 a72_41 a72_44 a72_50), (81, o81 q3.2.2.1), (82, o82 q3.2.2.2.1), (83, o83 q3.2.2.2.2.1), (84, o84 q3.2.2.2.2.2.1), (85, o85 q3.2.2.2.2.2.2)]) hnx rfl rfl hq10) rfl rfl rfl (e_le rfl) (e_le rfl) (e_le rfl) rfl (ci := 12) e_cl12.1 rfl (e_le rfl) (e_lt hnx rfl) (Nat.zero_le _) (Nat.zero_le _) (e_k ?_)
      refine r_wr0 ?_
      refine r_mat (k := 91) h91 (l' := [(72, o72 0 a72_2 a72_3 a72_4 a72_5 a72_6 a72_7 a72_8 a72_9 a72_10 a72_11 a72_17 a72_18 a72_19 a72_21 a72_22 q3.2.1 a72_31 a72_35 a72_37 a72_38 a72_39 a72_40 a72_41 a72_44 a72_50), (81, o81 q3.2.2.1), (82, o82 q3.2.2.2.1), (83, o83 q3.2.2.2.2.1), (84, o84 q3.2.2.2.2.2.1), (85, o85 q3.2.2.2.2.2.2), (91, o91 A91)]) rfl ?_
      refine r_mat (k := 92) h92 (l' := [(72, o72 0 a72_2 a72_3 a72_4 a72_5 a72_6 a72_7 a72_8 a72_9 a72_10 a72_11 a72_17 a72_18 a72_19 a72_21 a72_22 q3.2.1 a72_31 a72_35 a72_37 a72_38 a72_39 a72_40 a72_41 a72_44 a72_50), (81, o81 q3.2.2.1), (82, o82 q3.2.2.2.1), (83, o83 q3.2.2.2.2.1), (84, o84 q3.2.2.2.2.2.1), (85, o85 q3.2.2.2.2.2.2), (91, o91 A91), (92, o92 A92)]) rfl ?_
      obtain rfl := Option.some.inj hf
      exact r_iret F hq dX12_most_84 rfl rfl (Nat.le_refl _) (Nat.le_refl _) ⟨rfl, rfl⟩
    have hf := e_f hk2 hf
    refine Classical.byCases (p := p0 = 3) (fun hc => ?_) (fun hk3 => ?_)
    · have hf := e_t hc hf
      refine r_tsIn F dX12_most_20 (by rw [hc]; decide) (by rw [hc]; decide) (off := 65) (by rw [hc]; decide) (tgt := 85) (by decide) ?_
      refine r_aload_n F dX12_most_85 rfl ?_
      refine r_iconst F dX12_most_86 (v := 0) (by decide) ?_
      obtain ⟨q11, hq12, hf⟩ := e_bd hf
      refine r_callV F dX12_most_87 (b := 72) (dc := 0) (ds := 0) (As := [.int 0]) (S0 := []) lkX12_483 mX12_nearest (tX12_nearest_72 hG (la := x_l X) (h := e_up h [(72, o72 0 a72_2 a72_3 a72_4 a72_5 a72_6 a72_7 a72_8 a72_9 a72_10 a72_11 a72_17 a72_18 a72_19 a72_21 a72_22 q3.2.1 a72_31 a72_35 a72_37 a72_38 a72_39 a72_40 a72_41 a72_44 a72_50), (81, o81 q3.2.2.1), (82, o82 q3.2.2.2.1), (83, o83 q3.2.2.2.2.1), (84, o84 q3.2.2.2.2.2.1), (85, o85 q3.2.2.2.2.2.2)]) hnx rfl rfl rfl hq12) rfl rfl rfl (e_le rfl) (e_le rfl) (e_le rfl) rfl (ci := 12) e_cl12.1 rfl (e_le rfl) (e_lt hnx rfl) (Nat.zero_le _) (Nat.zero_le _) (e_k ?_)
      refine r_wr0 ?_
      refine r_mat (k := 91) h91 (l' := [(72, o72 0 a72_2 a72_3 a72_4 a72_5 a72_6 a72_7 a72_8 a72_9 a72_10 a72_11 a72_17 a72_18 a72_19 a72_21 a72_22 q3.2.1 a72_31 a72_35 a72_37 a72_38 a72_39 a72_40 a72_41 a72_44 a72_50), (81, o81 q3.2.2.1), (82, o82 q3.2.2.2.1), (83, o83 q3.2.2.2.2.1), (84, o84 q3.2.2.2.2.2.1), (85, o85 q3.2.2.2.2.2.2), (91, o91 A91)]) rfl ?_
      refine r_mat (k := 92) h92 (l' := [(72, o72 0 a72_2 a72_3 a72_4 a72_5 a72_6 a72_7 a72_8 a72_9 a72_10 a72_11 a72_17 a72_18 a72_19 a72_21 a72_22 q3.2.1 a72_31 a72_35 a72_37 a72_38 a72_39 a72_40 a72_41 a72_44 a72_50), (81, o81 q3.2.2.1), (82, o82 q3.2.2.2.1), (83, o83 q3.2.2.2.2.1), (84, o84 q3.2.2.2.2.2.1), (85, o85 q3.2.2.2.2.2.2), (91, o91 A91), (92, o92 A92)]) rfl ?_
      obtain rfl := Option.some.inj hf
      exact r_iret F hq dX12_most_90 rfl rfl (Nat.le_refl _) (Nat.le_refl _) ⟨rfl, rfl⟩
    have hf := e_f hk3 hf
    refine Classical.byCases (p := p0 = 4) (fun hc => ?_) (fun hk4 => ?_)
    · have hf := e_t hc hf
      refine r_tsIn F dX12_most_20 (by rw [hc]; decide) (by rw [hc]; decide) (off := 71) (by rw [hc]; decide) (tgt := 91) (by decide) ?_
      refine r_aload_n F dX12_most_91 rfl ?_
      refine r_iconst F dX12_most_92 (v := 1) (by decide) ?_
      obtain ⟨q13, hq14, hf⟩ := e_bd hf
      refine r_callV F dX12_most_93 (b := 72) (dc := 0) (ds := 0) (As := [.int 1]) (S0 := []) lkX12_483 mX12_nearest (tX12_nearest_72 hG (la := x_l X) (h := e_up h [(72, o72 0 a72_2 a72_3 a72_4 a72_5 a72_6 a72_7 a72_8 a72_9 a72_10 a72_11 a72_17 a72_18 a72_19 a72_21 a72_22 q3.2.1 a72_31 a72_35 a72_37 a72_38 a72_39 a72_40 a72_41 a72_44 a72_50), (81, o81 q3.2.2.1), (82, o82 q3.2.2.2.1), (83, o83 q3.2.2.2.2.1), (84, o84 q3.2.2.2.2.2.1), (85, o85 q3.2.2.2.2.2.2)]) hnx rfl rfl rfl hq14) rfl rfl rfl (e_le rfl) (e_le rfl) (e_le rfl) rfl (ci := 12) e_cl12.1 rfl (e_le rfl) (e_lt hnx rfl) (Nat.zero_le _) (Nat.zero_le _) (e_k ?_)
      refine r_wr0 ?_
      refine r_mat (k := 91) h91 (l' := [(72, o72 0 a72_2 a72_3 a72_4 a72_5 a72_6 a72_7 a72_8 a72_9 a72_10 a72_11 a72_17 a72_18 a72_19 a72_21 a72_22 q3.2.1 a72_31 a72_35 a72_37 a72_38 a72_39 a72_40 a72_41 a72_44 a72_50), (81, o81 q3.2.2.1), (82, o82 q3.2.2.2.1), (83, o83 q3.2.2.2.2.1), (84, o84 q3.2.2.2.2.2.1), (85, o85 q3.2.2.2.2.2.2), (91, o91 A91)]) rfl ?_
      refine r_mat (k := 92) h92 (l' := [(72, o72 0 a72_2 a72_3 a72_4 a72_5 a72_6 a72_7 a72_8 a72_9 a72_10 a72_11 a72_17 a72_18 a72_19 a72_21 a72_22 q3.2.1 a72_31 a72_35 a72_37 a72_38 a72_39 a72_40 a72_41 a72_44 a72_50), (81, o81 q3.2.2.1), (82, o82 q3.2.2.2.1), (83, o83 q3.2.2.2.2.1), (84, o84 q3.2.2.2.2.2.1), (85, o85 q3.2.2.2.2.2.2), (91, o91 A91), (92, o92 A92)]) rfl ?_
      obtain rfl := Option.some.inj hf
      exact r_iret F hq dX12_most_96 rfl rfl (Nat.le_refl _) (Nat.le_refl _) ⟨rfl, rfl⟩
    have hf := e_f hk4 hf
    refine Classical.byCases (p := p0 = 5) (fun hc => ?_) (fun hk5 => ?_)
    · have hf := e_t hc hf
      refine r_tsIn F dX12_most_20 (by rw [hc]; decide) (by rw [hc]; decide) (off := 77) (by rw [hc]; decide) (tgt := 97) (by decide) ?_
      refine r_aload_n F dX12_most_97 rfl ?_
      obtain ⟨q15, hq16, hf⟩ := e_bd hf
      refine r_callV F dX12_most_98 (b := 72) (dc := 0) (ds := 0) (As := []) (S0 := []) lkX12_486 mX12_longestWall (tX12_longestWall_72 hG (la := x_l X) (h := e_up h [(72, o72 0 a72_2 a72_3 a72_4 a72_5 a72_6 a72_7 a72_8 a72_9 a72_10 a72_11 a72_17 a72_18 a72_19 a72_21 a72_22 q3.2.1 a72_31 a72_35 a72_37 a72_38 a72_39 a72_40 a72_41 a72_44 a72_50), (81, o81 q3.2.2.1), (82, o82 q3.2.2.2.1), (83, o83 q3.2.2.2.2.1), (84, o84 q3.2.2.2.2.2.1), (85, o85 q3.2.2.2.2.2.2)]) hnx rfl h79 h91 h92 hq16) rfl rfl rfl (e_le rfl) (e_le rfl) (e_le rfl) rfl (ci := 12) e_cl12.1 rfl (e_le rfl) (e_lt hnx rfl) (Nat.zero_le _) (Nat.zero_le _) (e_k ?_)
      refine r_wr (l' := [(72, o72 0 a72_2 a72_3 a72_4 a72_5 a72_6 a72_7 a72_8 a72_9 a72_10 a72_11 a72_17 a72_18 a72_19 a72_21 a72_22 q3.2.1 a72_31 a72_35 a72_37 a72_38 a72_39 a72_40 a72_41 q15.2.1 a72_50), (81, o81 q3.2.2.1), (82, o82 q3.2.2.2.1), (83, o83 q3.2.2.2.2.1), (84, o84 q3.2.2.2.2.2.1), (85, o85 q3.2.2.2.2.2.2), (91, o91 q15.2.2.1), (92, o92 q15.2.2.2)]) rfl rfl ?_
      obtain rfl := Option.some.inj hf
      exact r_iret F hq dX12_most_101 rfl rfl (Nat.le_refl _) (Nat.le_refl _) ⟨rfl, rfl⟩
    have hf := e_f hk5 hf
    refine Classical.byCases (p := p0 = 6) (fun hc => ?_) (fun hk6 => ?_)
    · have hf := e_t hc hf
      refine r_tsIn F dX12_most_20 (by rw [hc]; decide) (by rw [hc]; decide) (off := 82) (by rw [hc]; decide) (tgt := 102) (by decide) ?_
      refine r_aload_n F dX12_most_102 rfl ?_
      obtain ⟨q17, hq18, hf⟩ := e_bd hf
      refine r_callV F dX12_most_103 (b := 72) (dc := 0) (ds := 0) (As := []) (S0 := []) lkX12_489 mX12_greatestNumber (tX12_greatestNumber_72 hG (la := x_l X) (h := e_up h [(72, o72 0 a72_2 a72_3 a72_4 a72_5 a72_6 a72_7 a72_8 a72_9 a72_10 a72_11 a72_17 a72_18 a72_19 a72_21 a72_22 q3.2.1 a72_31 a72_35 a72_37 a72_38 a72_39 a72_40 a72_41 a72_44 a72_50), (81, o81 q3.2.2.1), (82, o82 q3.2.2.2.1), (83, o83 q3.2.2.2.2.1), (84, o84 q3.2.2.2.2.2.1), (85, o85 q3.2.2.2.2.2.2)]) hnx rfl rfl rfl hq18) rfl rfl rfl (e_le rfl) (e_le rfl) (e_le rfl) rfl (ci := 12) e_cl12.1 rfl (e_le rfl) (e_lt hnx rfl) (Nat.zero_le _) (Nat.zero_le _) (e_k ?_)
      refine r_wr0 ?_
      refine r_mat (k := 91) h91 (l' := [(72, o72 0 a72_2 a72_3 a72_4 a72_5 a72_6 a72_7 a72_8 a72_9 a72_10 a72_11 a72_17 a72_18 a72_19 a72_21 a72_22 q3.2.1 a72_31 a72_35 a72_37 a72_38 a72_39 a72_40 a72_41 a72_44 a72_50), (81, o81 q3.2.2.1), (82, o82 q3.2.2.2.1), (83, o83 q3.2.2.2.2.1), (84, o84 q3.2.2.2.2.2.1), (85, o85 q3.2.2.2.2.2.2), (91, o91 A91)]) rfl ?_
      refine r_mat (k := 92) h92 (l' := [(72, o72 0 a72_2 a72_3 a72_4 a72_5 a72_6 a72_7 a72_8 a72_9 a72_10 a72_11 a72_17 a72_18 a72_19 a72_21 a72_22 q3.2.1 a72_31 a72_35 a72_37 a72_38 a72_39 a72_40 a72_41 a72_44 a72_50), (81, o81 q3.2.2.1), (82, o82 q3.2.2.2.1), (83, o83 q3.2.2.2.2.1), (84, o84 q3.2.2.2.2.2.1), (85, o85 q3.2.2.2.2.2.2), (91, o91 A91), (92, o92 A92)]) rfl ?_
      obtain rfl := Option.some.inj hf
      exact r_iret F hq dX12_most_106 rfl rfl (Nat.le_refl _) (Nat.le_refl _) ⟨rfl, rfl⟩
    have hf := e_f hk6 hf
    refine Classical.byCases (p := p0 = 7) (fun hc => ?_) (fun hk7 => ?_)
    · have hf := e_t hc hf
      refine r_tsIn F dX12_most_20 (by rw [hc]; decide) (by rw [hc]; decide) (off := 87) (by rw [hc]; decide) (tgt := 107) (by decide) ?_
      refine r_aload_n F dX12_most_107 rfl ?_
      obtain ⟨q19, hq20, hf⟩ := e_bd hf
      refine r_callV F dX12_most_108 (b := 72) (dc := 0) (ds := 0) (As := []) (S0 := []) lkX12_492 mX12_opposed (tX12_opposed_72 hG (la := x_l X) (h := e_up h [(72, o72 0 a72_2 a72_3 a72_4 a72_5 a72_6 a72_7 a72_8 a72_9 a72_10 a72_11 a72_17 a72_18 a72_19 a72_21 a72_22 q3.2.1 a72_31 a72_35 a72_37 a72_38 a72_39 a72_40 a72_41 a72_44 a72_50), (81, o81 q3.2.2.1), (82, o82 q3.2.2.2.1), (83, o83 q3.2.2.2.2.1), (84, o84 q3.2.2.2.2.2.1), (85, o85 q3.2.2.2.2.2.2)]) hnx rfl rfl rfl hq20) rfl rfl rfl (e_le rfl) (e_le rfl) (e_le rfl) rfl (ci := 12) e_cl12.1 rfl (e_le rfl) (e_lt hnx rfl) (Nat.zero_le _) (Nat.zero_le _) (e_k ?_)
      refine r_wr0 ?_
      refine r_mat (k := 91) h91 (l' := [(72, o72 0 a72_2 a72_3 a72_4 a72_5 a72_6 a72_7 a72_8 a72_9 a72_10 a72_11 a72_17 a72_18 a72_19 a72_21 a72_22 q3.2.1 a72_31 a72_35 a72_37 a72_38 a72_39 a72_40 a72_41 a72_44 a72_50), (81, o81 q3.2.2.1), (82, o82 q3.2.2.2.1), (83, o83 q3.2.2.2.2.1), (84, o84 q3.2.2.2.2.2.1), (85, o85 q3.2.2.2.2.2.2), (91, o91 A91)]) rfl ?_
      refine r_mat (k := 92) h92 (l' := [(72, o72 0 a72_2 a72_3 a72_4 a72_5 a72_6 a72_7 a72_8 a72_9 a72_10 a72_11 a72_17 a72_18 a72_19 a72_21 a72_22 q3.2.1 a72_31 a72_35 a72_37 a72_38 a72_39 a72_40 a72_41 a72_44 a72_50), (81, o81 q3.2.2.1), (82, o82 q3.2.2.2.1), (83, o83 q3.2.2.2.2.1), (84, o84 q3.2.2.2.2.2.1), (85, o85 q3.2.2.2.2.2.2), (91, o91 A91), (92, o92 A92)]) rfl ?_
      obtain rfl := Option.some.inj hf
      exact r_iret F hq dX12_most_111 rfl rfl (Nat.le_refl _) (Nat.le_refl _) ⟨rfl, rfl⟩
    have hf := e_f hk7 hf
    refine r_tsOut F dX12_most_20 (e_out8 hk0 hk1 hk2 hk3 hk4 hk5 hk6 hk7) (tgt := 112) (by decide) ?_
    refine r_iconst F dX12_most_112 (v := (-1)) (by decide) ?_
    refine r_mat (k := 91) h91 (l' := [(72, o72 0 a72_2 a72_3 a72_4 a72_5 a72_6 a72_7 a72_8 a72_9 a72_10 a72_11 a72_17 a72_18 a72_19 a72_21 a72_22 q3.2.1 a72_31 a72_35 a72_37 a72_38 a72_39 a72_40 a72_41 a72_44 a72_50), (81, o81 q3.2.2.1), (82, o82 q3.2.2.2.1), (83, o83 q3.2.2.2.2.1), (84, o84 q3.2.2.2.2.2.1), (85, o85 q3.2.2.2.2.2.2), (91, o91 A91)]) rfl ?_
    refine r_mat (k := 92) h92 (l' := [(72, o72 0 a72_2 a72_3 a72_4 a72_5 a72_6 a72_7 a72_8 a72_9 a72_10 a72_11 a72_17 a72_18 a72_19 a72_21 a72_22 q3.2.1 a72_31 a72_35 a72_37 a72_38 a72_39 a72_40 a72_41 a72_44 a72_50), (81, o81 q3.2.2.1), (82, o82 q3.2.2.2.1), (83, o83 q3.2.2.2.2.1), (84, o84 q3.2.2.2.2.2.1), (85, o85 q3.2.2.2.2.2.2), (91, o91 A91), (92, o92 A92)]) rfl ?_
    obtain rfl := Option.some.inj hf
    exact r_iret F hq dX12_most_113 rfl rfl (Nat.le_refl _) (Nat.le_refl _) ⟨rfl, rfl⟩
  · have hf := e_f hc hf
    refine r_iconst F dX12_most_12 (v := (-1)) (by decide) ?_
    refine r_mat (k := 81) h81 (l' := [(72, o72 0 a72_2 a72_3 a72_4 a72_5 a72_6 a72_7 a72_8 a72_9 a72_10 a72_11 a72_17 a72_18 a72_19 a72_21 a72_22 a72_29 a72_31 a72_35 a72_37 a72_38 a72_39 a72_40 a72_41 a72_44 a72_50), (81, o81 A81)]) rfl ?_
    refine r_mat (k := 82) h82 (l' := [(72, o72 0 a72_2 a72_3 a72_4 a72_5 a72_6 a72_7 a72_8 a72_9 a72_10 a72_11 a72_17 a72_18 a72_19 a72_21 a72_22 a72_29 a72_31 a72_35 a72_37 a72_38 a72_39 a72_40 a72_41 a72_44 a72_50), (81, o81 A81), (82, o82 A82)]) rfl ?_
    refine r_mat (k := 83) h83 (l' := [(72, o72 0 a72_2 a72_3 a72_4 a72_5 a72_6 a72_7 a72_8 a72_9 a72_10 a72_11 a72_17 a72_18 a72_19 a72_21 a72_22 a72_29 a72_31 a72_35 a72_37 a72_38 a72_39 a72_40 a72_41 a72_44 a72_50), (81, o81 A81), (82, o82 A82), (83, o83 A83)]) rfl ?_
    refine r_mat (k := 84) h84 (l' := [(72, o72 0 a72_2 a72_3 a72_4 a72_5 a72_6 a72_7 a72_8 a72_9 a72_10 a72_11 a72_17 a72_18 a72_19 a72_21 a72_22 a72_29 a72_31 a72_35 a72_37 a72_38 a72_39 a72_40 a72_41 a72_44 a72_50), (81, o81 A81), (82, o82 A82), (83, o83 A83), (84, o84 A84)]) rfl ?_
    refine r_mat (k := 85) h85 (l' := [(72, o72 0 a72_2 a72_3 a72_4 a72_5 a72_6 a72_7 a72_8 a72_9 a72_10 a72_11 a72_17 a72_18 a72_19 a72_21 a72_22 a72_29 a72_31 a72_35 a72_37 a72_38 a72_39 a72_40 a72_41 a72_44 a72_50), (81, o81 A81), (82, o82 A82), (83, o83 A83), (84, o84 A84), (85, o85 A85)]) rfl ?_
    refine r_mat (k := 91) h91 (l' := [(72, o72 0 a72_2 a72_3 a72_4 a72_5 a72_6 a72_7 a72_8 a72_9 a72_10 a72_11 a72_17 a72_18 a72_19 a72_21 a72_22 a72_29 a72_31 a72_35 a72_37 a72_38 a72_39 a72_40 a72_41 a72_44 a72_50), (81, o81 A81), (82, o82 A82), (83, o83 A83), (84, o84 A84), (85, o85 A85), (91, o91 A91)]) rfl ?_
    refine r_mat (k := 92) h92 (l' := [(72, o72 0 a72_2 a72_3 a72_4 a72_5 a72_6 a72_7 a72_8 a72_9 a72_10 a72_11 a72_17 a72_18 a72_19 a72_21 a72_22 a72_29 a72_31 a72_35 a72_37 a72_38 a72_39 a72_40 a72_41 a72_44 a72_50), (81, o81 A81), (82, o82 A82), (83, o83 A83), (84, o84 A84), (85, o85 A85), (91, o91 A91), (92, o92 A92)]) rfl ?_
    obtain rfl := Option.some.inj hf
    exact r_iret F hq dX12_most_13 rfl rfl (Nat.le_refl _) (Nat.le_refl _) ⟨rfl, rfl⟩
