def fX12_mostAlike (a72_29 : Int32) (A81 : Nat → Int32) (A83 : Nat → Int32) (A84 : Nat → Int32) (p0 : Bool) : Option (Int32) :=
  (e_loop (fun (v3 : Int32 × Int32 × Int32) => (
      if a72_29 ≤ v3.2.2 then
        some (.inr (v3.1, v3.2.1))
      else
        (fX12_alikeWith a72_29 A81 A83 A84 v3.2.2).bind (fun q6 =>
        Option.bind (α := Int32 × Int32) (
          if v3.1 < q6 then
            e_g (e_in v3.2.2 64) (
            some (q6, A81 (tn v3.2.2)))
          else
            if q6 = v3.1 then
              e_g (e_in v3.2.2 64) (
              if v3.2.1 ≤ (A81 (tn v3.2.2)) then
                some (v3.1, v3.2.1)
              else
                e_g (e_in v3.2.2 64) (
                some (q6, A81 (tn v3.2.2))))
            else
              some (v3.1, v3.2.1)) (fun q8 =>
        some (.inl (q8.1, q8.2, v3.2.2 + 1)))) : Option ((Int32 × Int32 × Int32) ⊕ (Int32 × Int32)))) e_fuel (0, (-1), 0)).bind (fun x4 =>
  if p0 = true then
    some x4.2
  else
    some x4.1)
set_option maxRecDepth 100000 in
theorem tX12_mostAlike_72 {G : eG} (hG : e_GS G) {la : Launch} {h : Nat → eO} {nx : Nat} (hnx : 99 ≤ nx) {a72_0 : Int32} {a72_2 : Int32} {a72_3 : Int32} {a72_4 : Int32} {a72_5 : Int32} {a72_6 : Int32} {a72_7 : Int32} {a72_8 : Bool} {a72_9 : Int32} {a72_10 : Int32} {a72_11 : Int32} {a72_17 : Bool} {a72_18 : Bool} {a72_19 : Bool} {a72_21 : Int32} {a72_22 : Int32} {a72_29 : Int32} {a72_31 : Int32} {a72_35 : Int32} {a72_37 : Bool} {a72_38 : Int32} {a72_39 : Int32} {a72_40 : Int32} {a72_41 : Int64} {a72_44 : Int32} {a72_50 : Bool} {A81 : Nat → Int32} {A83 : Nat → Int32} {A84 : Nat → Int32} {p0 : Bool} (h72 : h 72 = o72 a72_0 a72_2 a72_3 a72_4 a72_5 a72_6 a72_7 a72_8 a72_9 a72_10 a72_11 a72_17 a72_18 a72_19 a72_21 a72_22 a72_29 a72_31 a72_35 a72_37 a72_38 a72_39 a72_40 a72_41 a72_44 a72_50) (h81 : h 81 = o81 A81) (h83 : h 83 = o83 A83) (h84 : h 84 = o84 A84) {R9 : Int32} (hf : fX12_mostAlike a72_29 A81 A83 A84 p0 = some R9) :
    eSem G la MX12_mostAlike [.ref 72, .int (e_b p0)] h nx 0 0 (fun r9 h9 => r9 = some (.int R9) ∧ h9 = h) := by
  refine eSem.of (k := 4) (L := [some (.ref 72), some (.int (e_b p0)), none, none, none, none]) (by decide +kernel) rfl rfl (fun X F hxl hq hcR hsR => ?_)
  subst hxl
  unfold fX12_mostAlike at hf
  refine r_iconst F dX12_mostAlike_0 (v := 0) (by decide) ?_
  refine r_istore_n F dX12_mostAlike_1 (e_le rfl) (L' := [some (.ref 72), some (.int (e_b p0)), some (.int 0), none, none, none]) rfl ?_
  refine r_iconst F dX12_mostAlike_2 (v := (-1)) (by decide) ?_
  refine r_istore_n F dX12_mostAlike_3 (e_le rfl) (L' := [some (.ref 72), some (.int (e_b p0)), some (.int 0), some (.int (-1)), none, none]) rfl ?_
  refine r_iconst F dX12_mostAlike_4 (v := 0) (by decide) ?_
  refine r_istore F dX12_mostAlike_5 (e_le rfl) (L' := [some (.ref 72), some (.int (e_b p0)), some (.int 0), some (.int (-1)), some (.int 0), none]) rfl ?_
  obtain ⟨x4, hx5, hf⟩ := e_bd hf
  refine (e_loop_ok (P := fun (v3 : Int32 × Int32 × Int32) => eRun G X 7 [some (.ref 72), some (.int (e_b p0)), some (.int v3.1), some (.int v3.2.1), some (.int v3.2.2), none] [] h [] nx 0 0) (K := fun (x4 : Int32 × Int32) => eRun G X 64 [none, some (.int (e_b p0)), some (.int x4.1), some (.int x4.2), none, none] [] h [] nx 0 0) ?_ e_fuel (0, (-1), 0) x4 hx5 ?_ : _)
  · intro v3 z hz ih hx
    refine r_iload F dX12_mostAlike_7 rfl ?_
    refine r_aload_n F dX12_mostAlike_9 rfl ?_
    refine r_get F dX12_mostAlike_10 flX12_241 h72 rfl (e_le rfl) (e_lt hnx rfl) ?_
    refine r_icmp_ge F dX12_mostAlike_13 (tgt := 64) (by decide) (fun hc => ?_) (fun hc => ?_)
    · have hz := e_t hc hz
      refine r_drop 0 (L' := [none, some (.int (e_b p0)), some (.int v3.1), some (.int v3.2.1), some (.int v3.2.2), none]) rfl ?_
      refine r_drop 4 (L' := [none, some (.int (e_b p0)), some (.int v3.1), some (.int v3.2.1), none, none]) rfl ?_
      obtain rfl := Option.some.inj hz
      exact hx (v3.1, v3.2.1) rfl
    · have hz := e_f hc hz
      refine r_aload_n F dX12_mostAlike_16 rfl ?_
      refine r_iload F dX12_mostAlike_17 rfl ?_
      obtain ⟨q6, hq7, hz⟩ := e_bd hz
      refine r_callV F dX12_mostAlike_19 (b := 72) (dc := 0) (ds := 0) (As := [.int v3.2.2]) (S0 := []) lkX12_473 mX12_alikeWith (tX12_alikeWith_72 hG (la := x_l X) (h := e_up h []) hnx h72 h81 h83 h84 hq7) rfl rfl rfl (e_le rfl) (e_le rfl) (e_le rfl) h72 (ci := 12) e_cl12.1 rfl (e_le rfl) (e_lt hnx rfl) (Nat.zero_le _) (Nat.zero_le _) (e_k ?_)
      refine r_wr0 ?_
      refine r_istore F dX12_mostAlike_22 (e_le rfl) (L' := [some (.ref 72), some (.int (e_b p0)), some (.int v3.1), some (.int v3.2.1), some (.int v3.2.2), some (.int q6)]) rfl ?_
      refine r_iload F dX12_mostAlike_24 rfl ?_
      refine r_iload_n F dX12_mostAlike_26 rfl ?_
      obtain ⟨q8, hq9, hz⟩ := e_bd hz
      have Jq8 : eRun G X 58 [some (.ref 72), some (.int (e_b p0)), some (.int q8.1), some (.int q8.2), some (.int v3.2.2), none] [] h [] nx 0 0 := by
        refine r_inc F dX12_mostAlike_58 (k9 := 1) (by decide) rfl (L' := [some (.ref 72), some (.int (e_b p0)), some (.int q8.1), some (.int q8.2), some (.int (v3.2.2 + 1)), none]) rfl ?_
        refine r_goto F dX12_mostAlike_61 (tgt := 7) (by decide) ?_
        obtain rfl := Option.some.inj hz
        exact ih (q8.1, q8.2, v3.2.2 + 1) rfl
      refine r_icmp_gt F dX12_mostAlike_27 (tgt := 47) (by decide) (fun hc => ?_) (fun hc => ?_)
      · have hq9 := e_t hc hq9
        refine r_iload F dX12_mostAlike_47 rfl ?_
        refine r_istore_n F dX12_mostAlike_49 (e_le rfl) (L' := [some (.ref 72), some (.int (e_b p0)), some (.int q6), some (.int v3.2.1), some (.int v3.2.2), some (.int q6)]) rfl ?_
        refine r_aload_n F dX12_mostAlike_50 rfl ?_
        refine r_get F dX12_mostAlike_51 flX12_34 h72 rfl (e_le rfl) (e_lt hnx rfl) ?_
        refine r_iload F dX12_mostAlike_54 rfl ?_
        obtain ⟨hg, hq9⟩ := e_gd hq9
        refine r_iald F dX12_mostAlike_56 (i := v3.2.2) h81 (e_le rfl) (e_lt hnx rfl) (e_vp hg) ?_
        refine r_istore_n F dX12_mostAlike_57 (e_le rfl) (L' := [some (.ref 72), some (.int (e_b p0)), some (.int q6), some (.int (A81 (tn v3.2.2))), some (.int v3.2.2), some (.int q6)]) rfl ?_
        refine r_drop 5 (L' := [some (.ref 72), some (.int (e_b p0)), some (.int q6), some (.int (A81 (tn v3.2.2))), some (.int v3.2.2), none]) rfl ?_
        obtain rfl := Option.some.inj hq9
        exact Jq8
      · have hq9 := e_f hc hq9
        refine r_iload F dX12_mostAlike_30 rfl ?_
        refine r_iload_n F dX12_mostAlike_32 rfl ?_
        refine r_icmp_ne F dX12_mostAlike_33 (tgt := 58) (by decide) (fun hc => ?_) (fun hc => ?_)
        · have hq9 := e_f hc hq9
          refine r_drop 5 (L' := [some (.ref 72), some (.int (e_b p0)), some (.int v3.1), some (.int v3.2.1), some (.int v3.2.2), none]) rfl ?_
          obtain rfl := Option.some.inj hq9
          exact Jq8
        · have hq9 := e_t hc hq9
          refine r_aload_n F dX12_mostAlike_36 rfl ?_
          refine r_get F dX12_mostAlike_37 flX12_34 h72 rfl (e_le rfl) (e_lt hnx rfl) ?_
          refine r_iload F dX12_mostAlike_40 rfl ?_
          obtain ⟨hg, hq9⟩ := e_gd hq9
          refine r_iald F dX12_mostAlike_42 (i := v3.2.2) h81 (e_le rfl) (e_lt hnx rfl) (e_vp hg) ?_
          refine r_iload_n F dX12_mostAlike_43 rfl ?_
          refine r_icmp_ge F dX12_mostAlike_44 (tgt := 58) (by decide) (fun hc => ?_) (fun hc => ?_)
          · have hq9 := e_t hc hq9
            refine r_drop 5 (L' := [some (.ref 72), some (.int (e_b p0)), some (.int v3.1), some (.int v3.2.1), some (.int v3.2.2), none]) rfl ?_
            obtain rfl := Option.some.inj hq9
            exact Jq8
          · have hq9 := e_f hc hq9
            refine r_iload F dX12_mostAlike_47 rfl ?_
            refine r_istore_n F dX12_mostAlike_49 (e_le rfl) (L' := [some (.ref 72), some (.int (e_b p0)), some (.int q6), some (.int v3.2.1), some (.int v3.2.2), some (.int q6)]) rfl ?_
            refine r_aload_n F dX12_mostAlike_50 rfl ?_
            refine r_get F dX12_mostAlike_51 flX12_34 h72 rfl (e_le rfl) (e_lt hnx rfl) ?_
            refine r_iload F dX12_mostAlike_54 rfl ?_
            obtain ⟨hg, hq9⟩ := e_gd hq9
            refine r_iald F dX12_mostAlike_56 (i := v3.2.2) h81 (e_le rfl) (e_lt hnx rfl) (e_vp hg) ?_
            refine r_istore_n F dX12_mostAlike_57 (e_le rfl) (L' := [some (.ref 72), some (.int (e_b p0)), some (.int q6), some (.int (A81 (tn v3.2.2))), some (.int v3.2.2), some (.int q6)]) rfl ?_
            refine r_drop 5 (L' := [some (.ref 72), some (.int (e_b p0)), some (.int q6), some (.int (A81 (tn v3.2.2))), some (.int v3.2.2), none]) rfl ?_
            obtain rfl := Option.some.inj hq9
            exact Jq8
  · show eRun G X 64 [none, some (.int (e_b p0)), some (.int x4.1), some (.int x4.2), none, none] [] h [] nx 0 0
    refine r_iload_n F dX12_mostAlike_64 rfl ?_
    refine r_z_eq F dX12_mostAlike_65 (tgt := 72) (by decide) (fun hc => ?_) (fun hc => ?_)
    · have hf := e_t hc hf
      refine r_iload_n F dX12_mostAlike_68 rfl ?_
      refine r_goto F dX12_mostAlike_69 (tgt := 73) (by decide) ?_
      obtain rfl := Option.some.inj hf
      exact r_iret F hq dX12_mostAlike_73 rfl rfl (Nat.le_refl _) (Nat.le_refl _) ⟨rfl, rfl⟩
    · have hf := e_f hc hf
      refine r_iload_n F dX12_mostAlike_72 rfl ?_
      obtain rfl := Option.some.inj hf
      exact r_iret F hq dX12_mostAlike_73 rfl rfl (Nat.le_refl _) (Nat.le_refl _) ⟨rfl, rfl⟩

def fX12_strongest (a72_29 : Int32) (A85 : Nat → Int32)  : Option (Int32) :=
  (e_loop (fun (v3 : Int32 × Int32) => (
      if a72_29 ≤ v3.2 then
        some (.inr v3.1)
      else
        Option.bind (α := Int32) (
          if v3.1 = (-1) then
            some v3.2
          else
            e_g (e_in v3.2 64) (
            (fJ9_abs_0f7a4 (A85 (tn v3.2))).bind (fun q8 =>
            e_g (e_in v3.1 64) (
            (fJ9_abs_0f7a4 (A85 (tn v3.1))).bind (fun q10 =>
            if q8 ≤ q10 then
              some v3.1
            else
              some v3.2))))) (fun q6 =>
        some (.inl (q6, v3.2 + 1))) : Option ((Int32 × Int32) ⊕ (Int32)))) e_fuel ((-1), 0)).bind (fun x4 =>
  some x4)
set_option maxRecDepth 100000 in
theorem tX12_strongest_72 {G : eG} (hG : e_GS G) {la : Launch} {h : Nat → eO} {nx : Nat} (hnx : 99 ≤ nx) {a72_0 : Int32} {a72_2 : Int32} {a72_3 : Int32} {a72_4 : Int32} {a72_5 : Int32} {a72_6 : Int32} {a72_7 : Int32} {a72_8 : Bool} {a72_9 : Int32} {a72_10 : Int32} {a72_11 : Int32} {a72_17 : Bool} {a72_18 : Bool} {a72_19 : Bool} {a72_21 : Int32} {a72_22 : Int32} {a72_29 : Int32} {a72_31 : Int32} {a72_35 : Int32} {a72_37 : Bool} {a72_38 : Int32} {a72_39 : Int32} {a72_40 : Int32} {a72_41 : Int64} {a72_44 : Int32} {a72_50 : Bool} {A85 : Nat → Int32}  (h72 : h 72 = o72 a72_0 a72_2 a72_3 a72_4 a72_5 a72_6 a72_7 a72_8 a72_9 a72_10 a72_11 a72_17 a72_18 a72_19 a72_21 a72_22 a72_29 a72_31 a72_35 a72_37 a72_38 a72_39 a72_40 a72_41 a72_44 a72_50) (h85 : h 85 = o85 A85) {R9 : Int32} (hf : fX12_strongest a72_29 A85  = some R9) :
    eSem G la MX12_strongest [.ref 72] h nx 0 0 (fun r9 h9 => r9 = some (.int R9) ∧ h9 = h) := by
  refine eSem.of (k := 2) (L := [some (.ref 72), none, none]) (by decide +kernel) rfl rfl (fun X F hxl hq hcR hsR => ?_)
  subst hxl
  unfold fX12_strongest at hf
  refine r_iconst F dX12_strongest_0 (v := (-1)) (by decide) ?_
  refine r_istore_n F dX12_strongest_1 (e_le rfl) (L' := [some (.ref 72), some (.int (-1)), none]) rfl ?_
  refine r_iconst F dX12_strongest_2 (v := 0) (by decide) ?_
  refine r_istore_n F dX12_strongest_3 (e_le rfl) (L' := [some (.ref 72), some (.int (-1)), some (.int 0)]) rfl ?_
  obtain ⟨x4, hx5, hf⟩ := e_bd hf
  refine (e_loop_ok (P := fun (v3 : Int32 × Int32) => eRun G X 4 [some (.ref 72), some (.int v3.1), some (.int v3.2)] [] h [] nx 0 0) (K := fun (x4 : Int32) => eRun G X 50 [none, some (.int x4), none] [] h [] nx 0 0) ?_ e_fuel ((-1), 0) x4 hx5 ?_ : _)
  · intro v3 z hz ih hx
    refine r_iload_n F dX12_strongest_4 rfl ?_
    refine r_aload_n F dX12_strongest_5 rfl ?_
    refine r_get F dX12_strongest_6 flX12_241 h72 rfl (e_le rfl) (e_lt hnx rfl) ?_
    refine r_icmp_ge F dX12_strongest_9 (tgt := 50) (by decide) (fun hc => ?_) (fun hc => ?_)
    · have hz := e_t hc hz
      refine r_drop 0 (L' := [none, some (.int v3.1), some (.int v3.2)]) rfl ?_
      refine r_drop 2 (L' := [none, some (.int v3.1), none]) rfl ?_
      obtain rfl := Option.some.inj hz
      exact hx v3.1 rfl
    · have hz := e_f hc hz
      refine r_iload_n F dX12_strongest_12 rfl ?_
      refine r_iconst F dX12_strongest_13 (v := (-1)) (by decide) ?_
      obtain ⟨q6, hq7, hz⟩ := e_bd hz
      have Jq6 : eRun G X 43 [some (.ref 72), none, some (.int v3.2)] [.int q6] h [] nx 0 0 := by
        refine r_istore_n F dX12_strongest_43 (e_le rfl) (L' := [some (.ref 72), some (.int q6), some (.int v3.2)]) rfl ?_
        refine r_inc F dX12_strongest_44 (k9 := 1) (by decide) rfl (L' := [some (.ref 72), some (.int q6), some (.int (v3.2 + 1))]) rfl ?_
        refine r_goto F dX12_strongest_47 (tgt := 4) (by decide) ?_
        obtain rfl := Option.some.inj hz
        exact ih (q6, v3.2 + 1) rfl
      refine r_icmp_eq F dX12_strongest_14 (tgt := 38) (by decide) (fun hc => ?_) (fun hc => ?_)
      · have hq7 := e_t hc hq7
        refine r_iload_n F dX12_strongest_38 rfl ?_
        refine r_goto F dX12_strongest_39 (tgt := 43) (by decide) ?_
        refine r_drop 1 (L' := [some (.ref 72), none, some (.int v3.2)]) rfl ?_
        obtain rfl := Option.some.inj hq7
        exact Jq6
      · have hq7 := e_f hc hq7
        refine r_aload_n F dX12_strongest_17 rfl ?_
        refine r_get F dX12_strongest_18 flX12_46 h72 rfl (e_le rfl) (e_lt hnx rfl) ?_
        refine r_iload_n F dX12_strongest_21 rfl ?_
        obtain ⟨hg, hq7⟩ := e_gd hq7
        refine r_iald F dX12_strongest_22 (i := v3.2) h85 (e_le rfl) (e_lt hnx rfl) (e_vp hg) ?_
        obtain ⟨q8, hq9, hq7⟩ := e_bd hq7
        refine r_callS F dX12_strongest_23 (dc := 0) (ds := 0) (As := [.int (A85 (tn v3.2))]) (S0 := []) lkX12_370 mJ9_abs_0f7a4 (tJ9_abs_0f7a4 hG (la := x_l X) (h := e_up h []) hnx  hq9) rfl rfl rfl (e_le rfl) (e_le rfl) (e_le rfl) (Nat.zero_le _) (Nat.zero_le _) (e_k ?_)
        refine r_wr0 ?_
        refine r_aload_n F dX12_strongest_26 rfl ?_
        refine r_get F dX12_strongest_27 flX12_46 h72 rfl (e_le rfl) (e_lt hnx rfl) ?_
        refine r_iload_n F dX12_strongest_30 rfl ?_
        obtain ⟨hg, hq7⟩ := e_gd hq7
        refine r_iald F dX12_strongest_31 (i := v3.1) h85 (e_le rfl) (e_lt hnx rfl) (e_vp hg) ?_
        obtain ⟨q10, hq11, hq7⟩ := e_bd hq7
        refine r_callS F dX12_strongest_32 (dc := 0) (ds := 0) (As := [.int (A85 (tn v3.1))]) (S0 := [.int q8]) lkX12_370 mJ9_abs_0f7a4 (tJ9_abs_0f7a4 hG (la := x_l X) (h := e_up h []) hnx  hq11) rfl rfl rfl (e_le rfl) (e_le rfl) (e_le rfl) (Nat.zero_le _) (Nat.zero_le _) (e_k ?_)
        refine r_wr0 ?_
        refine r_icmp_le F dX12_strongest_35 (tgt := 42) (by decide) (fun hc => ?_) (fun hc => ?_)
        · have hq7 := e_t hc hq7
          refine r_iload_n F dX12_strongest_42 rfl ?_
          refine r_drop 1 (L' := [some (.ref 72), none, some (.int v3.2)]) rfl ?_
          obtain rfl := Option.some.inj hq7
          exact Jq6
        · have hq7 := e_f hc hq7
          refine r_iload_n F dX12_strongest_38 rfl ?_
          refine r_goto F dX12_strongest_39 (tgt := 43) (by decide) ?_
          refine r_drop 1 (L' := [some (.ref 72), none, some (.int v3.2)]) rfl ?_
          obtain rfl := Option.some.inj hq7
          exact Jq6
  · show eRun G X 50 [none, some (.int x4), none] [] h [] nx 0 0
    refine r_iload_n F dX12_strongest_50 rfl ?_
    obtain rfl := Option.some.inj hf
    exact r_iret F hq dX12_strongest_51 rfl rfl (Nat.le_refl _) (Nat.le_refl _) ⟨rfl, rfl⟩

def fX12_nearest (a72_29 : Int32) (A81 : Nat → Int32) (A82 : Nat → Int32) (p0 : Bool) : Option (Int32) :=
  (e_loop (fun (v3 : Int32 × Int32 × Int32) => (
      if a72_29 ≤ v3.2.2 then
        some (.inr (v3.1, v3.2.1))
      else
        (e_loop (fun (v7 : Int32 × Int32 × Int32) => (
            if a72_29 ≤ v7.2.2 then
              some (.inr (v7.1, v7.2.1))
            else
              Option.bind (α := Int32 × Int32) (
                if v7.1 = (-1) then
                  (fX12_squareApart A81 A82 v3.2.2 v7.2.2).bind (fun q12 =>
                  some (((16 : Int32) * v3.2.2) + v7.2.2, q12))
                else
                  (fX12_squareApart A81 A82 v3.2.2 v7.2.2).bind (fun q14 =>
                  if v7.2.1 ≤ q14 then
                    some (v7.1, v7.2.1)
                  else
                    (fX12_squareApart A81 A82 v3.2.2 v7.2.2).bind (fun q16 =>
                    some (((16 : Int32) * v3.2.2) + v7.2.2, q16)))) (fun q10 =>
              some (.inl (q10.1, q10.2, v7.2.2 + 1))) : Option ((Int32 × Int32 × Int32) ⊕ (Int32 × Int32)))) e_fuel (v3.1, v3.2.1, v3.2.2 + 1)).bind (fun x8 =>
        some (.inl (x8.1, x8.2, v3.2.2 + 1))) : Option ((Int32 × Int32 × Int32) ⊕ (Int32 × Int32)))) e_fuel ((-1), (-1), 0)).bind (fun x4 =>
  if p0 = true then
    (fJ9_max_7cf53 0 x4.2).bind (fun q18 =>
    some q18)
  else
    some x4.1)
set_option maxRecDepth 100000 in
theorem tX12_nearest_72 {G : eG} (hG : e_GS G) {la : Launch} {h : Nat → eO} {nx : Nat} (hnx : 99 ≤ nx) {a72_0 : Int32} {a72_2 : Int32} {a72_3 : Int32} {a72_4 : Int32} {a72_5 : Int32} {a72_6 : Int32} {a72_7 : Int32} {a72_8 : Bool} {a72_9 : Int32} {a72_10 : Int32} {a72_11 : Int32} {a72_17 : Bool} {a72_18 : Bool} {a72_19 : Bool} {a72_21 : Int32} {a72_22 : Int32} {a72_29 : Int32} {a72_31 : Int32} {a72_35 : Int32} {a72_37 : Bool} {a72_38 : Int32} {a72_39 : Int32} {a72_40 : Int32} {a72_41 : Int64} {a72_44 : Int32} {a72_50 : Bool} {A81 : Nat → Int32} {A82 : Nat → Int32} {p0 : Bool} (h72 : h 72 = o72 a72_0 a72_2 a72_3 a72_4 a72_5 a72_6 a72_7 a72_8 a72_9 a72_10 a72_11 a72_17 a72_18 a72_19 a72_21 a72_22 a72_29 a72_31 a72_35 a72_37 a72_38 a72_39 a72_40 a72_41 a72_44 a72_50) (h81 : h 81 = o81 A81) (h82 : h 82 = o82 A82) {R9 : Int32} (hf : fX12_nearest a72_29 A81 A82 p0 = some R9) :
    eSem G la MX12_nearest [.ref 72, .int (e_b p0)] h nx 0 0 (fun r9 h9 => r9 = some (.int R9) ∧ h9 = h) := by
  refine eSem.of (k := 4) (L := [some (.ref 72), some (.int (e_b p0)), none, none, none, none]) (by decide +kernel) rfl rfl (fun X F hxl hq hcR hsR => ?_)
  subst hxl
  unfold fX12_nearest at hf
  refine r_iconst F dX12_nearest_0 (v := (-1)) (by decide) ?_
  refine r_istore_n F dX12_nearest_1 (e_le rfl) (L' := [some (.ref 72), some (.int (e_b p0)), some (.int (-1)), none, none, none]) rfl ?_
  refine r_iconst F dX12_nearest_2 (v := (-1)) (by decide) ?_
  refine r_istore_n F dX12_nearest_3 (e_le rfl) (L' := [some (.ref 72), some (.int (e_b p0)), some (.int (-1)), some (.int (-1)), none, none]) rfl ?_
  refine r_iconst F dX12_nearest_4 (v := 0) (by decide) ?_
  refine r_istore F dX12_nearest_5 (e_le rfl) (L' := [some (.ref 72), some (.int (e_b p0)), some (.int (-1)), some (.int (-1)), some (.int 0), none]) rfl ?_
  obtain ⟨x4, hx5, hf⟩ := e_bd hf
  refine (e_loop_ok (P := fun (v3 : Int32 × Int32 × Int32) => eRun G X 7 [some (.ref 72), some (.int (e_b p0)), some (.int v3.1), some (.int v3.2.1), some (.int v3.2.2), none] [] h [] nx 0 0) (K := fun (x4 : Int32 × Int32) => eRun G X 78 [none, some (.int (e_b p0)), some (.int x4.1), some (.int x4.2), none, none] [] h [] nx 0 0) ?_ e_fuel ((-1), (-1), 0) x4 hx5 ?_ : _)
  · intro v3 z hz ih hx
    refine r_iload F dX12_nearest_7 rfl ?_
    refine r_aload_n F dX12_nearest_9 rfl ?_
    refine r_get F dX12_nearest_10 flX12_241 h72 rfl (e_le rfl) (e_lt hnx rfl) ?_
    refine r_icmp_ge F dX12_nearest_13 (tgt := 78) (by decide) (fun hc => ?_) (fun hc => ?_)
    · have hz := e_t hc hz
      refine r_drop 0 (L' := [none, some (.int (e_b p0)), some (.int v3.1), some (.int v3.2.1), some (.int v3.2.2), none]) rfl ?_
      refine r_drop 4 (L' := [none, some (.int (e_b p0)), some (.int v3.1), some (.int v3.2.1), none, none]) rfl ?_
      obtain rfl := Option.some.inj hz
      exact hx (v3.1, v3.2.1) rfl
    · have hz := e_f hc hz
      refine r_iload F dX12_nearest_16 rfl ?_
      refine r_iconst F dX12_nearest_18 (v := 1) (by decide) ?_
      refine r_iadd F dX12_nearest_19 ?_
      refine r_istore F dX12_nearest_20 (e_le rfl) (L' := [some (.ref 72), some (.int (e_b p0)), some (.int v3.1), some (.int v3.2.1), some (.int v3.2.2), some (.int (v3.2.2 + 1))]) rfl ?_
      obtain ⟨x8, hx9, hz⟩ := e_bd hz
      refine (e_loop_ok (P := fun (v7 : Int32 × Int32 × Int32) => eRun G X 22 [some (.ref 72), some (.int (e_b p0)), some (.int v7.1), some (.int v7.2.1), some (.int v3.2.2), some (.int v7.2.2)] [] h [] nx 0 0) (K := fun (x8 : Int32 × Int32) => eRun G X 72 [some (.ref 72), some (.int (e_b p0)), some (.int x8.1), some (.int x8.2), some (.int v3.2.2), none] [] h [] nx 0 0) ?_ e_fuel (v3.1, v3.2.1, v3.2.2 + 1) x8 hx9 ?_ : _)
      · intro v7 z hz ih hx
        refine r_iload F dX12_nearest_22 rfl ?_
        refine r_aload_n F dX12_nearest_24 rfl ?_
        refine r_get F dX12_nearest_25 flX12_241 h72 rfl (e_le rfl) (e_lt hnx rfl) ?_
        refine r_icmp_ge F dX12_nearest_28 (tgt := 72) (by decide) (fun hc => ?_) (fun hc => ?_)
        · have hz := e_t hc hz
          refine r_drop 5 (L' := [some (.ref 72), some (.int (e_b p0)), some (.int v7.1), some (.int v7.2.1), some (.int v3.2.2), none]) rfl ?_
          obtain rfl := Option.some.inj hz
          exact hx (v7.1, v7.2.1) rfl
        · have hz := e_f hc hz
          refine r_iload_n F dX12_nearest_31 rfl ?_
          refine r_iconst F dX12_nearest_32 (v := (-1)) (by decide) ?_
          obtain ⟨q10, hq11, hz⟩ := e_bd hz
          have Jq10 : eRun G X 66 [some (.ref 72), some (.int (e_b p0)), some (.int q10.1), some (.int q10.2), some (.int v3.2.2), some (.int v7.2.2)] [] h [] nx 0 0 := by
            refine r_inc F dX12_nearest_66 (k9 := 1) (by decide) rfl (L' := [some (.ref 72), some (.int (e_b p0)), some (.int q10.1), some (.int q10.2), some (.int v3.2.2), some (.int (v7.2.2 + 1))]) rfl ?_
            refine r_goto F dX12_nearest_69 (tgt := 22) (by decide) ?_
            obtain rfl := Option.some.inj hz
            exact ih (q10.1, q10.2, v7.2.2 + 1) rfl
          refine r_icmp_eq F dX12_nearest_33 (tgt := 48) (by decide) (fun hc => ?_) (fun hc => ?_)
          · have hq11 := e_t hc hq11
            refine r_bipush F dX12_nearest_48 (v := 16) (by decide) ?_
            refine r_iload F dX12_nearest_50 rfl ?_
            refine r_imul F dX12_nearest_52 ?_
            refine r_iload F dX12_nearest_53 rfl ?_
            refine r_iadd F dX12_nearest_55 ?_
            refine r_istore_n F dX12_nearest_56 (e_le rfl) (L' := [some (.ref 72), some (.int (e_b p0)), some (.int (((16 : Int32) * v3.2.2) + v7.2.2)), some (.int v7.2.1), some (.int v3.2.2), some (.int v7.2.2)]) rfl ?_
            refine r_aload_n F dX12_nearest_57 rfl ?_
            refine r_iload F dX12_nearest_58 rfl ?_
            refine r_iload F dX12_nearest_60 rfl ?_
            obtain ⟨q12, hq13, hq11⟩ := e_bd hq11
            refine r_callV F dX12_nearest_62 (b := 72) (dc := 0) (ds := 0) (As := [.int v3.2.2, .int v7.2.2]) (S0 := []) lkX12_303 mX12_squareApart (tX12_squareApart_72 hG (la := x_l X) (h := e_up h []) hnx h72 h81 h82 hq13) rfl rfl rfl (e_le rfl) (e_le rfl) (e_le rfl) h72 (ci := 12) e_cl12.1 rfl (e_le rfl) (e_lt hnx rfl) (Nat.zero_le _) (Nat.zero_le _) (e_k ?_)
            refine r_wr0 ?_
            refine r_istore_n F dX12_nearest_65 (e_le rfl) (L' := [some (.ref 72), some (.int (e_b p0)), some (.int (((16 : Int32) * v3.2.2) + v7.2.2)), some (.int q12), some (.int v3.2.2), some (.int v7.2.2)]) rfl ?_
            obtain rfl := Option.some.inj hq11
            exact Jq10
          · have hq11 := e_f hc hq11
            refine r_aload_n F dX12_nearest_36 rfl ?_
            refine r_iload F dX12_nearest_37 rfl ?_
            refine r_iload F dX12_nearest_39 rfl ?_
            obtain ⟨q14, hq15, hq11⟩ := e_bd hq11
            refine r_callV F dX12_nearest_41 (b := 72) (dc := 0) (ds := 0) (As := [.int v3.2.2, .int v7.2.2]) (S0 := []) lkX12_303 mX12_squareApart (tX12_squareApart_72 hG (la := x_l X) (h := e_up h []) hnx h72 h81 h82 hq15) rfl rfl rfl (e_le rfl) (e_le rfl) (e_le rfl) h72 (ci := 12) e_cl12.1 rfl (e_le rfl) (e_lt hnx rfl) (Nat.zero_le _) (Nat.zero_le _) (e_k ?_)
            refine r_wr0 ?_
            refine r_iload_n F dX12_nearest_44 rfl ?_
            refine r_icmp_ge F dX12_nearest_45 (tgt := 66) (by decide) (fun hc => ?_) (fun hc => ?_)
            · have hq11 := e_t hc hq11
              obtain rfl := Option.some.inj hq11
              exact Jq10
            · have hq11 := e_f hc hq11
              refine r_bipush F dX12_nearest_48 (v := 16) (by decide) ?_
              refine r_iload F dX12_nearest_50 rfl ?_
              refine r_imul F dX12_nearest_52 ?_
              refine r_iload F dX12_nearest_53 rfl ?_
              refine r_iadd F dX12_nearest_55 ?_
              refine r_istore_n F dX12_nearest_56 (e_le rfl) (L' := [some (.ref 72), some (.int (e_b p0)), some (.int (((16 : Int32) * v3.2.2) + v7.2.2)), some (.int v7.2.1), some (.int v3.2.2), some (.int v7.2.2)]) rfl ?_
              refine r_aload_n F dX12_nearest_57 rfl ?_
              refine r_iload F dX12_nearest_58 rfl ?_
              refine r_iload F dX12_nearest_60 rfl ?_
              obtain ⟨q16, hq17, hq11⟩ := e_bd hq11
              refine r_callV F dX12_nearest_62 (b := 72) (dc := 0) (ds := 0) (As := [.int v3.2.2, .int v7.2.2]) (S0 := []) lkX12_303 mX12_squareApart (tX12_squareApart_72 hG (la := x_l X) (h := e_up h []) hnx h72 h81 h82 hq17) rfl rfl rfl (e_le rfl) (e_le rfl) (e_le rfl) h72 (ci := 12) e_cl12.1 rfl (e_le rfl) (e_lt hnx rfl) (Nat.zero_le _) (Nat.zero_le _) (e_k ?_)
              refine r_wr0 ?_
              refine r_istore_n F dX12_nearest_65 (e_le rfl) (L' := [some (.ref 72), some (.int (e_b p0)), some (.int (((16 : Int32) * v3.2.2) + v7.2.2)), some (.int q16), some (.int v3.2.2), some (.int v7.2.2)]) rfl ?_
              obtain rfl := Option.some.inj hq11
              exact Jq10
      · show eRun G X 72 [some (.ref 72), some (.int (e_b p0)), some (.int x8.1), some (.int x8.2), some (.int v3.2.2), none] [] h [] nx 0 0
        refine r_inc F dX12_nearest_72 (k9 := 1) (by decide) rfl (L' := [some (.ref 72), some (.int (e_b p0)), some (.int x8.1), some (.int x8.2), some (.int (v3.2.2 + 1)), none]) rfl ?_
        refine r_goto F dX12_nearest_75 (tgt := 7) (by decide) ?_
        obtain rfl := Option.some.inj hz
        exact ih (x8.1, x8.2, v3.2.2 + 1) rfl
  · show eRun G X 78 [none, some (.int (e_b p0)), some (.int x4.1), some (.int x4.2), none, none] [] h [] nx 0 0
    refine r_iload_n F dX12_nearest_78 rfl ?_
    refine r_z_eq F dX12_nearest_79 (tgt := 90) (by decide) (fun hc => ?_) (fun hc => ?_)
    · have hf := e_t hc hf
      refine r_iconst F dX12_nearest_82 (v := 0) (by decide) ?_
      refine r_iload_n F dX12_nearest_83 rfl ?_
      obtain ⟨q18, hq19, hf⟩ := e_bd hf
      refine r_callS F dX12_nearest_84 (dc := 0) (ds := 0) (As := [.int 0, .int x4.2]) (S0 := []) lkX12_464 mJ9_max_7cf53 (tJ9_max_7cf53 hG (la := x_l X) (h := e_up h []) hnx  hq19) rfl rfl rfl (e_le rfl) (e_le rfl) (e_le rfl) (Nat.zero_le _) (Nat.zero_le _) (e_k ?_)
      refine r_wr0 ?_
      refine r_goto F dX12_nearest_87 (tgt := 91) (by decide) ?_
      obtain rfl := Option.some.inj hf
      exact r_iret F hq dX12_nearest_91 rfl rfl (Nat.le_refl _) (Nat.le_refl _) ⟨rfl, rfl⟩
    · have hf := e_f hc hf
      refine r_iload_n F dX12_nearest_90 rfl ?_
      obtain rfl := Option.some.inj hf
      exact r_iret F hq dX12_nearest_91 rfl rfl (Nat.le_refl _) (Nat.le_refl _) ⟨rfl, rfl⟩

def fX12_opposed (a72_29 : Int32) (A83 : Nat → Int32) (A84 : Nat → Int32)  : Option (Int32) :=
  (e_loop (fun (v3 : Int32 × Int32) => (
      if a72_29 ≤ v3.2 then
        some (.inr v3.1)
      else
        (e_loop (fun (v8 : Bool × Int32) => (
            if a72_29 ≤ v8.2 then
              some (.inr v8.1)
            else
              Option.bind (α := Bool) (
                if v8.1 = true then
                  some true
                else
                  (fX12_areOpposite A83 A84 v3.2 v8.2).bind (fun q13 =>
                  if q13 = true then
                    some true
                  else
                    some false)) (fun q11 =>
              some (.inl (q11, v8.2 + 1))) : Option ((Bool × Int32) ⊕ (Bool)))) e_fuel (false, 0)).bind (fun x9 =>
        Option.bind (α := Bool) (
          if x9 = true then
            some true
          else
            some false) (fun q15 =>
        some (.inl (v3.1 + (e_b q15), v3.2 + 1)))) : Option ((Int32 × Int32) ⊕ (Int32)))) e_fuel (0, 0)).bind (fun x4 =>
  some x4)
set_option maxRecDepth 100000 in
theorem tX12_opposed_72 {G : eG} (hG : e_GS G) {la : Launch} {h : Nat → eO} {nx : Nat} (hnx : 99 ≤ nx) {a72_0 : Int32} {a72_2 : Int32} {a72_3 : Int32} {a72_4 : Int32} {a72_5 : Int32} {a72_6 : Int32} {a72_7 : Int32} {a72_8 : Bool} {a72_9 : Int32} {a72_10 : Int32} {a72_11 : Int32} {a72_17 : Bool} {a72_18 : Bool} {a72_19 : Bool} {a72_21 : Int32} {a72_22 : Int32} {a72_29 : Int32} {a72_31 : Int32} {a72_35 : Int32} {a72_37 : Bool} {a72_38 : Int32} {a72_39 : Int32} {a72_40 : Int32} {a72_41 : Int64} {a72_44 : Int32} {a72_50 : Bool} {A83 : Nat → Int32} {A84 : Nat → Int32}  (h72 : h 72 = o72 a72_0 a72_2 a72_3 a72_4 a72_5 a72_6 a72_7 a72_8 a72_9 a72_10 a72_11 a72_17 a72_18 a72_19 a72_21 a72_22 a72_29 a72_31 a72_35 a72_37 a72_38 a72_39 a72_40 a72_41 a72_44 a72_50) (h83 : h 83 = o83 A83) (h84 : h 84 = o84 A84) {R9 : Int32} (hf : fX12_opposed a72_29 A83 A84  = some R9) :
    eSem G la MX12_opposed [.ref 72] h nx 0 0 (fun r9 h9 => r9 = some (.int R9) ∧ h9 = h) := by
  refine eSem.of (k := 4) (L := [some (.ref 72), none, none, none, none]) (by decide +kernel) rfl rfl (fun X F hxl hq hcR hsR => ?_)
  subst hxl
  unfold fX12_opposed at hf
  refine r_iconst F dX12_opposed_0 (v := 0) (by decide) ?_
  refine r_istore_n F dX12_opposed_1 (e_le rfl) (L' := [some (.ref 72), some (.int 0), none, none, none]) rfl ?_
  refine r_iconst F dX12_opposed_2 (v := 0) (by decide) ?_
  refine r_istore_n F dX12_opposed_3 (e_le rfl) (L' := [some (.ref 72), some (.int 0), some (.int 0), none, none]) rfl ?_
  obtain ⟨x4, hx5, hf⟩ := e_bd hf
  refine (e_loop_ok (P := fun (v3 : Int32 × Int32) => eRun G X 4 [some (.ref 72), some (.int v3.1), some (.int v3.2), none, none] [] h [] nx 0 0) (K := fun (x4 : Int32) => eRun G X 70 [none, some (.int x4), none, none, none] [] h [] nx 0 0) ?_ e_fuel (0, 0) x4 hx5 ?_ : _)
  · intro v3 z hz ih hx
    refine r_iload_n F dX12_opposed_4 rfl ?_
    refine r_aload_n F dX12_opposed_5 rfl ?_
    refine r_get F dX12_opposed_6 flX12_241 h72 rfl (e_le rfl) (e_lt hnx rfl) ?_
    refine r_icmp_ge F dX12_opposed_9 (tgt := 70) (by decide) (fun hc => ?_) (fun hc => ?_)
    · have hz := e_t hc hz
      refine r_drop 0 (L' := [none, some (.int v3.1), some (.int v3.2), none, none]) rfl ?_
      refine r_drop 2 (L' := [none, some (.int v3.1), none, none, none]) rfl ?_
      obtain rfl := Option.some.inj hz
      exact hx v3.1 rfl
    · have hz := e_f hc hz
      refine r_iconst F dX12_opposed_12 (v := 0) (by decide) ?_
      refine r_istore_n F dX12_opposed_13 (e_le rfl) (L' := [some (.ref 72), some (.int v3.1), some (.int v3.2), some (.int 0), none]) rfl ?_
      refine r_iconst F dX12_opposed_14 (v := 0) (by decide) ?_
      refine r_istore F dX12_opposed_15 (e_le rfl) (L' := [some (.ref 72), some (.int v3.1), some (.int v3.2), some (.int 0), some (.int 0)]) rfl ?_
      obtain ⟨x9, hx10, hz⟩ := e_bd hz
      refine (e_loop_ok (P := fun (v8 : Bool × Int32) => eRun G X 17 [some (.ref 72), some (.int v3.1), some (.int v3.2), some (.int (e_b v8.1)), some (.int v8.2)] [] h [] nx 0 0) (K := fun (x9 : Bool) => eRun G X 52 [some (.ref 72), some (.int v3.1), some (.int v3.2), some (.int (e_b x9)), none] [] h [] nx 0 0) ?_ e_fuel (false, 0) x9 hx10 ?_ : _)
      · intro v8 z hz ih hx
        refine r_iload F dX12_opposed_17 rfl ?_
        refine r_aload_n F dX12_opposed_19 rfl ?_
        refine r_get F dX12_opposed_20 flX12_241 h72 rfl (e_le rfl) (e_lt hnx rfl) ?_
        refine r_icmp_ge F dX12_opposed_23 (tgt := 52) (by decide) (fun hc => ?_) (fun hc => ?_)
        · have hz := e_t hc hz
          refine r_drop 4 (L' := [some (.ref 72), some (.int v3.1), some (.int v3.2), some (.int (e_b v8.1)), none]) rfl ?_
          obtain rfl := Option.some.inj hz
          exact hx v8.1 rfl
        · have hz := e_f hc hz
          refine r_iload_n F dX12_opposed_26 rfl ?_
          obtain ⟨q11, hq12, hz⟩ := e_bd hz
          have Jq11 : eRun G X 45 [some (.ref 72), some (.int v3.1), some (.int v3.2), none, some (.int v8.2)] [.int (e_b q11)] h [] nx 0 0 := by
            refine r_istore_n F dX12_opposed_45 (e_le rfl) (L' := [some (.ref 72), some (.int v3.1), some (.int v3.2), some (.int (e_b q11)), some (.int v8.2)]) rfl ?_
            refine r_inc F dX12_opposed_46 (k9 := 1) (by decide) rfl (L' := [some (.ref 72), some (.int v3.1), some (.int v3.2), some (.int (e_b q11)), some (.int (v8.2 + 1))]) rfl ?_
            refine r_goto F dX12_opposed_49 (tgt := 17) (by decide) ?_
            obtain rfl := Option.some.inj hz
            exact ih (q11, v8.2 + 1) rfl
          refine r_z_ne F dX12_opposed_27 (tgt := 40) (by decide) (fun hc => ?_) (fun hc => ?_)
          · have hq12 := e_t hc hq12
            refine r_iconst F dX12_opposed_40 (v := 1) (by decide) ?_
            refine r_goto F dX12_opposed_41 (tgt := 45) (by decide) ?_
            refine r_drop 3 (L' := [some (.ref 72), some (.int v3.1), some (.int v3.2), none, some (.int v8.2)]) rfl ?_
            obtain rfl := Option.some.inj hq12
            exact Jq11
          · have hq12 := e_f hc hq12
            refine r_aload_n F dX12_opposed_30 rfl ?_
            refine r_iload_n F dX12_opposed_31 rfl ?_
            refine r_iload F dX12_opposed_32 rfl ?_
            obtain ⟨q13, hq14, hq12⟩ := e_bd hq12
            refine r_callV F dX12_opposed_34 (b := 72) (dc := 0) (ds := 0) (As := [.int v3.2, .int v8.2]) (S0 := []) lkX12_446 mX12_areOpposite (tX12_areOpposite_72 hG (la := x_l X) (h := e_up h []) hnx h72 h83 h84 hq14) rfl rfl rfl (e_le rfl) (e_le rfl) (e_le rfl) h72 (ci := 12) e_cl12.1 rfl (e_le rfl) (e_lt hnx rfl) (Nat.zero_le _) (Nat.zero_le _) (e_k ?_)
            refine r_wr0 ?_
            refine r_z_eq F dX12_opposed_37 (tgt := 44) (by decide) (fun hc => ?_) (fun hc => ?_)
            · have hq12 := e_t hc hq12
              refine r_iconst F dX12_opposed_40 (v := 1) (by decide) ?_
              refine r_goto F dX12_opposed_41 (tgt := 45) (by decide) ?_
              refine r_drop 3 (L' := [some (.ref 72), some (.int v3.1), some (.int v3.2), none, some (.int v8.2)]) rfl ?_
              obtain rfl := Option.some.inj hq12
              exact Jq11
            · have hq12 := e_f hc hq12
              refine r_iconst F dX12_opposed_44 (v := 0) (by decide) ?_
              refine r_drop 3 (L' := [some (.ref 72), some (.int v3.1), some (.int v3.2), none, some (.int v8.2)]) rfl ?_
              obtain rfl := Option.some.inj hq12
              exact Jq11
      · show eRun G X 52 [some (.ref 72), some (.int v3.1), some (.int v3.2), some (.int (e_b x9)), none] [] h [] nx 0 0
        refine r_iload_n F dX12_opposed_52 rfl ?_
        refine r_iload_n F dX12_opposed_53 rfl ?_
        obtain ⟨q15, hq16, hz⟩ := e_bd hz
        have Jq15 : eRun G X 62 [some (.ref 72), none, some (.int v3.2), none, none] [.int (e_b q15), .int v3.1] h [] nx 0 0 := by
          refine r_iadd F dX12_opposed_62 ?_
          refine r_istore_n F dX12_opposed_63 (e_le rfl) (L' := [some (.ref 72), some (.int (v3.1 + (e_b q15))), some (.int v3.2), none, none]) rfl ?_
          refine r_inc F dX12_opposed_64 (k9 := 1) (by decide) rfl (L' := [some (.ref 72), some (.int (v3.1 + (e_b q15))), some (.int (v3.2 + 1)), none, none]) rfl ?_
          refine r_goto F dX12_opposed_67 (tgt := 4) (by decide) ?_
          obtain rfl := Option.some.inj hz
          exact ih (v3.1 + (e_b q15), v3.2 + 1) rfl
        refine r_z_eq F dX12_opposed_54 (tgt := 61) (by decide) (fun hc => ?_) (fun hc => ?_)
        · have hq16 := e_t hc hq16
          refine r_iconst F dX12_opposed_57 (v := 1) (by decide) ?_
          refine r_goto F dX12_opposed_58 (tgt := 62) (by decide) ?_
          refine r_drop 1 (L' := [some (.ref 72), none, some (.int v3.2), some (.int (e_b x9)), none]) rfl ?_
          refine r_drop 3 (L' := [some (.ref 72), none, some (.int v3.2), none, none]) rfl ?_
          obtain rfl := Option.some.inj hq16
          exact Jq15
        · have hq16 := e_f hc hq16
          refine r_iconst F dX12_opposed_61 (v := 0) (by decide) ?_
          refine r_drop 1 (L' := [some (.ref 72), none, some (.int v3.2), some (.int (e_b x9)), none]) rfl ?_
          refine r_drop 3 (L' := [some (.ref 72), none, some (.int v3.2), none, none]) rfl ?_
          obtain rfl := Option.some.inj hq16
          exact Jq15
  · show eRun G X 70 [none, some (.int x4), none, none, none] [] h [] nx 0 0
    refine r_iload_n F dX12_opposed_70 rfl ?_
    obtain rfl := Option.some.inj hf
    exact r_iret F hq dX12_opposed_71 rfl rfl (Nat.le_refl _) (Nat.le_refl _) ⟨rfl, rfl⟩

def fX12_most (a72_0 : Int32) (a72_21 : Int32) (a72_22 : Int32) (a72_29 : Int32) (a72_44 : Int32) (A79 : Nat → Int32) (A80 : Nat → Int32) (A81 : Nat → Int32) (A82 : Nat → Int32) (A83 : Nat → Int32) (A84 : Nat → Int32) (A85 : Nat → Int32) (A91 : Nat → Int32) (A92 : Nat → Int32) (p0 : Int32) : Option (Int32 × Int32 × Int32 × Int32 × (Nat → Int32) × (Nat → Int32) × (Nat → Int32) × (Nat → Int32) × (Nat → Int32) × (Nat → Int32) × (Nat → Int32)) :=
  (fX12_isCrystal a72_21).bind (fun q1 =>
  if q1 = true then
    (fX12_laysCores a72_21 a72_22 a72_29 A79 A80 A81 A82 A83 A84 A85).bind (fun q3 =>
    if p0 = 0 then
      (fX12_mostAlike q3.2.1 q3.2.2.1 q3.2.2.2.2.1 q3.2.2.2.2.2.1 false).bind (fun q5 =>
      some (q5, 0, q3.2.1, a72_44, q3.2.2.1, q3.2.2.2.1, q3.2.2.2.2.1, q3.2.2.2.2.2.1, q3.2.2.2.2.2.2, A91, A92))
    else
      if p0 = 1 then
        (fX12_mostAlike q3.2.1 q3.2.2.1 q3.2.2.2.2.1 q3.2.2.2.2.2.1 true).bind (fun q7 =>
        some (q7, 0, q3.2.1, a72_44, q3.2.2.1, q3.2.2.2.1, q3.2.2.2.2.1, q3.2.2.2.2.2.1, q3.2.2.2.2.2.2, A91, A92))
      else
        if p0 = 2 then
          (fX12_strongest q3.2.1 q3.2.2.2.2.2.2).bind (fun q9 =>
          some (q9, 0, q3.2.1, a72_44, q3.2.2.1, q3.2.2.2.1, q3.2.2.2.2.1, q3.2.2.2.2.2.1, q3.2.2.2.2.2.2, A91, A92))
        else
          if p0 = 3 then
            (fX12_nearest q3.2.1 q3.2.2.1 q3.2.2.2.1 false).bind (fun q11 =>
            some (q11, 0, q3.2.1, a72_44, q3.2.2.1, q3.2.2.2.1, q3.2.2.2.2.1, q3.2.2.2.2.2.1, q3.2.2.2.2.2.2, A91, A92))
          else
            if p0 = 4 then
              (fX12_nearest q3.2.1 q3.2.2.1 q3.2.2.2.1 true).bind (fun q13 =>
              some (q13, 0, q3.2.1, a72_44, q3.2.2.1, q3.2.2.2.1, q3.2.2.2.2.1, q3.2.2.2.2.2.1, q3.2.2.2.2.2.2, A91, A92))
            else
              if p0 = 5 then
                (fX12_longestWall a72_21 a72_22 a72_44 A79 A91 A92).bind (fun q15 =>
                some (q15.1, 0, q3.2.1, q15.2.1, q3.2.2.1, q3.2.2.2.1, q3.2.2.2.2.1, q3.2.2.2.2.2.1, q3.2.2.2.2.2.2, q15.2.2.1, q15.2.2.2))
              else
                if p0 = 6 then
                  (fX12_greatestNumber q3.2.1 q3.2.2.2.2.1 q3.2.2.2.2.2.1).bind (fun q17 =>
                  some (q17, 0, q3.2.1, a72_44, q3.2.2.1, q3.2.2.2.1, q3.2.2.2.2.1, q3.2.2.2.2.2.1, q3.2.2.2.2.2.2, A91, A92))
                else
                  if p0 = 7 then
                    (fX12_opposed q3.2.1 q3.2.2.2.2.1 q3.2.2.2.2.2.1).bind (fun q19 =>
                    some (q19, 0, q3.2.1, a72_44, q3.2.2.1, q3.2.2.2.1, q3.2.2.2.2.1, q3.2.2.2.2.2.1, q3.2.2.2.2.2.2, A91, A92))
                  else
                    some ((-1), 0, q3.2.1, a72_44, q3.2.2.1, q3.2.2.2.1, q3.2.2.2.2.1, q3.2.2.2.2.2.1, q3.2.2.2.2.2.2, A91, A92))
  else
    some ((-1), 0, a72_29, a72_44, A81, A82, A83, A84, A85, A91, A92))
set_option maxRecDepth 100000 in
theorem tX12_most_72 {G : eG} (hG : e_GS G) {la : Launch} {h : Nat → eO} {nx : Nat} (hnx : 99 ≤ nx) {a72_0 : Int32} {a72_2 : Int32} {a72_3 : Int32} {a72_4 : Int32} {a72_5 : Int32} {a72_6 : Int32} {a72_7 : Int32} {a72_8 : Bool} {a72_9 : Int32} {a72_10 : Int32} {a72_11 : Int32} {a72_17 : Bool} {a72_18 : Bool} {a72_19 : Bool} {a72_21 : Int32} {a72_22 : Int32} {a72_29 : Int32} {a72_31 : Int32} {a72_35 : Int32} {a72_37 : Bool} {a72_38 : Int32} {a72_39 : Int32} {a72_40 : Int32} {a72_41 : Int64} {a72_44 : Int32} {a72_50 : Bool} {A79 : Nat → Int32} {A80 : Nat → Int32} {A81 : Nat → Int32} {A82 : Nat → Int32} {A83 : Nat → Int32} {A84 : Nat → Int32} {A85 : Nat → Int32} {A91 : Nat → Int32} {A92 : Nat → Int32} {p0 : Int32} (h72 : h 72 = o72 a72_0 a72_2 a72_3 a72_4 a72_5 a72_6 a72_7 a72_8 a72_9 a72_10 a72_11 a72_17 a72_18 a72_19 a72_21 a72_22 a72_29 a72_31 a72_35 a72_37 a72_38 a72_39 a72_40 a72_41 a72_44 a72_50) (h79 : h 79 = o79 A79) (h80 : h 80 = o80 A80) (h81 : h 81 = o81 A81) (h82 : h 82 = o82 A82) (h83 : h 83 = o83 A83) (h84 : h 84 = o84 A84) (h85 : h 85 = o85 A85) (h91 : h 91 = o91 A91) (h92 : h 92 = o92 A92) {R9 : Int32 × Int32 × Int32 × Int32 × (Nat → Int32) × (Nat → Int32) × (Nat → Int32) × (Nat → Int32) × (Nat → Int32) × (Nat → Int32) × (Nat → Int32)} (hf : fX12_most a72_0 a72_21 a72_22 a72_29 a72_44 A79 A80 A81 A82 A83 A84 A85 A91 A92 p0 = some R9) :
    eSem G la MX12_most [.ref 72, .int p0] h nx 0 0 (fun r9 h9 => r9 = some (.int R9.1) ∧ h9 = e_up h [(72, o72 R9.2.1 a72_2 a72_3 a72_4 a72_5 a72_6 a72_7 a72_8 a72_9 a72_10 a72_11 a72_17 a72_18 a72_19 a72_21 a72_22 R9.2.2.1 a72_31 a72_35 a72_37 a72_38 a72_39 a72_40 a72_41 R9.2.2.2.1 a72_50), (81, o81 R9.2.2.2.2.1), (82, o82 R9.2.2.2.2.2.1), (83, o83 R9.2.2.2.2.2.2.1), (84, o84 R9.2.2.2.2.2.2.2.1), (85, o85 R9.2.2.2.2.2.2.2.2.1), (91, o91 R9.2.2.2.2.2.2.2.2.2.1), (92, o92 R9.2.2.2.2.2.2.2.2.2.2)]) := by
  refine eSem.of (k := 0) (L := [some (.ref 72), some (.int p0)]) (by decide +kernel) rfl rfl (fun X F hxl hq hcR hsR => ?_)
  subst hxl
  unfold fX12_most at hf
  refine r_aload_n F dX12_most_0 rfl ?_
  refine r_iconst F dX12_most_1 (v := 0) (by decide) ?_
  refine r_put F dX12_most_2 flX12_86 rfl rfl rfl h72 (e_le rfl) (e_le rfl) (e_lt hnx rfl) (l' := [(72, o72 0 a72_2 a72_3 a72_4 a72_5 a72_6 a72_7 a72_8 a72_9 a72_10 a72_11 a72_17 a72_18 a72_19 a72_21 a72_22 a72_29 a72_31 a72_35 a72_37 a72_38 a72_39 a72_40 a72_41 a72_44 a72_50)]) rfl ?_
  refine r_aload_n F dX12_most_5 rfl ?_
  obtain ⟨q1, hq2, hf⟩ := e_bd hf
  refine r_callV F dX12_most_6 (b := 72) (dc := 0) (ds := 0) (As := []) (S0 := []) lkX12_306 mX12_isCrystal (tX12_isCrystal_72 hG (la := x_l X) (h := e_up h [(72, o72 0 a72_2 a72_3 a72_4 a72_5 a72_6 a72_7 a72_8 a72_9 a72_10 a72_11 a72_17 a72_18 a72_19 a72_21 a72_22 a72_29 a72_31 a72_35 a72_37 a72_38 a72_39 a72_40 a72_41 a72_44 a72_50)]) hnx rfl hq2) rfl rfl rfl (e_le rfl) (e_le rfl) (e_le rfl) rfl (ci := 12) e_cl12.1 rfl (e_le rfl) (e_lt hnx rfl) (Nat.zero_le _) (Nat.zero_le _) (e_k ?_)
  refine r_wr0 ?_
  refine r_z_ne F dX12_most_9 (tgt := 14) (by decide) (fun hc => ?_) (fun hc => ?_)
  · have hf := e_t hc hf
    refine r_aload_n F dX12_most_14 rfl ?_
    obtain ⟨q3, hq4, hf⟩ := e_bd hf
    refine r_callV F dX12_most_15 (b := 72) (dc := 0) (ds := 0) (As := []) (S0 := []) lkX12_238 mX12_laysCores (tX12_laysCores_72 hG (la := x_l X) (h := e_up h [(72, o72 0 a72_2 a72_3 a72_4 a72_5 a72_6 a72_7 a72_8 a72_9 a72_10 a72_11 a72_17 a72_18 a72_19 a72_21 a72_22 a72_29 a72_31 a72_35 a72_37 a72_38 a72_39 a72_40 a72_41 a72_44 a72_50)]) hnx rfl h79 h80 h81 h82 h83 h84 h85 hq4) rfl rfl rfl (e_le rfl) (e_le rfl) (e_le rfl) rfl (ci := 12) e_cl12.1 rfl (e_le rfl) (e_lt hnx rfl) (Nat.zero_le _) (Nat.zero_le _) (e_k ?_)
    refine r_wr (l' := [(72, o72 0 a72_2 a72_3 a72_4 a72_5 a72_6 a72_7 a72_8 a72_9 a72_10 a72_11 a72_17 a72_18 a72_19 a72_21 a72_22 q3.2.1 a72_31 a72_35 a72_37 a72_38 a72_39 a72_40 a72_41 a72_44 a72_50), (81, o81 q3.2.2.1), (82, o82 q3.2.2.2.1), (83, o83 q3.2.2.2.2.1), (84, o84 q3.2.2.2.2.2.1), (85, o85 q3.2.2.2.2.2.2)]) rfl rfl ?_
    refine r_pop F dX12_most_18 rfl ?_
    refine r_iload_n F dX12_most_19 rfl ?_
    refine Classical.byCases (p := p0 = 0) (fun hc => ?_) (fun hk0 => ?_)
    · have hf := e_t hc hf
      refine r_tsIn F dX12_most_20 (by rw [hc]; decide) (by rw [hc]; decide) (off := 48) (by rw [hc]; decide) (tgt := 68) (by decide) ?_
      refine r_aload_n F dX12_most_68 rfl ?_
      refine r_iconst F dX12_most_69 (v := 0) (by decide) ?_
      obtain ⟨q5, hq6, hf⟩ := e_bd hf
      refine r_callV F dX12_most_70 (b := 72) (dc := 0) (ds := 0) (As := [.int 0]) (S0 := []) lkX12_476 mX12_mostAlike (tX12_mostAlike_72 hG (la := x_l X) (h := e_up h [(72, o72 0 a72_2 a72_3 a72_4 a72_5 a72_6 a72_7 a72_8 a72_9 a72_10 a72_11 a72_17 a72_18 a72_19 a72_21 a72_22 q3.2.1 a72_31 a72_35 a72_37 a72_38 a72_39 a72_40 a72_41 a72_44 a72_50), (81, o81 q3.2.2.1), (82, o82 q3.2.2.2.1), (83, o83 q3.2.2.2.2.1), (84, o84 q3.2.2.2.2.2.1), (85, o85 q3.2.2.2.2.2.2)]) hnx rfl rfl rfl rfl hq6) rfl rfl rfl (e_le rfl) (e_le rfl) (e_le rfl) rfl (ci := 12) e_cl12.1 rfl (e_le rfl) (e_lt hnx rfl) (Nat.zero_le _) (Nat.zero_le _) (e_k ?_)
      refine r_wr0 ?_
      refine r_mat (k := 91) h91 (l' := [(72, o72 0 a72_2 a72_3 a72_4 a72_5 a72_6 a72_7 a72_8 a72_9 a72_10 a72_11 a72_17 a72_18 a72_19 a72_21 a72_22 q3.2.1 a72_31 a72_35 a72_37 a72_38 a72_39 a72_40 a72_41 a72_44 a72_50), (81, o81 q3.2.2.1), (82, o82 q3.2.2.2.1), (83, o83 q3.2.2.2.2.1), (84, o84 q3.2.2.2.2.2.1), (85, o85 q3.2.2.2.2.2.2), (91, o91 A91)]) rfl ?_
      refine r_mat (k := 92) h92 (l' := [(72, o72 0 a72_2 a72_3 a72_4 a72_5 a72_6 a72_7 a72_8 a72_9 a72_10 a72_11 a72_17 a72_18 a72_19 a72_21 a72_22 q3.2.1 a72_31 a72_35 a72_37 a72_38 a72_39 a72_40 a72_41 a72_44 a72_50), (81, o81 q3.2.2.1), (82, o82 q3.2.2.2.1), (83, o83 q3.2.2.2.2.1), (84, o84 q3.2.2.2.2.2.1), (85, o85 q3.2.2.2.2.2.2), (91, o91 A91), (92, o92 A92)]) rfl ?_
      obtain rfl := Option.some.inj hf
      exact r_iret F hq dX12_most_73 rfl rfl (Nat.le_refl _) (Nat.le_refl _) ⟨rfl, rfl⟩
    have hf := e_f hk0 hf
    refine Classical.byCases (p := p0 = 1) (fun hc => ?_) (fun hk1 => ?_)
    · have hf := e_t hc hf
      refine r_tsIn F dX12_most_20 (by rw [hc]; decide) (by rw [hc]; decide) (off := 54) (by rw [hc]; decide) (tgt := 74) (by decide) ?_
      refine r_aload_n F dX12_most_74 rfl ?_
      refine r_iconst F dX12_most_75 (v := 1) (by decide) ?_
      obtain ⟨q7, hq8, hf⟩ := e_bd hf
      refine r_callV F dX12_most_76 (b := 72) (dc := 0) (ds := 0) (As := [.int 1]) (S0 := []) lkX12_476 mX12_mostAlike (tX12_mostAlike_72 hG (la := x_l X) (h := e_up h [(72, o72 0 a72_2 a72_3 a72_4 a72_5 a72_6 a72_7 a72_8 a72_9 a72_10 a72_11 a72_17 a72_18 a72_19 a72_21 a72_22 q3.2.1 a72_31 a72_35 a72_37 a72_38 a72_39 a72_40 a72_41 a72_44 a72_50), (81, o81 q3.2.2.1), (82, o82 q3.2.2.2.1), (83, o83 q3.2.2.2.2.1), (84, o84 q3.2.2.2.2.2.1), (85, o85 q3.2.2.2.2.2.2)]) hnx rfl rfl rfl rfl hq8) rfl rfl rfl (e_le rfl) (e_le rfl) (e_le rfl) rfl (ci := 12) e_cl12.1 rfl (e_le rfl) (e_lt hnx rfl) (Nat.zero_le _) (Nat.zero_le _) (e_k ?_)
      refine r_wr0 ?_
      refine r_mat (k := 91) h91 (l' := [(72, o72 0 a72_2 a72_3 a72_4 a72_5 a72_6 a72_7 a72_8 a72_9 a72_10 a72_11 a72_17 a72_18 a72_19 a72_21 a72_22 q3.2.1 a72_31 a72_35 a72_37 a72_38 a72_39 a72_40 a72_41 a72_44 a72_50), (81, o81 q3.2.2.1), (82, o82 q3.2.2.2.1), (83, o83 q3.2.2.2.2.1), (84, o84 q3.2.2.2.2.2.1), (85, o85 q3.2.2.2.2.2.2), (91, o91 A91)]) rfl ?_
      refine r_mat (k := 92) h92 (l' := [(72, o72 0 a72_2 a72_3 a72_4 a72_5 a72_6 a72_7 a72_8 a72_9 a72_10 a72_11 a72_17 a72_18 a72_19 a72_21 a72_22 q3.2.1 a72_31 a72_35 a72_37 a72_38 a72_39 a72_40 a72_41 a72_44 a72_50), (81, o81 q3.2.2.1), (82, o82 q3.2.2.2.1), (83, o83 q3.2.2.2.2.1), (84, o84 q3.2.2.2.2.2.1), (85, o85 q3.2.2.2.2.2.2), (91, o91 A91), (92, o92 A92)]) rfl ?_
      obtain rfl := Option.some.inj hf
      exact r_iret F hq dX12_most_79 rfl rfl (Nat.le_refl _) (Nat.le_refl _) ⟨rfl, rfl⟩
    have hf := e_f hk1 hf
    refine Classical.byCases (p := p0 = 2) (fun hc => ?_) (fun hk2 => ?_)
    · have hf := e_t hc hf
      refine r_tsIn F dX12_most_20 (by rw [hc]; decide) (by rw [hc]; decide) (off := 60) (by rw [hc]; decide) (tgt := 80) (by decide) ?_
      refine r_aload_n F dX12_most_80 rfl ?_
      obtain ⟨q9, hq10, hf⟩ := e_bd hf
      refine r_callV F dX12_most_81 (b := 72) (dc := 0) (ds := 0) (As := []) (S0 := []) lkX12_480 mX12_strongest (tX12_strongest_72 hG (la := x_l X) (h := e_up h [(72, o72 0 a72_2 a72_3 a72_4 a72_5 a72_6 a72_7 a72_8 a72_9 a72_10 a72_11 a72_17 a72_18 a72_19 a72_21 a72_22 q3.2.1 a72_31 a72_35 a72_37 a72_38 a72_39 a72_40 a72_41 a72_44 a72_50), (81, o81 q3.2.2.1), (82, o82 q3.2.2.2.1), (83, o83 q3.2.2.2.2.1), (84, o84 q3.2.2.2.2.2.1), (85, o85 q3.2.2.2.2.2.2)]) hnx rfl rfl hq10) rfl rfl rfl (e_le rfl) (e_le rfl) (e_le rfl) rfl (ci := 12) e_cl12.1 rfl (e_le rfl) (e_lt hnx rfl) (Nat.zero_le _) (Nat.zero_le _) (e_k ?_)
      refine r_wr0 ?_
      refine r_mat (k := 91) h91 (l' := [(72, o72 0 a72_2 a72_3 a72_4 a72_5 a72_6 a72_7 a72_8 a72_9 a72_10 a72_11 a72_17 a72_18 a72_19 a72_21 a72_22 q3.2.1 a72_31 a72_35 a72_37 a72_38 a72_39 a72_40 a72_41 a72_44 a72_50), (81, o81 q3.2.2.1), (82, o82 q3.2.2.2.1), (83, o83 q3.2.2.2.2.1), (84, o84 q3.2.2.2.2.2.1), (85, o85 q3.2.2.2.2.2.2), (91, o91 A91)]) rfl ?_
      refine r_mat (k := 92) h92 (l' := [(72, o72 0 a72_2 a72_3 a72_4 a72_5 a72_6 a72_7 a72_8 a72_9 a72_10 a72_11 a72_17 a72_18 a72_19 a72_21 a72_22 q3.2.1 a72_31 a72_35 a72_37 a72_38 a72_39 a72_40 a72_41 a72_44 a72_50), (81, o81 q3.2.2.1), (82, o82 q3.2.2.2.1), (83, o83 q3.2.2.2.2.1), (84, o84 q3.2.2.2.2.2.1), (85, o85 q3.2.2.2.2.2.2), (91, o91 A91), (92, o92 A92)]) rfl ?_
      obtain rfl := Option.some.inj hf
      exact r_iret F hq dX12_most_84 rfl rfl (Nat.le_refl _) (Nat.le_refl _) ⟨rfl, rfl⟩
    have hf := e_f hk2 hf
    refine Classical.byCases (p := p0 = 3) (fun hc => ?_) (fun hk3 => ?_)
    · have hf := e_t hc hf
      refine r_tsIn F dX12_most_20 (by rw [hc]; decide) (by rw [hc]; decide) (off := 65) (by rw [hc]; decide) (tgt := 85) (by decide) ?_
      refine r_aload_n F dX12_most_85 rfl ?_
      refine r_iconst F dX12_most_86 (v := 0) (by decide) ?_
      obtain ⟨q11, hq12, hf⟩ := e_bd hf
      refine r_callV F dX12_most_87 (b := 72) (dc := 0) (ds := 0) (As := [.int 0]) (S0 := []) lkX12_483 mX12_nearest (tX12_nearest_72 hG (la := x_l X) (h := e_up h [(72, o72 0 a72_2 a72_3 a72_4 a72_5 a72_6 a72_7 a72_8 a72_9 a72_10 a72_11 a72_17 a72_18 a72_19 a72_21 a72_22 q3.2.1 a72_31 a72_35 a72_37 a72_38 a72_39 a72_40 a72_41 a72_44 a72_50), (81, o81 q3.2.2.1), (82, o82 q3.2.2.2.1), (83, o83 q3.2.2.2.2.1), (84, o84 q3.2.2.2.2.2.1), (85, o85 q3.2.2.2.2.2.2)]) hnx rfl rfl rfl hq12) rfl rfl rfl (e_le rfl) (e_le rfl) (e_le rfl) rfl (ci := 12) e_cl12.1 rfl (e_le rfl) (e_lt hnx rfl) (Nat.zero_le _) (Nat.zero_le _) (e_k ?_)
      refine r_wr0 ?_
      refine r_mat (k := 91) h91 (l' := [(72, o72 0 a72_2 a72_3 a72_4 a72_5 a72_6 a72_7 a72_8 a72_9 a72_10 a72_11 a72_17 a72_18 a72_19 a72_21 a72_22 q3.2.1 a72_31 a72_35 a72_37 a72_38 a72_39 a72_40 a72_41 a72_44 a72_50), (81, o81 q3.2.2.1), (82, o82 q3.2.2.2.1), (83, o83 q3.2.2.2.2.1), (84, o84 q3.2.2.2.2.2.1), (85, o85 q3.2.2.2.2.2.2), (91, o91 A91)]) rfl ?_
      refine r_mat (k := 92) h92 (l' := [(72, o72 0 a72_2 a72_3 a72_4 a72_5 a72_6 a72_7 a72_8 a72_9 a72_10 a72_11 a72_17 a72_18 a72_19 a72_21 a72_22 q3.2.1 a72_31 a72_35 a72_37 a72_38 a72_39 a72_40 a72_41 a72_44 a72_50), (81, o81 q3.2.2.1), (82, o82 q3.2.2.2.1), (83, o83 q3.2.2.2.2.1), (84, o84 q3.2.2.2.2.2.1), (85, o85 q3.2.2.2.2.2.2), (91, o91 A91), (92, o92 A92)]) rfl ?_
      obtain rfl := Option.some.inj hf
      exact r_iret F hq dX12_most_90 rfl rfl (Nat.le_refl _) (Nat.le_refl _) ⟨rfl, rfl⟩
    have hf := e_f hk3 hf
    refine Classical.byCases (p := p0 = 4) (fun hc => ?_) (fun hk4 => ?_)
    · have hf := e_t hc hf
      refine r_tsIn F dX12_most_20 (by rw [hc]; decide) (by rw [hc]; decide) (off := 71) (by rw [hc]; decide) (tgt := 91) (by decide) ?_
      refine r_aload_n F dX12_most_91 rfl ?_
      refine r_iconst F dX12_most_92 (v := 1) (by decide) ?_
      obtain ⟨q13, hq14, hf⟩ := e_bd hf
      refine r_callV F dX12_most_93 (b := 72) (dc := 0) (ds := 0) (As := [.int 1]) (S0 := []) lkX12_483 mX12_nearest (tX12_nearest_72 hG (la := x_l X) (h := e_up h [(72, o72 0 a72_2 a72_3 a72_4 a72_5 a72_6 a72_7 a72_8 a72_9 a72_10 a72_11 a72_17 a72_18 a72_19 a72_21 a72_22 q3.2.1 a72_31 a72_35 a72_37 a72_38 a72_39 a72_40 a72_41 a72_44 a72_50), (81, o81 q3.2.2.1), (82, o82 q3.2.2.2.1), (83, o83 q3.2.2.2.2.1), (84, o84 q3.2.2.2.2.2.1), (85, o85 q3.2.2.2.2.2.2)]) hnx rfl rfl rfl hq14) rfl rfl rfl (e_le rfl) (e_le rfl) (e_le rfl) rfl (ci := 12) e_cl12.1 rfl (e_le rfl) (e_lt hnx rfl) (Nat.zero_le _) (Nat.zero_le _) (e_k ?_)
      refine r_wr0 ?_
      refine r_mat (k := 91) h91 (l' := [(72, o72 0 a72_2 a72_3 a72_4 a72_5 a72_6 a72_7 a72_8 a72_9 a72_10 a72_11 a72_17 a72_18 a72_19 a72_21 a72_22 q3.2.1 a72_31 a72_35 a72_37 a72_38 a72_39 a72_40 a72_41 a72_44 a72_50), (81, o81 q3.2.2.1), (82, o82 q3.2.2.2.1), (83, o83 q3.2.2.2.2.1), (84, o84 q3.2.2.2.2.2.1), (85, o85 q3.2.2.2.2.2.2), (91, o91 A91)]) rfl ?_
      refine r_mat (k := 92) h92 (l' := [(72, o72 0 a72_2 a72_3 a72_4 a72_5 a72_6 a72_7 a72_8 a72_9 a72_10 a72_11 a72_17 a72_18 a72_19 a72_21 a72_22 q3.2.1 a72_31 a72_35 a72_37 a72_38 a72_39 a72_40 a72_41 a72_44 a72_50), (81, o81 q3.2.2.1), (82, o82 q3.2.2.2.1), (83, o83 q3.2.2.2.2.1), (84, o84 q3.2.2.2.2.2.1), (85, o85 q3.2.2.2.2.2.2), (91, o91 A91), (92, o92 A92)]) rfl ?_
      obtain rfl := Option.some.inj hf
      exact r_iret F hq dX12_most_96 rfl rfl (Nat.le_refl _) (Nat.le_refl _) ⟨rfl, rfl⟩
    have hf := e_f hk4 hf
    refine Classical.byCases (p := p0 = 5) (fun hc => ?_) (fun hk5 => ?_)
    · have hf := e_t hc hf
      refine r_tsIn F dX12_most_20 (by rw [hc]; decide) (by rw [hc]; decide) (off := 77) (by rw [hc]; decide) (tgt := 97) (by decide) ?_
      refine r_aload_n F dX12_most_97 rfl ?_
      obtain ⟨q15, hq16, hf⟩ := e_bd hf
      refine r_callV F dX12_most_98 (b := 72) (dc := 0) (ds := 0) (As := []) (S0 := []) lkX12_486 mX12_longestWall (tX12_longestWall_72 hG (la := x_l X) (h := e_up h [(72, o72 0 a72_2 a72_3 a72_4 a72_5 a72_6 a72_7 a72_8 a72_9 a72_10 a72_11 a72_17 a72_18 a72_19 a72_21 a72_22 q3.2.1 a72_31 a72_35 a72_37 a72_38 a72_39 a72_40 a72_41 a72_44 a72_50), (81, o81 q3.2.2.1), (82, o82 q3.2.2.2.1), (83, o83 q3.2.2.2.2.1), (84, o84 q3.2.2.2.2.2.1), (85, o85 q3.2.2.2.2.2.2)]) hnx rfl h79 h91 h92 hq16) rfl rfl rfl (e_le rfl) (e_le rfl) (e_le rfl) rfl (ci := 12) e_cl12.1 rfl (e_le rfl) (e_lt hnx rfl) (Nat.zero_le _) (Nat.zero_le _) (e_k ?_)
      refine r_wr (l' := [(72, o72 0 a72_2 a72_3 a72_4 a72_5 a72_6 a72_7 a72_8 a72_9 a72_10 a72_11 a72_17 a72_18 a72_19 a72_21 a72_22 q3.2.1 a72_31 a72_35 a72_37 a72_38 a72_39 a72_40 a72_41 q15.2.1 a72_50), (81, o81 q3.2.2.1), (82, o82 q3.2.2.2.1), (83, o83 q3.2.2.2.2.1), (84, o84 q3.2.2.2.2.2.1), (85, o85 q3.2.2.2.2.2.2), (91, o91 q15.2.2.1), (92, o92 q15.2.2.2)]) rfl rfl ?_
      obtain rfl := Option.some.inj hf
      exact r_iret F hq dX12_most_101 rfl rfl (Nat.le_refl _) (Nat.le_refl _) ⟨rfl, rfl⟩
    have hf := e_f hk5 hf
    refine Classical.byCases (p := p0 = 6) (fun hc => ?_) (fun hk6 => ?_)
    · have hf := e_t hc hf
      refine r_tsIn F dX12_most_20 (by rw [hc]; decide) (by rw [hc]; decide) (off := 82) (by rw [hc]; decide) (tgt := 102) (by decide) ?_
      refine r_aload_n F dX12_most_102 rfl ?_
      obtain ⟨q17, hq18, hf⟩ := e_bd hf
      refine r_callV F dX12_most_103 (b := 72) (dc := 0) (ds := 0) (As := []) (S0 := []) lkX12_489 mX12_greatestNumber (tX12_greatestNumber_72 hG (la := x_l X) (h := e_up h [(72, o72 0 a72_2 a72_3 a72_4 a72_5 a72_6 a72_7 a72_8 a72_9 a72_10 a72_11 a72_17 a72_18 a72_19 a72_21 a72_22 q3.2.1 a72_31 a72_35 a72_37 a72_38 a72_39 a72_40 a72_41 a72_44 a72_50), (81, o81 q3.2.2.1), (82, o82 q3.2.2.2.1), (83, o83 q3.2.2.2.2.1), (84, o84 q3.2.2.2.2.2.1), (85, o85 q3.2.2.2.2.2.2)]) hnx rfl rfl rfl hq18) rfl rfl rfl (e_le rfl) (e_le rfl) (e_le rfl) rfl (ci := 12) e_cl12.1 rfl (e_le rfl) (e_lt hnx rfl) (Nat.zero_le _) (Nat.zero_le _) (e_k ?_)
      refine r_wr0 ?_
      refine r_mat (k := 91) h91 (l' := [(72, o72 0 a72_2 a72_3 a72_4 a72_5 a72_6 a72_7 a72_8 a72_9 a72_10 a72_11 a72_17 a72_18 a72_19 a72_21 a72_22 q3.2.1 a72_31 a72_35 a72_37 a72_38 a72_39 a72_40 a72_41 a72_44 a72_50), (81, o81 q3.2.2.1), (82, o82 q3.2.2.2.1), (83, o83 q3.2.2.2.2.1), (84, o84 q3.2.2.2.2.2.1), (85, o85 q3.2.2.2.2.2.2), (91, o91 A91)]) rfl ?_
      refine r_mat (k := 92) h92 (l' := [(72, o72 0 a72_2 a72_3 a72_4 a72_5 a72_6 a72_7 a72_8 a72_9 a72_10 a72_11 a72_17 a72_18 a72_19 a72_21 a72_22 q3.2.1 a72_31 a72_35 a72_37 a72_38 a72_39 a72_40 a72_41 a72_44 a72_50), (81, o81 q3.2.2.1), (82, o82 q3.2.2.2.1), (83, o83 q3.2.2.2.2.1), (84, o84 q3.2.2.2.2.2.1), (85, o85 q3.2.2.2.2.2.2), (91, o91 A91), (92, o92 A92)]) rfl ?_
      obtain rfl := Option.some.inj hf
      exact r_iret F hq dX12_most_106 rfl rfl (Nat.le_refl _) (Nat.le_refl _) ⟨rfl, rfl⟩
    have hf := e_f hk6 hf
    refine Classical.byCases (p := p0 = 7) (fun hc => ?_) (fun hk7 => ?_)
    · have hf := e_t hc hf
      refine r_tsIn F dX12_most_20 (by rw [hc]; decide) (by rw [hc]; decide) (off := 87) (by rw [hc]; decide) (tgt := 107) (by decide) ?_
      refine r_aload_n F dX12_most_107 rfl ?_
      obtain ⟨q19, hq20, hf⟩ := e_bd hf
      refine r_callV F dX12_most_108 (b := 72) (dc := 0) (ds := 0) (As := []) (S0 := []) lkX12_492 mX12_opposed (tX12_opposed_72 hG (la := x_l X) (h := e_up h [(72, o72 0 a72_2 a72_3 a72_4 a72_5 a72_6 a72_7 a72_8 a72_9 a72_10 a72_11 a72_17 a72_18 a72_19 a72_21 a72_22 q3.2.1 a72_31 a72_35 a72_37 a72_38 a72_39 a72_40 a72_41 a72_44 a72_50), (81, o81 q3.2.2.1), (82, o82 q3.2.2.2.1), (83, o83 q3.2.2.2.2.1), (84, o84 q3.2.2.2.2.2.1), (85, o85 q3.2.2.2.2.2.2)]) hnx rfl rfl rfl hq20) rfl rfl rfl (e_le rfl) (e_le rfl) (e_le rfl) rfl (ci := 12) e_cl12.1 rfl (e_le rfl) (e_lt hnx rfl) (Nat.zero_le _) (Nat.zero_le _) (e_k ?_)
      refine r_wr0 ?_
      refine r_mat (k := 91) h91 (l' := [(72, o72 0 a72_2 a72_3 a72_4 a72_5 a72_6 a72_7 a72_8 a72_9 a72_10 a72_11 a72_17 a72_18 a72_19 a72_21 a72_22 q3.2.1 a72_31 a72_35 a72_37 a72_38 a72_39 a72_40 a72_41 a72_44 a72_50), (81, o81 q3.2.2.1), (82, o82 q3.2.2.2.1), (83, o83 q3.2.2.2.2.1), (84, o84 q3.2.2.2.2.2.1), (85, o85 q3.2.2.2.2.2.2), (91, o91 A91)]) rfl ?_
      refine r_mat (k := 92) h92 (l' := [(72, o72 0 a72_2 a72_3 a72_4 a72_5 a72_6 a72_7 a72_8 a72_9 a72_10 a72_11 a72_17 a72_18 a72_19 a72_21 a72_22 q3.2.1 a72_31 a72_35 a72_37 a72_38 a72_39 a72_40 a72_41 a72_44 a72_50), (81, o81 q3.2.2.1), (82, o82 q3.2.2.2.1), (83, o83 q3.2.2.2.2.1), (84, o84 q3.2.2.2.2.2.1), (85, o85 q3.2.2.2.2.2.2), (91, o91 A91), (92, o92 A92)]) rfl ?_
      obtain rfl := Option.some.inj hf
      exact r_iret F hq dX12_most_111 rfl rfl (Nat.le_refl _) (Nat.le_refl _) ⟨rfl, rfl⟩
    have hf := e_f hk7 hf
    refine r_tsOut F dX12_most_20 (e_out8 hk0 hk1 hk2 hk3 hk4 hk5 hk6 hk7) (tgt := 112) (by decide) ?_
    refine r_iconst F dX12_most_112 (v := (-1)) (by decide) ?_
    refine r_mat (k := 91) h91 (l' := [(72, o72 0 a72_2 a72_3 a72_4 a72_5 a72_6 a72_7 a72_8 a72_9 a72_10 a72_11 a72_17 a72_18 a72_19 a72_21 a72_22 q3.2.1 a72_31 a72_35 a72_37 a72_38 a72_39 a72_40 a72_41 a72_44 a72_50), (81, o81 q3.2.2.1), (82, o82 q3.2.2.2.1), (83, o83 q3.2.2.2.2.1), (84, o84 q3.2.2.2.2.2.1), (85, o85 q3.2.2.2.2.2.2), (91, o91 A91)]) rfl ?_
    refine r_mat (k := 92) h92 (l' := [(72, o72 0 a72_2 a72_3 a72_4 a72_5 a72_6 a72_7 a72_8 a72_9 a72_10 a72_11 a72_17 a72_18 a72_19 a72_21 a72_22 q3.2.1 a72_31 a72_35 a72_37 a72_38 a72_39 a72_40 a72_41 a72_44 a72_50), (81, o81 q3.2.2.1), (82, o82 q3.2.2.2.1), (83, o83 q3.2.2.2.2.1), (84, o84 q3.2.2.2.2.2.1), (85, o85 q3.2.2.2.2.2.2), (91, o91 A91), (92, o92 A92)]) rfl ?_
    obtain rfl := Option.some.inj hf
    exact r_iret F hq dX12_most_113 rfl rfl (Nat.le_refl _) (Nat.le_refl _) ⟨rfl, rfl⟩
  · have hf := e_f hc hf
    refine r_iconst F dX12_most_12 (v := (-1)) (by decide) ?_
    refine r_mat (k := 81) h81 (l' := [(72, o72 0 a72_2 a72_3 a72_4 a72_5 a72_6 a72_7 a72_8 a72_9 a72_10 a72_11 a72_17 a72_18 a72_19 a72_21 a72_22 a72_29 a72_31 a72_35 a72_37 a72_38 a72_39 a72_40 a72_41 a72_44 a72_50), (81, o81 A81)]) rfl ?_
    refine r_mat (k := 82) h82 (l' := [(72, o72 0 a72_2 a72_3 a72_4 a72_5 a72_6 a72_7 a72_8 a72_9 a72_10 a72_11 a72_17 a72_18 a72_19 a72_21 a72_22 a72_29 a72_31 a72_35 a72_37 a72_38 a72_39 a72_40 a72_41 a72_44 a72_50), (81, o81 A81), (82, o82 A82)]) rfl ?_
    refine r_mat (k := 83) h83 (l' := [(72, o72 0 a72_2 a72_3 a72_4 a72_5 a72_6 a72_7 a72_8 a72_9 a72_10 a72_11 a72_17 a72_18 a72_19 a72_21 a72_22 a72_29 a72_31 a72_35 a72_37 a72_38 a72_39 a72_40 a72_41 a72_44 a72_50), (81, o81 A81), (82, o82 A82), (83, o83 A83)]) rfl ?_
    refine r_mat (k := 84) h84 (l' := [(72, o72 0 a72_2 a72_3 a72_4 a72_5 a72_6 a72_7 a72_8 a72_9 a72_10 a72_11 a72_17 a72_18 a72_19 a72_21 a72_22 a72_29 a72_31 a72_35 a72_37 a72_38 a72_39 a72_40 a72_41 a72_44 a72_50), (81, o81 A81), (82, o82 A82), (83, o83 A83), (84, o84 A84)]) rfl ?_
    refine r_mat (k := 85) h85 (l' := [(72, o72 0 a72_2 a72_3 a72_4 a72_5 a72_6 a72_7 a72_8 a72_9 a72_10 a72_11 a72_17 a72_18 a72_19 a72_21 a72_22 a72_29 a72_31 a72_35 a72_37 a72_38 a72_39 a72_40 a72_41 a72_44 a72_50), (81, o81 A81), (82, o82 A82), (83, o83 A83), (84, o84 A84), (85, o85 A85)]) rfl ?_
    refine r_mat (k := 91) h91 (l' := [(72, o72 0 a72_2 a72_3 a72_4 a72_5 a72_6 a72_7 a72_8 a72_9 a72_10 a72_11 a72_17 a72_18 a72_19 a72_21 a72_22 a72_29 a72_31 a72_35 a72_37 a72_38 a72_39 a72_40 a72_41 a72_44 a72_50), (81, o81 A81), (82, o82 A82), (83, o83 A83), (84, o84 A84), (85, o85 A85), (91, o91 A91)]) rfl ?_
    refine r_mat (k := 92) h92 (l' := [(72, o72 0 a72_2 a72_3 a72_4 a72_5 a72_6 a72_7 a72_8 a72_9 a72_10 a72_11 a72_17 a72_18 a72_19 a72_21 a72_22 a72_29 a72_31 a72_35 a72_37 a72_38 a72_39 a72_40 a72_41 a72_44 a72_50), (81, o81 A81), (82, o82 A82), (83, o83 A83), (84, o84 A84), (85, o85 A85), (91, o91 A91), (92, o92 A92)]) rfl ?_
    obtain rfl := Option.some.inj hf
    exact r_iret F hq dX12_most_13 rfl rfl (Nat.le_refl _) (Nat.le_refl _) ⟨rfl, rfl⟩

def fX12_move (a72_0 : Int32) (a72_21 : Int32) (a72_22 : Int32) (a72_29 : Int32) (a72_31 : Int32) (A79 : Nat → Int32) (A80 : Nat → Int32) (A81 : Nat → Int32) (A82 : Nat → Int32) (A83 : Nat → Int32) (A84 : Nat → Int32) (A85 : Nat → Int32) (A86 : Nat → Int32) (A87 : Nat → Int32) (p0 : Int32) (p1 : Int32) (p2 : Int32) (p3 : Int32) : Option (Int32 × Int32 × Int32 × Int32 × (Nat → Int32) × (Nat → Int32) × (Nat → Int32) × (Nat → Int32) × (Nat → Int32) × (Nat → Int32) × (Nat → Int32) × (Nat → Int32)) :=
  (fX12_isCrystal a72_21).bind (fun q1 =>
  if q1 = true then
    (fX12_isFace a72_21 a72_22 p0 p1).bind (fun q3 =>
    if q3 = true then
      (fX12_isCore A79 p0 p1).bind (fun q5 =>
      if q5 = true then
        (fX12_in (Int32.toInt64 p2) 0 2).bind (fun q7 =>
        if q7 = true then
          (fX12_in (Int32.toInt64 p3) 0 3).bind (fun q9 =>
          if q9 = true then
            (fX12_isPart A79 p0 p1 p2).bind (fun q11 =>
            if q11 = true then
              (fX12_laysCores a72_21 a72_22 a72_29 A79 A80 A81 A82 A83 A84 A85).bind (fun q13 =>
              Option.bind (α := Int32) (
                if p2 = 2 then
                  some 0
                else
                  (fX12_vector A79 p0 p1 0).bind (fun q31 =>
                  some q31)) (fun q15 =>
              Option.bind (α := Int32) (
                if p2 = 1 then
                  some 0
                else
                  (fX12_vector A79 p0 p1 1).bind (fun q29 =>
                  some q29)) (fun q17 =>
              (fX12_coresBehind a72_21 a72_22 q13.2.1 A79 p0 p1 p3 q15 q17).bind (fun q19 =>
              if q19 ≤ 12 then
                (fX12_keeps a72_31 A79 A86).bind (fun q21 =>
                (fX12_wayOf q15 q17).bind (fun q23 =>
                (fX12_moves a72_21 a72_22 A79 p0 p1 p3 q15 q17).bind (fun q25 =>
                if q25.1 = 0 then
                  if q23 = (p3 - p3 / 2 * 2) then
                    some (0, 0, q13.2.1, q21.1, q25.2, q13.2.2.1, q13.2.2.2.1, q13.2.2.2.2.1, q13.2.2.2.2.2.1, q13.2.2.2.2.2.2, q21.2, A87)
                  else
                    some (1, 0, q13.2.1, q21.1, q25.2, q13.2.2.1, q13.2.2.2.1, q13.2.2.2.2.1, q13.2.2.2.2.2.1, q13.2.2.2.2.2.2, q21.2, A87)
                else
                  some (q25.1, 0, q13.2.1, q21.1, q25.2, q13.2.2.1, q13.2.2.2.1, q13.2.2.2.2.1, q13.2.2.2.2.2.1, q13.2.2.2.2.2.2, q21.2, A87))))
              else
                (fX12_refuses A87 3).bind (fun q27 =>
                some (q27.1, 0, q13.2.1, a72_31, A79, q13.2.2.1, q13.2.2.2.1, q13.2.2.2.2.1, q13.2.2.2.2.2.1, q13.2.2.2.2.2.2, A86, q27.2))))))
            else
              (fX12_refuses A87 2).bind (fun q33 =>
              some (q33.1, 0, a72_29, a72_31, A79, A81, A82, A83, A84, A85, A86, q33.2)))
          else
            (fX12_refuses A87 2).bind (fun q35 =>
            some (q35.1, 0, a72_29, a72_31, A79, A81, A82, A83, A84, A85, A86, q35.2)))
        else
          (fX12_refuses A87 2).bind (fun q37 =>
          some (q37.1, 0, a72_29, a72_31, A79, A81, A82, A83, A84, A85, A86, q37.2)))
      else
        (fX12_refuses A87 1).bind (fun q39 =>
        some (q39.1, 0, a72_29, a72_31, A79, A81, A82, A83, A84, A85, A86, q39.2)))
    else
      (fX12_refuses A87 1).bind (fun q41 =>
      some (q41.1, 0, a72_29, a72_31, A79, A81, A82, A83, A84, A85, A86, q41.2)))
  else
    (fX12_refuses A87 0).bind (fun q43 =>
    some (q43.1, 0, a72_29, a72_31, A79, A81, A82, A83, A84, A85, A86, q43.2)))
set_option maxRecDepth 100000 in
theorem tX12_move_72 {G : eG} (hG : e_GS G) {la : Launch} {h : Nat → eO} {nx : Nat} (hnx : 99 ≤ nx) {a72_0 : Int32} {a72_2 : Int32} {a72_3 : Int32} {a72_4 : Int32} {a72_5 : Int32} {a72_6 : Int32} {a72_7 : Int32} {a72_8 : Bool} {a72_9 : Int32} {a72_10 : Int32} {a72_11 : Int32} {a72_17 : Bool} {a72_18 : Bool} {a72_19 : Bool} {a72_21 : Int32} {a72_22 : Int32} {a72_29 : Int32} {a72_31 : Int32} {a72_35 : Int32} {a72_37 : Bool} {a72_38 : Int32} {a72_39 : Int32} {a72_40 : Int32} {a72_41 : Int64} {a72_44 : Int32} {a72_50 : Bool} {A79 : Nat → Int32} {A80 : Nat → Int32} {A81 : Nat → Int32} {A82 : Nat → Int32} {A83 : Nat → Int32} {A84 : Nat → Int32} {A85 : Nat → Int32} {A86 : Nat → Int32} {A87 : Nat → Int32} {p0 : Int32} {p1 : Int32} {p2 : Int32} {p3 : Int32} (h72 : h 72 = o72 a72_0 a72_2 a72_3 a72_4 a72_5 a72_6 a72_7 a72_8 a72_9 a72_10 a72_11 a72_17 a72_18 a72_19 a72_21 a72_22 a72_29 a72_31 a72_35 a72_37 a72_38 a72_39 a72_40 a72_41 a72_44 a72_50) (h79 : h 79 = o79 A79) (h80 : h 80 = o80 A80) (h81 : h 81 = o81 A81) (h82 : h 82 = o82 A82) (h83 : h 83 = o83 A83) (h84 : h 84 = o84 A84) (h85 : h 85 = o85 A85) (h86 : h 86 = o86 A86) (h87 : h 87 = o87 A87) {R9 : Int32 × Int32 × Int32 × Int32 × (Nat → Int32) × (Nat → Int32) × (Nat → Int32) × (Nat → Int32) × (Nat → Int32) × (Nat → Int32) × (Nat → Int32) × (Nat → Int32)} (hf : fX12_move a72_0 a72_21 a72_22 a72_29 a72_31 A79 A80 A81 A82 A83 A84 A85 A86 A87 p0 p1 p2 p3 = some R9) :
    eSem G la MX12_move [.ref 72, .int p0, .int p1, .int p2, .int p3] h nx 0 0 (fun r9 h9 => r9 = some (.int R9.1) ∧ h9 = e_up h [(72, o72 R9.2.1 a72_2 a72_3 a72_4 a72_5 a72_6 a72_7 a72_8 a72_9 a72_10 a72_11 a72_17 a72_18 a72_19 a72_21 a72_22 R9.2.2.1 R9.2.2.2.1 a72_35 a72_37 a72_38 a72_39 a72_40 a72_41 a72_44 a72_50), (79, o79 R9.2.2.2.2.1), (81, o81 R9.2.2.2.2.2.1), (82, o82 R9.2.2.2.2.2.2.1), (83, o83 R9.2.2.2.2.2.2.2.1), (84, o84 R9.2.2.2.2.2.2.2.2.1), (85, o85 R9.2.2.2.2.2.2.2.2.2.1), (86, o86 R9.2.2.2.2.2.2.2.2.2.2.1), (87, o87 R9.2.2.2.2.2.2.2.2.2.2.2)]) := by
  refine eSem.of (k := 4) (L := [some (.ref 72), some (.int p0), some (.int p1), some (.int p2), some (.int p3), none, none, none, none]) (by decide +kernel) rfl rfl (fun X F hxl hq hcR hsR => ?_)
  subst hxl
  unfold fX12_move at hf
  refine r_aload_n F dX12_move_0 rfl ?_
  refine r_iconst F dX12_move_1 (v := 0) (by decide) ?_
  refine r_put F dX12_move_2 flX12_86 rfl rfl rfl h72 (e_le rfl) (e_le rfl) (e_lt hnx rfl) (l' := [(72, o72 0 a72_2 a72_3 a72_4 a72_5 a72_6 a72_7 a72_8 a72_9 a72_10 a72_11 a72_17 a72_18 a72_19 a72_21 a72_22 a72_29 a72_31 a72_35 a72_37 a72_38 a72_39 a72_40 a72_41 a72_44 a72_50)]) rfl ?_
  refine r_aload_n F dX12_move_5 rfl ?_
  obtain ⟨q1, hq2, hf⟩ := e_bd hf
  refine r_callV F dX12_move_6 (b := 72) (dc := 0) (ds := 0) (As := []) (S0 := []) lkX12_306 mX12_isCrystal (tX12_isCrystal_72 hG (la := x_l X) (h := e_up h [(72, o72 0 a72_2 a72_3 a72_4 a72_5 a72_6 a72_7 a72_8 a72_9 a72_10 a72_11 a72_17 a72_18 a72_19 a72_21 a72_22 a72_29 a72_31 a72_35 a72_37 a72_38 a72_39 a72_40 a72_41 a72_44 a72_50)]) hnx rfl hq2) rfl rfl rfl (e_le rfl) (e_le rfl) (e_le rfl) rfl (ci := 12) e_cl12.1 rfl (e_le rfl) (e_lt hnx rfl) (Nat.zero_le _) (Nat.zero_le _) (e_k ?_)
  refine r_wr0 ?_
  refine r_z_ne F dX12_move_9 (tgt := 18) (by decide) (fun hc => ?_) (fun hc => ?_)
  · have hf := e_t hc hf
    refine r_aload_n F dX12_move_18 rfl ?_
    refine r_iload_n F dX12_move_19 rfl ?_
    refine r_iload_n F dX12_move_20 rfl ?_
    obtain ⟨q3, hq4, hf⟩ := e_bd hf
    refine r_callV F dX12_move_21 (b := 72) (dc := 0) (ds := 0) (As := [.int p0, .int p1]) (S0 := []) lkX12_288 mX12_isFace (tX12_isFace_72 hG (la := x_l X) (h := e_up h [(72, o72 0 a72_2 a72_3 a72_4 a72_5 a72_6 a72_7 a72_8 a72_9 a72_10 a72_11 a72_17 a72_18 a72_19 a72_21 a72_22 a72_29 a72_31 a72_35 a72_37 a72_38 a72_39 a72_40 a72_41 a72_44 a72_50)]) hnx rfl hq4) rfl rfl rfl (e_le rfl) (e_le rfl) (e_le rfl) rfl (ci := 12) e_cl12.1 rfl (e_le rfl) (e_lt hnx rfl) (Nat.zero_le _) (Nat.zero_le _) (e_k ?_)
    refine r_wr0 ?_
    refine r_z_eq F dX12_move_24 (tgt := 36) (by decide) (fun hc => ?_) (fun hc => ?_)
    · have hf := e_t hc hf
      refine r_aload_n F dX12_move_27 rfl ?_
      refine r_iload_n F dX12_move_28 rfl ?_
      refine r_iload_n F dX12_move_29 rfl ?_
      obtain ⟨q5, hq6, hf⟩ := e_bd hf
      refine r_callV F dX12_move_30 (b := 72) (dc := 0) (ds := 0) (As := [.int p0, .int p1]) (S0 := []) lkX12_244 mX12_isCore (tX12_isCore_72 hG (la := x_l X) (h := e_up h [(72, o72 0 a72_2 a72_3 a72_4 a72_5 a72_6 a72_7 a72_8 a72_9 a72_10 a72_11 a72_17 a72_18 a72_19 a72_21 a72_22 a72_29 a72_31 a72_35 a72_37 a72_38 a72_39 a72_40 a72_41 a72_44 a72_50)]) hnx rfl h79 hq6) rfl rfl rfl (e_le rfl) (e_le rfl) (e_le rfl) rfl (ci := 12) e_cl12.1 rfl (e_le rfl) (e_lt hnx rfl) (Nat.zero_le _) (Nat.zero_le _) (e_k ?_)
      refine r_wr0 ?_
      refine r_z_ne F dX12_move_33 (tgt := 42) (by decide) (fun hc => ?_) (fun hc => ?_)
      · have hf := e_t hc hf
        refine r_iload_n F dX12_move_42 rfl ?_
        refine r_i2l F dX12_move_43 ?_
        refine r_lconst F dX12_move_44 (v := 0) (by decide) ?_
        refine r_ldc2 F dX12_move_45 klX12_329 ?_
        obtain ⟨q7, hq8, hf⟩ := e_bd hf
        refine r_callS F dX12_move_48 (dc := 0) (ds := 0) (As := [.long (Int32.toInt64 p2), .long 0, .long 2]) (S0 := []) lkX12_97 mX12_in (tX12_in hG (la := x_l X) (h := e_up h [(72, o72 0 a72_2 a72_3 a72_4 a72_5 a72_6 a72_7 a72_8 a72_9 a72_10 a72_11 a72_17 a72_18 a72_19 a72_21 a72_22 a72_29 a72_31 a72_35 a72_37 a72_38 a72_39 a72_40 a72_41 a72_44 a72_50)]) hnx  hq8) rfl rfl rfl (e_le rfl) (e_le rfl) (e_le rfl) (Nat.zero_le _) (Nat.zero_le _) (e_k ?_)
        refine r_wr0 ?_
        refine r_z_eq F dX12_move_51 (tgt := 77) (by decide) (fun hc => ?_) (fun hc => ?_)
        · have hf := e_t hc hf
          refine r_iload F dX12_move_54 rfl ?_
          refine r_i2l F dX12_move_56 ?_
          refine r_lconst F dX12_move_57 (v := 0) (by decide) ?_
          refine r_ldc2 F dX12_move_58 klX12_291 ?_
          obtain ⟨q9, hq10, hf⟩ := e_bd hf
          refine r_callS F dX12_move_61 (dc := 0) (ds := 0) (As := [.long (Int32.toInt64 p3), .long 0, .long 3]) (S0 := []) lkX12_97 mX12_in (tX12_in hG (la := x_l X) (h := e_up h [(72, o72 0 a72_2 a72_3 a72_4 a72_5 a72_6 a72_7 a72_8 a72_9 a72_10 a72_11 a72_17 a72_18 a72_19 a72_21 a72_22 a72_29 a72_31 a72_35 a72_37 a72_38 a72_39 a72_40 a72_41 a72_44 a72_50)]) hnx  hq10) rfl rfl rfl (e_le rfl) (e_le rfl) (e_le rfl) (Nat.zero_le _) (Nat.zero_le _) (e_k ?_)
          refine r_wr0 ?_
          refine r_z_eq F dX12_move_64 (tgt := 77) (by decide) (fun hc => ?_) (fun hc => ?_)
          · have hf := e_t hc hf
            refine r_aload_n F dX12_move_67 rfl ?_
            refine r_iload_n F dX12_move_68 rfl ?_
            refine r_iload_n F dX12_move_69 rfl ?_
            refine r_iload_n F dX12_move_70 rfl ?_
            obtain ⟨q11, hq12, hf⟩ := e_bd hf
            refine r_callV F dX12_move_71 (b := 72) (dc := 0) (ds := 0) (As := [.int p0, .int p1, .int p2]) (S0 := []) lkX12_357 mX12_isPart (tX12_isPart_72 hG (la := x_l X) (h := e_up h [(72, o72 0 a72_2 a72_3 a72_4 a72_5 a72_6 a72_7 a72_8 a72_9 a72_10 a72_11 a72_17 a72_18 a72_19 a72_21 a72_22 a72_29 a72_31 a72_35 a72_37 a72_38 a72_39 a72_40 a72_41 a72_44 a72_50)]) hnx rfl h79 hq12) rfl rfl rfl (e_le rfl) (e_le rfl) (e_le rfl) rfl (ci := 12) e_cl12.1 rfl (e_le rfl) (e_lt hnx rfl) (Nat.zero_le _) (Nat.zero_le _) (e_k ?_)
            refine r_wr0 ?_
            refine r_z_ne F dX12_move_74 (tgt := 83) (by decide) (fun hc => ?_) (fun hc => ?_)
            · have hf := e_t hc hf
              refine r_aload_n F dX12_move_83 rfl ?_
              obtain ⟨q13, hq14, hf⟩ := e_bd hf
              refine r_callV F dX12_move_84 (b := 72) (dc := 0) (ds := 0) (As := []) (S0 := []) lkX12_238 mX12_laysCores (tX12_laysCores_72 hG (la := x_l X) (h := e_up h [(72, o72 0 a72_2 a72_3 a72_4 a72_5 a72_6 a72_7 a72_8 a72_9 a72_10 a72_11 a72_17 a72_18 a72_19 a72_21 a72_22 a72_29 a72_31 a72_35 a72_37 a72_38 a72_39 a72_40 a72_41 a72_44 a72_50)]) hnx rfl h79 h80 h81 h82 h83 h84 h85 hq14) rfl rfl rfl (e_le rfl) (e_le rfl) (e_le rfl) rfl (ci := 12) e_cl12.1 rfl (e_le rfl) (e_lt hnx rfl) (Nat.zero_le _) (Nat.zero_le _) (e_k ?_)
              refine r_wr (l' := [(72, o72 0 a72_2 a72_3 a72_4 a72_5 a72_6 a72_7 a72_8 a72_9 a72_10 a72_11 a72_17 a72_18 a72_19 a72_21 a72_22 q13.2.1 a72_31 a72_35 a72_37 a72_38 a72_39 a72_40 a72_41 a72_44 a72_50), (81, o81 q13.2.2.1), (82, o82 q13.2.2.2.1), (83, o83 q13.2.2.2.2.1), (84, o84 q13.2.2.2.2.2.1), (85, o85 q13.2.2.2.2.2.2)]) rfl rfl ?_
              refine r_pop F dX12_move_87 rfl ?_
              refine r_iload_n F dX12_move_88 rfl ?_
              refine r_iconst F dX12_move_89 (v := 2) (by decide) ?_
              obtain ⟨q15, hq16, hf⟩ := e_bd hf
              have Jq15 : eRun G X 104 [some (.ref 72), some (.int p0), some (.int p1), some (.int p2), some (.int p3), none, none, none, none] [.int q15] h [(72, o72 0 a72_2 a72_3 a72_4 a72_5 a72_6 a72_7 a72_8 a72_9 a72_10 a72_11 a72_17 a72_18 a72_19 a72_21 a72_22 q13.2.1 a72_31 a72_35 a72_37 a72_38 a72_39 a72_40 a72_41 a72_44 a72_50), (81, o81 q13.2.2.1), (82, o82 q13.2.2.2.1), (83, o83 q13.2.2.2.2.1), (84, o84 q13.2.2.2.2.2.1), (85, o85 q13.2.2.2.2.2.2)] nx 0 0 := by
                refine r_istore F dX12_move_104 (e_le rfl) (L' := [some (.ref 72), some (.int p0), some (.int p1), some (.int p2), some (.int p3), some (.int q15), none, none, none]) rfl ?_
                refine r_iload_n F dX12_move_106 rfl ?_
                refine r_iconst F dX12_move_107 (v := 1) (by decide) ?_
                obtain ⟨q17, hq18, hf⟩ := e_bd hf
                have Jq17 : eRun G X 122 [some (.ref 72), some (.int p0), some (.int p1), none, some (.int p3), some (.int q15), none, none, none] [.int q17] h [(72, o72 0 a72_2 a72_3 a72_4 a72_5 a72_6 a72_7 a72_8 a72_9 a72_10 a72_11 a72_17 a72_18 a72_19 a72_21 a72_22 q13.2.1 a72_31 a72_35 a72_37 a72_38 a72_39 a72_40 a72_41 a72_44 a72_50), (81, o81 q13.2.2.1), (82, o82 q13.2.2.2.1), (83, o83 q13.2.2.2.2.1), (84, o84 q13.2.2.2.2.2.1), (85, o85 q13.2.2.2.2.2.2)] nx 0 0 := by
                  refine r_istore F dX12_move_122 (e_le rfl) (L' := [some (.ref 72), some (.int p0), some (.int p1), none, some (.int p3), some (.int q15), some (.int q17), none, none]) rfl ?_
                  refine r_aload_n F dX12_move_124 rfl ?_
                  refine r_iload_n F dX12_move_125 rfl ?_
                  refine r_iload_n F dX12_move_126 rfl ?_
                  refine r_iload F dX12_move_127 rfl ?_
                  refine r_iload F dX12_move_129 rfl ?_
                  refine r_iload F dX12_move_131 rfl ?_
                  obtain ⟨q19, hq20, hf⟩ := e_bd hf
                  refine r_callV F dX12_move_133 (b := 72) (dc := 0) (ds := 0) (As := [.int p0, .int p1, .int p3, .int q15, .int q17]) (S0 := []) lkX12_361 mX12_coresBehind (tX12_coresBehind_72 hG (la := x_l X) (h := e_up h [(72, o72 0 a72_2 a72_3 a72_4 a72_5 a72_6 a72_7 a72_8 a72_9 a72_10 a72_11 a72_17 a72_18 a72_19 a72_21 a72_22 q13.2.1 a72_31 a72_35 a72_37 a72_38 a72_39 a72_40 a72_41 a72_44 a72_50), (81, o81 q13.2.2.1), (82, o82 q13.2.2.2.1), (83, o83 q13.2.2.2.2.1), (84, o84 q13.2.2.2.2.2.1), (85, o85 q13.2.2.2.2.2.2)]) hnx rfl h79 hq20) rfl rfl rfl (e_le rfl) (e_le rfl) (e_le rfl) rfl (ci := 12) e_cl12.1 rfl (e_le rfl) (e_lt hnx rfl) (Nat.zero_le _) (Nat.zero_le _) (e_k ?_)
                  refine r_wr0 ?_
                  refine r_bipush F dX12_move_136 (v := 12) (by decide) ?_
                  refine r_icmp_le F dX12_move_138 (tgt := 147) (by decide) (fun hc => ?_) (fun hc => ?_)
                  · have hf := e_t hc hf
                    refine r_aload_n F dX12_move_147 rfl ?_
                    obtain ⟨q21, hq22, hf⟩ := e_bd hf
                    refine r_callV F dX12_move_148 (b := 72) (dc := 0) (ds := 0) (As := []) (S0 := []) lkX12_364 mX12_keeps (tX12_keeps_72 hG (la := x_l X) (h := e_up h [(72, o72 0 a72_2 a72_3 a72_4 a72_5 a72_6 a72_7 a72_8 a72_9 a72_10 a72_11 a72_17 a72_18 a72_19 a72_21 a72_22 q13.2.1 a72_31 a72_35 a72_37 a72_38 a72_39 a72_40 a72_41 a72_44 a72_50), (81, o81 q13.2.2.1), (82, o82 q13.2.2.2.1), (83, o83 q13.2.2.2.2.1), (84, o84 q13.2.2.2.2.2.1), (85, o85 q13.2.2.2.2.2.2)]) hnx rfl h79 h86 hq22) rfl rfl rfl (e_le rfl) (e_le rfl) (e_le rfl) rfl (ci := 12) e_cl12.1 rfl (e_le rfl) (e_lt hnx rfl) (Nat.zero_le _) (Nat.zero_le _) (e_k ?_)
                    refine r_wr (l' := [(72, o72 0 a72_2 a72_3 a72_4 a72_5 a72_6 a72_7 a72_8 a72_9 a72_10 a72_11 a72_17 a72_18 a72_19 a72_21 a72_22 q13.2.1 q21.1 a72_35 a72_37 a72_38 a72_39 a72_40 a72_41 a72_44 a72_50), (81, o81 q13.2.2.1), (82, o82 q13.2.2.2.1), (83, o83 q13.2.2.2.2.1), (84, o84 q13.2.2.2.2.2.1), (85, o85 q13.2.2.2.2.2.2), (86, o86 q21.2)]) rfl rfl ?_
                    refine r_iload F dX12_move_151 rfl ?_
                    refine r_iload F dX12_move_153 rfl ?_
                    obtain ⟨q23, hq24, hf⟩ := e_bd hf
                    refine r_callS F dX12_move_155 (dc := 0) (ds := 0) (As := [.int q15, .int q17]) (S0 := []) lkX12_250 mX12_wayOf (tX12_wayOf hG (la := x_l X) (h := e_up h [(72, o72 0 a72_2 a72_3 a72_4 a72_5 a72_6 a72_7 a72_8 a72_9 a72_10 a72_11 a72_17 a72_18 a72_19 a72_21 a72_22 q13.2.1 q21.1 a72_35 a72_37 a72_38 a72_39 a72_40 a72_41 a72_44 a72_50), (81, o81 q13.2.2.1), (82, o82 q13.2.2.2.1), (83, o83 q13.2.2.2.2.1), (84, o84 q13.2.2.2.2.2.1), (85, o85 q13.2.2.2.2.2.2), (86, o86 q21.2)]) hnx  hq24) rfl rfl rfl (e_le rfl) (e_le rfl) (e_le rfl) (Nat.zero_le _) (Nat.zero_le _) (e_k ?_)
                    refine r_wr0 ?_
                    refine r_istore F dX12_move_158 (e_le rfl) (L' := [some (.ref 72), some (.int p0), some (.int p1), none, some (.int p3), some (.int q15), some (.int q17), some (.int q23), none]) rfl ?_
                    refine r_aload_n F dX12_move_160 rfl ?_
                    refine r_iload_n F dX12_move_161 rfl ?_
                    refine r_iload_n F dX12_move_162 rfl ?_
                    refine r_iload F dX12_move_163 rfl ?_
                    refine r_iload F dX12_move_165 rfl ?_
                    refine r_iload F dX12_move_167 rfl ?_
                    obtain ⟨q25, hq26, hf⟩ := e_bd hf
                    refine r_callV F dX12_move_169 (b := 72) (dc := 0) (ds := 0) (As := [.int p0, .int p1, .int p3, .int q15, .int q17]) (S0 := []) lkX12_367 mX12_moves (tX12_moves_72 hG (la := x_l X) (h := e_up h [(72, o72 0 a72_2 a72_3 a72_4 a72_5 a72_6 a72_7 a72_8 a72_9 a72_10 a72_11 a72_17 a72_18 a72_19 a72_21 a72_22 q13.2.1 q21.1 a72_35 a72_37 a72_38 a72_39 a72_40 a72_41 a72_44 a72_50), (81, o81 q13.2.2.1), (82, o82 q13.2.2.2.1), (83, o83 q13.2.2.2.2.1), (84, o84 q13.2.2.2.2.2.1), (85, o85 q13.2.2.2.2.2.2), (86, o86 q21.2)]) hnx rfl h79 hq26) rfl rfl rfl (e_le rfl) (e_le rfl) (e_le rfl) rfl (ci := 12) e_cl12.1 rfl (e_le rfl) (e_lt hnx rfl) (Nat.zero_le _) (Nat.zero_le _) (e_k ?_)
                    refine r_wr (l' := [(72, o72 0 a72_2 a72_3 a72_4 a72_5 a72_6 a72_7 a72_8 a72_9 a72_10 a72_11 a72_17 a72_18 a72_19 a72_21 a72_22 q13.2.1 q21.1 a72_35 a72_37 a72_38 a72_39 a72_40 a72_41 a72_44 a72_50), (79, o79 q25.2), (81, o81 q13.2.2.1), (82, o82 q13.2.2.2.1), (83, o83 q13.2.2.2.2.1), (84, o84 q13.2.2.2.2.2.1), (85, o85 q13.2.2.2.2.2.2), (86, o86 q21.2)]) rfl rfl ?_
                    refine r_istore F dX12_move_172 (e_le rfl) (L' := [some (.ref 72), some (.int p0), some (.int p1), none, some (.int p3), some (.int q15), some (.int q17), some (.int q23), some (.int q25.1)]) rfl ?_
                    refine r_iload F dX12_move_174 rfl ?_
                    refine r_if_eq F dX12_move_176 (tgt := 184) (by decide) (fun hc => ?_) (fun hc => ?_)
                    · have hf := e_t hc hf
                      refine r_iload F dX12_move_184 rfl ?_
                      refine r_iload F dX12_move_186 rfl ?_
                      refine r_iconst F dX12_move_188 (v := 2) (by decide) ?_
                      refine r_irem F dX12_move_189 (by decide) ?_
                      refine r_icmp_ne F dX12_move_190 (tgt := 197) (by decide) (fun hc => ?_) (fun hc => ?_)
                      · have hf := e_f hc hf
                        refine r_iconst F dX12_move_197 (v := 1) (by decide) ?_
                        refine r_mat (k := 87) h87 (l' := [(72, o72 0 a72_2 a72_3 a72_4 a72_5 a72_6 a72_7 a72_8 a72_9 a72_10 a72_11 a72_17 a72_18 a72_19 a72_21 a72_22 q13.2.1 q21.1 a72_35 a72_37 a72_38 a72_39 a72_40 a72_41 a72_44 a72_50), (79, o79 q25.2), (81, o81 q13.2.2.1), (82, o82 q13.2.2.2.1), (83, o83 q13.2.2.2.2.1), (84, o84 q13.2.2.2.2.2.1), (85, o85 q13.2.2.2.2.2.2), (86, o86 q21.2), (87, o87 A87)]) rfl ?_
                        obtain rfl := Option.some.inj hf
                        exact r_iret F hq dX12_move_198 rfl rfl (Nat.le_refl _) (Nat.le_refl _) ⟨rfl, rfl⟩
                      · have hf := e_t hc hf
                        refine r_iconst F dX12_move_193 (v := 0) (by decide) ?_
                        refine r_goto F dX12_move_194 (tgt := 198) (by decide) ?_
                        refine r_mat (k := 87) h87 (l' := [(72, o72 0 a72_2 a72_3 a72_4 a72_5 a72_6 a72_7 a72_8 a72_9 a72_10 a72_11 a72_17 a72_18 a72_19 a72_21 a72_22 q13.2.1 q21.1 a72_35 a72_37 a72_38 a72_39 a72_40 a72_41 a72_44 a72_50), (79, o79 q25.2), (81, o81 q13.2.2.1), (82, o82 q13.2.2.2.1), (83, o83 q13.2.2.2.2.1), (84, o84 q13.2.2.2.2.2.1), (85, o85 q13.2.2.2.2.2.2), (86, o86 q21.2), (87, o87 A87)]) rfl ?_
                        obtain rfl := Option.some.inj hf
                        exact r_iret F hq dX12_move_198 rfl rfl (Nat.le_refl _) (Nat.le_refl _) ⟨rfl, rfl⟩
                    · have hf := e_f hc hf
                      refine r_iload F dX12_move_179 rfl ?_
                      refine r_goto F dX12_move_181 (tgt := 198) (by decide) ?_
                      refine r_mat (k := 87) h87 (l' := [(72, o72 0 a72_2 a72_3 a72_4 a72_5 a72_6 a72_7 a72_8 a72_9 a72_10 a72_11 a72_17 a72_18 a72_19 a72_21 a72_22 q13.2.1 q21.1 a72_35 a72_37 a72_38 a72_39 a72_40 a72_41 a72_44 a72_50), (79, o79 q25.2), (81, o81 q13.2.2.1), (82, o82 q13.2.2.2.1), (83, o83 q13.2.2.2.2.1), (84, o84 q13.2.2.2.2.2.1), (85, o85 q13.2.2.2.2.2.2), (86, o86 q21.2), (87, o87 A87)]) rfl ?_
                      obtain rfl := Option.some.inj hf
                      exact r_iret F hq dX12_move_198 rfl rfl (Nat.le_refl _) (Nat.le_refl _) ⟨rfl, rfl⟩
                  · have hf := e_f hc hf
                    refine r_aload_n F dX12_move_141 rfl ?_
                    refine r_iconst F dX12_move_142 (v := 3) (by decide) ?_
                    obtain ⟨q27, hq28, hf⟩ := e_bd hf
                    refine r_callV F dX12_move_143 (b := 72) (dc := 0) (ds := 0) (As := [.int 3]) (S0 := []) lkX12_354 mX12_refuses (tX12_refuses_72 hG (la := x_l X) (h := e_up h [(72, o72 0 a72_2 a72_3 a72_4 a72_5 a72_6 a72_7 a72_8 a72_9 a72_10 a72_11 a72_17 a72_18 a72_19 a72_21 a72_22 q13.2.1 a72_31 a72_35 a72_37 a72_38 a72_39 a72_40 a72_41 a72_44 a72_50), (81, o81 q13.2.2.1), (82, o82 q13.2.2.2.1), (83, o83 q13.2.2.2.2.1), (84, o84 q13.2.2.2.2.2.1), (85, o85 q13.2.2.2.2.2.2)]) hnx rfl h87 hq28) rfl rfl rfl (e_le rfl) (e_le rfl) (e_le rfl) rfl (ci := 12) e_cl12.1 rfl (e_le rfl) (e_lt hnx rfl) (Nat.zero_le _) (Nat.zero_le _) (e_k ?_)
                    refine r_wr (l' := [(72, o72 0 a72_2 a72_3 a72_4 a72_5 a72_6 a72_7 a72_8 a72_9 a72_10 a72_11 a72_17 a72_18 a72_19 a72_21 a72_22 q13.2.1 a72_31 a72_35 a72_37 a72_38 a72_39 a72_40 a72_41 a72_44 a72_50), (81, o81 q13.2.2.1), (82, o82 q13.2.2.2.1), (83, o83 q13.2.2.2.2.1), (84, o84 q13.2.2.2.2.2.1), (85, o85 q13.2.2.2.2.2.2), (87, o87 q27.2)]) rfl rfl ?_
                    refine r_mat (k := 79) h79 (l' := [(72, o72 0 a72_2 a72_3 a72_4 a72_5 a72_6 a72_7 a72_8 a72_9 a72_10 a72_11 a72_17 a72_18 a72_19 a72_21 a72_22 q13.2.1 a72_31 a72_35 a72_37 a72_38 a72_39 a72_40 a72_41 a72_44 a72_50), (79, o79 A79), (81, o81 q13.2.2.1), (82, o82 q13.2.2.2.1), (83, o83 q13.2.2.2.2.1), (84, o84 q13.2.2.2.2.2.1), (85, o85 q13.2.2.2.2.2.2), (87, o87 q27.2)]) rfl ?_
                    refine r_mat (k := 86) h86 (l' := [(72, o72 0 a72_2 a72_3 a72_4 a72_5 a72_6 a72_7 a72_8 a72_9 a72_10 a72_11 a72_17 a72_18 a72_19 a72_21 a72_22 q13.2.1 a72_31 a72_35 a72_37 a72_38 a72_39 a72_40 a72_41 a72_44 a72_50), (79, o79 A79), (81, o81 q13.2.2.1), (82, o82 q13.2.2.2.1), (83, o83 q13.2.2.2.2.1), (84, o84 q13.2.2.2.2.2.1), (85, o85 q13.2.2.2.2.2.2), (86, o86 A86), (87, o87 q27.2)]) rfl ?_
                    obtain rfl := Option.some.inj hf
                    exact r_iret F hq dX12_move_146 rfl rfl (Nat.le_refl _) (Nat.le_refl _) ⟨rfl, rfl⟩
                refine r_icmp_ne F dX12_move_108 (tgt := 115) (by decide) (fun hc => ?_) (fun hc => ?_)
                · have hq18 := e_f hc hq18
                  refine r_aload_n F dX12_move_115 rfl ?_
                  refine r_iload_n F dX12_move_116 rfl ?_
                  refine r_iload_n F dX12_move_117 rfl ?_
                  refine r_iconst F dX12_move_118 (v := 1) (by decide) ?_
                  obtain ⟨q29, hq30, hq18⟩ := e_bd hq18
                  refine r_callV F dX12_move_119 (b := 72) (dc := 0) (ds := 0) (As := [.int p0, .int p1, .int 1]) (S0 := []) lkX12_221 mX12_vector (tX12_vector_72 hG (la := x_l X) (h := e_up h [(72, o72 0 a72_2 a72_3 a72_4 a72_5 a72_6 a72_7 a72_8 a72_9 a72_10 a72_11 a72_17 a72_18 a72_19 a72_21 a72_22 q13.2.1 a72_31 a72_35 a72_37 a72_38 a72_39 a72_40 a72_41 a72_44 a72_50), (81, o81 q13.2.2.1), (82, o82 q13.2.2.2.1), (83, o83 q13.2.2.2.2.1), (84, o84 q13.2.2.2.2.2.1), (85, o85 q13.2.2.2.2.2.2)]) hnx rfl h79 hq30) rfl rfl rfl (e_le rfl) (e_le rfl) (e_le rfl) rfl (ci := 12) e_cl12.1 rfl (e_le rfl) (e_lt hnx rfl) (Nat.zero_le _) (Nat.zero_le _) (e_k ?_)
                  refine r_wr0 ?_
                  refine r_drop 3 (L' := [some (.ref 72), some (.int p0), some (.int p1), none, some (.int p3), some (.int q15), none, none, none]) rfl ?_
                  obtain rfl := Option.some.inj hq18
                  exact Jq17
                · have hq18 := e_t hc hq18
                  refine r_iconst F dX12_move_111 (v := 0) (by decide) ?_
                  refine r_goto F dX12_move_112 (tgt := 122) (by decide) ?_
                  refine r_drop 3 (L' := [some (.ref 72), some (.int p0), some (.int p1), none, some (.int p3), some (.int q15), none, none, none]) rfl ?_
                  obtain rfl := Option.some.inj hq18
                  exact Jq17
              refine r_icmp_ne F dX12_move_90 (tgt := 97) (by decide) (fun hc => ?_) (fun hc => ?_)
              · have hq16 := e_f hc hq16
                refine r_aload_n F dX12_move_97 rfl ?_
                refine r_iload_n F dX12_move_98 rfl ?_
                refine r_iload_n F dX12_move_99 rfl ?_
                refine r_iconst F dX12_move_100 (v := 0) (by decide) ?_
                obtain ⟨q31, hq32, hq16⟩ := e_bd hq16
                refine r_callV F dX12_move_101 (b := 72) (dc := 0) (ds := 0) (As := [.int p0, .int p1, .int 0]) (S0 := []) lkX12_221 mX12_vector (tX12_vector_72 hG (la := x_l X) (h := e_up h [(72, o72 0 a72_2 a72_3 a72_4 a72_5 a72_6 a72_7 a72_8 a72_9 a72_10 a72_11 a72_17 a72_18 a72_19 a72_21 a72_22 q13.2.1 a72_31 a72_35 a72_37 a72_38 a72_39 a72_40 a72_41 a72_44 a72_50), (81, o81 q13.2.2.1), (82, o82 q13.2.2.2.1), (83, o83 q13.2.2.2.2.1), (84, o84 q13.2.2.2.2.2.1), (85, o85 q13.2.2.2.2.2.2)]) hnx rfl h79 hq32) rfl rfl rfl (e_le rfl) (e_le rfl) (e_le rfl) rfl (ci := 12) e_cl12.1 rfl (e_le rfl) (e_lt hnx rfl) (Nat.zero_le _) (Nat.zero_le _) (e_k ?_)
                refine r_wr0 ?_
                obtain rfl := Option.some.inj hq16
                exact Jq15
              · have hq16 := e_t hc hq16
                refine r_iconst F dX12_move_93 (v := 0) (by decide) ?_
                refine r_goto F dX12_move_94 (tgt := 104) (by decide) ?_
                obtain rfl := Option.some.inj hq16
                exact Jq15
            · have hf := e_f hc hf
              refine r_aload_n F dX12_move_77 rfl ?_
              refine r_iconst F dX12_move_78 (v := 2) (by decide) ?_
              obtain ⟨q33, hq34, hf⟩ := e_bd hf
              refine r_callV F dX12_move_79 (b := 72) (dc := 0) (ds := 0) (As := [.int 2]) (S0 := []) lkX12_354 mX12_refuses (tX12_refuses_72 hG (la := x_l X) (h := e_up h [(72, o72 0 a72_2 a72_3 a72_4 a72_5 a72_6 a72_7 a72_8 a72_9 a72_10 a72_11 a72_17 a72_18 a72_19 a72_21 a72_22 a72_29 a72_31 a72_35 a72_37 a72_38 a72_39 a72_40 a72_41 a72_44 a72_50)]) hnx rfl h87 hq34) rfl rfl rfl (e_le rfl) (e_le rfl) (e_le rfl) rfl (ci := 12) e_cl12.1 rfl (e_le rfl) (e_lt hnx rfl) (Nat.zero_le _) (Nat.zero_le _) (e_k ?_)
              refine r_wr (l' := [(72, o72 0 a72_2 a72_3 a72_4 a72_5 a72_6 a72_7 a72_8 a72_9 a72_10 a72_11 a72_17 a72_18 a72_19 a72_21 a72_22 a72_29 a72_31 a72_35 a72_37 a72_38 a72_39 a72_40 a72_41 a72_44 a72_50), (87, o87 q33.2)]) rfl rfl ?_
              refine r_mat (k := 79) h79 (l' := [(72, o72 0 a72_2 a72_3 a72_4 a72_5 a72_6 a72_7 a72_8 a72_9 a72_10 a72_11 a72_17 a72_18 a72_19 a72_21 a72_22 a72_29 a72_31 a72_35 a72_37 a72_38 a72_39 a72_40 a72_41 a72_44 a72_50), (79, o79 A79), (87, o87 q33.2)]) rfl ?_
              refine r_mat (k := 81) h81 (l' := [(72, o72 0 a72_2 a72_3 a72_4 a72_5 a72_6 a72_7 a72_8 a72_9 a72_10 a72_11 a72_17 a72_18 a72_19 a72_21 a72_22 a72_29 a72_31 a72_35 a72_37 a72_38 a72_39 a72_40 a72_41 a72_44 a72_50), (79, o79 A79), (81, o81 A81), (87, o87 q33.2)]) rfl ?_
              refine r_mat (k := 82) h82 (l' := [(72, o72 0 a72_2 a72_3 a72_4 a72_5 a72_6 a72_7 a72_8 a72_9 a72_10 a72_11 a72_17 a72_18 a72_19 a72_21 a72_22 a72_29 a72_31 a72_35 a72_37 a72_38 a72_39 a72_40 a72_41 a72_44 a72_50), (79, o79 A79), (81, o81 A81), (82, o82 A82), (87, o87 q33.2)]) rfl ?_
              refine r_mat (k := 83) h83 (l' := [(72, o72 0 a72_2 a72_3 a72_4 a72_5 a72_6 a72_7 a72_8 a72_9 a72_10 a72_11 a72_17 a72_18 a72_19 a72_21 a72_22 a72_29 a72_31 a72_35 a72_37 a72_38 a72_39 a72_40 a72_41 a72_44 a72_50), (79, o79 A79), (81, o81 A81), (82, o82 A82), (83, o83 A83), (87, o87 q33.2)]) rfl ?_
              refine r_mat (k := 84) h84 (l' := [(72, o72 0 a72_2 a72_3 a72_4 a72_5 a72_6 a72_7 a72_8 a72_9 a72_10 a72_11 a72_17 a72_18 a72_19 a72_21 a72_22 a72_29 a72_31 a72_35 a72_37 a72_38 a72_39 a72_40 a72_41 a72_44 a72_50), (79, o79 A79), (81, o81 A81), (82, o82 A82), (83, o83 A83), (84, o84 A84), (87, o87 q33.2)]) rfl ?_
              refine r_mat (k := 85) h85 (l' := [(72, o72 0 a72_2 a72_3 a72_4 a72_5 a72_6 a72_7 a72_8 a72_9 a72_10 a72_11 a72_17 a72_18 a72_19 a72_21 a72_22 a72_29 a72_31 a72_35 a72_37 a72_38 a72_39 a72_40 a72_41 a72_44 a72_50), (79, o79 A79), (81, o81 A81), (82, o82 A82), (83, o83 A83), (84, o84 A84), (85, o85 A85), (87, o87 q33.2)]) rfl ?_
              refine r_mat (k := 86) h86 (l' := [(72, o72 0 a72_2 a72_3 a72_4 a72_5 a72_6 a72_7 a72_8 a72_9 a72_10 a72_11 a72_17 a72_18 a72_19 a72_21 a72_22 a72_29 a72_31 a72_35 a72_37 a72_38 a72_39 a72_40 a72_41 a72_44 a72_50), (79, o79 A79), (81, o81 A81), (82, o82 A82), (83, o83 A83), (84, o84 A84), (85, o85 A85), (86, o86 A86), (87, o87 q33.2)]) rfl ?_
              obtain rfl := Option.some.inj hf
              exact r_iret F hq dX12_move_82 rfl rfl (Nat.le_refl _) (Nat.le_refl _) ⟨rfl, rfl⟩
          · have hf := e_f hc hf
            refine r_aload_n F dX12_move_77 rfl ?_
            refine r_iconst F dX12_move_78 (v := 2) (by decide) ?_
            obtain ⟨q35, hq36, hf⟩ := e_bd hf
            refine r_callV F dX12_move_79 (b := 72) (dc := 0) (ds := 0) (As := [.int 2]) (S0 := []) lkX12_354 mX12_refuses (tX12_refuses_72 hG (la := x_l X) (h := e_up h [(72, o72 0 a72_2 a72_3 a72_4 a72_5 a72_6 a72_7 a72_8 a72_9 a72_10 a72_11 a72_17 a72_18 a72_19 a72_21 a72_22 a72_29 a72_31 a72_35 a72_37 a72_38 a72_39 a72_40 a72_41 a72_44 a72_50)]) hnx rfl h87 hq36) rfl rfl rfl (e_le rfl) (e_le rfl) (e_le rfl) rfl (ci := 12) e_cl12.1 rfl (e_le rfl) (e_lt hnx rfl) (Nat.zero_le _) (Nat.zero_le _) (e_k ?_)
            refine r_wr (l' := [(72, o72 0 a72_2 a72_3 a72_4 a72_5 a72_6 a72_7 a72_8 a72_9 a72_10 a72_11 a72_17 a72_18 a72_19 a72_21 a72_22 a72_29 a72_31 a72_35 a72_37 a72_38 a72_39 a72_40 a72_41 a72_44 a72_50), (87, o87 q35.2)]) rfl rfl ?_
            refine r_mat (k := 79) h79 (l' := [(72, o72 0 a72_2 a72_3 a72_4 a72_5 a72_6 a72_7 a72_8 a72_9 a72_10 a72_11 a72_17 a72_18 a72_19 a72_21 a72_22 a72_29 a72_31 a72_35 a72_37 a72_38 a72_39 a72_40 a72_41 a72_44 a72_50), (79, o79 A79), (87, o87 q35.2)]) rfl ?_
            refine r_mat (k := 81) h81 (l' := [(72, o72 0 a72_2 a72_3 a72_4 a72_5 a72_6 a72_7 a72_8 a72_9 a72_10 a72_11 a72_17 a72_18 a72_19 a72_21 a72_22 a72_29 a72_31 a72_35 a72_37 a72_38 a72_39 a72_40 a72_41 a72_44 a72_50), (79, o79 A79), (81, o81 A81), (87, o87 q35.2)]) rfl ?_
            refine r_mat (k := 82) h82 (l' := [(72, o72 0 a72_2 a72_3 a72_4 a72_5 a72_6 a72_7 a72_8 a72_9 a72_10 a72_11 a72_17 a72_18 a72_19 a72_21 a72_22 a72_29 a72_31 a72_35 a72_37 a72_38 a72_39 a72_40 a72_41 a72_44 a72_50), (79, o79 A79), (81, o81 A81), (82, o82 A82), (87, o87 q35.2)]) rfl ?_
            refine r_mat (k := 83) h83 (l' := [(72, o72 0 a72_2 a72_3 a72_4 a72_5 a72_6 a72_7 a72_8 a72_9 a72_10 a72_11 a72_17 a72_18 a72_19 a72_21 a72_22 a72_29 a72_31 a72_35 a72_37 a72_38 a72_39 a72_40 a72_41 a72_44 a72_50), (79, o79 A79), (81, o81 A81), (82, o82 A82), (83, o83 A83), (87, o87 q35.2)]) rfl ?_
            refine r_mat (k := 84) h84 (l' := [(72, o72 0 a72_2 a72_3 a72_4 a72_5 a72_6 a72_7 a72_8 a72_9 a72_10 a72_11 a72_17 a72_18 a72_19 a72_21 a72_22 a72_29 a72_31 a72_35 a72_37 a72_38 a72_39 a72_40 a72_41 a72_44 a72_50), (79, o79 A79), (81, o81 A81), (82, o82 A82), (83, o83 A83), (84, o84 A84), (87, o87 q35.2)]) rfl ?_
            refine r_mat (k := 85) h85 (l' := [(72, o72 0 a72_2 a72_3 a72_4 a72_5 a72_6 a72_7 a72_8 a72_9 a72_10 a72_11 a72_17 a72_18 a72_19 a72_21 a72_22 a72_29 a72_31 a72_35 a72_37 a72_38 a72_39 a72_40 a72_41 a72_44 a72_50), (79, o79 A79), (81, o81 A81), (82, o82 A82), (83, o83 A83), (84, o84 A84), (85, o85 A85), (87, o87 q35.2)]) rfl ?_
            refine r_mat (k := 86) h86 (l' := [(72, o72 0 a72_2 a72_3 a72_4 a72_5 a72_6 a72_7 a72_8 a72_9 a72_10 a72_11 a72_17 a72_18 a72_19 a72_21 a72_22 a72_29 a72_31 a72_35 a72_37 a72_38 a72_39 a72_40 a72_41 a72_44 a72_50), (79, o79 A79), (81, o81 A81), (82, o82 A82), (83, o83 A83), (84, o84 A84), (85, o85 A85), (86, o86 A86), (87, o87 q35.2)]) rfl ?_
            obtain rfl := Option.some.inj hf
            exact r_iret F hq dX12_move_82 rfl rfl (Nat.le_refl _) (Nat.le_refl _) ⟨rfl, rfl⟩
        · have hf := e_f hc hf
          refine r_aload_n F dX12_move_77 rfl ?_
          refine r_iconst F dX12_move_78 (v := 2) (by decide) ?_
          obtain ⟨q37, hq38, hf⟩ := e_bd hf
          refine r_callV F dX12_move_79 (b := 72) (dc := 0) (ds := 0) (As := [.int 2]) (S0 := []) lkX12_354 mX12_refuses (tX12_refuses_72 hG (la := x_l X) (h := e_up h [(72, o72 0 a72_2 a72_3 a72_4 a72_5 a72_6 a72_7 a72_8 a72_9 a72_10 a72_11 a72_17 a72_18 a72_19 a72_21 a72_22 a72_29 a72_31 a72_35 a72_37 a72_38 a72_39 a72_40 a72_41 a72_44 a72_50)]) hnx rfl h87 hq38) rfl rfl rfl (e_le rfl) (e_le rfl) (e_le rfl) rfl (ci := 12) e_cl12.1 rfl (e_le rfl) (e_lt hnx rfl) (Nat.zero_le _) (Nat.zero_le _) (e_k ?_)
          refine r_wr (l' := [(72, o72 0 a72_2 a72_3 a72_4 a72_5 a72_6 a72_7 a72_8 a72_9 a72_10 a72_11 a72_17 a72_18 a72_19 a72_21 a72_22 a72_29 a72_31 a72_35 a72_37 a72_38 a72_39 a72_40 a72_41 a72_44 a72_50), (87, o87 q37.2)]) rfl rfl ?_
          refine r_mat (k := 79) h79 (l' := [(72, o72 0 a72_2 a72_3 a72_4 a72_5 a72_6 a72_7 a72_8 a72_9 a72_10 a72_11 a72_17 a72_18 a72_19 a72_21 a72_22 a72_29 a72_31 a72_35 a72_37 a72_38 a72_39 a72_40 a72_41 a72_44 a72_50), (79, o79 A79), (87, o87 q37.2)]) rfl ?_
          refine r_mat (k := 81) h81 (l' := [(72, o72 0 a72_2 a72_3 a72_4 a72_5 a72_6 a72_7 a72_8 a72_9 a72_10 a72_11 a72_17 a72_18 a72_19 a72_21 a72_22 a72_29 a72_31 a72_35 a72_37 a72_38 a72_39 a72_40 a72_41 a72_44 a72_50), (79, o79 A79), (81, o81 A81), (87, o87 q37.2)]) rfl ?_
          refine r_mat (k := 82) h82 (l' := [(72, o72 0 a72_2 a72_3 a72_4 a72_5 a72_6 a72_7 a72_8 a72_9 a72_10 a72_11 a72_17 a72_18 a72_19 a72_21 a72_22 a72_29 a72_31 a72_35 a72_37 a72_38 a72_39 a72_40 a72_41 a72_44 a72_50), (79, o79 A79), (81, o81 A81), (82, o82 A82), (87, o87 q37.2)]) rfl ?_
          refine r_mat (k := 83) h83 (l' := [(72, o72 0 a72_2 a72_3 a72_4 a72_5 a72_6 a72_7 a72_8 a72_9 a72_10 a72_11 a72_17 a72_18 a72_19 a72_21 a72_22 a72_29 a72_31 a72_35 a72_37 a72_38 a72_39 a72_40 a72_41 a72_44 a72_50), (79, o79 A79), (81, o81 A81), (82, o82 A82), (83, o83 A83), (87, o87 q37.2)]) rfl ?_
          refine r_mat (k := 84) h84 (l' := [(72, o72 0 a72_2 a72_3 a72_4 a72_5 a72_6 a72_7 a72_8 a72_9 a72_10 a72_11 a72_17 a72_18 a72_19 a72_21 a72_22 a72_29 a72_31 a72_35 a72_37 a72_38 a72_39 a72_40 a72_41 a72_44 a72_50), (79, o79 A79), (81, o81 A81), (82, o82 A82), (83, o83 A83), (84, o84 A84), (87, o87 q37.2)]) rfl ?_
          refine r_mat (k := 85) h85 (l' := [(72, o72 0 a72_2 a72_3 a72_4 a72_5 a72_6 a72_7 a72_8 a72_9 a72_10 a72_11 a72_17 a72_18 a72_19 a72_21 a72_22 a72_29 a72_31 a72_35 a72_37 a72_38 a72_39 a72_40 a72_41 a72_44 a72_50), (79, o79 A79), (81, o81 A81), (82, o82 A82), (83, o83 A83), (84, o84 A84), (85, o85 A85), (87, o87 q37.2)]) rfl ?_
          refine r_mat (k := 86) h86 (l' := [(72, o72 0 a72_2 a72_3 a72_4 a72_5 a72_6 a72_7 a72_8 a72_9 a72_10 a72_11 a72_17 a72_18 a72_19 a72_21 a72_22 a72_29 a72_31 a72_35 a72_37 a72_38 a72_39 a72_40 a72_41 a72_44 a72_50), (79, o79 A79), (81, o81 A81), (82, o82 A82), (83, o83 A83), (84, o84 A84), (85, o85 A85), (86, o86 A86), (87, o87 q37.2)]) rfl ?_
          obtain rfl := Option.some.inj hf
          exact r_iret F hq dX12_move_82 rfl rfl (Nat.le_refl _) (Nat.le_refl _) ⟨rfl, rfl⟩
      · have hf := e_f hc hf
        refine r_aload_n F dX12_move_36 rfl ?_
        refine r_iconst F dX12_move_37 (v := 1) (by decide) ?_
        obtain ⟨q39, hq40, hf⟩ := e_bd hf
        refine r_callV F dX12_move_38 (b := 72) (dc := 0) (ds := 0) (As := [.int 1]) (S0 := []) lkX12_354 mX12_refuses (tX12_refuses_72 hG (la := x_l X) (h := e_up h [(72, o72 0 a72_2 a72_3 a72_4 a72_5 a72_6 a72_7 a72_8 a72_9 a72_10 a72_11 a72_17 a72_18 a72_19 a72_21 a72_22 a72_29 a72_31 a72_35 a72_37 a72_38 a72_39 a72_40 a72_41 a72_44 a72_50)]) hnx rfl h87 hq40) rfl rfl rfl (e_le rfl) (e_le rfl) (e_le rfl) rfl (ci := 12) e_cl12.1 rfl (e_le rfl) (e_lt hnx rfl) (Nat.zero_le _) (Nat.zero_le _) (e_k ?_)
        refine r_wr (l' := [(72, o72 0 a72_2 a72_3 a72_4 a72_5 a72_6 a72_7 a72_8 a72_9 a72_10 a72_11 a72_17 a72_18 a72_19 a72_21 a72_22 a72_29 a72_31 a72_35 a72_37 a72_38 a72_39 a72_40 a72_41 a72_44 a72_50), (87, o87 q39.2)]) rfl rfl ?_
        refine r_mat (k := 79) h79 (l' := [(72, o72 0 a72_2 a72_3 a72_4 a72_5 a72_6 a72_7 a72_8 a72_9 a72_10 a72_11 a72_17 a72_18 a72_19 a72_21 a72_22 a72_29 a72_31 a72_35 a72_37 a72_38 a72_39 a72_40 a72_41 a72_44 a72_50), (79, o79 A79), (87, o87 q39.2)]) rfl ?_
        refine r_mat (k := 81) h81 (l' := [(72, o72 0 a72_2 a72_3 a72_4 a72_5 a72_6 a72_7 a72_8 a72_9 a72_10 a72_11 a72_17 a72_18 a72_19 a72_21 a72_22 a72_29 a72_31 a72_35 a72_37 a72_38 a72_39 a72_40 a72_41 a72_44 a72_50), (79, o79 A79), (81, o81 A81), (87, o87 q39.2)]) rfl ?_
        refine r_mat (k := 82) h82 (l' := [(72, o72 0 a72_2 a72_3 a72_4 a72_5 a72_6 a72_7 a72_8 a72_9 a72_10 a72_11 a72_17 a72_18 a72_19 a72_21 a72_22 a72_29 a72_31 a72_35 a72_37 a72_38 a72_39 a72_40 a72_41 a72_44 a72_50), (79, o79 A79), (81, o81 A81), (82, o82 A82), (87, o87 q39.2)]) rfl ?_
        refine r_mat (k := 83) h83 (l' := [(72, o72 0 a72_2 a72_3 a72_4 a72_5 a72_6 a72_7 a72_8 a72_9 a72_10 a72_11 a72_17 a72_18 a72_19 a72_21 a72_22 a72_29 a72_31 a72_35 a72_37 a72_38 a72_39 a72_40 a72_41 a72_44 a72_50), (79, o79 A79), (81, o81 A81), (82, o82 A82), (83, o83 A83), (87, o87 q39.2)]) rfl ?_
        refine r_mat (k := 84) h84 (l' := [(72, o72 0 a72_2 a72_3 a72_4 a72_5 a72_6 a72_7 a72_8 a72_9 a72_10 a72_11 a72_17 a72_18 a72_19 a72_21 a72_22 a72_29 a72_31 a72_35 a72_37 a72_38 a72_39 a72_40 a72_41 a72_44 a72_50), (79, o79 A79), (81, o81 A81), (82, o82 A82), (83, o83 A83), (84, o84 A84), (87, o87 q39.2)]) rfl ?_
        refine r_mat (k := 85) h85 (l' := [(72, o72 0 a72_2 a72_3 a72_4 a72_5 a72_6 a72_7 a72_8 a72_9 a72_10 a72_11 a72_17 a72_18 a72_19 a72_21 a72_22 a72_29 a72_31 a72_35 a72_37 a72_38 a72_39 a72_40 a72_41 a72_44 a72_50), (79, o79 A79), (81, o81 A81), (82, o82 A82), (83, o83 A83), (84, o84 A84), (85, o85 A85), (87, o87 q39.2)]) rfl ?_
        refine r_mat (k := 86) h86 (l' := [(72, o72 0 a72_2 a72_3 a72_4 a72_5 a72_6 a72_7 a72_8 a72_9 a72_10 a72_11 a72_17 a72_18 a72_19 a72_21 a72_22 a72_29 a72_31 a72_35 a72_37 a72_38 a72_39 a72_40 a72_41 a72_44 a72_50), (79, o79 A79), (81, o81 A81), (82, o82 A82), (83, o83 A83), (84, o84 A84), (85, o85 A85), (86, o86 A86), (87, o87 q39.2)]) rfl ?_
        obtain rfl := Option.some.inj hf
        exact r_iret F hq dX12_move_41 rfl rfl (Nat.le_refl _) (Nat.le_refl _) ⟨rfl, rfl⟩
    · have hf := e_f hc hf
      refine r_aload_n F dX12_move_36 rfl ?_
      refine r_iconst F dX12_move_37 (v := 1) (by decide) ?_
      obtain ⟨q41, hq42, hf⟩ := e_bd hf
      refine r_callV F dX12_move_38 (b := 72) (dc := 0) (ds := 0) (As := [.int 1]) (S0 := []) lkX12_354 mX12_refuses (tX12_refuses_72 hG (la := x_l X) (h := e_up h [(72, o72 0 a72_2 a72_3 a72_4 a72_5 a72_6 a72_7 a72_8 a72_9 a72_10 a72_11 a72_17 a72_18 a72_19 a72_21 a72_22 a72_29 a72_31 a72_35 a72_37 a72_38 a72_39 a72_40 a72_41 a72_44 a72_50)]) hnx rfl h87 hq42) rfl rfl rfl (e_le rfl) (e_le rfl) (e_le rfl) rfl (ci := 12) e_cl12.1 rfl (e_le rfl) (e_lt hnx rfl) (Nat.zero_le _) (Nat.zero_le _) (e_k ?_)
      refine r_wr (l' := [(72, o72 0 a72_2 a72_3 a72_4 a72_5 a72_6 a72_7 a72_8 a72_9 a72_10 a72_11 a72_17 a72_18 a72_19 a72_21 a72_22 a72_29 a72_31 a72_35 a72_37 a72_38 a72_39 a72_40 a72_41 a72_44 a72_50), (87, o87 q41.2)]) rfl rfl ?_
      refine r_mat (k := 79) h79 (l' := [(72, o72 0 a72_2 a72_3 a72_4 a72_5 a72_6 a72_7 a72_8 a72_9 a72_10 a72_11 a72_17 a72_18 a72_19 a72_21 a72_22 a72_29 a72_31 a72_35 a72_37 a72_38 a72_39 a72_40 a72_41 a72_44 a72_50), (79, o79 A79), (87, o87 q41.2)]) rfl ?_
      refine r_mat (k := 81) h81 (l' := [(72, o72 0 a72_2 a72_3 a72_4 a72_5 a72_6 a72_7 a72_8 a72_9 a72_10 a72_11 a72_17 a72_18 a72_19 a72_21 a72_22 a72_29 a72_31 a72_35 a72_37 a72_38 a72_39 a72_40 a72_41 a72_44 a72_50), (79, o79 A79), (81, o81 A81), (87, o87 q41.2)]) rfl ?_
      refine r_mat (k := 82) h82 (l' := [(72, o72 0 a72_2 a72_3 a72_4 a72_5 a72_6 a72_7 a72_8 a72_9 a72_10 a72_11 a72_17 a72_18 a72_19 a72_21 a72_22 a72_29 a72_31 a72_35 a72_37 a72_38 a72_39 a72_40 a72_41 a72_44 a72_50), (79, o79 A79), (81, o81 A81), (82, o82 A82), (87, o87 q41.2)]) rfl ?_
      refine r_mat (k := 83) h83 (l' := [(72, o72 0 a72_2 a72_3 a72_4 a72_5 a72_6 a72_7 a72_8 a72_9 a72_10 a72_11 a72_17 a72_18 a72_19 a72_21 a72_22 a72_29 a72_31 a72_35 a72_37 a72_38 a72_39 a72_40 a72_41 a72_44 a72_50), (79, o79 A79), (81, o81 A81), (82, o82 A82), (83, o83 A83), (87, o87 q41.2)]) rfl ?_
      refine r_mat (k := 84) h84 (l' := [(72, o72 0 a72_2 a72_3 a72_4 a72_5 a72_6 a72_7 a72_8 a72_9 a72_10 a72_11 a72_17 a72_18 a72_19 a72_21 a72_22 a72_29 a72_31 a72_35 a72_37 a72_38 a72_39 a72_40 a72_41 a72_44 a72_50), (79, o79 A79), (81, o81 A81), (82, o82 A82), (83, o83 A83), (84, o84 A84), (87, o87 q41.2)]) rfl ?_
      refine r_mat (k := 85) h85 (l' := [(72, o72 0 a72_2 a72_3 a72_4 a72_5 a72_6 a72_7 a72_8 a72_9 a72_10 a72_11 a72_17 a72_18 a72_19 a72_21 a72_22 a72_29 a72_31 a72_35 a72_37 a72_38 a72_39 a72_40 a72_41 a72_44 a72_50), (79, o79 A79), (81, o81 A81), (82, o82 A82), (83, o83 A83), (84, o84 A84), (85, o85 A85), (87, o87 q41.2)]) rfl ?_
      refine r_mat (k := 86) h86 (l' := [(72, o72 0 a72_2 a72_3 a72_4 a72_5 a72_6 a72_7 a72_8 a72_9 a72_10 a72_11 a72_17 a72_18 a72_19 a72_21 a72_22 a72_29 a72_31 a72_35 a72_37 a72_38 a72_39 a72_40 a72_41 a72_44 a72_50), (79, o79 A79), (81, o81 A81), (82, o82 A82), (83, o83 A83), (84, o84 A84), (85, o85 A85), (86, o86 A86), (87, o87 q41.2)]) rfl ?_
      obtain rfl := Option.some.inj hf
      exact r_iret F hq dX12_move_41 rfl rfl (Nat.le_refl _) (Nat.le_refl _) ⟨rfl, rfl⟩
  · have hf := e_f hc hf
    refine r_aload_n F dX12_move_12 rfl ?_
    refine r_iconst F dX12_move_13 (v := 0) (by decide) ?_
    obtain ⟨q43, hq44, hf⟩ := e_bd hf
    refine r_callV F dX12_move_14 (b := 72) (dc := 0) (ds := 0) (As := [.int 0]) (S0 := []) lkX12_354 mX12_refuses (tX12_refuses_72 hG (la := x_l X) (h := e_up h [(72, o72 0 a72_2 a72_3 a72_4 a72_5 a72_6 a72_7 a72_8 a72_9 a72_10 a72_11 a72_17 a72_18 a72_19 a72_21 a72_22 a72_29 a72_31 a72_35 a72_37 a72_38 a72_39 a72_40 a72_41 a72_44 a72_50)]) hnx rfl h87 hq44) rfl rfl rfl (e_le rfl) (e_le rfl) (e_le rfl) rfl (ci := 12) e_cl12.1 rfl (e_le rfl) (e_lt hnx rfl) (Nat.zero_le _) (Nat.zero_le _) (e_k ?_)
    refine r_wr (l' := [(72, o72 0 a72_2 a72_3 a72_4 a72_5 a72_6 a72_7 a72_8 a72_9 a72_10 a72_11 a72_17 a72_18 a72_19 a72_21 a72_22 a72_29 a72_31 a72_35 a72_37 a72_38 a72_39 a72_40 a72_41 a72_44 a72_50), (87, o87 q43.2)]) rfl rfl ?_
    refine r_mat (k := 79) h79 (l' := [(72, o72 0 a72_2 a72_3 a72_4 a72_5 a72_6 a72_7 a72_8 a72_9 a72_10 a72_11 a72_17 a72_18 a72_19 a72_21 a72_22 a72_29 a72_31 a72_35 a72_37 a72_38 a72_39 a72_40 a72_41 a72_44 a72_50), (79, o79 A79), (87, o87 q43.2)]) rfl ?_
    refine r_mat (k := 81) h81 (l' := [(72, o72 0 a72_2 a72_3 a72_4 a72_5 a72_6 a72_7 a72_8 a72_9 a72_10 a72_11 a72_17 a72_18 a72_19 a72_21 a72_22 a72_29 a72_31 a72_35 a72_37 a72_38 a72_39 a72_40 a72_41 a72_44 a72_50), (79, o79 A79), (81, o81 A81), (87, o87 q43.2)]) rfl ?_
    refine r_mat (k := 82) h82 (l' := [(72, o72 0 a72_2 a72_3 a72_4 a72_5 a72_6 a72_7 a72_8 a72_9 a72_10 a72_11 a72_17 a72_18 a72_19 a72_21 a72_22 a72_29 a72_31 a72_35 a72_37 a72_38 a72_39 a72_40 a72_41 a72_44 a72_50), (79, o79 A79), (81, o81 A81), (82, o82 A82), (87, o87 q43.2)]) rfl ?_
    refine r_mat (k := 83) h83 (l' := [(72, o72 0 a72_2 a72_3 a72_4 a72_5 a72_6 a72_7 a72_8 a72_9 a72_10 a72_11 a72_17 a72_18 a72_19 a72_21 a72_22 a72_29 a72_31 a72_35 a72_37 a72_38 a72_39 a72_40 a72_41 a72_44 a72_50), (79, o79 A79), (81, o81 A81), (82, o82 A82), (83, o83 A83), (87, o87 q43.2)]) rfl ?_
    refine r_mat (k := 84) h84 (l' := [(72, o72 0 a72_2 a72_3 a72_4 a72_5 a72_6 a72_7 a72_8 a72_9 a72_10 a72_11 a72_17 a72_18 a72_19 a72_21 a72_22 a72_29 a72_31 a72_35 a72_37 a72_38 a72_39 a72_40 a72_41 a72_44 a72_50), (79, o79 A79), (81, o81 A81), (82, o82 A82), (83, o83 A83), (84, o84 A84), (87, o87 q43.2)]) rfl ?_
    refine r_mat (k := 85) h85 (l' := [(72, o72 0 a72_2 a72_3 a72_4 a72_5 a72_6 a72_7 a72_8 a72_9 a72_10 a72_11 a72_17 a72_18 a72_19 a72_21 a72_22 a72_29 a72_31 a72_35 a72_37 a72_38 a72_39 a72_40 a72_41 a72_44 a72_50), (79, o79 A79), (81, o81 A81), (82, o82 A82), (83, o83 A83), (84, o84 A84), (85, o85 A85), (87, o87 q43.2)]) rfl ?_
    refine r_mat (k := 86) h86 (l' := [(72, o72 0 a72_2 a72_3 a72_4 a72_5 a72_6 a72_7 a72_8 a72_9 a72_10 a72_11 a72_17 a72_18 a72_19 a72_21 a72_22 a72_29 a72_31 a72_35 a72_37 a72_38 a72_39 a72_40 a72_41 a72_44 a72_50), (79, o79 A79), (81, o81 A81), (82, o82 A82), (83, o83 A83), (84, o84 A84), (85, o85 A85), (86, o86 A86), (87, o87 q43.2)]) rfl ?_
    obtain rfl := Option.some.inj hf
    exact r_iret F hq dX12_move_17 rfl rfl (Nat.le_refl _) (Nat.le_refl _) ⟨rfl, rfl⟩

def fX12_path (a72_0 : Int32) (a72_2 : Int32) (a72_21 : Int32) (a72_22 : Int32) (a72_37 : Bool) (A73 : Nat → Int32) (A79 : Nat → Int32) (A90 : Nat → Int32) (p0 : Int32) (p1 : Int32) : Option (Int32 × Int32 × Int32 × Bool × (Nat → Int32)) :=
  (fX12_isCrystal a72_21).bind (fun q1 =>
  if q1 = true then
    (fX12_isSite a72_21 a72_22 p0 p1).bind (fun q3 =>
    if q3 = true then
      (e_loop (fun (v7 : Int32 × Int32 × Int32 × Int32 × Int32) => (
          if a72_2 ≤ v7.2.2.2.2 then
            some (.inr (.inl (v7.1, v7.2.1, v7.2.2.1, v7.2.2.2.1)))
          else
            e_g (e_in v7.2.2.2.2 300) (
            Option.bind (α := Int32) (
              if (A73 (tn v7.2.2.2.2)) = 114 then
                some 0
              else
                if (A73 (tn v7.2.2.2.2)) = 117 then
                  some 1
                else
                  if (A73 (tn v7.2.2.2.2)) = 108 then
                    some 2
                  else
                    if (A73 (tn v7.2.2.2.2)) = 100 then
                      some 3
                    else
                      some (-1)) (fun q10 =>
            if q10 = (-1) then
              some (.inr (.inr (((-2) : Int32) - v7.2.2.2.2, 0, a72_2, a72_37, A90)))
            else
              if v7.2.2.2.2 = 120 then
                some (.inr (.inr (((-2) : Int32) - v7.2.2.2.2, 0, a72_2, a72_37, A90)))
              else
                (fX12_toX v7.1 q10).bind (fun q12 =>
                (fX12_toY v7.2.1 q10).bind (fun q14 =>
                (fX12_isSite a72_21 a72_22 q12 q14).bind (fun q16 =>
                if q16 = true then
                  (fX12_toX v7.1 q10).bind (fun q18 =>
                  (fJ9_min_7cf53 v7.1 q18).bind (fun q20 =>
                  (fX12_toY v7.2.1 q10).bind (fun q22 =>
                  (fJ9_min_7cf53 v7.2.1 q22).bind (fun q24 =>
                  Option.bind (α := Int32) (
                    if 2 ≤ q10 then
                      some (-1)
                    else
                      some 1) (fun q26 =>
                  Option.bind (α := Bool) (
                    if (q10 - q10 / 2 * 2) = 1 then
                      some true
                    else
                      some false) (fun q28 =>
                  (fX12_step A79 q20 q24 q28 0).bind (fun q30 =>
                  Option.bind (α := Bool) (
                    if (q10 - q10 / 2 * 2) = 1 then
                      some true
                    else
                      some false) (fun q32 =>
                  (fX12_step A79 q20 q24 q32 1).bind (fun q34 =>
                  (fX12_toX v7.1 q10).bind (fun q36 =>
                  (fX12_toY v7.2.1 q10).bind (fun q38 =>
                  some (.inl (q36, q38, v7.2.2.1 + (q26 * q30), v7.2.2.2.1 + (q26 * q34), v7.2.2.2.2 + 1)))))))))))))
                else
                  some (.inr (.inr (((-2) : Int32) - v7.2.2.2.2, 0, a72_2, a72_37, A90)))))))) : Option ((Int32 × Int32 × Int32 × Int32 × Int32) ⊕ ((Int32 × Int32 × Int32 × Int32) ⊕ (Int32 × Int32 × Int32 × Bool × (Nat → Int32)))))) e_fuel (p0, p1, 0, 0, 0)).bind (fun x8 => Sum.elim (fun x8e =>
        if x8e.1 = p0 then
          if x8e.2.1 = p1 then
            some (1, 0, 0, true, upd (upd (upd (upd (upd A90 (tn 0) x8e.2.2.1) (tn 1) x8e.2.2.2) (tn 2) a72_2) (tn 3) x8e.1) (tn 4) x8e.2.1)
          else
            some (0, 0, 0, true, upd (upd (upd (upd (upd A90 (tn 0) x8e.2.2.1) (tn 1) x8e.2.2.2) (tn 2) a72_2) (tn 3) x8e.1) (tn 4) x8e.2.1)
        else
          some (0, 0, 0, true, upd (upd (upd (upd (upd A90 (tn 0) x8e.2.2.1) (tn 1) x8e.2.2.2) (tn 2) a72_2) (tn 3) x8e.1) (tn 4) x8e.2.1)) (fun r9 => some r9) x8)
    else
      some ((-1), 0, a72_2, a72_37, A90))
  else
    some ((-1), 0, a72_2, a72_37, A90))
set_option maxRecDepth 100000 in
theorem tX12_path_72 {G : eG} (hG : e_GS G) {la : Launch} {h : Nat → eO} {nx : Nat} (hnx : 99 ≤ nx) {a72_0 : Int32} {a72_2 : Int32} {a72_3 : Int32} {a72_4 : Int32} {a72_5 : Int32} {a72_6 : Int32} {a72_7 : Int32} {a72_8 : Bool} {a72_9 : Int32} {a72_10 : Int32} {a72_11 : Int32} {a72_17 : Bool} {a72_18 : Bool} {a72_19 : Bool} {a72_21 : Int32} {a72_22 : Int32} {a72_29 : Int32} {a72_31 : Int32} {a72_35 : Int32} {a72_37 : Bool} {a72_38 : Int32} {a72_39 : Int32} {a72_40 : Int32} {a72_41 : Int64} {a72_44 : Int32} {a72_50 : Bool} {A73 : Nat → Int32} {A79 : Nat → Int32} {A90 : Nat → Int32} {p0 : Int32} {p1 : Int32} (h72 : h 72 = o72 a72_0 a72_2 a72_3 a72_4 a72_5 a72_6 a72_7 a72_8 a72_9 a72_10 a72_11 a72_17 a72_18 a72_19 a72_21 a72_22 a72_29 a72_31 a72_35 a72_37 a72_38 a72_39 a72_40 a72_41 a72_44 a72_50) (h73 : h 73 = o73 A73) (h79 : h 79 = o79 A79) (h90 : h 90 = o90 A90) {R9 : Int32 × Int32 × Int32 × Bool × (Nat → Int32)} (hf : fX12_path a72_0 a72_2 a72_21 a72_22 a72_37 A73 A79 A90 p0 p1 = some R9) :
    eSem G la MX12_path [.ref 72, .int p0, .int p1] h nx 0 0 (fun r9 h9 => r9 = some (.int R9.1) ∧ h9 = e_up h [(72, o72 R9.2.1 R9.2.2.1 a72_3 a72_4 a72_5 a72_6 a72_7 a72_8 a72_9 a72_10 a72_11 a72_17 a72_18 a72_19 a72_21 a72_22 a72_29 a72_31 a72_35 R9.2.2.2.1 a72_38 a72_39 a72_40 a72_41 a72_44 a72_50), (90, o90 R9.2.2.2.2)]) := by
  refine eSem.of (k := 11) (L := [some (.ref 72), some (.int p0), some (.int p1), none, none, none, none, none, none, none, none, none, none, none]) (by decide +kernel) rfl rfl (fun X F hxl hq hcR hsR => ?_)
  subst hxl
  unfold fX12_path at hf
  refine r_aload_n F dX12_path_0 rfl ?_
  refine r_iconst F dX12_path_1 (v := 0) (by decide) ?_
  refine r_put F dX12_path_2 flX12_86 rfl rfl rfl h72 (e_le rfl) (e_le rfl) (e_lt hnx rfl) (l' := [(72, o72 0 a72_2 a72_3 a72_4 a72_5 a72_6 a72_7 a72_8 a72_9 a72_10 a72_11 a72_17 a72_18 a72_19 a72_21 a72_22 a72_29 a72_31 a72_35 a72_37 a72_38 a72_39 a72_40 a72_41 a72_44 a72_50)]) rfl ?_
  refine r_aload_n F dX12_path_5 rfl ?_
  obtain ⟨q1, hq2, hf⟩ := e_bd hf
  refine r_callV F dX12_path_6 (b := 72) (dc := 0) (ds := 0) (As := []) (S0 := []) lkX12_306 mX12_isCrystal (tX12_isCrystal_72 hG (la := x_l X) (h := e_up h [(72, o72 0 a72_2 a72_3 a72_4 a72_5 a72_6 a72_7 a72_8 a72_9 a72_10 a72_11 a72_17 a72_18 a72_19 a72_21 a72_22 a72_29 a72_31 a72_35 a72_37 a72_38 a72_39 a72_40 a72_41 a72_44 a72_50)]) hnx rfl hq2) rfl rfl rfl (e_le rfl) (e_le rfl) (e_le rfl) rfl (ci := 12) e_cl12.1 rfl (e_le rfl) (e_lt hnx rfl) (Nat.zero_le _) (Nat.zero_le _) (e_k ?_)
  refine r_wr0 ?_
  refine r_z_eq F dX12_path_9 (tgt := 21) (by decide) (fun hc => ?_) (fun hc => ?_)
  · have hf := e_t hc hf
    refine r_aload_n F dX12_path_12 rfl ?_
    refine r_iload_n F dX12_path_13 rfl ?_
    refine r_iload_n F dX12_path_14 rfl ?_
    obtain ⟨q3, hq4, hf⟩ := e_bd hf
    refine r_callV F dX12_path_15 (b := 72) (dc := 0) (ds := 0) (As := [.int p0, .int p1]) (S0 := []) lkX12_215 mX12_isSite (tX12_isSite_72 hG (la := x_l X) (h := e_up h [(72, o72 0 a72_2 a72_3 a72_4 a72_5 a72_6 a72_7 a72_8 a72_9 a72_10 a72_11 a72_17 a72_18 a72_19 a72_21 a72_22 a72_29 a72_31 a72_35 a72_37 a72_38 a72_39 a72_40 a72_41 a72_44 a72_50)]) hnx rfl hq4) rfl rfl rfl (e_le rfl) (e_le rfl) (e_le rfl) rfl (ci := 12) e_cl12.1 rfl (e_le rfl) (e_lt hnx rfl) (Nat.zero_le _) (Nat.zero_le _) (e_k ?_)
    refine r_wr0 ?_
    refine r_z_ne F dX12_path_18 (tgt := 23) (by decide) (fun hc => ?_) (fun hc => ?_)
    · have hf := e_t hc hf
      refine r_iload_n F dX12_path_23 rfl ?_
      refine r_istore_n F dX12_path_24 (e_le rfl) (L' := [some (.ref 72), some (.int p0), some (.int p1), some (.int p0), none, none, none, none, none, none, none, none, none, none]) rfl ?_
      refine r_iload_n F dX12_path_25 rfl ?_
      refine r_istore F dX12_path_26 (e_le rfl) (L' := [some (.ref 72), some (.int p0), some (.int p1), some (.int p0), some (.int p1), none, none, none, none, none, none, none, none, none]) rfl ?_
      refine r_iconst F dX12_path_28 (v := 0) (by decide) ?_
      refine r_istore F dX12_path_29 (e_le rfl) (L' := [some (.ref 72), some (.int p0), some (.int p1), some (.int p0), some (.int p1), some (.int 0), none, none, none, none, none, none, none, none]) rfl ?_
      refine r_iconst F dX12_path_31 (v := 0) (by decide) ?_
      refine r_istore F dX12_path_32 (e_le rfl) (L' := [some (.ref 72), some (.int p0), some (.int p1), some (.int p0), some (.int p1), some (.int 0), some (.int 0), none, none, none, none, none, none, none]) rfl ?_
      refine r_iconst F dX12_path_34 (v := 0) (by decide) ?_
      refine r_istore F dX12_path_35 (e_le rfl) (L' := [some (.ref 72), some (.int p0), some (.int p1), some (.int p0), some (.int p1), some (.int 0), some (.int 0), some (.int 0), none, none, none, none, none, none]) rfl ?_
      obtain ⟨x8, hx9, hf⟩ := e_bd hf
      refine (e_loop_ok (P := fun (v7 : Int32 × Int32 × Int32 × Int32 × Int32) => eRun G X 37 [some (.ref 72), some (.int p0), some (.int p1), some (.int v7.1), some (.int v7.2.1), some (.int v7.2.2.1), some (.int v7.2.2.2.1), some (.int v7.2.2.2.2), none, none, none, none, none, none] [] h [(72, o72 0 a72_2 a72_3 a72_4 a72_5 a72_6 a72_7 a72_8 a72_9 a72_10 a72_11 a72_17 a72_18 a72_19 a72_21 a72_22 a72_29 a72_31 a72_35 a72_37 a72_38 a72_39 a72_40 a72_41 a72_44 a72_50)] nx 0 0) (K := fun (x8 : (Int32 × Int32 × Int32 × Int32) ⊕ (Int32 × Int32 × Int32 × Bool × (Nat → Int32))) => Sum.elim (fun x8e => eRun G X 266 [some (.ref 72), some (.int p0), some (.int p1), some (.int x8e.1), some (.int x8e.2.1), some (.int x8e.2.2.1), some (.int x8e.2.2.2), none, none, none, none, none, none, none] [] h [(72, o72 0 a72_2 a72_3 a72_4 a72_5 a72_6 a72_7 a72_8 a72_9 a72_10 a72_11 a72_17 a72_18 a72_19 a72_21 a72_22 a72_29 a72_31 a72_35 a72_37 a72_38 a72_39 a72_40 a72_41 a72_44 a72_50)] nx 0 0) (fun r9 => r9 = R9) x8) ?_ e_fuel (p0, p1, 0, 0, 0) x8 hx9 ?_ : _)
      · intro v7 z hz ih hx
        refine r_iload F dX12_path_37 rfl ?_
        refine r_aload_n F dX12_path_39 rfl ?_
        refine r_get F dX12_path_40 flX12_94 rfl rfl (e_le rfl) (e_lt hnx rfl) ?_
        refine r_icmp_ge F dX12_path_43 (tgt := 266) (by decide) (fun hc => ?_) (fun hc => ?_)
        · have hz := e_t hc hz
          refine r_drop 7 (L' := [some (.ref 72), some (.int p0), some (.int p1), some (.int v7.1), some (.int v7.2.1), some (.int v7.2.2.1), some (.int v7.2.2.2.1), none, none, none, none, none, none, none]) rfl ?_
          obtain rfl := Option.some.inj hz
          exact hx (.inl (v7.1, v7.2.1, v7.2.2.1, v7.2.2.2.1)) rfl
        · have hz := e_f hc hz
          refine r_aload_n F dX12_path_46 rfl ?_
          refine r_get F dX12_path_47 flX12_9 rfl rfl (e_le rfl) (e_lt hnx rfl) ?_
          refine r_iload F dX12_path_50 rfl ?_
          obtain ⟨hg, hz⟩ := e_gd hz
          refine r_iald F dX12_path_52 (i := v7.2.2.2.2) h73 (e_le rfl) (e_lt hnx rfl) (e_vp hg) ?_
          refine r_istore F dX12_path_53 (e_le rfl) (L' := [some (.ref 72), some (.int p0), some (.int p1), some (.int v7.1), some (.int v7.2.1), some (.int v7.2.2.1), some (.int v7.2.2.2.1), some (.int v7.2.2.2.2), some (.int (A73 (tn v7.2.2.2.2))), none, none, none, none, none]) rfl ?_
          refine r_iload F dX12_path_55 rfl ?_
          refine r_bipush F dX12_path_57 (v := 114) (by decide) ?_
          obtain ⟨q10, hq11, hz⟩ := e_bd hz
          have Jq10 : eRun G X 100 [some (.ref 72), some (.int p0), some (.int p1), some (.int v7.1), some (.int v7.2.1), some (.int v7.2.2.1), some (.int v7.2.2.2.1), some (.int v7.2.2.2.2), none, none, none, none, none, none] [.int q10] h [(72, o72 0 a72_2 a72_3 a72_4 a72_5 a72_6 a72_7 a72_8 a72_9 a72_10 a72_11 a72_17 a72_18 a72_19 a72_21 a72_22 a72_29 a72_31 a72_35 a72_37 a72_38 a72_39 a72_40 a72_41 a72_44 a72_50)] nx 0 0 := by
            refine r_istore F dX12_path_100 (e_le rfl) (L' := [some (.ref 72), some (.int p0), some (.int p1), some (.int v7.1), some (.int v7.2.1), some (.int v7.2.2.1), some (.int v7.2.2.2.1), some (.int v7.2.2.2.2), none, some (.int q10), none, none, none, none]) rfl ?_
            refine r_iload F dX12_path_102 rfl ?_
            refine r_iconst F dX12_path_104 (v := (-1)) (by decide) ?_
            refine r_icmp_eq F dX12_path_105 (tgt := 135) (by decide) (fun hc => ?_) (fun hc => ?_)
            · have hz := e_t hc hz
              refine r_bipush F dX12_path_135 (v := (-2)) (by decide) ?_
              refine r_iload F dX12_path_137 rfl ?_
              refine r_isub F dX12_path_139 ?_
              refine r_mat (k := 90) h90 (l' := [(72, o72 0 a72_2 a72_3 a72_4 a72_5 a72_6 a72_7 a72_8 a72_9 a72_10 a72_11 a72_17 a72_18 a72_19 a72_21 a72_22 a72_29 a72_31 a72_35 a72_37 a72_38 a72_39 a72_40 a72_41 a72_44 a72_50), (90, o90 A90)]) rfl ?_
              obtain rfl := Option.some.inj hz
              have e9 := hx (.inr (((-2) : Int32) - v7.2.2.2.2, 0, a72_2, a72_37, A90)) rfl
              subst e9
              exact r_iret F hq dX12_path_140 rfl rfl (Nat.le_refl _) (Nat.le_refl _) ⟨rfl, rfl⟩
            · have hz := e_f hc hz
              refine r_iload F dX12_path_108 rfl ?_
              refine r_bipush F dX12_path_110 (v := 120) (by decide) ?_
              refine r_icmp_eq F dX12_path_112 (tgt := 135) (by decide) (fun hc => ?_) (fun hc => ?_)
              · have hz := e_t hc hz
                refine r_bipush F dX12_path_135 (v := (-2)) (by decide) ?_
                refine r_iload F dX12_path_137 rfl ?_
                refine r_isub F dX12_path_139 ?_
                refine r_mat (k := 90) h90 (l' := [(72, o72 0 a72_2 a72_3 a72_4 a72_5 a72_6 a72_7 a72_8 a72_9 a72_10 a72_11 a72_17 a72_18 a72_19 a72_21 a72_22 a72_29 a72_31 a72_35 a72_37 a72_38 a72_39 a72_40 a72_41 a72_44 a72_50), (90, o90 A90)]) rfl ?_
                obtain rfl := Option.some.inj hz
                have e9 := hx (.inr (((-2) : Int32) - v7.2.2.2.2, 0, a72_2, a72_37, A90)) rfl
                subst e9
                exact r_iret F hq dX12_path_140 rfl rfl (Nat.le_refl _) (Nat.le_refl _) ⟨rfl, rfl⟩
              · have hz := e_f hc hz
                refine r_aload_n F dX12_path_115 rfl ?_
                refine r_iload_n F dX12_path_116 rfl ?_
                refine r_iload F dX12_path_117 rfl ?_
                obtain ⟨q12, hq13, hz⟩ := e_bd hz
                refine r_callS F dX12_path_119 (dc := 0) (ds := 0) (As := [.int v7.1, .int q10]) (S0 := [.ref 72]) lkX12_282 mX12_toX (tX12_toX hG (la := x_l X) (h := e_up h [(72, o72 0 a72_2 a72_3 a72_4 a72_5 a72_6 a72_7 a72_8 a72_9 a72_10 a72_11 a72_17 a72_18 a72_19 a72_21 a72_22 a72_29 a72_31 a72_35 a72_37 a72_38 a72_39 a72_40 a72_41 a72_44 a72_50)]) hnx  hq13) rfl rfl rfl (e_le rfl) (e_le rfl) (e_le rfl) (Nat.zero_le _) (Nat.zero_le _) (e_k ?_)
                refine r_wr0 ?_
                refine r_iload F dX12_path_122 rfl ?_
                refine r_iload F dX12_path_124 rfl ?_
                obtain ⟨q14, hq15, hz⟩ := e_bd hz
                refine r_callS F dX12_path_126 (dc := 0) (ds := 0) (As := [.int v7.2.1, .int q10]) (S0 := [.int q12, .ref 72]) lkX12_285 mX12_toY (tX12_toY hG (la := x_l X) (h := e_up h [(72, o72 0 a72_2 a72_3 a72_4 a72_5 a72_6 a72_7 a72_8 a72_9 a72_10 a72_11 a72_17 a72_18 a72_19 a72_21 a72_22 a72_29 a72_31 a72_35 a72_37 a72_38 a72_39 a72_40 a72_41 a72_44 a72_50)]) hnx  hq15) rfl rfl rfl (e_le rfl) (e_le rfl) (e_le rfl) (Nat.zero_le _) (Nat.zero_le _) (e_k ?_)
                refine r_wr0 ?_
                obtain ⟨q16, hq17, hz⟩ := e_bd hz
                refine r_callV F dX12_path_129 (b := 72) (dc := 0) (ds := 0) (As := [.int q12, .int q14]) (S0 := []) lkX12_215 mX12_isSite (tX12_isSite_72 hG (la := x_l X) (h := e_up h [(72, o72 0 a72_2 a72_3 a72_4 a72_5 a72_6 a72_7 a72_8 a72_9 a72_10 a72_11 a72_17 a72_18 a72_19 a72_21 a72_22 a72_29 a72_31 a72_35 a72_37 a72_38 a72_39 a72_40 a72_41 a72_44 a72_50)]) hnx rfl hq17) rfl rfl rfl (e_le rfl) (e_le rfl) (e_le rfl) rfl (ci := 12) e_cl12.1 rfl (e_le rfl) (e_lt hnx rfl) (Nat.zero_le _) (Nat.zero_le _) (e_k ?_)
                refine r_wr0 ?_
                refine r_z_ne F dX12_path_132 (tgt := 141) (by decide) (fun hc => ?_) (fun hc => ?_)
                · have hz := e_t hc hz
                  refine r_iload_n F dX12_path_141 rfl ?_
                  refine r_iload_n F dX12_path_142 rfl ?_
                  refine r_iload F dX12_path_143 rfl ?_
                  obtain ⟨q18, hq19, hz⟩ := e_bd hz
                  refine r_callS F dX12_path_145 (dc := 0) (ds := 0) (As := [.int v7.1, .int q10]) (S0 := [.int v7.1]) lkX12_282 mX12_toX (tX12_toX hG (la := x_l X) (h := e_up h [(72, o72 0 a72_2 a72_3 a72_4 a72_5 a72_6 a72_7 a72_8 a72_9 a72_10 a72_11 a72_17 a72_18 a72_19 a72_21 a72_22 a72_29 a72_31 a72_35 a72_37 a72_38 a72_39 a72_40 a72_41 a72_44 a72_50)]) hnx  hq19) rfl rfl rfl (e_le rfl) (e_le rfl) (e_le rfl) (Nat.zero_le _) (Nat.zero_le _) (e_k ?_)
                  refine r_wr0 ?_
                  obtain ⟨q20, hq21, hz⟩ := e_bd hz
                  refine r_callS F dX12_path_148 (dc := 0) (ds := 0) (As := [.int v7.1, .int q18]) (S0 := []) lkX12_128 mJ9_min_7cf53 (tJ9_min_7cf53 hG (la := x_l X) (h := e_up h [(72, o72 0 a72_2 a72_3 a72_4 a72_5 a72_6 a72_7 a72_8 a72_9 a72_10 a72_11 a72_17 a72_18 a72_19 a72_21 a72_22 a72_29 a72_31 a72_35 a72_37 a72_38 a72_39 a72_40 a72_41 a72_44 a72_50)]) hnx  hq21) rfl rfl rfl (e_le rfl) (e_le rfl) (e_le rfl) (Nat.zero_le _) (Nat.zero_le _) (e_k ?_)
                  refine r_wr0 ?_
                  refine r_istore F dX12_path_151 (e_le rfl) (L' := [some (.ref 72), some (.int p0), some (.int p1), some (.int v7.1), some (.int v7.2.1), some (.int v7.2.2.1), some (.int v7.2.2.2.1), some (.int v7.2.2.2.2), none, some (.int q10), some (.int q20), none, none, none]) rfl ?_
                  refine r_iload F dX12_path_153 rfl ?_
                  refine r_iload F dX12_path_155 rfl ?_
                  refine r_iload F dX12_path_157 rfl ?_
                  obtain ⟨q22, hq23, hz⟩ := e_bd hz
                  refine r_callS F dX12_path_159 (dc := 0) (ds := 0) (As := [.int v7.2.1, .int q10]) (S0 := [.int v7.2.1]) lkX12_285 mX12_toY (tX12_toY hG (la := x_l X) (h := e_up h [(72, o72 0 a72_2 a72_3 a72_4 a72_5 a72_6 a72_7 a72_8 a72_9 a72_10 a72_11 a72_17 a72_18 a72_19 a72_21 a72_22 a72_29 a72_31 a72_35 a72_37 a72_38 a72_39 a72_40 a72_41 a72_44 a72_50)]) hnx  hq23) rfl rfl rfl (e_le rfl) (e_le rfl) (e_le rfl) (Nat.zero_le _) (Nat.zero_le _) (e_k ?_)
                  refine r_wr0 ?_
                  obtain ⟨q24, hq25, hz⟩ := e_bd hz
                  refine r_callS F dX12_path_162 (dc := 0) (ds := 0) (As := [.int v7.2.1, .int q22]) (S0 := []) lkX12_128 mJ9_min_7cf53 (tJ9_min_7cf53 hG (la := x_l X) (h := e_up h [(72, o72 0 a72_2 a72_3 a72_4 a72_5 a72_6 a72_7 a72_8 a72_9 a72_10 a72_11 a72_17 a72_18 a72_19 a72_21 a72_22 a72_29 a72_31 a72_35 a72_37 a72_38 a72_39 a72_40 a72_41 a72_44 a72_50)]) hnx  hq25) rfl rfl rfl (e_le rfl) (e_le rfl) (e_le rfl) (Nat.zero_le _) (Nat.zero_le _) (e_k ?_)
                  refine r_wr0 ?_
                  refine r_istore F dX12_path_165 (e_le rfl) (L' := [some (.ref 72), some (.int p0), some (.int p1), some (.int v7.1), some (.int v7.2.1), some (.int v7.2.2.1), some (.int v7.2.2.2.1), some (.int v7.2.2.2.2), none, some (.int q10), some (.int q20), some (.int q24), none, none]) rfl ?_
                  refine r_iload F dX12_path_167 rfl ?_
                  refine r_iconst F dX12_path_169 (v := 2) (by decide) ?_
                  obtain ⟨q26, hq27, hz⟩ := e_bd hz
                  have Jq26 : eRun G X 178 [some (.ref 72), some (.int p0), some (.int p1), some (.int v7.1), some (.int v7.2.1), some (.int v7.2.2.1), some (.int v7.2.2.2.1), some (.int v7.2.2.2.2), none, some (.int q10), some (.int q20), some (.int q24), none, none] [.int q26] h [(72, o72 0 a72_2 a72_3 a72_4 a72_5 a72_6 a72_7 a72_8 a72_9 a72_10 a72_11 a72_17 a72_18 a72_19 a72_21 a72_22 a72_29 a72_31 a72_35 a72_37 a72_38 a72_39 a72_40 a72_41 a72_44 a72_50)] nx 0 0 := by
                    refine r_istore F dX12_path_178 (e_le rfl) (L' := [some (.ref 72), some (.int p0), some (.int p1), some (.int v7.1), some (.int v7.2.1), some (.int v7.2.2.1), some (.int v7.2.2.2.1), some (.int v7.2.2.2.2), none, some (.int q10), some (.int q20), some (.int q24), some (.int q26), none]) rfl ?_
                    refine r_iload F dX12_path_180 rfl ?_
                    refine r_iload F dX12_path_182 rfl ?_
                    refine r_aload_n F dX12_path_184 rfl ?_
                    refine r_iload F dX12_path_185 rfl ?_
                    refine r_iload F dX12_path_187 rfl ?_
                    refine r_iload F dX12_path_189 rfl ?_
                    refine r_iconst F dX12_path_191 (v := 2) (by decide) ?_
                    refine r_irem F dX12_path_192 (by decide) ?_
                    refine r_iconst F dX12_path_193 (v := 1) (by decide) ?_
                    obtain ⟨q28, hq29, hz⟩ := e_bd hz
                    have Jq28 : eRun G X 202 [some (.ref 72), some (.int p0), some (.int p1), some (.int v7.1), some (.int v7.2.1), none, some (.int v7.2.2.2.1), some (.int v7.2.2.2.2), none, some (.int q10), some (.int q20), some (.int q24), some (.int q26), none] [.int (e_b q28), .int q24, .int q20, .ref 72, .int q26, .int v7.2.2.1] h [(72, o72 0 a72_2 a72_3 a72_4 a72_5 a72_6 a72_7 a72_8 a72_9 a72_10 a72_11 a72_17 a72_18 a72_19 a72_21 a72_22 a72_29 a72_31 a72_35 a72_37 a72_38 a72_39 a72_40 a72_41 a72_44 a72_50)] nx 0 0 := by
                      refine r_iconst F dX12_path_202 (v := 0) (by decide) ?_
                      obtain ⟨q30, hq31, hz⟩ := e_bd hz
                      refine r_callV F dX12_path_203 (b := 72) (dc := 0) (ds := 0) (As := [.int q20, .int q24, .int (e_b q28), .int 0]) (S0 := [.int q26, .int v7.2.2.1]) lkX12_218 mX12_step (tX12_step_72 hG (la := x_l X) (h := e_up h [(72, o72 0 a72_2 a72_3 a72_4 a72_5 a72_6 a72_7 a72_8 a72_9 a72_10 a72_11 a72_17 a72_18 a72_19 a72_21 a72_22 a72_29 a72_31 a72_35 a72_37 a72_38 a72_39 a72_40 a72_41 a72_44 a72_50)]) hnx rfl h79 hq31) rfl rfl rfl (e_le rfl) (e_le rfl) (e_le rfl) rfl (ci := 12) e_cl12.1 rfl (e_le rfl) (e_lt hnx rfl) (Nat.zero_le _) (Nat.zero_le _) (e_k ?_)
                      refine r_wr0 ?_
                      refine r_imul F dX12_path_206 ?_
                      refine r_iadd F dX12_path_207 ?_
                      refine r_istore F dX12_path_208 (e_le rfl) (L' := [some (.ref 72), some (.int p0), some (.int p1), some (.int v7.1), some (.int v7.2.1), some (.int (v7.2.2.1 + (q26 * q30))), some (.int v7.2.2.2.1), some (.int v7.2.2.2.2), none, some (.int q10), some (.int q20), some (.int q24), some (.int q26), none]) rfl ?_
                      refine r_iload F dX12_path_210 rfl ?_
                      refine r_iload F dX12_path_212 rfl ?_
                      refine r_aload_n F dX12_path_214 rfl ?_
                      refine r_iload F dX12_path_215 rfl ?_
                      refine r_iload F dX12_path_217 rfl ?_
                      refine r_iload F dX12_path_219 rfl ?_
                      refine r_iconst F dX12_path_221 (v := 2) (by decide) ?_
                      refine r_irem F dX12_path_222 (by decide) ?_
                      refine r_iconst F dX12_path_223 (v := 1) (by decide) ?_
                      obtain ⟨q32, hq33, hz⟩ := e_bd hz
                      have Jq32 : eRun G X 232 [some (.ref 72), some (.int p0), some (.int p1), some (.int v7.1), some (.int v7.2.1), some (.int (v7.2.2.1 + (q26 * q30))), none, some (.int v7.2.2.2.2), none, some (.int q10), none, none, none, none] [.int (e_b q32), .int q24, .int q20, .ref 72, .int q26, .int v7.2.2.2.1] h [(72, o72 0 a72_2 a72_3 a72_4 a72_5 a72_6 a72_7 a72_8 a72_9 a72_10 a72_11 a72_17 a72_18 a72_19 a72_21 a72_22 a72_29 a72_31 a72_35 a72_37 a72_38 a72_39 a72_40 a72_41 a72_44 a72_50)] nx 0 0 := by
                        refine r_iconst F dX12_path_232 (v := 1) (by decide) ?_
                        obtain ⟨q34, hq35, hz⟩ := e_bd hz
                        refine r_callV F dX12_path_233 (b := 72) (dc := 0) (ds := 0) (As := [.int q20, .int q24, .int (e_b q32), .int 1]) (S0 := [.int q26, .int v7.2.2.2.1]) lkX12_218 mX12_step (tX12_step_72 hG (la := x_l X) (h := e_up h [(72, o72 0 a72_2 a72_3 a72_4 a72_5 a72_6 a72_7 a72_8 a72_9 a72_10 a72_11 a72_17 a72_18 a72_19 a72_21 a72_22 a72_29 a72_31 a72_35 a72_37 a72_38 a72_39 a72_40 a72_41 a72_44 a72_50)]) hnx rfl h79 hq35) rfl rfl rfl (e_le rfl) (e_le rfl) (e_le rfl) rfl (ci := 12) e_cl12.1 rfl (e_le rfl) (e_lt hnx rfl) (Nat.zero_le _) (Nat.zero_le _) (e_k ?_)
                        refine r_wr0 ?_
                        refine r_imul F dX12_path_236 ?_
                        refine r_iadd F dX12_path_237 ?_
                        refine r_istore F dX12_path_238 (e_le rfl) (L' := [some (.ref 72), some (.int p0), some (.int p1), some (.int v7.1), some (.int v7.2.1), some (.int (v7.2.2.1 + (q26 * q30))), some (.int (v7.2.2.2.1 + (q26 * q34))), some (.int v7.2.2.2.2), none, some (.int q10), none, none, none, none]) rfl ?_
                        refine r_iload_n F dX12_path_240 rfl ?_
                        refine r_iload F dX12_path_241 rfl ?_
                        obtain ⟨q36, hq37, hz⟩ := e_bd hz
                        refine r_callS F dX12_path_243 (dc := 0) (ds := 0) (As := [.int v7.1, .int q10]) (S0 := []) lkX12_282 mX12_toX (tX12_toX hG (la := x_l X) (h := e_up h [(72, o72 0 a72_2 a72_3 a72_4 a72_5 a72_6 a72_7 a72_8 a72_9 a72_10 a72_11 a72_17 a72_18 a72_19 a72_21 a72_22 a72_29 a72_31 a72_35 a72_37 a72_38 a72_39 a72_40 a72_41 a72_44 a72_50)]) hnx  hq37) rfl rfl rfl (e_le rfl) (e_le rfl) (e_le rfl) (Nat.zero_le _) (Nat.zero_le _) (e_k ?_)
                        refine r_wr0 ?_
                        refine r_istore F dX12_path_246 (e_le rfl) (L' := [some (.ref 72), some (.int p0), some (.int p1), some (.int v7.1), some (.int v7.2.1), some (.int (v7.2.2.1 + (q26 * q30))), some (.int (v7.2.2.2.1 + (q26 * q34))), some (.int v7.2.2.2.2), none, some (.int q10), none, none, none, some (.int q36)]) rfl ?_
                        refine r_iload F dX12_path_248 rfl ?_
                        refine r_iload F dX12_path_250 rfl ?_
                        obtain ⟨q38, hq39, hz⟩ := e_bd hz
                        refine r_callS F dX12_path_252 (dc := 0) (ds := 0) (As := [.int v7.2.1, .int q10]) (S0 := []) lkX12_285 mX12_toY (tX12_toY hG (la := x_l X) (h := e_up h [(72, o72 0 a72_2 a72_3 a72_4 a72_5 a72_6 a72_7 a72_8 a72_9 a72_10 a72_11 a72_17 a72_18 a72_19 a72_21 a72_22 a72_29 a72_31 a72_35 a72_37 a72_38 a72_39 a72_40 a72_41 a72_44 a72_50)]) hnx  hq39) rfl rfl rfl (e_le rfl) (e_le rfl) (e_le rfl) (Nat.zero_le _) (Nat.zero_le _) (e_k ?_)
                        refine r_wr0 ?_
                        refine r_istore F dX12_path_255 (e_le rfl) (L' := [some (.ref 72), some (.int p0), some (.int p1), some (.int v7.1), some (.int q38), some (.int (v7.2.2.1 + (q26 * q30))), some (.int (v7.2.2.2.1 + (q26 * q34))), some (.int v7.2.2.2.2), none, some (.int q10), none, none, none, some (.int q36)]) rfl ?_
                        refine r_iload F dX12_path_257 rfl ?_
                        refine r_istore_n F dX12_path_259 (e_le rfl) (L' := [some (.ref 72), some (.int p0), some (.int p1), some (.int q36), some (.int q38), some (.int (v7.2.2.1 + (q26 * q30))), some (.int (v7.2.2.2.1 + (q26 * q34))), some (.int v7.2.2.2.2), none, some (.int q10), none, none, none, some (.int q36)]) rfl ?_
                        refine r_inc F dX12_path_260 (k9 := 1) (by decide) rfl (L' := [some (.ref 72), some (.int p0), some (.int p1), some (.int q36), some (.int q38), some (.int (v7.2.2.1 + (q26 * q30))), some (.int (v7.2.2.2.1 + (q26 * q34))), some (.int (v7.2.2.2.2 + 1)), none, some (.int q10), none, none, none, some (.int q36)]) rfl ?_
                        refine r_goto F dX12_path_263 (tgt := 37) (by decide) ?_
                        refine r_drop 9 (L' := [some (.ref 72), some (.int p0), some (.int p1), some (.int q36), some (.int q38), some (.int (v7.2.2.1 + (q26 * q30))), some (.int (v7.2.2.2.1 + (q26 * q34))), some (.int (v7.2.2.2.2 + 1)), none, none, none, none, none, some (.int q36)]) rfl ?_
                        refine r_drop 13 (L' := [some (.ref 72), some (.int p0), some (.int p1), some (.int q36), some (.int q38), some (.int (v7.2.2.1 + (q26 * q30))), some (.int (v7.2.2.2.1 + (q26 * q34))), some (.int (v7.2.2.2.2 + 1)), none, none, none, none, none, none]) rfl ?_
                        obtain rfl := Option.some.inj hz
                        exact ih (q36, q38, v7.2.2.1 + (q26 * q30), v7.2.2.2.1 + (q26 * q34), v7.2.2.2.2 + 1) rfl
                      refine r_icmp_ne F dX12_path_224 (tgt := 231) (by decide) (fun hc => ?_) (fun hc => ?_)
                      · have hq33 := e_f hc hq33
                        refine r_iconst F dX12_path_231 (v := 0) (by decide) ?_
                        refine r_drop 6 (L' := [some (.ref 72), some (.int p0), some (.int p1), some (.int v7.1), some (.int v7.2.1), some (.int (v7.2.2.1 + (q26 * q30))), none, some (.int v7.2.2.2.2), none, some (.int q10), some (.int q20), some (.int q24), some (.int q26), none]) rfl ?_
                        refine r_drop 10 (L' := [some (.ref 72), some (.int p0), some (.int p1), some (.int v7.1), some (.int v7.2.1), some (.int (v7.2.2.1 + (q26 * q30))), none, some (.int v7.2.2.2.2), none, some (.int q10), none, some (.int q24), some (.int q26), none]) rfl ?_
                        refine r_drop 11 (L' := [some (.ref 72), some (.int p0), some (.int p1), some (.int v7.1), some (.int v7.2.1), some (.int (v7.2.2.1 + (q26 * q30))), none, some (.int v7.2.2.2.2), none, some (.int q10), none, none, some (.int q26), none]) rfl ?_
                        refine r_drop 12 (L' := [some (.ref 72), some (.int p0), some (.int p1), some (.int v7.1), some (.int v7.2.1), some (.int (v7.2.2.1 + (q26 * q30))), none, some (.int v7.2.2.2.2), none, some (.int q10), none, none, none, none]) rfl ?_
                        obtain rfl := Option.some.inj hq33
                        exact Jq32
                      · have hq33 := e_t hc hq33
                        refine r_iconst F dX12_path_227 (v := 1) (by decide) ?_
                        refine r_goto F dX12_path_228 (tgt := 232) (by decide) ?_
                        refine r_drop 6 (L' := [some (.ref 72), some (.int p0), some (.int p1), some (.int v7.1), some (.int v7.2.1), some (.int (v7.2.2.1 + (q26 * q30))), none, some (.int v7.2.2.2.2), none, some (.int q10), some (.int q20), some (.int q24), some (.int q26), none]) rfl ?_
                        refine r_drop 10 (L' := [some (.ref 72), some (.int p0), some (.int p1), some (.int v7.1), some (.int v7.2.1), some (.int (v7.2.2.1 + (q26 * q30))), none, some (.int v7.2.2.2.2), none, some (.int q10), none, some (.int q24), some (.int q26), none]) rfl ?_
                        refine r_drop 11 (L' := [some (.ref 72), some (.int p0), some (.int p1), some (.int v7.1), some (.int v7.2.1), some (.int (v7.2.2.1 + (q26 * q30))), none, some (.int v7.2.2.2.2), none, some (.int q10), none, none, some (.int q26), none]) rfl ?_
                        refine r_drop 12 (L' := [some (.ref 72), some (.int p0), some (.int p1), some (.int v7.1), some (.int v7.2.1), some (.int (v7.2.2.1 + (q26 * q30))), none, some (.int v7.2.2.2.2), none, some (.int q10), none, none, none, none]) rfl ?_
                        obtain rfl := Option.some.inj hq33
                        exact Jq32
                    refine r_icmp_ne F dX12_path_194 (tgt := 201) (by decide) (fun hc => ?_) (fun hc => ?_)
                    · have hq29 := e_f hc hq29
                      refine r_iconst F dX12_path_201 (v := 0) (by decide) ?_
                      refine r_drop 5 (L' := [some (.ref 72), some (.int p0), some (.int p1), some (.int v7.1), some (.int v7.2.1), none, some (.int v7.2.2.2.1), some (.int v7.2.2.2.2), none, some (.int q10), some (.int q20), some (.int q24), some (.int q26), none]) rfl ?_
                      obtain rfl := Option.some.inj hq29
                      exact Jq28
                    · have hq29 := e_t hc hq29
                      refine r_iconst F dX12_path_197 (v := 1) (by decide) ?_
                      refine r_goto F dX12_path_198 (tgt := 202) (by decide) ?_
                      refine r_drop 5 (L' := [some (.ref 72), some (.int p0), some (.int p1), some (.int v7.1), some (.int v7.2.1), none, some (.int v7.2.2.2.1), some (.int v7.2.2.2.2), none, some (.int q10), some (.int q20), some (.int q24), some (.int q26), none]) rfl ?_
                      obtain rfl := Option.some.inj hq29
                      exact Jq28
                  refine r_icmp_ge F dX12_path_170 (tgt := 177) (by decide) (fun hc => ?_) (fun hc => ?_)
                  · have hq27 := e_t hc hq27
                    refine r_iconst F dX12_path_177 (v := (-1)) (by decide) ?_
                    obtain rfl := Option.some.inj hq27
                    exact Jq26
                  · have hq27 := e_f hc hq27
                    refine r_iconst F dX12_path_173 (v := 1) (by decide) ?_
                    refine r_goto F dX12_path_174 (tgt := 178) (by decide) ?_
                    obtain rfl := Option.some.inj hq27
                    exact Jq26
                · have hz := e_f hc hz
                  refine r_bipush F dX12_path_135 (v := (-2)) (by decide) ?_
                  refine r_iload F dX12_path_137 rfl ?_
                  refine r_isub F dX12_path_139 ?_
                  refine r_mat (k := 90) h90 (l' := [(72, o72 0 a72_2 a72_3 a72_4 a72_5 a72_6 a72_7 a72_8 a72_9 a72_10 a72_11 a72_17 a72_18 a72_19 a72_21 a72_22 a72_29 a72_31 a72_35 a72_37 a72_38 a72_39 a72_40 a72_41 a72_44 a72_50), (90, o90 A90)]) rfl ?_
                  obtain rfl := Option.some.inj hz
                  have e9 := hx (.inr (((-2) : Int32) - v7.2.2.2.2, 0, a72_2, a72_37, A90)) rfl
                  subst e9
                  exact r_iret F hq dX12_path_140 rfl rfl (Nat.le_refl _) (Nat.le_refl _) ⟨rfl, rfl⟩
          refine r_icmp_ne F dX12_path_59 (tgt := 66) (by decide) (fun hc => ?_) (fun hc => ?_)
          · have hq11 := e_f hc hq11
            refine r_iload F dX12_path_66 rfl ?_
            refine r_bipush F dX12_path_68 (v := 117) (by decide) ?_
            refine r_icmp_ne F dX12_path_70 (tgt := 77) (by decide) (fun hc => ?_) (fun hc => ?_)
            · have hq11 := e_f hc hq11
              refine r_iload F dX12_path_77 rfl ?_
              refine r_bipush F dX12_path_79 (v := 108) (by decide) ?_
              refine r_icmp_ne F dX12_path_81 (tgt := 88) (by decide) (fun hc => ?_) (fun hc => ?_)
              · have hq11 := e_f hc hq11
                refine r_iload F dX12_path_88 rfl ?_
                refine r_bipush F dX12_path_90 (v := 100) (by decide) ?_
                refine r_icmp_ne F dX12_path_92 (tgt := 99) (by decide) (fun hc => ?_) (fun hc => ?_)
                · have hq11 := e_f hc hq11
                  refine r_iconst F dX12_path_99 (v := (-1)) (by decide) ?_
                  refine r_drop 8 (L' := [some (.ref 72), some (.int p0), some (.int p1), some (.int v7.1), some (.int v7.2.1), some (.int v7.2.2.1), some (.int v7.2.2.2.1), some (.int v7.2.2.2.2), none, none, none, none, none, none]) rfl ?_
                  obtain rfl := Option.some.inj hq11
                  exact Jq10
                · have hq11 := e_t hc hq11
                  refine r_iconst F dX12_path_95 (v := 3) (by decide) ?_
                  refine r_goto F dX12_path_96 (tgt := 100) (by decide) ?_
                  refine r_drop 8 (L' := [some (.ref 72), some (.int p0), some (.int p1), some (.int v7.1), some (.int v7.2.1), some (.int v7.2.2.1), some (.int v7.2.2.2.1), some (.int v7.2.2.2.2), none, none, none, none, none, none]) rfl ?_
                  obtain rfl := Option.some.inj hq11
                  exact Jq10
              · have hq11 := e_t hc hq11
                refine r_iconst F dX12_path_84 (v := 2) (by decide) ?_
                refine r_goto F dX12_path_85 (tgt := 100) (by decide) ?_
                refine r_drop 8 (L' := [some (.ref 72), some (.int p0), some (.int p1), some (.int v7.1), some (.int v7.2.1), some (.int v7.2.2.1), some (.int v7.2.2.2.1), some (.int v7.2.2.2.2), none, none, none, none, none, none]) rfl ?_
                obtain rfl := Option.some.inj hq11
                exact Jq10
            · have hq11 := e_t hc hq11
              refine r_iconst F dX12_path_73 (v := 1) (by decide) ?_
              refine r_goto F dX12_path_74 (tgt := 100) (by decide) ?_
              refine r_drop 8 (L' := [some (.ref 72), some (.int p0), some (.int p1), some (.int v7.1), some (.int v7.2.1), some (.int v7.2.2.1), some (.int v7.2.2.2.1), some (.int v7.2.2.2.2), none, none, none, none, none, none]) rfl ?_
              obtain rfl := Option.some.inj hq11
              exact Jq10
          · have hq11 := e_t hc hq11
            refine r_iconst F dX12_path_62 (v := 0) (by decide) ?_
            refine r_goto F dX12_path_63 (tgt := 100) (by decide) ?_
            refine r_drop 8 (L' := [some (.ref 72), some (.int p0), some (.int p1), some (.int v7.1), some (.int v7.2.1), some (.int v7.2.2.1), some (.int v7.2.2.2.1), some (.int v7.2.2.2.2), none, none, none, none, none, none]) rfl ?_
            obtain rfl := Option.some.inj hq11
            exact Jq10
      · cases x8 with
        | inr r9 => exact Option.some.inj hf
        | inl x8e =>
          simp only [Sum.elim_inl] at hf
          show eRun G X 266 [some (.ref 72), some (.int p0), some (.int p1), some (.int x8e.1), some (.int x8e.2.1), some (.int x8e.2.2.1), some (.int x8e.2.2.2), none, none, none, none, none, none, none] [] h [(72, o72 0 a72_2 a72_3 a72_4 a72_5 a72_6 a72_7 a72_8 a72_9 a72_10 a72_11 a72_17 a72_18 a72_19 a72_21 a72_22 a72_29 a72_31 a72_35 a72_37 a72_38 a72_39 a72_40 a72_41 a72_44 a72_50)] nx 0 0
          refine r_aload_n F dX12_path_266 rfl ?_
          refine r_get F dX12_path_267 flX12_62 rfl rfl (e_le rfl) (e_lt hnx rfl) ?_
          refine r_iconst F dX12_path_270 (v := 0) (by decide) ?_
          refine r_iload F dX12_path_271 rfl ?_
          refine r_iast F dX12_path_273 h90 (e_le rfl) (e_lt hnx rfl) (e_vp (by decide)) (l' := [(72, o72 0 a72_2 a72_3 a72_4 a72_5 a72_6 a72_7 a72_8 a72_9 a72_10 a72_11 a72_17 a72_18 a72_19 a72_21 a72_22 a72_29 a72_31 a72_35 a72_37 a72_38 a72_39 a72_40 a72_41 a72_44 a72_50), (90, o90 (upd A90 (tn 0) x8e.2.2.1))]) rfl ?_
          refine r_aload_n F dX12_path_274 rfl ?_
          refine r_get F dX12_path_275 flX12_62 rfl rfl (e_le rfl) (e_lt hnx rfl) ?_
          refine r_iconst F dX12_path_278 (v := 1) (by decide) ?_
          refine r_iload F dX12_path_279 rfl ?_
          refine r_iast F dX12_path_281 rfl (e_le rfl) (e_lt hnx rfl) (e_vp (by decide)) (l' := [(72, o72 0 a72_2 a72_3 a72_4 a72_5 a72_6 a72_7 a72_8 a72_9 a72_10 a72_11 a72_17 a72_18 a72_19 a72_21 a72_22 a72_29 a72_31 a72_35 a72_37 a72_38 a72_39 a72_40 a72_41 a72_44 a72_50), (90, o90 (upd (upd A90 (tn 0) x8e.2.2.1) (tn 1) x8e.2.2.2))]) rfl ?_
          refine r_aload_n F dX12_path_282 rfl ?_
          refine r_get F dX12_path_283 flX12_62 rfl rfl (e_le rfl) (e_lt hnx rfl) ?_
          refine r_iconst F dX12_path_286 (v := 2) (by decide) ?_
          refine r_aload_n F dX12_path_287 rfl ?_
          refine r_get F dX12_path_288 flX12_94 rfl rfl (e_le rfl) (e_lt hnx rfl) ?_
          refine r_iast F dX12_path_291 rfl (e_le rfl) (e_lt hnx rfl) (e_vp (by decide)) (l' := [(72, o72 0 a72_2 a72_3 a72_4 a72_5 a72_6 a72_7 a72_8 a72_9 a72_10 a72_11 a72_17 a72_18 a72_19 a72_21 a72_22 a72_29 a72_31 a72_35 a72_37 a72_38 a72_39 a72_40 a72_41 a72_44 a72_50), (90, o90 (upd (upd (upd A90 (tn 0) x8e.2.2.1) (tn 1) x8e.2.2.2) (tn 2) a72_2))]) rfl ?_
          refine r_aload_n F dX12_path_292 rfl ?_
          refine r_get F dX12_path_293 flX12_62 rfl rfl (e_le rfl) (e_lt hnx rfl) ?_
          refine r_iconst F dX12_path_296 (v := 3) (by decide) ?_
          refine r_iload_n F dX12_path_297 rfl ?_
          refine r_iast F dX12_path_298 rfl (e_le rfl) (e_lt hnx rfl) (e_vp (by decide)) (l' := [(72, o72 0 a72_2 a72_3 a72_4 a72_5 a72_6 a72_7 a72_8 a72_9 a72_10 a72_11 a72_17 a72_18 a72_19 a72_21 a72_22 a72_29 a72_31 a72_35 a72_37 a72_38 a72_39 a72_40 a72_41 a72_44 a72_50), (90, o90 (upd (upd (upd (upd A90 (tn 0) x8e.2.2.1) (tn 1) x8e.2.2.2) (tn 2) a72_2) (tn 3) x8e.1))]) rfl ?_
          refine r_aload_n F dX12_path_299 rfl ?_
          refine r_get F dX12_path_300 flX12_62 rfl rfl (e_le rfl) (e_lt hnx rfl) ?_
          refine r_iconst F dX12_path_303 (v := 4) (by decide) ?_
          refine r_iload F dX12_path_304 rfl ?_
          refine r_iast F dX12_path_306 rfl (e_le rfl) (e_lt hnx rfl) (e_vp (by decide)) (l' := [(72, o72 0 a72_2 a72_3 a72_4 a72_5 a72_6 a72_7 a72_8 a72_9 a72_10 a72_11 a72_17 a72_18 a72_19 a72_21 a72_22 a72_29 a72_31 a72_35 a72_37 a72_38 a72_39 a72_40 a72_41 a72_44 a72_50), (90, o90 (upd (upd (upd (upd (upd A90 (tn 0) x8e.2.2.1) (tn 1) x8e.2.2.2) (tn 2) a72_2) (tn 3) x8e.1) (tn 4) x8e.2.1))]) rfl ?_
          refine r_aload_n F dX12_path_307 rfl ?_
          refine r_iconst F dX12_path_308 (v := 1) (by decide) ?_
          refine r_put F dX12_path_309 (v := .int (e_b true)) flX12_235 rfl (e_b_nar _) (e_b_fit _) rfl (e_le rfl) (e_le rfl) (e_lt hnx rfl) (l' := [(72, o72 0 a72_2 a72_3 a72_4 a72_5 a72_6 a72_7 a72_8 a72_9 a72_10 a72_11 a72_17 a72_18 a72_19 a72_21 a72_22 a72_29 a72_31 a72_35 true a72_38 a72_39 a72_40 a72_41 a72_44 a72_50), (90, o90 (upd (upd (upd (upd (upd A90 (tn 0) x8e.2.2.1) (tn 1) x8e.2.2.2) (tn 2) a72_2) (tn 3) x8e.1) (tn 4) x8e.2.1))]) rfl ?_
          refine r_aload_n F dX12_path_312 rfl ?_
          refine r_iconst F dX12_path_313 (v := 0) (by decide) ?_
          refine r_put F dX12_path_314 flX12_94 rfl rfl rfl rfl (e_le rfl) (e_le rfl) (e_lt hnx rfl) (l' := [(72, o72 0 0 a72_3 a72_4 a72_5 a72_6 a72_7 a72_8 a72_9 a72_10 a72_11 a72_17 a72_18 a72_19 a72_21 a72_22 a72_29 a72_31 a72_35 true a72_38 a72_39 a72_40 a72_41 a72_44 a72_50), (90, o90 (upd (upd (upd (upd (upd A90 (tn 0) x8e.2.2.1) (tn 1) x8e.2.2.2) (tn 2) a72_2) (tn 3) x8e.1) (tn 4) x8e.2.1))]) rfl ?_
          refine r_iload_n F dX12_path_317 rfl ?_
          refine r_iload_n F dX12_path_318 rfl ?_
          refine r_icmp_ne F dX12_path_319 (tgt := 332) (by decide) (fun hc => ?_) (fun hc => ?_)
          · have hf := e_f hc hf
            refine r_iconst F dX12_path_332 (v := 0) (by decide) ?_
            obtain rfl := Option.some.inj hf
            exact r_iret F hq dX12_path_333 rfl rfl (Nat.le_refl _) (Nat.le_refl _) ⟨rfl, rfl⟩
          · have hf := e_t hc hf
            refine r_iload F dX12_path_322 rfl ?_
            refine r_iload_n F dX12_path_324 rfl ?_
            refine r_icmp_ne F dX12_path_325 (tgt := 332) (by decide) (fun hc => ?_) (fun hc => ?_)
            · have hf := e_f hc hf
              refine r_iconst F dX12_path_332 (v := 0) (by decide) ?_
              obtain rfl := Option.some.inj hf
              exact r_iret F hq dX12_path_333 rfl rfl (Nat.le_refl _) (Nat.le_refl _) ⟨rfl, rfl⟩
            · have hf := e_t hc hf
              refine r_iconst F dX12_path_328 (v := 1) (by decide) ?_
              refine r_goto F dX12_path_329 (tgt := 333) (by decide) ?_
              obtain rfl := Option.some.inj hf
              exact r_iret F hq dX12_path_333 rfl rfl (Nat.le_refl _) (Nat.le_refl _) ⟨rfl, rfl⟩
    · have hf := e_f hc hf
      refine r_iconst F dX12_path_21 (v := (-1)) (by decide) ?_
      refine r_mat (k := 90) h90 (l' := [(72, o72 0 a72_2 a72_3 a72_4 a72_5 a72_6 a72_7 a72_8 a72_9 a72_10 a72_11 a72_17 a72_18 a72_19 a72_21 a72_22 a72_29 a72_31 a72_35 a72_37 a72_38 a72_39 a72_40 a72_41 a72_44 a72_50), (90, o90 A90)]) rfl ?_
      obtain rfl := Option.some.inj hf
      exact r_iret F hq dX12_path_22 rfl rfl (Nat.le_refl _) (Nat.le_refl _) ⟨rfl, rfl⟩
  · have hf := e_f hc hf
    refine r_iconst F dX12_path_21 (v := (-1)) (by decide) ?_
    refine r_mat (k := 90) h90 (l' := [(72, o72 0 a72_2 a72_3 a72_4 a72_5 a72_6 a72_7 a72_8 a72_9 a72_10 a72_11 a72_17 a72_18 a72_19 a72_21 a72_22 a72_29 a72_31 a72_35 a72_37 a72_38 a72_39 a72_40 a72_41 a72_44 a72_50), (90, o90 A90)]) rfl ?_
    obtain rfl := Option.some.inj hf
    exact r_iret F hq dX12_path_22 rfl rfl (Nat.le_refl _) (Nat.le_refl _) ⟨rfl, rfl⟩

def fX12_takesNumber (a72_2 : Int32) (a72_3 : Int32) (a72_4 : Int32) (a72_5 : Int32) (a72_6 : Int32) (a72_7 : Int32) (A73 : Nat → Int32) (p0 : Int32) (p1 : Int32) : Option (Int32 × Int32 × Int32 × Int32 × Int32 × Int32) :=
  if a72_5 = (-1) then
    if a72_6 = 2 then
      (fX12_in (Int32.toInt64 a72_7) (Int32.toInt64 p0) (Int32.toInt64 p1)).bind (fun q5 =>
      if q5 = true then
        (fX12_next a72_2 a72_3 a72_4 a72_6 a72_7 A73).bind (fun q7 =>
        some (a72_7, q7.1, q7.2.1, a72_5, q7.2.2.1, q7.2.2.2))
      else
        (fX12_bad a72_4 a72_5).bind (fun q9 =>
        some (p0, a72_3, a72_4, q9, a72_6, a72_7)))
    else
      (fX12_bad a72_4 a72_5).bind (fun q3 =>
      some (p0, a72_3, a72_4, q3, a72_6, a72_7))
  else
    (fX12_bad a72_4 a72_5).bind (fun q1 =>
    some (p0, a72_3, a72_4, q1, a72_6, a72_7))
set_option maxRecDepth 100000 in
theorem tX12_takesNumber_72 {G : eG} (hG : e_GS G) {la : Launch} {h : Nat → eO} {nx : Nat} (hnx : 99 ≤ nx) {a72_0 : Int32} {a72_2 : Int32} {a72_3 : Int32} {a72_4 : Int32} {a72_5 : Int32} {a72_6 : Int32} {a72_7 : Int32} {a72_8 : Bool} {a72_9 : Int32} {a72_10 : Int32} {a72_11 : Int32} {a72_17 : Bool} {a72_18 : Bool} {a72_19 : Bool} {a72_21 : Int32} {a72_22 : Int32} {a72_29 : Int32} {a72_31 : Int32} {a72_35 : Int32} {a72_37 : Bool} {a72_38 : Int32} {a72_39 : Int32} {a72_40 : Int32} {a72_41 : Int64} {a72_44 : Int32} {a72_50 : Bool} {A73 : Nat → Int32} {p0 : Int32} {p1 : Int32} (h72 : h 72 = o72 a72_0 a72_2 a72_3 a72_4 a72_5 a72_6 a72_7 a72_8 a72_9 a72_10 a72_11 a72_17 a72_18 a72_19 a72_21 a72_22 a72_29 a72_31 a72_35 a72_37 a72_38 a72_39 a72_40 a72_41 a72_44 a72_50) (h73 : h 73 = o73 A73) {R9 : Int32 × Int32 × Int32 × Int32 × Int32 × Int32} (hf : fX12_takesNumber a72_2 a72_3 a72_4 a72_5 a72_6 a72_7 A73 p0 p1 = some R9) :
    eSem G la MX12_takesNumber [.ref 72, .int p0, .int p1] h nx 0 0 (fun r9 h9 => r9 = some (.int R9.1) ∧ h9 = e_up h [(72, o72 a72_0 a72_2 R9.2.1 R9.2.2.1 R9.2.2.2.1 R9.2.2.2.2.1 R9.2.2.2.2.2 a72_8 a72_9 a72_10 a72_11 a72_17 a72_18 a72_19 a72_21 a72_22 a72_29 a72_31 a72_35 a72_37 a72_38 a72_39 a72_40 a72_41 a72_44 a72_50)]) := by
  refine eSem.of (k := 1) (L := [some (.ref 72), some (.int p0), some (.int p1), none]) (by decide +kernel) rfl rfl (fun X F hxl hq hcR hsR => ?_)
  subst hxl
  unfold fX12_takesNumber at hf
  refine r_aload_n F dX12_takesNumber_0 rfl ?_
  refine r_get F dX12_takesNumber_1 flX12_134 h72 rfl (e_le rfl) (e_lt hnx rfl) ?_
  refine r_iconst F dX12_takesNumber_4 (v := (-1)) (by decide) ?_
  refine r_icmp_ne F dX12_takesNumber_5 (tgt := 31) (by decide) (fun hc => ?_) (fun hc => ?_)
  · have hf := e_f hc hf
    refine r_aload_n F dX12_takesNumber_31 rfl ?_
    obtain ⟨q1, hq2, hf⟩ := e_bd hf
    refine r_callV F dX12_takesNumber_32 (b := 72) (dc := 0) (ds := 0) (As := []) (S0 := []) lkX12_150 mX12_bad (tX12_bad_72 hG (la := x_l X) (h := e_up h []) hnx h72 hq2) rfl rfl rfl (e_le rfl) (e_le rfl) (e_le rfl) h72 (ci := 12) e_cl12.1 rfl (e_le rfl) (e_lt hnx rfl) (Nat.zero_le _) (Nat.zero_le _) (e_k ?_)
    refine r_wr (l' := [(72, o72 a72_0 a72_2 a72_3 a72_4 q1 a72_6 a72_7 a72_8 a72_9 a72_10 a72_11 a72_17 a72_18 a72_19 a72_21 a72_22 a72_29 a72_31 a72_35 a72_37 a72_38 a72_39 a72_40 a72_41 a72_44 a72_50)]) rfl rfl ?_
    refine r_iload_n F dX12_takesNumber_35 rfl ?_
    obtain rfl := Option.some.inj hf
    exact r_iret F hq dX12_takesNumber_36 rfl rfl (Nat.le_refl _) (Nat.le_refl _) ⟨rfl, rfl⟩
  · have hf := e_t hc hf
    refine r_aload_n F dX12_takesNumber_8 rfl ?_
    refine r_get F dX12_takesNumber_9 flX12_111 h72 rfl (e_le rfl) (e_lt hnx rfl) ?_
    refine r_iconst F dX12_takesNumber_12 (v := 2) (by decide) ?_
    refine r_icmp_ne F dX12_takesNumber_13 (tgt := 31) (by decide) (fun hc => ?_) (fun hc => ?_)
    · have hf := e_f hc hf
      refine r_aload_n F dX12_takesNumber_31 rfl ?_
      obtain ⟨q3, hq4, hf⟩ := e_bd hf
      refine r_callV F dX12_takesNumber_32 (b := 72) (dc := 0) (ds := 0) (As := []) (S0 := []) lkX12_150 mX12_bad (tX12_bad_72 hG (la := x_l X) (h := e_up h []) hnx h72 hq4) rfl rfl rfl (e_le rfl) (e_le rfl) (e_le rfl) h72 (ci := 12) e_cl12.1 rfl (e_le rfl) (e_lt hnx rfl) (Nat.zero_le _) (Nat.zero_le _) (e_k ?_)
      refine r_wr (l' := [(72, o72 a72_0 a72_2 a72_3 a72_4 q3 a72_6 a72_7 a72_8 a72_9 a72_10 a72_11 a72_17 a72_18 a72_19 a72_21 a72_22 a72_29 a72_31 a72_35 a72_37 a72_38 a72_39 a72_40 a72_41 a72_44 a72_50)]) rfl rfl ?_
      refine r_iload_n F dX12_takesNumber_35 rfl ?_
      obtain rfl := Option.some.inj hf
      exact r_iret F hq dX12_takesNumber_36 rfl rfl (Nat.le_refl _) (Nat.le_refl _) ⟨rfl, rfl⟩
    · have hf := e_t hc hf
      refine r_aload_n F dX12_takesNumber_16 rfl ?_
      refine r_get F dX12_takesNumber_17 flX12_125 h72 rfl (e_le rfl) (e_lt hnx rfl) ?_
      refine r_i2l F dX12_takesNumber_20 ?_
      refine r_iload_n F dX12_takesNumber_21 rfl ?_
      refine r_i2l F dX12_takesNumber_22 ?_
      refine r_iload_n F dX12_takesNumber_23 rfl ?_
      refine r_i2l F dX12_takesNumber_24 ?_
      obtain ⟨q5, hq6, hf⟩ := e_bd hf
      refine r_callS F dX12_takesNumber_25 (dc := 0) (ds := 0) (As := [.long (Int32.toInt64 a72_7), .long (Int32.toInt64 p0), .long (Int32.toInt64 p1)]) (S0 := []) lkX12_97 mX12_in (tX12_in hG (la := x_l X) (h := e_up h []) hnx  hq6) rfl rfl rfl (e_le rfl) (e_le rfl) (e_le rfl) (Nat.zero_le _) (Nat.zero_le _) (e_k ?_)
      refine r_wr0 ?_
      refine r_z_ne F dX12_takesNumber_28 (tgt := 37) (by decide) (fun hc => ?_) (fun hc => ?_)
      · have hf := e_t hc hf
        refine r_aload_n F dX12_takesNumber_37 rfl ?_
        refine r_get F dX12_takesNumber_38 flX12_125 h72 rfl (e_le rfl) (e_lt hnx rfl) ?_
        refine r_istore_n F dX12_takesNumber_41 (e_le rfl) (L' := [some (.ref 72), some (.int p0), some (.int p1), some (.int a72_7)]) rfl ?_
        refine r_aload_n F dX12_takesNumber_42 rfl ?_
        obtain ⟨q7, hq8, hf⟩ := e_bd hf
        refine r_callV F dX12_takesNumber_43 (b := 72) (dc := 0) (ds := 0) (As := []) (S0 := []) lkX12_147 mX12_next (tX12_next_72 hG (la := x_l X) (h := e_up h []) hnx h72 h73 hq8) rfl rfl rfl (e_le rfl) (e_le rfl) (e_le rfl) h72 (ci := 12) e_cl12.1 rfl (e_le rfl) (e_lt hnx rfl) (Nat.zero_le _) (Nat.zero_le _) (e_k ?_)
        refine r_wr (l' := [(72, o72 a72_0 a72_2 q7.1 q7.2.1 a72_5 q7.2.2.1 q7.2.2.2 a72_8 a72_9 a72_10 a72_11 a72_17 a72_18 a72_19 a72_21 a72_22 a72_29 a72_31 a72_35 a72_37 a72_38 a72_39 a72_40 a72_41 a72_44 a72_50)]) rfl rfl ?_
        refine r_iload_n F dX12_takesNumber_46 rfl ?_
        obtain rfl := Option.some.inj hf
        exact r_iret F hq dX12_takesNumber_47 rfl rfl (Nat.le_refl _) (Nat.le_refl _) ⟨rfl, rfl⟩
      · have hf := e_f hc hf
        refine r_aload_n F dX12_takesNumber_31 rfl ?_
        obtain ⟨q9, hq10, hf⟩ := e_bd hf
        refine r_callV F dX12_takesNumber_32 (b := 72) (dc := 0) (ds := 0) (As := []) (S0 := []) lkX12_150 mX12_bad (tX12_bad_72 hG (la := x_l X) (h := e_up h []) hnx h72 hq10) rfl rfl rfl (e_le rfl) (e_le rfl) (e_le rfl) h72 (ci := 12) e_cl12.1 rfl (e_le rfl) (e_lt hnx rfl) (Nat.zero_le _) (Nat.zero_le _) (e_k ?_)
        refine r_wr (l' := [(72, o72 a72_0 a72_2 a72_3 a72_4 q9 a72_6 a72_7 a72_8 a72_9 a72_10 a72_11 a72_17 a72_18 a72_19 a72_21 a72_22 a72_29 a72_31 a72_35 a72_37 a72_38 a72_39 a72_40 a72_41 a72_44 a72_50)]) rfl rfl ?_
        refine r_iload_n F dX12_takesNumber_35 rfl ?_
        obtain rfl := Option.some.inj hf
        exact r_iret F hq dX12_takesNumber_36 rfl rfl (Nat.le_refl _) (Nat.le_refl _) ⟨rfl, rfl⟩

def fX12_readsCore (a72_2 : Int32) (a72_3 : Int32) (a72_4 : Int32) (a72_5 : Int32) (a72_6 : Int32) (a72_7 : Int32) (a72_9 : Int32) (a72_10 : Int32) (a72_11 : Int32) (A73 : Nat → Int32) (A74 : Nat → Int32) (A75 : Nat → Int32) (A76 : Nat → Int32) (A77 : Nat → Int32)  : Option (Int32 × Int32 × Int32 × Int32 × Int32 × Int32 × (Nat → Int32) × (Nat → Int32) × (Nat → Int32) × (Nat → Int32)) :=
  (fX12_next a72_2 a72_3 a72_4 a72_6 a72_7 A73).bind (fun q1 =>
  (fX12_takesNumber a72_2 q1.1 q1.2.1 a72_5 q1.2.2.1 q1.2.2.2 A73 0 (a72_9 - 2)).bind (fun q3 =>
  Option.bind (α := Int32) (
    if q3.2.2.2.1 = (-1) then
      if q3.2.2.2.2.1 = 2 then
        (fX12_isFaceRead a72_11 A74 A75 q3.1 q3.2.2.2.2.2).bind (fun q17 =>
        if q17 = true then
          (fX12_bad q3.2.2.1 q3.2.2.2.1).bind (fun q19 =>
          some q19)
        else
          some q3.2.2.2.1)
      else
        some q3.2.2.2.1
    else
      some q3.2.2.2.1) (fun q5 =>
  (fX12_takesNumber a72_2 q3.2.1 q3.2.2.1 q5 q3.2.2.2.2.1 q3.2.2.2.2.2 A73 0 (a72_10 - 2)).bind (fun q7 =>
  (fX12_takesNumber a72_2 q7.2.1 q7.2.2.1 q7.2.2.2.1 q7.2.2.2.2.1 q7.2.2.2.2.2 A73 (-2) 2).bind (fun q9 =>
  Option.bind (α := Int32) (
    if q9.2.2.2.1 = (-1) then
      if q9.2.2.2.2.1 = 2 then
        if q9.1 = 0 then
          if q9.2.2.2.2.2 = 0 then
            (fX12_bad q9.2.2.1 q9.2.2.2.1).bind (fun q15 =>
            some q15)
          else
            some q9.2.2.2.1
        else
          some q9.2.2.2.1
      else
        some q9.2.2.2.1
    else
      some q9.2.2.2.1) (fun q11 =>
  (fX12_takesNumber a72_2 q9.2.1 q9.2.2.1 q11 q9.2.2.2.2.1 q9.2.2.2.2.2 A73 (-2) 2).bind (fun q13 =>
  if q13.2.2.2.1 = (-1) then
    e_g (e_in a72_11 10) (
    e_g (e_in a72_11 10) (
    e_g (e_in a72_11 10) (
    e_g (e_in a72_11 10) (
    some (q13.2.1, q13.2.2.1, q13.2.2.2.1, q13.2.2.2.2.1, q13.2.2.2.2.2, a72_11 + 1, upd A74 (tn a72_11) q3.1, upd A75 (tn a72_11) q7.1, upd A76 (tn a72_11) q9.1, upd A77 (tn a72_11) q13.1)))))
  else
    some (q13.2.1, q13.2.2.1, q13.2.2.2.1, q13.2.2.2.2.1, q13.2.2.2.2.2, a72_11, A74, A75, A76, A77))))))))
set_option maxRecDepth 100000 in
theorem tX12_readsCore_72 {G : eG} (hG : e_GS G) {la : Launch} {h : Nat → eO} {nx : Nat} (hnx : 99 ≤ nx) {a72_0 : Int32} {a72_2 : Int32} {a72_3 : Int32} {a72_4 : Int32} {a72_5 : Int32} {a72_6 : Int32} {a72_7 : Int32} {a72_8 : Bool} {a72_9 : Int32} {a72_10 : Int32} {a72_11 : Int32} {a72_17 : Bool} {a72_18 : Bool} {a72_19 : Bool} {a72_21 : Int32} {a72_22 : Int32} {a72_29 : Int32} {a72_31 : Int32} {a72_35 : Int32} {a72_37 : Bool} {a72_38 : Int32} {a72_39 : Int32} {a72_40 : Int32} {a72_41 : Int64} {a72_44 : Int32} {a72_50 : Bool} {A73 : Nat → Int32} {A74 : Nat → Int32} {A75 : Nat → Int32} {A76 : Nat → Int32} {A77 : Nat → Int32}  (h72 : h 72 = o72 a72_0 a72_2 a72_3 a72_4 a72_5 a72_6 a72_7 a72_8 a72_9 a72_10 a72_11 a72_17 a72_18 a72_19 a72_21 a72_22 a72_29 a72_31 a72_35 a72_37 a72_38 a72_39 a72_40 a72_41 a72_44 a72_50) (h73 : h 73 = o73 A73) (h74 : h 74 = o74 A74) (h75 : h 75 = o75 A75) (h76 : h 76 = o76 A76) (h77 : h 77 = o77 A77) {R9 : Int32 × Int32 × Int32 × Int32 × Int32 × Int32 × (Nat → Int32) × (Nat → Int32) × (Nat → Int32) × (Nat → Int32)} (hf : fX12_readsCore a72_2 a72_3 a72_4 a72_5 a72_6 a72_7 a72_9 a72_10 a72_11 A73 A74 A75 A76 A77  = some R9) :
    eSem G la MX12_readsCore [.ref 72] h nx 0 0 (fun r9 h9 => r9 = none ∧ h9 = e_up h [(72, o72 a72_0 a72_2 R9.1 R9.2.1 R9.2.2.1 R9.2.2.2.1 R9.2.2.2.2.1 a72_8 a72_9 a72_10 R9.2.2.2.2.2.1 a72_17 a72_18 a72_19 a72_21 a72_22 a72_29 a72_31 a72_35 a72_37 a72_38 a72_39 a72_40 a72_41 a72_44 a72_50), (74, o74 R9.2.2.2.2.2.2.1), (75, o75 R9.2.2.2.2.2.2.2.1), (76, o76 R9.2.2.2.2.2.2.2.2.1), (77, o77 R9.2.2.2.2.2.2.2.2.2)]) := by
  refine eSem.of (k := 4) (L := [some (.ref 72), none, none, none, none]) (by decide +kernel) rfl rfl (fun X F hxl hq hcR hsR => ?_)
  subst hxl
  unfold fX12_readsCore at hf
  refine r_aload_n F dX12_readsCore_0 rfl ?_
  obtain ⟨q1, hq2, hf⟩ := e_bd hf
  refine r_callV F dX12_readsCore_1 (b := 72) (dc := 0) (ds := 0) (As := []) (S0 := []) lkX12_147 mX12_next (tX12_next_72 hG (la := x_l X) (h := e_up h []) hnx h72 h73 hq2) rfl rfl rfl (e_le rfl) (e_le rfl) (e_le rfl) h72 (ci := 12) e_cl12.1 rfl (e_le rfl) (e_lt hnx rfl) (Nat.zero_le _) (Nat.zero_le _) (e_k ?_)
  refine r_wr (l' := [(72, o72 a72_0 a72_2 q1.1 q1.2.1 a72_5 q1.2.2.1 q1.2.2.2 a72_8 a72_9 a72_10 a72_11 a72_17 a72_18 a72_19 a72_21 a72_22 a72_29 a72_31 a72_35 a72_37 a72_38 a72_39 a72_40 a72_41 a72_44 a72_50)]) rfl rfl ?_
  refine r_aload_n F dX12_readsCore_4 rfl ?_
  refine r_iconst F dX12_readsCore_5 (v := 0) (by decide) ?_
  refine r_aload_n F dX12_readsCore_6 rfl ?_
  refine r_get F dX12_readsCore_7 flX12_156 rfl rfl (e_le rfl) (e_lt hnx rfl) ?_
  refine r_iconst F dX12_readsCore_10 (v := 2) (by decide) ?_
  refine r_isub F dX12_readsCore_11 ?_
  obtain ⟨q3, hq4, hf⟩ := e_bd hf
  refine r_callV F dX12_readsCore_12 (b := 72) (dc := 0) (ds := 0) (As := [.int 0, .int (a72_9 - 2)]) (S0 := []) lkX12_159 mX12_takesNumber (tX12_takesNumber_72 hG (la := x_l X) (h := e_up h [(72, o72 a72_0 a72_2 q1.1 q1.2.1 a72_5 q1.2.2.1 q1.2.2.2 a72_8 a72_9 a72_10 a72_11 a72_17 a72_18 a72_19 a72_21 a72_22 a72_29 a72_31 a72_35 a72_37 a72_38 a72_39 a72_40 a72_41 a72_44 a72_50)]) hnx rfl h73 hq4) rfl rfl rfl (e_le rfl) (e_le rfl) (e_le rfl) rfl (ci := 12) e_cl12.1 rfl (e_le rfl) (e_lt hnx rfl) (Nat.zero_le _) (Nat.zero_le _) (e_k ?_)
  refine r_wr (l' := [(72, o72 a72_0 a72_2 q3.2.1 q3.2.2.1 q3.2.2.2.1 q3.2.2.2.2.1 q3.2.2.2.2.2 a72_8 a72_9 a72_10 a72_11 a72_17 a72_18 a72_19 a72_21 a72_22 a72_29 a72_31 a72_35 a72_37 a72_38 a72_39 a72_40 a72_41 a72_44 a72_50)]) rfl rfl ?_
  refine r_istore_n F dX12_readsCore_15 (e_le rfl) (L' := [some (.ref 72), some (.int q3.1), none, none, none]) rfl ?_
  refine r_aload_n F dX12_readsCore_16 rfl ?_
  refine r_get F dX12_readsCore_17 flX12_134 rfl rfl (e_le rfl) (e_lt hnx rfl) ?_
  refine r_iconst F dX12_readsCore_20 (v := (-1)) (by decide) ?_
  obtain ⟨q5, hq6, hf⟩ := e_bd hf
  have Jq5 : eRun G X 48 [some (.ref 72), some (.int q3.1), none, none, none] [] h [(72, o72 a72_0 a72_2 q3.2.1 q3.2.2.1 q5 q3.2.2.2.2.1 q3.2.2.2.2.2 a72_8 a72_9 a72_10 a72_11 a72_17 a72_18 a72_19 a72_21 a72_22 a72_29 a72_31 a72_35 a72_37 a72_38 a72_39 a72_40 a72_41 a72_44 a72_50)] nx 0 0 := by
    refine r_aload_n F dX12_readsCore_48 rfl ?_
    refine r_iconst F dX12_readsCore_49 (v := 0) (by decide) ?_
    refine r_aload_n F dX12_readsCore_50 rfl ?_
    refine r_get F dX12_readsCore_51 flX12_166 rfl rfl (e_le rfl) (e_lt hnx rfl) ?_
    refine r_iconst F dX12_readsCore_54 (v := 2) (by decide) ?_
    refine r_isub F dX12_readsCore_55 ?_
    obtain ⟨q7, hq8, hf⟩ := e_bd hf
    refine r_callV F dX12_readsCore_56 (b := 72) (dc := 0) (ds := 0) (As := [.int 0, .int (a72_10 - 2)]) (S0 := []) lkX12_159 mX12_takesNumber (tX12_takesNumber_72 hG (la := x_l X) (h := e_up h [(72, o72 a72_0 a72_2 q3.2.1 q3.2.2.1 q5 q3.2.2.2.2.1 q3.2.2.2.2.2 a72_8 a72_9 a72_10 a72_11 a72_17 a72_18 a72_19 a72_21 a72_22 a72_29 a72_31 a72_35 a72_37 a72_38 a72_39 a72_40 a72_41 a72_44 a72_50)]) hnx rfl h73 hq8) rfl rfl rfl (e_le rfl) (e_le rfl) (e_le rfl) rfl (ci := 12) e_cl12.1 rfl (e_le rfl) (e_lt hnx rfl) (Nat.zero_le _) (Nat.zero_le _) (e_k ?_)
    refine r_wr (l' := [(72, o72 a72_0 a72_2 q7.2.1 q7.2.2.1 q7.2.2.2.1 q7.2.2.2.2.1 q7.2.2.2.2.2 a72_8 a72_9 a72_10 a72_11 a72_17 a72_18 a72_19 a72_21 a72_22 a72_29 a72_31 a72_35 a72_37 a72_38 a72_39 a72_40 a72_41 a72_44 a72_50)]) rfl rfl ?_
    refine r_istore_n F dX12_readsCore_59 (e_le rfl) (L' := [some (.ref 72), some (.int q3.1), some (.int q7.1), none, none]) rfl ?_
    refine r_aload_n F dX12_readsCore_60 rfl ?_
    refine r_bipush F dX12_readsCore_61 (v := (-2)) (by decide) ?_
    refine r_iconst F dX12_readsCore_63 (v := 2) (by decide) ?_
    obtain ⟨q9, hq10, hf⟩ := e_bd hf
    refine r_callV F dX12_readsCore_64 (b := 72) (dc := 0) (ds := 0) (As := [.int (-2), .int 2]) (S0 := []) lkX12_159 mX12_takesNumber (tX12_takesNumber_72 hG (la := x_l X) (h := e_up h [(72, o72 a72_0 a72_2 q7.2.1 q7.2.2.1 q7.2.2.2.1 q7.2.2.2.2.1 q7.2.2.2.2.2 a72_8 a72_9 a72_10 a72_11 a72_17 a72_18 a72_19 a72_21 a72_22 a72_29 a72_31 a72_35 a72_37 a72_38 a72_39 a72_40 a72_41 a72_44 a72_50)]) hnx rfl h73 hq10) rfl rfl rfl (e_le rfl) (e_le rfl) (e_le rfl) rfl (ci := 12) e_cl12.1 rfl (e_le rfl) (e_lt hnx rfl) (Nat.zero_le _) (Nat.zero_le _) (e_k ?_)
    refine r_wr (l' := [(72, o72 a72_0 a72_2 q9.2.1 q9.2.2.1 q9.2.2.2.1 q9.2.2.2.2.1 q9.2.2.2.2.2 a72_8 a72_9 a72_10 a72_11 a72_17 a72_18 a72_19 a72_21 a72_22 a72_29 a72_31 a72_35 a72_37 a72_38 a72_39 a72_40 a72_41 a72_44 a72_50)]) rfl rfl ?_
    refine r_istore_n F dX12_readsCore_67 (e_le rfl) (L' := [some (.ref 72), some (.int q3.1), some (.int q7.1), some (.int q9.1), none]) rfl ?_
    refine r_aload_n F dX12_readsCore_68 rfl ?_
    refine r_get F dX12_readsCore_69 flX12_134 rfl rfl (e_le rfl) (e_lt hnx rfl) ?_
    refine r_iconst F dX12_readsCore_72 (v := (-1)) (by decide) ?_
    obtain ⟨q11, hq12, hf⟩ := e_bd hf
    have Jq11 : eRun G X 99 [some (.ref 72), some (.int q3.1), some (.int q7.1), some (.int q9.1), none] [] h [(72, o72 a72_0 a72_2 q9.2.1 q9.2.2.1 q11 q9.2.2.2.2.1 q9.2.2.2.2.2 a72_8 a72_9 a72_10 a72_11 a72_17 a72_18 a72_19 a72_21 a72_22 a72_29 a72_31 a72_35 a72_37 a72_38 a72_39 a72_40 a72_41 a72_44 a72_50)] nx 0 0 := by
      refine r_aload_n F dX12_readsCore_99 rfl ?_
      refine r_bipush F dX12_readsCore_100 (v := (-2)) (by decide) ?_
      refine r_iconst F dX12_readsCore_102 (v := 2) (by decide) ?_
      obtain ⟨q13, hq14, hf⟩ := e_bd hf
      refine r_callV F dX12_readsCore_103 (b := 72) (dc := 0) (ds := 0) (As := [.int (-2), .int 2]) (S0 := []) lkX12_159 mX12_takesNumber (tX12_takesNumber_72 hG (la := x_l X) (h := e_up h [(72, o72 a72_0 a72_2 q9.2.1 q9.2.2.1 q11 q9.2.2.2.2.1 q9.2.2.2.2.2 a72_8 a72_9 a72_10 a72_11 a72_17 a72_18 a72_19 a72_21 a72_22 a72_29 a72_31 a72_35 a72_37 a72_38 a72_39 a72_40 a72_41 a72_44 a72_50)]) hnx rfl h73 hq14) rfl rfl rfl (e_le rfl) (e_le rfl) (e_le rfl) rfl (ci := 12) e_cl12.1 rfl (e_le rfl) (e_lt hnx rfl) (Nat.zero_le _) (Nat.zero_le _) (e_k ?_)
      refine r_wr (l' := [(72, o72 a72_0 a72_2 q13.2.1 q13.2.2.1 q13.2.2.2.1 q13.2.2.2.2.1 q13.2.2.2.2.2 a72_8 a72_9 a72_10 a72_11 a72_17 a72_18 a72_19 a72_21 a72_22 a72_29 a72_31 a72_35 a72_37 a72_38 a72_39 a72_40 a72_41 a72_44 a72_50)]) rfl rfl ?_
      refine r_istore F dX12_readsCore_106 (e_le rfl) (L' := [some (.ref 72), some (.int q3.1), some (.int q7.1), some (.int q9.1), some (.int q13.1)]) rfl ?_
      refine r_aload_n F dX12_readsCore_108 rfl ?_
      refine r_get F dX12_readsCore_109 flX12_134 rfl rfl (e_le rfl) (e_lt hnx rfl) ?_
      refine r_iconst F dX12_readsCore_112 (v := (-1)) (by decide) ?_
      refine r_icmp_ne F dX12_readsCore_113 (tgt := 167) (by decide) (fun hc => ?_) (fun hc => ?_)
      · have hf := e_f hc hf
        refine r_mat (k := 74) h74 (l' := [(72, o72 a72_0 a72_2 q13.2.1 q13.2.2.1 q13.2.2.2.1 q13.2.2.2.2.1 q13.2.2.2.2.2 a72_8 a72_9 a72_10 a72_11 a72_17 a72_18 a72_19 a72_21 a72_22 a72_29 a72_31 a72_35 a72_37 a72_38 a72_39 a72_40 a72_41 a72_44 a72_50), (74, o74 A74)]) rfl ?_
        refine r_mat (k := 75) h75 (l' := [(72, o72 a72_0 a72_2 q13.2.1 q13.2.2.1 q13.2.2.2.1 q13.2.2.2.2.1 q13.2.2.2.2.2 a72_8 a72_9 a72_10 a72_11 a72_17 a72_18 a72_19 a72_21 a72_22 a72_29 a72_31 a72_35 a72_37 a72_38 a72_39 a72_40 a72_41 a72_44 a72_50), (74, o74 A74), (75, o75 A75)]) rfl ?_
        refine r_mat (k := 76) h76 (l' := [(72, o72 a72_0 a72_2 q13.2.1 q13.2.2.1 q13.2.2.2.1 q13.2.2.2.2.1 q13.2.2.2.2.2 a72_8 a72_9 a72_10 a72_11 a72_17 a72_18 a72_19 a72_21 a72_22 a72_29 a72_31 a72_35 a72_37 a72_38 a72_39 a72_40 a72_41 a72_44 a72_50), (74, o74 A74), (75, o75 A75), (76, o76 A76)]) rfl ?_
        refine r_mat (k := 77) h77 (l' := [(72, o72 a72_0 a72_2 q13.2.1 q13.2.2.1 q13.2.2.2.1 q13.2.2.2.2.1 q13.2.2.2.2.2 a72_8 a72_9 a72_10 a72_11 a72_17 a72_18 a72_19 a72_21 a72_22 a72_29 a72_31 a72_35 a72_37 a72_38 a72_39 a72_40 a72_41 a72_44 a72_50), (74, o74 A74), (75, o75 A75), (76, o76 A76), (77, o77 A77)]) rfl ?_
        obtain rfl := Option.some.inj hf
        exact r_vret F hq dX12_readsCore_167 rfl rfl (Nat.le_refl _) (Nat.le_refl _) ⟨rfl, rfl⟩
      · have hf := e_t hc hf
        refine r_aload_n F dX12_readsCore_116 rfl ?_
        refine r_get F dX12_readsCore_117 flX12_13 rfl rfl (e_le rfl) (e_lt hnx rfl) ?_
        refine r_aload_n F dX12_readsCore_120 rfl ?_
        refine r_get F dX12_readsCore_121 flX12_153 rfl rfl (e_le rfl) (e_lt hnx rfl) ?_
        refine r_iload_n F dX12_readsCore_124 rfl ?_
        obtain ⟨hg, hf⟩ := e_gd hf
        refine r_iast F dX12_readsCore_125 h74 (e_le rfl) (e_lt hnx rfl) (e_vp hg) (l' := [(72, o72 a72_0 a72_2 q13.2.1 q13.2.2.1 q13.2.2.2.1 q13.2.2.2.2.1 q13.2.2.2.2.2 a72_8 a72_9 a72_10 a72_11 a72_17 a72_18 a72_19 a72_21 a72_22 a72_29 a72_31 a72_35 a72_37 a72_38 a72_39 a72_40 a72_41 a72_44 a72_50), (74, o74 (upd A74 (tn a72_11) q3.1))]) rfl ?_
        refine r_aload_n F dX12_readsCore_126 rfl ?_
        refine r_get F dX12_readsCore_127 flX12_16 rfl rfl (e_le rfl) (e_lt hnx rfl) ?_
        refine r_aload_n F dX12_readsCore_130 rfl ?_
        refine r_get F dX12_readsCore_131 flX12_153 rfl rfl (e_le rfl) (e_lt hnx rfl) ?_
        refine r_iload_n F dX12_readsCore_134 rfl ?_
        obtain ⟨hg, hf⟩ := e_gd hf
        refine r_iast F dX12_readsCore_135 h75 (e_le rfl) (e_lt hnx rfl) (e_vp hg) (l' := [(72, o72 a72_0 a72_2 q13.2.1 q13.2.2.1 q13.2.2.2.1 q13.2.2.2.2.1 q13.2.2.2.2.2 a72_8 a72_9 a72_10 a72_11 a72_17 a72_18 a72_19 a72_21 a72_22 a72_29 a72_31 a72_35 a72_37 a72_38 a72_39 a72_40 a72_41 a72_44 a72_50), (74, o74 (upd A74 (tn a72_11) q3.1)), (75, o75 (upd A75 (tn a72_11) q7.1))]) rfl ?_
        refine r_aload_n F dX12_readsCore_136 rfl ?_
        refine r_get F dX12_readsCore_137 flX12_19 rfl rfl (e_le rfl) (e_lt hnx rfl) ?_
        refine r_aload_n F dX12_readsCore_140 rfl ?_
        refine r_get F dX12_readsCore_141 flX12_153 rfl rfl (e_le rfl) (e_lt hnx rfl) ?_
        refine r_iload_n F dX12_readsCore_144 rfl ?_
        obtain ⟨hg, hf⟩ := e_gd hf
        refine r_iast F dX12_readsCore_145 h76 (e_le rfl) (e_lt hnx rfl) (e_vp hg) (l' := [(72, o72 a72_0 a72_2 q13.2.1 q13.2.2.1 q13.2.2.2.1 q13.2.2.2.2.1 q13.2.2.2.2.2 a72_8 a72_9 a72_10 a72_11 a72_17 a72_18 a72_19 a72_21 a72_22 a72_29 a72_31 a72_35 a72_37 a72_38 a72_39 a72_40 a72_41 a72_44 a72_50), (74, o74 (upd A74 (tn a72_11) q3.1)), (75, o75 (upd A75 (tn a72_11) q7.1)), (76, o76 (upd A76 (tn a72_11) q9.1))]) rfl ?_
        refine r_aload_n F dX12_readsCore_146 rfl ?_
        refine r_get F dX12_readsCore_147 flX12_22 rfl rfl (e_le rfl) (e_lt hnx rfl) ?_
        refine r_aload_n F dX12_readsCore_150 rfl ?_
        refine r_get F dX12_readsCore_151 flX12_153 rfl rfl (e_le rfl) (e_lt hnx rfl) ?_
        refine r_iload F dX12_readsCore_154 rfl ?_
        obtain ⟨hg, hf⟩ := e_gd hf
        refine r_iast F dX12_readsCore_156 h77 (e_le rfl) (e_lt hnx rfl) (e_vp hg) (l' := [(72, o72 a72_0 a72_2 q13.2.1 q13.2.2.1 q13.2.2.2.1 q13.2.2.2.2.1 q13.2.2.2.2.2 a72_8 a72_9 a72_10 a72_11 a72_17 a72_18 a72_19 a72_21 a72_22 a72_29 a72_31 a72_35 a72_37 a72_38 a72_39 a72_40 a72_41 a72_44 a72_50), (74, o74 (upd A74 (tn a72_11) q3.1)), (75, o75 (upd A75 (tn a72_11) q7.1)), (76, o76 (upd A76 (tn a72_11) q9.1)), (77, o77 (upd A77 (tn a72_11) q13.1))]) rfl ?_
        refine r_aload_n F dX12_readsCore_157 rfl ?_
        refine r_dup F dX12_readsCore_158 rfl ?_
        refine r_get F dX12_readsCore_159 flX12_153 rfl rfl (e_le rfl) (e_lt hnx rfl) ?_
        refine r_iconst F dX12_readsCore_162 (v := 1) (by decide) ?_
        refine r_iadd F dX12_readsCore_163 ?_
        refine r_put F dX12_readsCore_164 flX12_153 rfl rfl rfl rfl (e_le rfl) (e_le rfl) (e_lt hnx rfl) (l' := [(72, o72 a72_0 a72_2 q13.2.1 q13.2.2.1 q13.2.2.2.1 q13.2.2.2.2.1 q13.2.2.2.2.2 a72_8 a72_9 a72_10 (a72_11 + 1) a72_17 a72_18 a72_19 a72_21 a72_22 a72_29 a72_31 a72_35 a72_37 a72_38 a72_39 a72_40 a72_41 a72_44 a72_50), (74, o74 (upd A74 (tn a72_11) q3.1)), (75, o75 (upd A75 (tn a72_11) q7.1)), (76, o76 (upd A76 (tn a72_11) q9.1)), (77, o77 (upd A77 (tn a72_11) q13.1))]) rfl ?_
        obtain rfl := Option.some.inj hf
        exact r_vret F hq dX12_readsCore_167 rfl rfl (Nat.le_refl _) (Nat.le_refl _) ⟨rfl, rfl⟩
    refine r_icmp_ne F dX12_readsCore_73 (tgt := 99) (by decide) (fun hc => ?_) (fun hc => ?_)
    · have hq12 := e_f hc hq12
      obtain rfl := Option.some.inj hq12
      exact Jq11
    · have hq12 := e_t hc hq12
      refine r_aload_n F dX12_readsCore_76 rfl ?_
      refine r_get F dX12_readsCore_77 flX12_111 rfl rfl (e_le rfl) (e_lt hnx rfl) ?_
      refine r_iconst F dX12_readsCore_80 (v := 2) (by decide) ?_
      refine r_icmp_ne F dX12_readsCore_81 (tgt := 99) (by decide) (fun hc => ?_) (fun hc => ?_)
      · have hq12 := e_f hc hq12
        obtain rfl := Option.some.inj hq12
        exact Jq11
      · have hq12 := e_t hc hq12
        refine r_iload_n F dX12_readsCore_84 rfl ?_
        refine r_if_ne F dX12_readsCore_85 (tgt := 99) (by decide) (fun hc => ?_) (fun hc => ?_)
        · have hq12 := e_f hc hq12
          obtain rfl := Option.some.inj hq12
          exact Jq11
        · have hq12 := e_t hc hq12
          refine r_aload_n F dX12_readsCore_88 rfl ?_
          refine r_get F dX12_readsCore_89 flX12_125 rfl rfl (e_le rfl) (e_lt hnx rfl) ?_
          refine r_if_ne F dX12_readsCore_92 (tgt := 99) (by decide) (fun hc => ?_) (fun hc => ?_)
          · have hq12 := e_f hc hq12
            obtain rfl := Option.some.inj hq12
            exact Jq11
          · have hq12 := e_t hc hq12
            refine r_aload_n F dX12_readsCore_95 rfl ?_
            obtain ⟨q15, hq16, hq12⟩ := e_bd hq12
            refine r_callV F dX12_readsCore_96 (b := 72) (dc := 0) (ds := 0) (As := []) (S0 := []) lkX12_150 mX12_bad (tX12_bad_72 hG (la := x_l X) (h := e_up h [(72, o72 a72_0 a72_2 q9.2.1 q9.2.2.1 q9.2.2.2.1 q9.2.2.2.2.1 q9.2.2.2.2.2 a72_8 a72_9 a72_10 a72_11 a72_17 a72_18 a72_19 a72_21 a72_22 a72_29 a72_31 a72_35 a72_37 a72_38 a72_39 a72_40 a72_41 a72_44 a72_50)]) hnx rfl hq16) rfl rfl rfl (e_le rfl) (e_le rfl) (e_le rfl) rfl (ci := 12) e_cl12.1 rfl (e_le rfl) (e_lt hnx rfl) (Nat.zero_le _) (Nat.zero_le _) (e_k ?_)
            refine r_wr (l' := [(72, o72 a72_0 a72_2 q9.2.1 q9.2.2.1 q15 q9.2.2.2.2.1 q9.2.2.2.2.2 a72_8 a72_9 a72_10 a72_11 a72_17 a72_18 a72_19 a72_21 a72_22 a72_29 a72_31 a72_35 a72_37 a72_38 a72_39 a72_40 a72_41 a72_44 a72_50)]) rfl rfl ?_
            obtain rfl := Option.some.inj hq12
            exact Jq11
  refine r_icmp_ne F dX12_readsCore_21 (tgt := 48) (by decide) (fun hc => ?_) (fun hc => ?_)
  · have hq6 := e_f hc hq6
    obtain rfl := Option.some.inj hq6
    exact Jq5
  · have hq6 := e_t hc hq6
    refine r_aload_n F dX12_readsCore_24 rfl ?_
    refine r_get F dX12_readsCore_25 flX12_111 rfl rfl (e_le rfl) (e_lt hnx rfl) ?_
    refine r_iconst F dX12_readsCore_28 (v := 2) (by decide) ?_
    refine r_icmp_ne F dX12_readsCore_29 (tgt := 48) (by decide) (fun hc => ?_) (fun hc => ?_)
    · have hq6 := e_f hc hq6
      obtain rfl := Option.some.inj hq6
      exact Jq5
    · have hq6 := e_t hc hq6
      refine r_aload_n F dX12_readsCore_32 rfl ?_
      refine r_iload_n F dX12_readsCore_33 rfl ?_
      refine r_aload_n F dX12_readsCore_34 rfl ?_
      refine r_get F dX12_readsCore_35 flX12_125 rfl rfl (e_le rfl) (e_lt hnx rfl) ?_
      obtain ⟨q17, hq18, hq6⟩ := e_bd hq6
      refine r_callV F dX12_readsCore_38 (b := 72) (dc := 0) (ds := 0) (As := [.int q3.1, .int q3.2.2.2.2.2]) (S0 := []) lkX12_162 mX12_isFaceRead (tX12_isFaceRead_72 hG (la := x_l X) (h := e_up h [(72, o72 a72_0 a72_2 q3.2.1 q3.2.2.1 q3.2.2.2.1 q3.2.2.2.2.1 q3.2.2.2.2.2 a72_8 a72_9 a72_10 a72_11 a72_17 a72_18 a72_19 a72_21 a72_22 a72_29 a72_31 a72_35 a72_37 a72_38 a72_39 a72_40 a72_41 a72_44 a72_50)]) hnx rfl h74 h75 hq18) rfl rfl rfl (e_le rfl) (e_le rfl) (e_le rfl) rfl (ci := 12) e_cl12.1 rfl (e_le rfl) (e_lt hnx rfl) (Nat.zero_le _) (Nat.zero_le _) (e_k ?_)
      refine r_wr0 ?_
      refine r_z_eq F dX12_readsCore_41 (tgt := 48) (by decide) (fun hc => ?_) (fun hc => ?_)
      · have hq6 := e_t hc hq6
        refine r_aload_n F dX12_readsCore_44 rfl ?_
        obtain ⟨q19, hq20, hq6⟩ := e_bd hq6
        refine r_callV F dX12_readsCore_45 (b := 72) (dc := 0) (ds := 0) (As := []) (S0 := []) lkX12_150 mX12_bad (tX12_bad_72 hG (la := x_l X) (h := e_up h [(72, o72 a72_0 a72_2 q3.2.1 q3.2.2.1 q3.2.2.2.1 q3.2.2.2.2.1 q3.2.2.2.2.2 a72_8 a72_9 a72_10 a72_11 a72_17 a72_18 a72_19 a72_21 a72_22 a72_29 a72_31 a72_35 a72_37 a72_38 a72_39 a72_40 a72_41 a72_44 a72_50)]) hnx rfl hq20) rfl rfl rfl (e_le rfl) (e_le rfl) (e_le rfl) rfl (ci := 12) e_cl12.1 rfl (e_le rfl) (e_lt hnx rfl) (Nat.zero_le _) (Nat.zero_le _) (e_k ?_)
        refine r_wr (l' := [(72, o72 a72_0 a72_2 q3.2.1 q3.2.2.1 q19 q3.2.2.2.2.1 q3.2.2.2.2.2 a72_8 a72_9 a72_10 a72_11 a72_17 a72_18 a72_19 a72_21 a72_22 a72_29 a72_31 a72_35 a72_37 a72_38 a72_39 a72_40 a72_41 a72_44 a72_50)]) rfl rfl ?_
        obtain rfl := Option.some.inj hq6
        exact Jq5
      · have hq6 := e_f hc hq6
        obtain rfl := Option.some.inj hq6
        exact Jq5

def fJ0_coder_7d493_s9   : Option (Int32) :=
  some 0
set_option maxRecDepth 100000 in
theorem tJ0_coder_7d493_9 {G : eG} (hG : e_GS G) {la : Launch} {h : Nat → eO} {nx : Nat} (hnx : 99 ≤ nx)    {R9 : Int32} (hf : fJ0_coder_7d493_s9   = some R9) :
    eSem G la MJ0_coder_7d493 [.ref 9] h nx 0 0 (fun r9 h9 => r9 = some (.int R9) ∧ h9 = h) := by
  refine eSem.of (k := 0) (L := [some (.ref 9)]) (by decide +kernel) rfl rfl (fun X F hxl hq hcR hsR => ?_)
  subst hxl
  unfold fJ0_coder_7d493_s9 at hf
  refine r_gets F dJ0_coder_7d493_0 (C := "java/lang/String") (n := "COMPACT_STRINGS") (d := "Z") (v := .int 1) (by decide +kernel) fsJ0_38 ?_
  refine r_if_eq_f F dJ0_coder_7d493_3 (tgt := 13) (by decide) (by decide) ?_
  refine r_aload_n F dJ0_coder_7d493_6 rfl ?_
  refine r_getC F dJ0_coder_7d493_7 (i := 1) (by decide) fsJ0_15 ?_
  refine r_goto F dJ0_coder_7d493_10 (tgt := 14) (by decide) ?_
  obtain rfl := Option.some.inj hf
  exact r_nret F hq dJ0_coder_7d493_14 rfl rfl rfl (Nat.le_refl _) (Nat.le_refl _) ⟨rfl, rfl⟩

def fJ0_length_8abf5_s9   : Option (Int32) :=
  (fJ0_coder_7d493_s9 ).bind (fun q1 =>
  some ((4 : Int32) >>> (q1 &&& 31)))
set_option maxRecDepth 100000 in
theorem tJ0_length_8abf5_9 {G : eG} (hG : e_GS G) {la : Launch} {h : Nat → eO} {nx : Nat} (hnx : 99 ≤ nx)    {R9 : Int32} (hf : fJ0_length_8abf5_s9   = some R9) :
    eSem G la MJ0_length_8abf5 [.ref 9] h nx 0 0 (fun r9 h9 => r9 = some (.int R9) ∧ h9 = h) := by
  refine eSem.of (k := 0) (L := [some (.ref 9)]) (by decide +kernel) rfl rfl (fun X F hxl hq hcR hsR => ?_)
  subst hxl
  unfold fJ0_length_8abf5_s9 at hf
  refine r_aload_n F dJ0_length_8abf5_0 rfl ?_
  refine r_getV F dJ0_length_8abf5_1 (i := 1) (by decide) fsJ0_9 ?_
  refine r_alenS F dJ0_length_8abf5_4 (hG.s17) (v := 4) rfl ?_
  refine r_aload_n F dJ0_length_8abf5_5 rfl ?_
  obtain ⟨q1, hq2, hf⟩ := e_bd hf
  refine r_callT F dJ0_length_8abf5_6 (i := 1) (dc := 0) (ds := 0) (As := []) (S0 := [.int 4]) lkJ0_335 mJ0_coder_7d493 (tJ0_coder_7d493_9 hG (la := x_l X) (h := e_up h []) hnx  hq2) rfl rfl rfl (e_le rfl) (e_le rfl) (e_le rfl) rfl (by decide) (Nat.zero_le _) (Nat.zero_le _) (e_k ?_)
  refine r_wr0 ?_
  refine r_ishr F dJ0_length_8abf5_9 ?_
  obtain rfl := Option.some.inj hf
  exact r_iret F hq dJ0_length_8abf5_10 rfl rfl (Nat.le_refl _) (Nat.le_refl _) ⟨rfl, rfl⟩

def fJ0_isLatin1_aae02_s9   : Option (Bool) :=
  some true
set_option maxRecDepth 100000 in
theorem tJ0_isLatin1_aae02_9 {G : eG} (hG : e_GS G) {la : Launch} {h : Nat → eO} {nx : Nat} (hnx : 99 ≤ nx)    {R9 : Bool} (hf : fJ0_isLatin1_aae02_s9   = some R9) :
    eSem G la MJ0_isLatin1_aae02 [.ref 9] h nx 0 0 (fun r9 h9 => r9 = some (.int (e_b R9)) ∧ h9 = h) := by
  refine eSem.of (k := 0) (L := [some (.ref 9)]) (by decide +kernel) rfl rfl (fun X F hxl hq hcR hsR => ?_)
  subst hxl
  unfold fJ0_isLatin1_aae02_s9 at hf
  refine r_gets F dJ0_isLatin1_aae02_0 (C := "java/lang/String") (n := "COMPACT_STRINGS") (d := "Z") (v := .int 1) (by decide +kernel) fsJ0_38 ?_
  refine r_if_eq_f F dJ0_isLatin1_aae02_3 (tgt := 17) (by decide) (by decide) ?_
  refine r_aload_n F dJ0_isLatin1_aae02_6 rfl ?_
  refine r_getC F dJ0_isLatin1_aae02_7 (i := 1) (by decide) fsJ0_15 ?_
  refine r_if_ne_f F dJ0_isLatin1_aae02_10 (tgt := 17) (by decide) (by decide) ?_
  refine r_iconst F dJ0_isLatin1_aae02_13 (v := 1) (by decide) ?_
  refine r_goto F dJ0_isLatin1_aae02_14 (tgt := 18) (by decide) ?_
  obtain rfl := Option.some.inj hf
  exact r_zret F hq (v := true) dJ0_isLatin1_aae02_18 rfl rfl (Nat.le_refl _) (Nat.le_refl _) ⟨rfl, rfl⟩

def fX12_rests (a72_0 : Int32) (a72_21 : Int32) (a72_22 : Int32) (a72_29 : Int32) (a72_38 : Int32) (a72_39 : Int32) (a72_40 : Int32) (A79 : Nat → Int32) (A80 : Nat → Int32) (A81 : Nat → Int32) (A82 : Nat → Int32) (A83 : Nat → Int32) (A84 : Nat → Int32) (A85 : Nat → Int32) (A96 : Nat → Int32)  : Option (Int32 × Int32 × Int32 × Int32 × Int32 × Int32 × (Nat → Int32) × (Nat → Int32) × (Nat → Int32) × (Nat → Int32) × (Nat → Int32) × (Nat → Int32) × (Nat → Int32)) :=
  (fX12_isCrystal a72_21).bind (fun q1 =>
  if q1 = true then
    (fX12_putAside A79 A96).bind (fun q3 =>
    (e_loop (fun (v7 : Int32 × Int32 × Int32 × Int32 × Int32 × (Nat → Int32) × (Nat → Int32) × (Nat → Int32) × (Nat → Int32) × (Nat → Int32) × (Nat → Int32)) => (
        if 40 < v7.1 then
          some (.inr (v7.1, v7.2.1, v7.2.2.1, v7.2.2.2.1, v7.2.2.2.2.1, v7.2.2.2.2.2.1, v7.2.2.2.2.2.2.1, v7.2.2.2.2.2.2.2.1, v7.2.2.2.2.2.2.2.2.1, v7.2.2.2.2.2.2.2.2.2.1, v7.2.2.2.2.2.2.2.2.2.2))
        else
          (fX12_greatestForce a72_21 a72_22 v7.2.1 v7.2.2.2.2.2.1 A80 v7.2.2.2.2.2.2.1 v7.2.2.2.2.2.2.2.1 v7.2.2.2.2.2.2.2.2.1 v7.2.2.2.2.2.2.2.2.2.1 v7.2.2.2.2.2.2.2.2.2.2).bind (fun q10 =>
          if q10.1 ≤ (A80 (tn 2)) then
            some (.inr (v7.1, q10.2.1, v7.2.2.1, v7.2.2.2.1, v7.2.2.2.2.1, v7.2.2.2.2.2.1, q10.2.2.1, q10.2.2.2.1, q10.2.2.2.2.1, q10.2.2.2.2.2.1, q10.2.2.2.2.2.2))
          else
            (fX12_round a72_21 a72_22 q10.2.1 v7.2.2.1 v7.2.2.2.1 v7.2.2.2.2.1 v7.2.2.2.2.2.1 A80 q10.2.2.1 q10.2.2.2.1 q10.2.2.2.2.1 q10.2.2.2.2.2.1 q10.2.2.2.2.2.2).bind (fun q12 =>
            some (.inl (v7.1 + 1, q12.1, q12.2.1, q12.2.2.1, q12.2.2.2.1, q12.2.2.2.2.1, q12.2.2.2.2.2.1, q12.2.2.2.2.2.2.1, q12.2.2.2.2.2.2.2.1, q12.2.2.2.2.2.2.2.2.1, q12.2.2.2.2.2.2.2.2.2)))) : Option ((Int32 × Int32 × Int32 × Int32 × Int32 × (Nat → Int32) × (Nat → Int32) × (Nat → Int32) × (Nat → Int32) × (Nat → Int32) × (Nat → Int32)) ⊕ (Int32 × Int32 × Int32 × Int32 × Int32 × (Nat → Int32) × (Nat → Int32) × (Nat → Int32) × (Nat → Int32) × (Nat → Int32) × (Nat → Int32))))) e_fuel (0, a72_29, a72_38, a72_39, a72_40, A79, A81, A82, A83, A84, A85)).bind (fun x8 =>
    (fX12_takeBack x8.2.2.2.2.2.1 q3).bind (fun q14 =>
    if x8.1 ≤ 40 then
      some (x8.1, 0, x8.2.1, x8.2.2.1, x8.2.2.2.1, x8.2.2.2.2.1, q14, x8.2.2.2.2.2.2.1, x8.2.2.2.2.2.2.2.1, x8.2.2.2.2.2.2.2.2.1, x8.2.2.2.2.2.2.2.2.2.1, x8.2.2.2.2.2.2.2.2.2.2, q3)
    else
      some ((-1), 0, x8.2.1, x8.2.2.1, x8.2.2.2.1, x8.2.2.2.2.1, q14, x8.2.2.2.2.2.2.1, x8.2.2.2.2.2.2.2.1, x8.2.2.2.2.2.2.2.2.1, x8.2.2.2.2.2.2.2.2.2.1, x8.2.2.2.2.2.2.2.2.2.2, q3))))
  else
    some ((-1), 0, a72_29, a72_38, a72_39, a72_40, A79, A81, A82, A83, A84, A85, A96))
set_option maxRecDepth 100000 in
theorem tX12_rests_72 {G : eG} (hG : e_GS G) {la : Launch} {h : Nat → eO} {nx : Nat} (hnx : 99 ≤ nx) {a72_0 : Int32} {a72_2 : Int32} {a72_3 : Int32} {a72_4 : Int32} {a72_5 : Int32} {a72_6 : Int32} {a72_7 : Int32} {a72_8 : Bool} {a72_9 : Int32} {a72_10 : Int32} {a72_11 : Int32} {a72_17 : Bool} {a72_18 : Bool} {a72_19 : Bool} {a72_21 : Int32} {a72_22 : Int32} {a72_29 : Int32} {a72_31 : Int32} {a72_35 : Int32} {a72_37 : Bool} {a72_38 : Int32} {a72_39 : Int32} {a72_40 : Int32} {a72_41 : Int64} {a72_44 : Int32} {a72_50 : Bool} {A79 : Nat → Int32} {A80 : Nat → Int32} {A81 : Nat → Int32} {A82 : Nat → Int32} {A83 : Nat → Int32} {A84 : Nat → Int32} {A85 : Nat → Int32} {A96 : Nat → Int32}  (h72 : h 72 = o72 a72_0 a72_2 a72_3 a72_4 a72_5 a72_6 a72_7 a72_8 a72_9 a72_10 a72_11 a72_17 a72_18 a72_19 a72_21 a72_22 a72_29 a72_31 a72_35 a72_37 a72_38 a72_39 a72_40 a72_41 a72_44 a72_50) (h79 : h 79 = o79 A79) (h80 : h 80 = o80 A80) (h81 : h 81 = o81 A81) (h82 : h 82 = o82 A82) (h83 : h 83 = o83 A83) (h84 : h 84 = o84 A84) (h85 : h 85 = o85 A85) (h96 : h 96 = o96 A96) {R9 : Int32 × Int32 × Int32 × Int32 × Int32 × Int32 × (Nat → Int32) × (Nat → Int32) × (Nat → Int32) × (Nat → Int32) × (Nat → Int32) × (Nat → Int32) × (Nat → Int32)} (hf : fX12_rests a72_0 a72_21 a72_22 a72_29 a72_38 a72_39 a72_40 A79 A80 A81 A82 A83 A84 A85 A96  = some R9) :
    eSem G la MX12_rests [.ref 72] h nx 0 0 (fun r9 h9 => r9 = some (.int R9.1) ∧ h9 = e_up h [(72, o72 R9.2.1 a72_2 a72_3 a72_4 a72_5 a72_6 a72_7 a72_8 a72_9 a72_10 a72_11 a72_17 a72_18 a72_19 a72_21 a72_22 R9.2.2.1 a72_31 a72_35 a72_37 R9.2.2.2.1 R9.2.2.2.2.1 R9.2.2.2.2.2.1 a72_41 a72_44 a72_50), (79, o79 R9.2.2.2.2.2.2.1), (81, o81 R9.2.2.2.2.2.2.2.1), (82, o82 R9.2.2.2.2.2.2.2.2.1), (83, o83 R9.2.2.2.2.2.2.2.2.2.1), (84, o84 R9.2.2.2.2.2.2.2.2.2.2.1), (85, o85 R9.2.2.2.2.2.2.2.2.2.2.2.1), (96, o96 R9.2.2.2.2.2.2.2.2.2.2.2.2)]) := by
  refine eSem.of (k := 1) (L := [some (.ref 72), none]) (by decide +kernel) rfl rfl (fun X F hxl hq hcR hsR => ?_)
  subst hxl
  unfold fX12_rests at hf
  refine r_aload_n F dX12_rests_0 rfl ?_
  refine r_iconst F dX12_rests_1 (v := 0) (by decide) ?_
  refine r_put F dX12_rests_2 flX12_86 rfl rfl rfl h72 (e_le rfl) (e_le rfl) (e_lt hnx rfl) (l' := [(72, o72 0 a72_2 a72_3 a72_4 a72_5 a72_6 a72_7 a72_8 a72_9 a72_10 a72_11 a72_17 a72_18 a72_19 a72_21 a72_22 a72_29 a72_31 a72_35 a72_37 a72_38 a72_39 a72_40 a72_41 a72_44 a72_50)]) rfl ?_
  refine r_aload_n F dX12_rests_5 rfl ?_
  obtain ⟨q1, hq2, hf⟩ := e_bd hf
  refine r_callV F dX12_rests_6 (b := 72) (dc := 0) (ds := 0) (As := []) (S0 := []) lkX12_306 mX12_isCrystal (tX12_isCrystal_72 hG (la := x_l X) (h := e_up h [(72, o72 0 a72_2 a72_3 a72_4 a72_5 a72_6 a72_7 a72_8 a72_9 a72_10 a72_11 a72_17 a72_18 a72_19 a72_21 a72_22 a72_29 a72_31 a72_35 a72_37 a72_38 a72_39 a72_40 a72_41 a72_44 a72_50)]) hnx rfl hq2) rfl rfl rfl (e_le rfl) (e_le rfl) (e_le rfl) rfl (ci := 12) e_cl12.1 rfl (e_le rfl) (e_lt hnx rfl) (Nat.zero_le _) (Nat.zero_le _) (e_k ?_)
  refine r_wr0 ?_
  refine r_z_ne F dX12_rests_9 (tgt := 14) (by decide) (fun hc => ?_) (fun hc => ?_)
  · have hf := e_t hc hf
    refine r_aload_n F dX12_rests_14 rfl ?_
    obtain ⟨q3, hq4, hf⟩ := e_bd hf
    refine r_callV F dX12_rests_15 (b := 72) (dc := 0) (ds := 0) (As := []) (S0 := []) lkX12_455 mX12_putAside (tX12_putAside_72 hG (la := x_l X) (h := e_up h [(72, o72 0 a72_2 a72_3 a72_4 a72_5 a72_6 a72_7 a72_8 a72_9 a72_10 a72_11 a72_17 a72_18 a72_19 a72_21 a72_22 a72_29 a72_31 a72_35 a72_37 a72_38 a72_39 a72_40 a72_41 a72_44 a72_50)]) hnx rfl h79 h96 hq4) rfl rfl rfl (e_le rfl) (e_le rfl) (e_le rfl) rfl (ci := 12) e_cl12.1 rfl (e_le rfl) (e_lt hnx rfl) (Nat.zero_le _) (Nat.zero_le _) (e_k ?_)
    refine r_wr (l' := [(72, o72 0 a72_2 a72_3 a72_4 a72_5 a72_6 a72_7 a72_8 a72_9 a72_10 a72_11 a72_17 a72_18 a72_19 a72_21 a72_22 a72_29 a72_31 a72_35 a72_37 a72_38 a72_39 a72_40 a72_41 a72_44 a72_50), (96, o96 q3)]) rfl rfl ?_
    refine r_iconst F dX12_rests_18 (v := 0) (by decide) ?_
    refine r_istore_n F dX12_rests_19 (e_le rfl) (L' := [some (.ref 72), some (.int 0)]) rfl ?_
    refine r_mat (k := 79) h79 (l' := [(72, o72 0 a72_2 a72_3 a72_4 a72_5 a72_6 a72_7 a72_8 a72_9 a72_10 a72_11 a72_17 a72_18 a72_19 a72_21 a72_22 a72_29 a72_31 a72_35 a72_37 a72_38 a72_39 a72_40 a72_41 a72_44 a72_50), (79, o79 A79), (96, o96 q3)]) rfl ?_
    refine r_mat (k := 81) h81 (l' := [(72, o72 0 a72_2 a72_3 a72_4 a72_5 a72_6 a72_7 a72_8 a72_9 a72_10 a72_11 a72_17 a72_18 a72_19 a72_21 a72_22 a72_29 a72_31 a72_35 a72_37 a72_38 a72_39 a72_40 a72_41 a72_44 a72_50), (79, o79 A79), (81, o81 A81), (96, o96 q3)]) rfl ?_
    refine r_mat (k := 82) h82 (l' := [(72, o72 0 a72_2 a72_3 a72_4 a72_5 a72_6 a72_7 a72_8 a72_9 a72_10 a72_11 a72_17 a72_18 a72_19 a72_21 a72_22 a72_29 a72_31 a72_35 a72_37 a72_38 a72_39 a72_40 a72_41 a72_44 a72_50), (79, o79 A79), (81, o81 A81), (82, o82 A82), (96, o96 q3)]) rfl ?_
    refine r_mat (k := 83) h83 (l' := [(72, o72 0 a72_2 a72_3 a72_4 a72_5 a72_6 a72_7 a72_8 a72_9 a72_10 a72_11 a72_17 a72_18 a72_19 a72_21 a72_22 a72_29 a72_31 a72_35 a72_37 a72_38 a72_39 a72_40 a72_41 a72_44 a72_50), (79, o79 A79), (81, o81 A81), (82, o82 A82), (83, o83 A83), (96, o96 q3)]) rfl ?_
    refine r_mat (k := 84) h84 (l' := [(72, o72 0 a72_2 a72_3 a72_4 a72_5 a72_6 a72_7 a72_8 a72_9 a72_10 a72_11 a72_17 a72_18 a72_19 a72_21 a72_22 a72_29 a72_31 a72_35 a72_37 a72_38 a72_39 a72_40 a72_41 a72_44 a72_50), (79, o79 A79), (81, o81 A81), (82, o82 A82), (83, o83 A83), (84, o84 A84), (96, o96 q3)]) rfl ?_
    refine r_mat (k := 85) h85 (l' := [(72, o72 0 a72_2 a72_3 a72_4 a72_5 a72_6 a72_7 a72_8 a72_9 a72_10 a72_11 a72_17 a72_18 a72_19 a72_21 a72_22 a72_29 a72_31 a72_35 a72_37 a72_38 a72_39 a72_40 a72_41 a72_44 a72_50), (79, o79 A79), (81, o81 A81), (82, o82 A82), (83, o83 A83), (84, o84 A84), (85, o85 A85), (96, o96 q3)]) rfl ?_
    obtain ⟨x8, hx9, hf⟩ := e_bd hf
    refine (e_loop_ok (P := fun (v7 : Int32 × Int32 × Int32 × Int32 × Int32 × (Nat → Int32) × (Nat → Int32) × (Nat → Int32) × (Nat → Int32) × (Nat → Int32) × (Nat → Int32)) => eRun G X 20 [some (.ref 72), some (.int v7.1)] [] h [(72, o72 0 a72_2 a72_3 a72_4 a72_5 a72_6 a72_7 a72_8 a72_9 a72_10 a72_11 a72_17 a72_18 a72_19 a72_21 a72_22 v7.2.1 a72_31 a72_35 a72_37 v7.2.2.1 v7.2.2.2.1 v7.2.2.2.2.1 a72_41 a72_44 a72_50), (79, o79 v7.2.2.2.2.2.1), (81, o81 v7.2.2.2.2.2.2.1), (82, o82 v7.2.2.2.2.2.2.2.1), (83, o83 v7.2.2.2.2.2.2.2.2.1), (84, o84 v7.2.2.2.2.2.2.2.2.2.1), (85, o85 v7.2.2.2.2.2.2.2.2.2.2), (96, o96 q3)] nx 0 0) (K := fun (x8 : Int32 × Int32 × Int32 × Int32 × Int32 × (Nat → Int32) × (Nat → Int32) × (Nat → Int32) × (Nat → Int32) × (Nat → Int32) × (Nat → Int32)) => eRun G X 49 [some (.ref 72), some (.int x8.1)] [] h [(72, o72 0 a72_2 a72_3 a72_4 a72_5 a72_6 a72_7 a72_8 a72_9 a72_10 a72_11 a72_17 a72_18 a72_19 a72_21 a72_22 x8.2.1 a72_31 a72_35 a72_37 x8.2.2.1 x8.2.2.2.1 x8.2.2.2.2.1 a72_41 a72_44 a72_50), (79, o79 x8.2.2.2.2.2.1), (81, o81 x8.2.2.2.2.2.2.1), (82, o82 x8.2.2.2.2.2.2.2.1), (83, o83 x8.2.2.2.2.2.2.2.2.1), (84, o84 x8.2.2.2.2.2.2.2.2.2.1), (85, o85 x8.2.2.2.2.2.2.2.2.2.2), (96, o96 q3)] nx 0 0) ?_ e_fuel (0, a72_29, a72_38, a72_39, a72_40, A79, A81, A82, A83, A84, A85) x8 hx9 ?_ : _)
    · intro v7 z hz ih hx
      refine r_iload_n F dX12_rests_20 rfl ?_
      refine r_bipush F dX12_rests_21 (v := 40) (by decide) ?_
      refine r_icmp_gt F dX12_rests_23 (tgt := 49) (by decide) (fun hc => ?_) (fun hc => ?_)
      · have hz := e_t hc hz
        obtain rfl := Option.some.inj hz
        exact hx (v7.1, v7.2.1, v7.2.2.1, v7.2.2.2.1, v7.2.2.2.2.1, v7.2.2.2.2.2.1, v7.2.2.2.2.2.2.1, v7.2.2.2.2.2.2.2.1, v7.2.2.2.2.2.2.2.2.1, v7.2.2.2.2.2.2.2.2.2.1, v7.2.2.2.2.2.2.2.2.2.2) rfl
      · have hz := e_f hc hz
        refine r_aload_n F dX12_rests_26 rfl ?_
        obtain ⟨q10, hq11, hz⟩ := e_bd hz
        refine r_callV F dX12_rests_27 (b := 72) (dc := 0) (ds := 0) (As := []) (S0 := []) lkX12_467 mX12_greatestForce (tX12_greatestForce_72 hG (la := x_l X) (h := e_up h [(72, o72 0 a72_2 a72_3 a72_4 a72_5 a72_6 a72_7 a72_8 a72_9 a72_10 a72_11 a72_17 a72_18 a72_19 a72_21 a72_22 v7.2.1 a72_31 a72_35 a72_37 v7.2.2.1 v7.2.2.2.1 v7.2.2.2.2.1 a72_41 a72_44 a72_50), (79, o79 v7.2.2.2.2.2.1), (81, o81 v7.2.2.2.2.2.2.1), (82, o82 v7.2.2.2.2.2.2.2.1), (83, o83 v7.2.2.2.2.2.2.2.2.1), (84, o84 v7.2.2.2.2.2.2.2.2.2.1), (85, o85 v7.2.2.2.2.2.2.2.2.2.2), (96, o96 q3)]) hnx rfl rfl h80 rfl rfl rfl rfl rfl hq11) rfl rfl rfl (e_le rfl) (e_le rfl) (e_le rfl) rfl (ci := 12) e_cl12.1 rfl (e_le rfl) (e_lt hnx rfl) (Nat.zero_le _) (Nat.zero_le _) (e_k ?_)
        refine r_wr (l' := [(72, o72 0 a72_2 a72_3 a72_4 a72_5 a72_6 a72_7 a72_8 a72_9 a72_10 a72_11 a72_17 a72_18 a72_19 a72_21 a72_22 q10.2.1 a72_31 a72_35 a72_37 v7.2.2.1 v7.2.2.2.1 v7.2.2.2.2.1 a72_41 a72_44 a72_50), (79, o79 v7.2.2.2.2.2.1), (81, o81 q10.2.2.1), (82, o82 q10.2.2.2.1), (83, o83 q10.2.2.2.2.1), (84, o84 q10.2.2.2.2.2.1), (85, o85 q10.2.2.2.2.2.2), (96, o96 q3)]) rfl rfl ?_
        refine r_aload_n F dX12_rests_30 rfl ?_
        refine r_get F dX12_rests_31 flX12_31 rfl rfl (e_le rfl) (e_lt hnx rfl) ?_
        refine r_iconst F dX12_rests_34 (v := 2) (by decide) ?_
        refine r_iald F dX12_rests_35 (i := 2) h80 (e_le rfl) (e_lt hnx rfl) (e_vp (by decide)) ?_
        refine r_icmp_le F dX12_rests_36 (tgt := 49) (by decide) (fun hc => ?_) (fun hc => ?_)
        · have hz := e_t hc hz
          obtain rfl := Option.some.inj hz
          exact hx (v7.1, q10.2.1, v7.2.2.1, v7.2.2.2.1, v7.2.2.2.2.1, v7.2.2.2.2.2.1, q10.2.2.1, q10.2.2.2.1, q10.2.2.2.2.1, q10.2.2.2.2.2.1, q10.2.2.2.2.2.2) rfl
        · have hz := e_f hc hz
          refine r_aload_n F dX12_rests_39 rfl ?_
          obtain ⟨q12, hq13, hz⟩ := e_bd hz
          refine r_callV F dX12_rests_40 (b := 72) (dc := 0) (ds := 0) (As := []) (S0 := []) lkX12_390 mX12_round (tX12_round_72 hG (la := x_l X) (h := e_up h [(72, o72 0 a72_2 a72_3 a72_4 a72_5 a72_6 a72_7 a72_8 a72_9 a72_10 a72_11 a72_17 a72_18 a72_19 a72_21 a72_22 q10.2.1 a72_31 a72_35 a72_37 v7.2.2.1 v7.2.2.2.1 v7.2.2.2.2.1 a72_41 a72_44 a72_50), (79, o79 v7.2.2.2.2.2.1), (81, o81 q10.2.2.1), (82, o82 q10.2.2.2.1), (83, o83 q10.2.2.2.2.1), (84, o84 q10.2.2.2.2.2.1), (85, o85 q10.2.2.2.2.2.2), (96, o96 q3)]) hnx rfl rfl h80 rfl rfl rfl rfl rfl hq13) rfl rfl rfl (e_le rfl) (e_le rfl) (e_le rfl) rfl (ci := 12) e_cl12.1 rfl (e_le rfl) (e_lt hnx rfl) (Nat.zero_le _) (Nat.zero_le _) (e_k ?_)
          refine r_wr (l' := [(72, o72 0 a72_2 a72_3 a72_4 a72_5 a72_6 a72_7 a72_8 a72_9 a72_10 a72_11 a72_17 a72_18 a72_19 a72_21 a72_22 q12.1 a72_31 a72_35 a72_37 q12.2.1 q12.2.2.1 q12.2.2.2.1 a72_41 a72_44 a72_50), (79, o79 q12.2.2.2.2.1), (81, o81 q12.2.2.2.2.2.1), (82, o82 q12.2.2.2.2.2.2.1), (83, o83 q12.2.2.2.2.2.2.2.1), (84, o84 q12.2.2.2.2.2.2.2.2.1), (85, o85 q12.2.2.2.2.2.2.2.2.2), (96, o96 q3)]) rfl rfl ?_
          refine r_inc F dX12_rests_43 (k9 := 1) (by decide) rfl (L' := [some (.ref 72), some (.int (v7.1 + 1))]) rfl ?_
          refine r_goto F dX12_rests_46 (tgt := 20) (by decide) ?_
          obtain rfl := Option.some.inj hz
          exact ih (v7.1 + 1, q12.1, q12.2.1, q12.2.2.1, q12.2.2.2.1, q12.2.2.2.2.1, q12.2.2.2.2.2.1, q12.2.2.2.2.2.2.1, q12.2.2.2.2.2.2.2.1, q12.2.2.2.2.2.2.2.2.1, q12.2.2.2.2.2.2.2.2.2) rfl
    · show eRun G X 49 [some (.ref 72), some (.int x8.1)] [] h [(72, o72 0 a72_2 a72_3 a72_4 a72_5 a72_6 a72_7 a72_8 a72_9 a72_10 a72_11 a72_17 a72_18 a72_19 a72_21 a72_22 x8.2.1 a72_31 a72_35 a72_37 x8.2.2.1 x8.2.2.2.1 x8.2.2.2.2.1 a72_41 a72_44 a72_50), (79, o79 x8.2.2.2.2.2.1), (81, o81 x8.2.2.2.2.2.2.1), (82, o82 x8.2.2.2.2.2.2.2.1), (83, o83 x8.2.2.2.2.2.2.2.2.1), (84, o84 x8.2.2.2.2.2.2.2.2.2.1), (85, o85 x8.2.2.2.2.2.2.2.2.2.2), (96, o96 q3)] nx 0 0
      refine r_aload_n F dX12_rests_49 rfl ?_
      obtain ⟨q14, hq15, hf⟩ := e_bd hf
      refine r_callV F dX12_rests_50 (b := 72) (dc := 0) (ds := 0) (As := []) (S0 := []) lkX12_461 mX12_takeBack (tX12_takeBack_72 hG (la := x_l X) (h := e_up h [(72, o72 0 a72_2 a72_3 a72_4 a72_5 a72_6 a72_7 a72_8 a72_9 a72_10 a72_11 a72_17 a72_18 a72_19 a72_21 a72_22 x8.2.1 a72_31 a72_35 a72_37 x8.2.2.1 x8.2.2.2.1 x8.2.2.2.2.1 a72_41 a72_44 a72_50), (79, o79 x8.2.2.2.2.2.1), (81, o81 x8.2.2.2.2.2.2.1), (82, o82 x8.2.2.2.2.2.2.2.1), (83, o83 x8.2.2.2.2.2.2.2.2.1), (84, o84 x8.2.2.2.2.2.2.2.2.2.1), (85, o85 x8.2.2.2.2.2.2.2.2.2.2), (96, o96 q3)]) hnx rfl rfl rfl hq15) rfl rfl rfl (e_le rfl) (e_le rfl) (e_le rfl) rfl (ci := 12) e_cl12.1 rfl (e_le rfl) (e_lt hnx rfl) (Nat.zero_le _) (Nat.zero_le _) (e_k ?_)
      refine r_wr (l' := [(72, o72 0 a72_2 a72_3 a72_4 a72_5 a72_6 a72_7 a72_8 a72_9 a72_10 a72_11 a72_17 a72_18 a72_19 a72_21 a72_22 x8.2.1 a72_31 a72_35 a72_37 x8.2.2.1 x8.2.2.2.1 x8.2.2.2.2.1 a72_41 a72_44 a72_50), (79, o79 q14), (81, o81 x8.2.2.2.2.2.2.1), (82, o82 x8.2.2.2.2.2.2.2.1), (83, o83 x8.2.2.2.2.2.2.2.2.1), (84, o84 x8.2.2.2.2.2.2.2.2.2.1), (85, o85 x8.2.2.2.2.2.2.2.2.2.2), (96, o96 q3)]) rfl rfl ?_
      refine r_iload_n F dX12_rests_53 rfl ?_
      refine r_bipush F dX12_rests_54 (v := 40) (by decide) ?_
      refine r_icmp_le F dX12_rests_56 (tgt := 63) (by decide) (fun hc => ?_) (fun hc => ?_)
      · have hf := e_t hc hf
        refine r_iload_n F dX12_rests_63 rfl ?_
        obtain rfl := Option.some.inj hf
        exact r_iret F hq dX12_rests_64 rfl rfl (Nat.le_refl _) (Nat.le_refl _) ⟨rfl, rfl⟩
      · have hf := e_f hc hf
        refine r_iconst F dX12_rests_59 (v := (-1)) (by decide) ?_
        refine r_goto F dX12_rests_60 (tgt := 64) (by decide) ?_
        obtain rfl := Option.some.inj hf
        exact r_iret F hq dX12_rests_64 rfl rfl (Nat.le_refl _) (Nat.le_refl _) ⟨rfl, rfl⟩
  · have hf := e_f hc hf
    refine r_iconst F dX12_rests_12 (v := (-1)) (by decide) ?_
    refine r_mat (k := 79) h79 (l' := [(72, o72 0 a72_2 a72_3 a72_4 a72_5 a72_6 a72_7 a72_8 a72_9 a72_10 a72_11 a72_17 a72_18 a72_19 a72_21 a72_22 a72_29 a72_31 a72_35 a72_37 a72_38 a72_39 a72_40 a72_41 a72_44 a72_50), (79, o79 A79)]) rfl ?_
    refine r_mat (k := 81) h81 (l' := [(72, o72 0 a72_2 a72_3 a72_4 a72_5 a72_6 a72_7 a72_8 a72_9 a72_10 a72_11 a72_17 a72_18 a72_19 a72_21 a72_22 a72_29 a72_31 a72_35 a72_37 a72_38 a72_39 a72_40 a72_41 a72_44 a72_50), (79, o79 A79), (81, o81 A81)]) rfl ?_
    refine r_mat (k := 82) h82 (l' := [(72, o72 0 a72_2 a72_3 a72_4 a72_5 a72_6 a72_7 a72_8 a72_9 a72_10 a72_11 a72_17 a72_18 a72_19 a72_21 a72_22 a72_29 a72_31 a72_35 a72_37 a72_38 a72_39 a72_40 a72_41 a72_44 a72_50), (79, o79 A79), (81, o81 A81), (82, o82 A82)]) rfl ?_
    refine r_mat (k := 83) h83 (l' := [(72, o72 0 a72_2 a72_3 a72_4 a72_5 a72_6 a72_7 a72_8 a72_9 a72_10 a72_11 a72_17 a72_18 a72_19 a72_21 a72_22 a72_29 a72_31 a72_35 a72_37 a72_38 a72_39 a72_40 a72_41 a72_44 a72_50), (79, o79 A79), (81, o81 A81), (82, o82 A82), (83, o83 A83)]) rfl ?_
    refine r_mat (k := 84) h84 (l' := [(72, o72 0 a72_2 a72_3 a72_4 a72_5 a72_6 a72_7 a72_8 a72_9 a72_10 a72_11 a72_17 a72_18 a72_19 a72_21 a72_22 a72_29 a72_31 a72_35 a72_37 a72_38 a72_39 a72_40 a72_41 a72_44 a72_50), (79, o79 A79), (81, o81 A81), (82, o82 A82), (83, o83 A83), (84, o84 A84)]) rfl ?_
    refine r_mat (k := 85) h85 (l' := [(72, o72 0 a72_2 a72_3 a72_4 a72_5 a72_6 a72_7 a72_8 a72_9 a72_10 a72_11 a72_17 a72_18 a72_19 a72_21 a72_22 a72_29 a72_31 a72_35 a72_37 a72_38 a72_39 a72_40 a72_41 a72_44 a72_50), (79, o79 A79), (81, o81 A81), (82, o82 A82), (83, o83 A83), (84, o84 A84), (85, o85 A85)]) rfl ?_
    refine r_mat (k := 96) h96 (l' := [(72, o72 0 a72_2 a72_3 a72_4 a72_5 a72_6 a72_7 a72_8 a72_9 a72_10 a72_11 a72_17 a72_18 a72_19 a72_21 a72_22 a72_29 a72_31 a72_35 a72_37 a72_38 a72_39 a72_40 a72_41 a72_44 a72_50), (79, o79 A79), (81, o81 A81), (82, o82 A82), (83, o83 A83), (84, o84 A84), (85, o85 A85), (96, o96 A96)]) rfl ?_
    obtain rfl := Option.some.inj hf
    exact r_iret F hq dX12_rests_13 rfl rfl (Nat.le_refl _) (Nat.le_refl _) ⟨rfl, rfl⟩

def fX12_rid (a72_0 : Int32) (a72_21 : Int32) (a72_22 : Int32) (a72_29 : Int32) (A79 : Nat → Int32) (A80 : Nat → Int32) (A81 : Nat → Int32) (A82 : Nat → Int32) (A83 : Nat → Int32) (A84 : Nat → Int32) (A85 : Nat → Int32) (A93 : Nat → Int32) (A94 : Nat → Int32) (A95 : Nat → Int32) (p0 : Int32) : Option (Int32 × Int32 × Int32 × (Nat → Int32) × (Nat → Int32) × (Nat → Int32) × (Nat → Int32) × (Nat → Int32) × (Nat → Int32) × (Nat → Int32) × (Nat → Int32)) :=
  (fX12_isCrystal a72_21).bind (fun q1 =>
  if q1 = true then
    (fX12_in (Int32.toInt64 p0) 1 9).bind (fun q3 =>
    if q3 = true then
      (fX12_laysRid a72_21 a72_22 a72_29 A79 A80 A81 A82 A83 A84 A85 A93 A94 A95 p0).bind (fun q5 =>
      some (q5.1, 0, q5.2.1, q5.2.2.1, q5.2.2.2.1, q5.2.2.2.2.1, q5.2.2.2.2.2.1, q5.2.2.2.2.2.2.1, q5.2.2.2.2.2.2.2.1, q5.2.2.2.2.2.2.2.2.1, q5.2.2.2.2.2.2.2.2.2))
    else
      some ((-1), 0, a72_29, A81, A82, A83, A84, A85, A93, A94, A95))
  else
    some ((-1), 0, a72_29, A81, A82, A83, A84, A85, A93, A94, A95))
set_option maxRecDepth 100000 in
theorem tX12_rid_72 {G : eG} (hG : e_GS G) {la : Launch} {h : Nat → eO} {nx : Nat} (hnx : 99 ≤ nx) {a72_0 : Int32} {a72_2 : Int32} {a72_3 : Int32} {a72_4 : Int32} {a72_5 : Int32} {a72_6 : Int32} {a72_7 : Int32} {a72_8 : Bool} {a72_9 : Int32} {a72_10 : Int32} {a72_11 : Int32} {a72_17 : Bool} {a72_18 : Bool} {a72_19 : Bool} {a72_21 : Int32} {a72_22 : Int32} {a72_29 : Int32} {a72_31 : Int32} {a72_35 : Int32} {a72_37 : Bool} {a72_38 : Int32} {a72_39 : Int32} {a72_40 : Int32} {a72_41 : Int64} {a72_44 : Int32} {a72_50 : Bool} {A79 : Nat → Int32} {A80 : Nat → Int32} {A81 : Nat → Int32} {A82 : Nat → Int32} {A83 : Nat → Int32} {A84 : Nat → Int32} {A85 : Nat → Int32} {A93 : Nat → Int32} {A94 : Nat → Int32} {A95 : Nat → Int32} {p0 : Int32} (h72 : h 72 = o72 a72_0 a72_2 a72_3 a72_4 a72_5 a72_6 a72_7 a72_8 a72_9 a72_10 a72_11 a72_17 a72_18 a72_19 a72_21 a72_22 a72_29 a72_31 a72_35 a72_37 a72_38 a72_39 a72_40 a72_41 a72_44 a72_50) (h79 : h 79 = o79 A79) (h80 : h 80 = o80 A80) (h81 : h 81 = o81 A81) (h82 : h 82 = o82 A82) (h83 : h 83 = o83 A83) (h84 : h 84 = o84 A84) (h85 : h 85 = o85 A85) (h93 : h 93 = o93 A93) (h94 : h 94 = o94 A94) (h95 : h 95 = o95 A95) {R9 : Int32 × Int32 × Int32 × (Nat → Int32) × (Nat → Int32) × (Nat → Int32) × (Nat → Int32) × (Nat → Int32) × (Nat → Int32) × (Nat → Int32) × (Nat → Int32)} (hf : fX12_rid a72_0 a72_21 a72_22 a72_29 A79 A80 A81 A82 A83 A84 A85 A93 A94 A95 p0 = some R9) :
    eSem G la MX12_rid [.ref 72, .int p0] h nx 0 0 (fun r9 h9 => r9 = some (.int R9.1) ∧ h9 = e_up h [(72, o72 R9.2.1 a72_2 a72_3 a72_4 a72_5 a72_6 a72_7 a72_8 a72_9 a72_10 a72_11 a72_17 a72_18 a72_19 a72_21 a72_22 R9.2.2.1 a72_31 a72_35 a72_37 a72_38 a72_39 a72_40 a72_41 a72_44 a72_50), (81, o81 R9.2.2.2.1), (82, o82 R9.2.2.2.2.1), (83, o83 R9.2.2.2.2.2.1), (84, o84 R9.2.2.2.2.2.2.1), (85, o85 R9.2.2.2.2.2.2.2.1), (93, o93 R9.2.2.2.2.2.2.2.2.1), (94, o94 R9.2.2.2.2.2.2.2.2.2.1), (95, o95 R9.2.2.2.2.2.2.2.2.2.2)]) := by
  refine eSem.of (k := 0) (L := [some (.ref 72), some (.int p0)]) (by decide +kernel) rfl rfl (fun X F hxl hq hcR hsR => ?_)
  subst hxl
  unfold fX12_rid at hf
  refine r_aload_n F dX12_rid_0 rfl ?_
  refine r_iconst F dX12_rid_1 (v := 0) (by decide) ?_
  refine r_put F dX12_rid_2 flX12_86 rfl rfl rfl h72 (e_le rfl) (e_le rfl) (e_lt hnx rfl) (l' := [(72, o72 0 a72_2 a72_3 a72_4 a72_5 a72_6 a72_7 a72_8 a72_9 a72_10 a72_11 a72_17 a72_18 a72_19 a72_21 a72_22 a72_29 a72_31 a72_35 a72_37 a72_38 a72_39 a72_40 a72_41 a72_44 a72_50)]) rfl ?_
  refine r_aload_n F dX12_rid_5 rfl ?_
  obtain ⟨q1, hq2, hf⟩ := e_bd hf
  refine r_callV F dX12_rid_6 (b := 72) (dc := 0) (ds := 0) (As := []) (S0 := []) lkX12_306 mX12_isCrystal (tX12_isCrystal_72 hG (la := x_l X) (h := e_up h [(72, o72 0 a72_2 a72_3 a72_4 a72_5 a72_6 a72_7 a72_8 a72_9 a72_10 a72_11 a72_17 a72_18 a72_19 a72_21 a72_22 a72_29 a72_31 a72_35 a72_37 a72_38 a72_39 a72_40 a72_41 a72_44 a72_50)]) hnx rfl hq2) rfl rfl rfl (e_le rfl) (e_le rfl) (e_le rfl) rfl (ci := 12) e_cl12.1 rfl (e_le rfl) (e_lt hnx rfl) (Nat.zero_le _) (Nat.zero_le _) (e_k ?_)
  refine r_wr0 ?_
  refine r_z_eq F dX12_rid_9 (tgt := 32) (by decide) (fun hc => ?_) (fun hc => ?_)
  · have hf := e_t hc hf
    refine r_iload_n F dX12_rid_12 rfl ?_
    refine r_i2l F dX12_rid_13 ?_
    refine r_lconst F dX12_rid_14 (v := 1) (by decide) ?_
    refine r_ldc2 F dX12_rid_15 klX12_399 ?_
    obtain ⟨q3, hq4, hf⟩ := e_bd hf
    refine r_callS F dX12_rid_18 (dc := 0) (ds := 0) (As := [.long (Int32.toInt64 p0), .long 1, .long 9]) (S0 := []) lkX12_97 mX12_in (tX12_in hG (la := x_l X) (h := e_up h [(72, o72 0 a72_2 a72_3 a72_4 a72_5 a72_6 a72_7 a72_8 a72_9 a72_10 a72_11 a72_17 a72_18 a72_19 a72_21 a72_22 a72_29 a72_31 a72_35 a72_37 a72_38 a72_39 a72_40 a72_41 a72_44 a72_50)]) hnx  hq4) rfl rfl rfl (e_le rfl) (e_le rfl) (e_le rfl) (Nat.zero_le _) (Nat.zero_le _) (e_k ?_)
    refine r_wr0 ?_
    refine r_z_eq F dX12_rid_21 (tgt := 32) (by decide) (fun hc => ?_) (fun hc => ?_)
    · have hf := e_t hc hf
      refine r_aload_n F dX12_rid_24 rfl ?_
      refine r_iload_n F dX12_rid_25 rfl ?_
      obtain ⟨q5, hq6, hf⟩ := e_bd hf
      refine r_callV F dX12_rid_26 (b := 72) (dc := 0) (ds := 0) (As := [.int p0]) (S0 := []) lkX12_452 mX12_laysRid (tX12_laysRid_72 hG (la := x_l X) (h := e_up h [(72, o72 0 a72_2 a72_3 a72_4 a72_5 a72_6 a72_7 a72_8 a72_9 a72_10 a72_11 a72_17 a72_18 a72_19 a72_21 a72_22 a72_29 a72_31 a72_35 a72_37 a72_38 a72_39 a72_40 a72_41 a72_44 a72_50)]) hnx rfl h79 h80 h81 h82 h83 h84 h85 h93 h94 h95 hq6) rfl rfl rfl (e_le rfl) (e_le rfl) (e_le rfl) rfl (ci := 12) e_cl12.1 rfl (e_le rfl) (e_lt hnx rfl) (Nat.zero_le _) (Nat.zero_le _) (e_k ?_)
      refine r_wr (l' := [(72, o72 0 a72_2 a72_3 a72_4 a72_5 a72_6 a72_7 a72_8 a72_9 a72_10 a72_11 a72_17 a72_18 a72_19 a72_21 a72_22 q5.2.1 a72_31 a72_35 a72_37 a72_38 a72_39 a72_40 a72_41 a72_44 a72_50), (81, o81 q5.2.2.1), (82, o82 q5.2.2.2.1), (83, o83 q5.2.2.2.2.1), (84, o84 q5.2.2.2.2.2.1), (85, o85 q5.2.2.2.2.2.2.1), (93, o93 q5.2.2.2.2.2.2.2.1), (94, o94 q5.2.2.2.2.2.2.2.2.1), (95, o95 q5.2.2.2.2.2.2.2.2.2)]) rfl rfl ?_
      refine r_goto F dX12_rid_29 (tgt := 33) (by decide) ?_
      obtain rfl := Option.some.inj hf
      exact r_iret F hq dX12_rid_33 rfl rfl (Nat.le_refl _) (Nat.le_refl _) ⟨rfl, rfl⟩
    · have hf := e_f hc hf
      refine r_iconst F dX12_rid_32 (v := (-1)) (by decide) ?_
      refine r_mat (k := 81) h81 (l' := [(72, o72 0 a72_2 a72_3 a72_4 a72_5 a72_6 a72_7 a72_8 a72_9 a72_10 a72_11 a72_17 a72_18 a72_19 a72_21 a72_22 a72_29 a72_31 a72_35 a72_37 a72_38 a72_39 a72_40 a72_41 a72_44 a72_50), (81, o81 A81)]) rfl ?_
      refine r_mat (k := 82) h82 (l' := [(72, o72 0 a72_2 a72_3 a72_4 a72_5 a72_6 a72_7 a72_8 a72_9 a72_10 a72_11 a72_17 a72_18 a72_19 a72_21 a72_22 a72_29 a72_31 a72_35 a72_37 a72_38 a72_39 a72_40 a72_41 a72_44 a72_50), (81, o81 A81), (82, o82 A82)]) rfl ?_
      refine r_mat (k := 83) h83 (l' := [(72, o72 0 a72_2 a72_3 a72_4 a72_5 a72_6 a72_7 a72_8 a72_9 a72_10 a72_11 a72_17 a72_18 a72_19 a72_21 a72_22 a72_29 a72_31 a72_35 a72_37 a72_38 a72_39 a72_40 a72_41 a72_44 a72_50), (81, o81 A81), (82, o82 A82), (83, o83 A83)]) rfl ?_
      refine r_mat (k := 84) h84 (l' := [(72, o72 0 a72_2 a72_3 a72_4 a72_5 a72_6 a72_7 a72_8 a72_9 a72_10 a72_11 a72_17 a72_18 a72_19 a72_21 a72_22 a72_29 a72_31 a72_35 a72_37 a72_38 a72_39 a72_40 a72_41 a72_44 a72_50), (81, o81 A81), (82, o82 A82), (83, o83 A83), (84, o84 A84)]) rfl ?_
      refine r_mat (k := 85) h85 (l' := [(72, o72 0 a72_2 a72_3 a72_4 a72_5 a72_6 a72_7 a72_8 a72_9 a72_10 a72_11 a72_17 a72_18 a72_19 a72_21 a72_22 a72_29 a72_31 a72_35 a72_37 a72_38 a72_39 a72_40 a72_41 a72_44 a72_50), (81, o81 A81), (82, o82 A82), (83, o83 A83), (84, o84 A84), (85, o85 A85)]) rfl ?_
      refine r_mat (k := 93) h93 (l' := [(72, o72 0 a72_2 a72_3 a72_4 a72_5 a72_6 a72_7 a72_8 a72_9 a72_10 a72_11 a72_17 a72_18 a72_19 a72_21 a72_22 a72_29 a72_31 a72_35 a72_37 a72_38 a72_39 a72_40 a72_41 a72_44 a72_50), (81, o81 A81), (82, o82 A82), (83, o83 A83), (84, o84 A84), (85, o85 A85), (93, o93 A93)]) rfl ?_
      refine r_mat (k := 94) h94 (l' := [(72, o72 0 a72_2 a72_3 a72_4 a72_5 a72_6 a72_7 a72_8 a72_9 a72_10 a72_11 a72_17 a72_18 a72_19 a72_21 a72_22 a72_29 a72_31 a72_35 a72_37 a72_38 a72_39 a72_40 a72_41 a72_44 a72_50), (81, o81 A81), (82, o82 A82), (83, o83 A83), (84, o84 A84), (85, o85 A85), (93, o93 A93), (94, o94 A94)]) rfl ?_
      refine r_mat (k := 95) h95 (l' := [(72, o72 0 a72_2 a72_3 a72_4 a72_5 a72_6 a72_7 a72_8 a72_9 a72_10 a72_11 a72_17 a72_18 a72_19 a72_21 a72_22 a72_29 a72_31 a72_35 a72_37 a72_38 a72_39 a72_40 a72_41 a72_44 a72_50), (81, o81 A81), (82, o82 A82), (83, o83 A83), (84, o84 A84), (85, o85 A85), (93, o93 A93), (94, o94 A94), (95, o95 A95)]) rfl ?_
      obtain rfl := Option.some.inj hf
      exact r_iret F hq dX12_rid_33 rfl rfl (Nat.le_refl _) (Nat.le_refl _) ⟨rfl, rfl⟩
  · have hf := e_f hc hf
    refine r_iconst F dX12_rid_32 (v := (-1)) (by decide) ?_
    refine r_mat (k := 81) h81 (l' := [(72, o72 0 a72_2 a72_3 a72_4 a72_5 a72_6 a72_7 a72_8 a72_9 a72_10 a72_11 a72_17 a72_18 a72_19 a72_21 a72_22 a72_29 a72_31 a72_35 a72_37 a72_38 a72_39 a72_40 a72_41 a72_44 a72_50), (81, o81 A81)]) rfl ?_
    refine r_mat (k := 82) h82 (l' := [(72, o72 0 a72_2 a72_3 a72_4 a72_5 a72_6 a72_7 a72_8 a72_9 a72_10 a72_11 a72_17 a72_18 a72_19 a72_21 a72_22 a72_29 a72_31 a72_35 a72_37 a72_38 a72_39 a72_40 a72_41 a72_44 a72_50), (81, o81 A81), (82, o82 A82)]) rfl ?_
    refine r_mat (k := 83) h83 (l' := [(72, o72 0 a72_2 a72_3 a72_4 a72_5 a72_6 a72_7 a72_8 a72_9 a72_10 a72_11 a72_17 a72_18 a72_19 a72_21 a72_22 a72_29 a72_31 a72_35 a72_37 a72_38 a72_39 a72_40 a72_41 a72_44 a72_50), (81, o81 A81), (82, o82 A82), (83, o83 A83)]) rfl ?_
    refine r_mat (k := 84) h84 (l' := [(72, o72 0 a72_2 a72_3 a72_4 a72_5 a72_6 a72_7 a72_8 a72_9 a72_10 a72_11 a72_17 a72_18 a72_19 a72_21 a72_22 a72_29 a72_31 a72_35 a72_37 a72_38 a72_39 a72_40 a72_41 a72_44 a72_50), (81, o81 A81), (82, o82 A82), (83, o83 A83), (84, o84 A84)]) rfl ?_
    refine r_mat (k := 85) h85 (l' := [(72, o72 0 a72_2 a72_3 a72_4 a72_5 a72_6 a72_7 a72_8 a72_9 a72_10 a72_11 a72_17 a72_18 a72_19 a72_21 a72_22 a72_29 a72_31 a72_35 a72_37 a72_38 a72_39 a72_40 a72_41 a72_44 a72_50), (81, o81 A81), (82, o82 A82), (83, o83 A83), (84, o84 A84), (85, o85 A85)]) rfl ?_
    refine r_mat (k := 93) h93 (l' := [(72, o72 0 a72_2 a72_3 a72_4 a72_5 a72_6 a72_7 a72_8 a72_9 a72_10 a72_11 a72_17 a72_18 a72_19 a72_21 a72_22 a72_29 a72_31 a72_35 a72_37 a72_38 a72_39 a72_40 a72_41 a72_44 a72_50), (81, o81 A81), (82, o82 A82), (83, o83 A83), (84, o84 A84), (85, o85 A85), (93, o93 A93)]) rfl ?_
    refine r_mat (k := 94) h94 (l' := [(72, o72 0 a72_2 a72_3 a72_4 a72_5 a72_6 a72_7 a72_8 a72_9 a72_10 a72_11 a72_17 a72_18 a72_19 a72_21 a72_22 a72_29 a72_31 a72_35 a72_37 a72_38 a72_39 a72_40 a72_41 a72_44 a72_50), (81, o81 A81), (82, o82 A82), (83, o83 A83), (84, o84 A84), (85, o85 A85), (93, o93 A93), (94, o94 A94)]) rfl ?_
    refine r_mat (k := 95) h95 (l' := [(72, o72 0 a72_2 a72_3 a72_4 a72_5 a72_6 a72_7 a72_8 a72_9 a72_10 a72_11 a72_17 a72_18 a72_19 a72_21 a72_22 a72_29 a72_31 a72_35 a72_37 a72_38 a72_39 a72_40 a72_41 a72_44 a72_50), (81, o81 A81), (82, o82 A82), (83, o83 A83), (84, o84 A84), (85, o85 A85), (93, o93 A93), (94, o94 A94), (95, o95 A95)]) rfl ?_
    obtain rfl := Option.some.inj hf
    exact r_iret F hq dX12_rid_33 rfl rfl (Nat.le_refl _) (Nat.le_refl _) ⟨rfl, rfl⟩

def fX12_wayless (a72_29 : Int32) (A83 : Nat → Int32) (A84 : Nat → Int32)  : Option (Int32) :=
  (e_loop (fun (v3 : Int32 × Int32) => (
      if a72_29 ≤ v3.2 then
        some (.inr v3.1)
      else
        (fX12_way A83 A84 v3.2).bind (fun q6 =>
        Option.bind (α := Bool) (
          if q6 = (-1) then
            some true
          else
            some false) (fun q8 =>
        some (.inl (v3.1 + (e_b q8), v3.2 + 1)))) : Option ((Int32 × Int32) ⊕ (Int32)))) e_fuel (0, 0)).bind (fun x4 =>
  some x4)
set_option maxRecDepth 100000 in
theorem tX12_wayless_72 {G : eG} (hG : e_GS G) {la : Launch} {h : Nat → eO} {nx : Nat} (hnx : 99 ≤ nx) {a72_0 : Int32} {a72_2 : Int32} {a72_3 : Int32} {a72_4 : Int32} {a72_5 : Int32} {a72_6 : Int32} {a72_7 : Int32} {a72_8 : Bool} {a72_9 : Int32} {a72_10 : Int32} {a72_11 : Int32} {a72_17 : Bool} {a72_18 : Bool} {a72_19 : Bool} {a72_21 : Int32} {a72_22 : Int32} {a72_29 : Int32} {a72_31 : Int32} {a72_35 : Int32} {a72_37 : Bool} {a72_38 : Int32} {a72_39 : Int32} {a72_40 : Int32} {a72_41 : Int64} {a72_44 : Int32} {a72_50 : Bool} {A83 : Nat → Int32} {A84 : Nat → Int32}  (h72 : h 72 = o72 a72_0 a72_2 a72_3 a72_4 a72_5 a72_6 a72_7 a72_8 a72_9 a72_10 a72_11 a72_17 a72_18 a72_19 a72_21 a72_22 a72_29 a72_31 a72_35 a72_37 a72_38 a72_39 a72_40 a72_41 a72_44 a72_50) (h83 : h 83 = o83 A83) (h84 : h 84 = o84 A84) {R9 : Int32} (hf : fX12_wayless a72_29 A83 A84  = some R9) :
    eSem G la MX12_wayless [.ref 72] h nx 0 0 (fun r9 h9 => r9 = some (.int R9) ∧ h9 = h) := by
  refine eSem.of (k := 2) (L := [some (.ref 72), none, none]) (by decide +kernel) rfl rfl (fun X F hxl hq hcR hsR => ?_)
  subst hxl
  unfold fX12_wayless at hf
  refine r_iconst F dX12_wayless_0 (v := 0) (by decide) ?_
  refine r_istore_n F dX12_wayless_1 (e_le rfl) (L' := [some (.ref 72), some (.int 0), none]) rfl ?_
  refine r_iconst F dX12_wayless_2 (v := 0) (by decide) ?_
  refine r_istore_n F dX12_wayless_3 (e_le rfl) (L' := [some (.ref 72), some (.int 0), some (.int 0)]) rfl ?_
  obtain ⟨x4, hx5, hf⟩ := e_bd hf
  refine (e_loop_ok (P := fun (v3 : Int32 × Int32) => eRun G X 4 [some (.ref 72), some (.int v3.1), some (.int v3.2)] [] h [] nx 0 0) (K := fun (x4 : Int32) => eRun G X 35 [none, some (.int x4), none] [] h [] nx 0 0) ?_ e_fuel (0, 0) x4 hx5 ?_ : _)
  · intro v3 z hz ih hx
    refine r_iload_n F dX12_wayless_4 rfl ?_
    refine r_aload_n F dX12_wayless_5 rfl ?_
    refine r_get F dX12_wayless_6 flX12_241 h72 rfl (e_le rfl) (e_lt hnx rfl) ?_
    refine r_icmp_ge F dX12_wayless_9 (tgt := 35) (by decide) (fun hc => ?_) (fun hc => ?_)
    · have hz := e_t hc hz
      refine r_drop 0 (L' := [none, some (.int v3.1), some (.int v3.2)]) rfl ?_
      refine r_drop 2 (L' := [none, some (.int v3.1), none]) rfl ?_
      obtain rfl := Option.some.inj hz
      exact hx v3.1 rfl
    · have hz := e_f hc hz
      refine r_iload_n F dX12_wayless_12 rfl ?_
      refine r_aload_n F dX12_wayless_13 rfl ?_
      refine r_iload_n F dX12_wayless_14 rfl ?_
      obtain ⟨q6, hq7, hz⟩ := e_bd hz
      refine r_callV F dX12_wayless_15 (b := 72) (dc := 0) (ds := 0) (As := [.int v3.2]) (S0 := [.int v3.1]) lkX12_269 mX12_way (tX12_way_72 hG (la := x_l X) (h := e_up h []) hnx h72 h83 h84 hq7) rfl rfl rfl (e_le rfl) (e_le rfl) (e_le rfl) h72 (ci := 12) e_cl12.1 rfl (e_le rfl) (e_lt hnx rfl) (Nat.zero_le _) (Nat.zero_le _) (e_k ?_)
      refine r_wr0 ?_
      refine r_iconst F dX12_wayless_18 (v := (-1)) (by decide) ?_
      obtain ⟨q8, hq9, hz⟩ := e_bd hz
      have Jq8 : eRun G X 27 [some (.ref 72), none, some (.int v3.2)] [.int (e_b q8), .int v3.1] h [] nx 0 0 := by
        refine r_iadd F dX12_wayless_27 ?_
        refine r_istore_n F dX12_wayless_28 (e_le rfl) (L' := [some (.ref 72), some (.int (v3.1 + (e_b q8))), some (.int v3.2)]) rfl ?_
        refine r_inc F dX12_wayless_29 (k9 := 1) (by decide) rfl (L' := [some (.ref 72), some (.int (v3.1 + (e_b q8))), some (.int (v3.2 + 1))]) rfl ?_
        refine r_goto F dX12_wayless_32 (tgt := 4) (by decide) ?_
        obtain rfl := Option.some.inj hz
        exact ih (v3.1 + (e_b q8), v3.2 + 1) rfl
      refine r_icmp_ne F dX12_wayless_19 (tgt := 26) (by decide) (fun hc => ?_) (fun hc => ?_)
      · have hq9 := e_f hc hq9
        refine r_iconst F dX12_wayless_26 (v := 0) (by decide) ?_
        refine r_drop 1 (L' := [some (.ref 72), none, some (.int v3.2)]) rfl ?_
        obtain rfl := Option.some.inj hq9
        exact Jq8
      · have hq9 := e_t hc hq9
        refine r_iconst F dX12_wayless_22 (v := 1) (by decide) ?_
        refine r_goto F dX12_wayless_23 (tgt := 27) (by decide) ?_
        refine r_drop 1 (L' := [some (.ref 72), none, some (.int v3.2)]) rfl ?_
        obtain rfl := Option.some.inj hq9
        exact Jq8
  · show eRun G X 35 [none, some (.int x4), none] [] h [] nx 0 0
    refine r_iload_n F dX12_wayless_35 rfl ?_
    obtain rfl := Option.some.inj hf
    exact r_iret F hq dX12_wayless_36 rfl rfl (Nat.le_refl _) (Nat.le_refl _) ⟨rfl, rfl⟩

def fX12_rule (a72_0 : Int32) (a72_21 : Int32) (a72_22 : Int32) (a72_29 : Int32) (a72_44 : Int32) (A79 : Nat → Int32) (A80 : Nat → Int32) (A81 : Nat → Int32) (A82 : Nat → Int32) (A83 : Nat → Int32) (A84 : Nat → Int32) (A85 : Nat → Int32) (A91 : Nat → Int32) (A92 : Nat → Int32) (p0 : Int32) : Option (Int32 × Int32 × Int32 × Int32 × (Nat → Int32) × (Nat → Int32) × (Nat → Int32) × (Nat → Int32) × (Nat → Int32) × (Nat → Int32) × (Nat → Int32)) :=
  (fX12_isCrystal a72_21).bind (fun q1 =>
  if q1 = true then
    (fX12_laysCores a72_21 a72_22 a72_29 A79 A80 A81 A82 A83 A84 A85).bind (fun q3 =>
    if p0 = 0 then
      some (a72_21, 0, q3.2.1, a72_44, q3.2.2.1, q3.2.2.2.1, q3.2.2.2.2.1, q3.2.2.2.2.2.1, q3.2.2.2.2.2.2, A91, A92)
    else
      if p0 = 1 then
        some (a72_22, 0, q3.2.1, a72_44, q3.2.2.1, q3.2.2.2.1, q3.2.2.2.2.1, q3.2.2.2.2.2.1, q3.2.2.2.2.2.2, A91, A92)
      else
        if p0 = 2 then
          some (A80 (tn 0), 0, q3.2.1, a72_44, q3.2.2.1, q3.2.2.2.1, q3.2.2.2.2.1, q3.2.2.2.2.2.1, q3.2.2.2.2.2.2, A91, A92)
        else
          if p0 = 3 then
            some (A80 (tn 1), 0, q3.2.1, a72_44, q3.2.2.1, q3.2.2.2.1, q3.2.2.2.2.1, q3.2.2.2.2.2.1, q3.2.2.2.2.2.2, A91, A92)
          else
            if p0 = 4 then
              some (A80 (tn 2), 0, q3.2.1, a72_44, q3.2.2.1, q3.2.2.2.1, q3.2.2.2.2.1, q3.2.2.2.2.2.1, q3.2.2.2.2.2.2, A91, A92)
            else
              if p0 = 5 then
                some (A80 (tn 3), 0, q3.2.1, a72_44, q3.2.2.1, q3.2.2.2.1, q3.2.2.2.2.1, q3.2.2.2.2.2.1, q3.2.2.2.2.2.2, A91, A92)
              else
                if p0 = 6 then
                  some (q3.2.1, 0, q3.2.1, a72_44, q3.2.2.1, q3.2.2.2.1, q3.2.2.2.2.1, q3.2.2.2.2.2.1, q3.2.2.2.2.2.2, A91, A92)
                else
                  if p0 = 7 then
                    (fX12_slipped a72_21 a72_22 A79).bind (fun q5 =>
                    some (q5, 0, q3.2.1, a72_44, q3.2.2.1, q3.2.2.2.1, q3.2.2.2.2.1, q3.2.2.2.2.2.1, q3.2.2.2.2.2.2, A91, A92))
                  else
                    if p0 = 8 then
                      some (A79 (tn 325), 0, q3.2.1, a72_44, q3.2.2.1, q3.2.2.2.1, q3.2.2.2.2.1, q3.2.2.2.2.2.1, q3.2.2.2.2.2.2, A91, A92)
                    else
                      if p0 = 9 then
                        (fX12_sumRound A79 0 0 (a72_21 - 1) (a72_22 - 1) 0).bind (fun q7 =>
                        some (q7, 0, q3.2.1, a72_44, q3.2.2.1, q3.2.2.2.1, q3.2.2.2.2.1, q3.2.2.2.2.2.1, q3.2.2.2.2.2.2, A91, A92))
                      else
                        if p0 = 10 then
                          (fX12_sumRound A79 0 0 (a72_21 - 1) (a72_22 - 1) 1).bind (fun q9 =>
                          some (q9, 0, q3.2.1, a72_44, q3.2.2.1, q3.2.2.2.1, q3.2.2.2.2.1, q3.2.2.2.2.2.1, q3.2.2.2.2.2.2, A91, A92))
                        else
                          if p0 = 11 then
                            (fX12_energy q3.2.1 q3.2.2.1 q3.2.2.2.1 q3.2.2.2.2.1 q3.2.2.2.2.2.1).bind (fun q11 =>
                            some (q11, 0, q3.2.1, a72_44, q3.2.2.1, q3.2.2.2.1, q3.2.2.2.2.1, q3.2.2.2.2.2.1, q3.2.2.2.2.2.2, A91, A92))
                          else
                            if p0 = 12 then
                              (fX12_laysWalls a72_21 a72_22 a72_44 A79 A91 A92).bind (fun q13 =>
                              some (q13.1, 0, q3.2.1, q13.2.1, q3.2.2.1, q3.2.2.2.1, q3.2.2.2.2.1, q3.2.2.2.2.2.1, q3.2.2.2.2.2.2, q13.2.2.1, q13.2.2.2))
                            else
                              if p0 = 13 then
                                (fX12_wayless q3.2.1 q3.2.2.2.2.1 q3.2.2.2.2.2.1).bind (fun q15 =>
                                some (q15, 0, q3.2.1, a72_44, q3.2.2.1, q3.2.2.2.1, q3.2.2.2.2.1, q3.2.2.2.2.2.1, q3.2.2.2.2.2.2, A91, A92))
                              else
                                some ((-1000000), 0, q3.2.1, a72_44, q3.2.2.1, q3.2.2.2.1, q3.2.2.2.2.1, q3.2.2.2.2.2.1, q3.2.2.2.2.2.2, A91, A92))
  else
    some ((-1000000), 0, a72_29, a72_44, A81, A82, A83, A84, A85, A91, A92))
set_option maxRecDepth 100000 in
theorem tX12_rule_72 {G : eG} (hG : e_GS G) {la : Launch} {h : Nat → eO} {nx : Nat} (hnx : 99 ≤ nx) {a72_0 : Int32} {a72_2 : Int32} {a72_3 : Int32} {a72_4 : Int32} {a72_5 : Int32} {a72_6 : Int32} {a72_7 : Int32} {a72_8 : Bool} {a72_9 : Int32} {a72_10 : Int32} {a72_11 : Int32} {a72_17 : Bool} {a72_18 : Bool} {a72_19 : Bool} {a72_21 : Int32} {a72_22 : Int32} {a72_29 : Int32} {a72_31 : Int32} {a72_35 : Int32} {a72_37 : Bool} {a72_38 : Int32} {a72_39 : Int32} {a72_40 : Int32} {a72_41 : Int64} {a72_44 : Int32} {a72_50 : Bool} {A79 : Nat → Int32} {A80 : Nat → Int32} {A81 : Nat → Int32} {A82 : Nat → Int32} {A83 : Nat → Int32} {A84 : Nat → Int32} {A85 : Nat → Int32} {A91 : Nat → Int32} {A92 : Nat → Int32} {p0 : Int32} (h72 : h 72 = o72 a72_0 a72_2 a72_3 a72_4 a72_5 a72_6 a72_7 a72_8 a72_9 a72_10 a72_11 a72_17 a72_18 a72_19 a72_21 a72_22 a72_29 a72_31 a72_35 a72_37 a72_38 a72_39 a72_40 a72_41 a72_44 a72_50) (h79 : h 79 = o79 A79) (h80 : h 80 = o80 A80) (h81 : h 81 = o81 A81) (h82 : h 82 = o82 A82) (h83 : h 83 = o83 A83) (h84 : h 84 = o84 A84) (h85 : h 85 = o85 A85) (h91 : h 91 = o91 A91) (h92 : h 92 = o92 A92) {R9 : Int32 × Int32 × Int32 × Int32 × (Nat → Int32) × (Nat → Int32) × (Nat → Int32) × (Nat → Int32) × (Nat → Int32) × (Nat → Int32) × (Nat → Int32)} (hf : fX12_rule a72_0 a72_21 a72_22 a72_29 a72_44 A79 A80 A81 A82 A83 A84 A85 A91 A92 p0 = some R9) :
    eSem G la MX12_rule [.ref 72, .int p0] h nx 0 0 (fun r9 h9 => r9 = some (.int R9.1) ∧ h9 = e_up h [(72, o72 R9.2.1 a72_2 a72_3 a72_4 a72_5 a72_6 a72_7 a72_8 a72_9 a72_10 a72_11 a72_17 a72_18 a72_19 a72_21 a72_22 R9.2.2.1 a72_31 a72_35 a72_37 a72_38 a72_39 a72_40 a72_41 R9.2.2.2.1 a72_50), (81, o81 R9.2.2.2.2.1), (82, o82 R9.2.2.2.2.2.1), (83, o83 R9.2.2.2.2.2.2.1), (84, o84 R9.2.2.2.2.2.2.2.1), (85, o85 R9.2.2.2.2.2.2.2.2.1), (91, o91 R9.2.2.2.2.2.2.2.2.2.1), (92, o92 R9.2.2.2.2.2.2.2.2.2.2)]) := by
  refine eSem.of (k := 0) (L := [some (.ref 72), some (.int p0)]) (by decide +kernel) rfl rfl (fun X F hxl hq hcR hsR => ?_)
  subst hxl
  unfold fX12_rule at hf
  refine r_aload_n F dX12_rule_0 rfl ?_
  refine r_iconst F dX12_rule_1 (v := 0) (by decide) ?_
  refine r_put F dX12_rule_2 flX12_86 rfl rfl rfl h72 (e_le rfl) (e_le rfl) (e_lt hnx rfl) (l' := [(72, o72 0 a72_2 a72_3 a72_4 a72_5 a72_6 a72_7 a72_8 a72_9 a72_10 a72_11 a72_17 a72_18 a72_19 a72_21 a72_22 a72_29 a72_31 a72_35 a72_37 a72_38 a72_39 a72_40 a72_41 a72_44 a72_50)]) rfl ?_
  refine r_aload_n F dX12_rule_5 rfl ?_
  obtain ⟨q1, hq2, hf⟩ := e_bd hf
  refine r_callV F dX12_rule_6 (b := 72) (dc := 0) (ds := 0) (As := []) (S0 := []) lkX12_306 mX12_isCrystal (tX12_isCrystal_72 hG (la := x_l X) (h := e_up h [(72, o72 0 a72_2 a72_3 a72_4 a72_5 a72_6 a72_7 a72_8 a72_9 a72_10 a72_11 a72_17 a72_18 a72_19 a72_21 a72_22 a72_29 a72_31 a72_35 a72_37 a72_38 a72_39 a72_40 a72_41 a72_44 a72_50)]) hnx rfl hq2) rfl rfl rfl (e_le rfl) (e_le rfl) (e_le rfl) rfl (ci := 12) e_cl12.1 rfl (e_le rfl) (e_lt hnx rfl) (Nat.zero_le _) (Nat.zero_le _) (e_k ?_)
  refine r_wr0 ?_
  refine r_z_ne F dX12_rule_9 (tgt := 16) (by decide) (fun hc => ?_) (fun hc => ?_)
  · have hf := e_t hc hf
    refine r_aload_n F dX12_rule_16 rfl ?_
    obtain ⟨q3, hq4, hf⟩ := e_bd hf
    refine r_callV F dX12_rule_17 (b := 72) (dc := 0) (ds := 0) (As := []) (S0 := []) lkX12_238 mX12_laysCores (tX12_laysCores_72 hG (la := x_l X) (h := e_up h [(72, o72 0 a72_2 a72_3 a72_4 a72_5 a72_6 a72_7 a72_8 a72_9 a72_10 a72_11 a72_17 a72_18 a72_19 a72_21 a72_22 a72_29 a72_31 a72_35 a72_37 a72_38 a72_39 a72_40 a72_41 a72_44 a72_50)]) hnx rfl h79 h80 h81 h82 h83 h84 h85 hq4) rfl rfl rfl (e_le rfl) (e_le rfl) (e_le rfl) rfl (ci := 12) e_cl12.1 rfl (e_le rfl) (e_lt hnx rfl) (Nat.zero_le _) (Nat.zero_le _) (e_k ?_)
    refine r_wr (l' := [(72, o72 0 a72_2 a72_3 a72_4 a72_5 a72_6 a72_7 a72_8 a72_9 a72_10 a72_11 a72_17 a72_18 a72_19 a72_21 a72_22 q3.2.1 a72_31 a72_35 a72_37 a72_38 a72_39 a72_40 a72_41 a72_44 a72_50), (81, o81 q3.2.2.1), (82, o82 q3.2.2.2.1), (83, o83 q3.2.2.2.2.1), (84, o84 q3.2.2.2.2.2.1), (85, o85 q3.2.2.2.2.2.2)]) rfl rfl ?_
    refine r_pop F dX12_rule_20 rfl ?_
    refine r_iload_n F dX12_rule_21 rfl ?_
    refine Classical.byCases (p := p0 = 0) (fun hc => ?_) (fun hk0 => ?_)
    · have hf := e_t hc hf
      refine r_tsIn F dX12_rule_22 (by rw [hc]; decide) (by rw [hc]; decide) (off := 70) (by rw [hc]; decide) (tgt := 92) (by decide) ?_
      refine r_aload_n F dX12_rule_92 rfl ?_
      refine r_get F dX12_rule_93 flX12_205 rfl rfl (e_le rfl) (e_lt hnx rfl) ?_
      refine r_mat (k := 91) h91 (l' := [(72, o72 0 a72_2 a72_3 a72_4 a72_5 a72_6 a72_7 a72_8 a72_9 a72_10 a72_11 a72_17 a72_18 a72_19 a72_21 a72_22 q3.2.1 a72_31 a72_35 a72_37 a72_38 a72_39 a72_40 a72_41 a72_44 a72_50), (81, o81 q3.2.2.1), (82, o82 q3.2.2.2.1), (83, o83 q3.2.2.2.2.1), (84, o84 q3.2.2.2.2.2.1), (85, o85 q3.2.2.2.2.2.2), (91, o91 A91)]) rfl ?_
      refine r_mat (k := 92) h92 (l' := [(72, o72 0 a72_2 a72_3 a72_4 a72_5 a72_6 a72_7 a72_8 a72_9 a72_10 a72_11 a72_17 a72_18 a72_19 a72_21 a72_22 q3.2.1 a72_31 a72_35 a72_37 a72_38 a72_39 a72_40 a72_41 a72_44 a72_50), (81, o81 q3.2.2.1), (82, o82 q3.2.2.2.1), (83, o83 q3.2.2.2.2.1), (84, o84 q3.2.2.2.2.2.1), (85, o85 q3.2.2.2.2.2.2), (91, o91 A91), (92, o92 A92)]) rfl ?_
      obtain rfl := Option.some.inj hf
      exact r_iret F hq dX12_rule_96 rfl rfl (Nat.le_refl _) (Nat.le_refl _) ⟨rfl, rfl⟩
    have hf := e_f hk0 hf
    refine Classical.byCases (p := p0 = 1) (fun hc => ?_) (fun hk1 => ?_)
    · have hf := e_t hc hf
      refine r_tsIn F dX12_rule_22 (by rw [hc]; decide) (by rw [hc]; decide) (off := 75) (by rw [hc]; decide) (tgt := 97) (by decide) ?_
      refine r_aload_n F dX12_rule_97 rfl ?_
      refine r_get F dX12_rule_98 flX12_208 rfl rfl (e_le rfl) (e_lt hnx rfl) ?_
      refine r_mat (k := 91) h91 (l' := [(72, o72 0 a72_2 a72_3 a72_4 a72_5 a72_6 a72_7 a72_8 a72_9 a72_10 a72_11 a72_17 a72_18 a72_19 a72_21 a72_22 q3.2.1 a72_31 a72_35 a72_37 a72_38 a72_39 a72_40 a72_41 a72_44 a72_50), (81, o81 q3.2.2.1), (82, o82 q3.2.2.2.1), (83, o83 q3.2.2.2.2.1), (84, o84 q3.2.2.2.2.2.1), (85, o85 q3.2.2.2.2.2.2), (91, o91 A91)]) rfl ?_
      refine r_mat (k := 92) h92 (l' := [(72, o72 0 a72_2 a72_3 a72_4 a72_5 a72_6 a72_7 a72_8 a72_9 a72_10 a72_11 a72_17 a72_18 a72_19 a72_21 a72_22 q3.2.1 a72_31 a72_35 a72_37 a72_38 a72_39 a72_40 a72_41 a72_44 a72_50), (81, o81 q3.2.2.1), (82, o82 q3.2.2.2.1), (83, o83 q3.2.2.2.2.1), (84, o84 q3.2.2.2.2.2.1), (85, o85 q3.2.2.2.2.2.2), (91, o91 A91), (92, o92 A92)]) rfl ?_
      obtain rfl := Option.some.inj hf
      exact r_iret F hq dX12_rule_101 rfl rfl (Nat.le_refl _) (Nat.le_refl _) ⟨rfl, rfl⟩
    have hf := e_f hk1 hf
    refine Classical.byCases (p := p0 = 2) (fun hc => ?_) (fun hk2 => ?_)
    · have hf := e_t hc hf
      refine r_tsIn F dX12_rule_22 (by rw [hc]; decide) (by rw [hc]; decide) (off := 80) (by rw [hc]; decide) (tgt := 102) (by decide) ?_
      refine r_aload_n F dX12_rule_102 rfl ?_
      refine r_get F dX12_rule_103 flX12_31 rfl rfl (e_le rfl) (e_lt hnx rfl) ?_
      refine r_iconst F dX12_rule_106 (v := 0) (by decide) ?_
      refine r_iald F dX12_rule_107 (i := 0) h80 (e_le rfl) (e_lt hnx rfl) (e_vp (by decide)) ?_
      refine r_mat (k := 91) h91 (l' := [(72, o72 0 a72_2 a72_3 a72_4 a72_5 a72_6 a72_7 a72_8 a72_9 a72_10 a72_11 a72_17 a72_18 a72_19 a72_21 a72_22 q3.2.1 a72_31 a72_35 a72_37 a72_38 a72_39 a72_40 a72_41 a72_44 a72_50), (81, o81 q3.2.2.1), (82, o82 q3.2.2.2.1), (83, o83 q3.2.2.2.2.1), (84, o84 q3.2.2.2.2.2.1), (85, o85 q3.2.2.2.2.2.2), (91, o91 A91)]) rfl ?_
      refine r_mat (k := 92) h92 (l' := [(72, o72 0 a72_2 a72_3 a72_4 a72_5 a72_6 a72_7 a72_8 a72_9 a72_10 a72_11 a72_17 a72_18 a72_19 a72_21 a72_22 q3.2.1 a72_31 a72_35 a72_37 a72_38 a72_39 a72_40 a72_41 a72_44 a72_50), (81, o81 q3.2.2.1), (82, o82 q3.2.2.2.1), (83, o83 q3.2.2.2.2.1), (84, o84 q3.2.2.2.2.2.1), (85, o85 q3.2.2.2.2.2.2), (91, o91 A91), (92, o92 A92)]) rfl ?_
      obtain rfl := Option.some.inj hf
      exact r_iret F hq dX12_rule_108 rfl rfl (Nat.le_refl _) (Nat.le_refl _) ⟨rfl, rfl⟩
    have hf := e_f hk2 hf
    refine Classical.byCases (p := p0 = 3) (fun hc => ?_) (fun hk3 => ?_)
    · have hf := e_t hc hf
      refine r_tsIn F dX12_rule_22 (by rw [hc]; decide) (by rw [hc]; decide) (off := 87) (by rw [hc]; decide) (tgt := 109) (by decide) ?_
      refine r_aload_n F dX12_rule_109 rfl ?_
      refine r_get F dX12_rule_110 flX12_31 rfl rfl (e_le rfl) (e_lt hnx rfl) ?_
      refine r_iconst F dX12_rule_113 (v := 1) (by decide) ?_
      refine r_iald F dX12_rule_114 (i := 1) h80 (e_le rfl) (e_lt hnx rfl) (e_vp (by decide)) ?_
      refine r_mat (k := 91) h91 (l' := [(72, o72 0 a72_2 a72_3 a72_4 a72_5 a72_6 a72_7 a72_8 a72_9 a72_10 a72_11 a72_17 a72_18 a72_19 a72_21 a72_22 q3.2.1 a72_31 a72_35 a72_37 a72_38 a72_39 a72_40 a72_41 a72_44 a72_50), (81, o81 q3.2.2.1), (82, o82 q3.2.2.2.1), (83, o83 q3.2.2.2.2.1), (84, o84 q3.2.2.2.2.2.1), (85, o85 q3.2.2.2.2.2.2), (91, o91 A91)]) rfl ?_
      refine r_mat (k := 92) h92 (l' := [(72, o72 0 a72_2 a72_3 a72_4 a72_5 a72_6 a72_7 a72_8 a72_9 a72_10 a72_11 a72_17 a72_18 a72_19 a72_21 a72_22 q3.2.1 a72_31 a72_35 a72_37 a72_38 a72_39 a72_40 a72_41 a72_44 a72_50), (81, o81 q3.2.2.1), (82, o82 q3.2.2.2.1), (83, o83 q3.2.2.2.2.1), (84, o84 q3.2.2.2.2.2.1), (85, o85 q3.2.2.2.2.2.2), (91, o91 A91), (92, o92 A92)]) rfl ?_
      obtain rfl := Option.some.inj hf
      exact r_iret F hq dX12_rule_115 rfl rfl (Nat.le_refl _) (Nat.le_refl _) ⟨rfl, rfl⟩
    have hf := e_f hk3 hf
    refine Classical.byCases (p := p0 = 4) (fun hc => ?_) (fun hk4 => ?_)
    · have hf := e_t hc hf
      refine r_tsIn F dX12_rule_22 (by rw [hc]; decide) (by rw [hc]; decide) (off := 94) (by rw [hc]; decide) (tgt := 116) (by decide) ?_
      refine r_aload_n F dX12_rule_116 rfl ?_
      refine r_get F dX12_rule_117 flX12_31 rfl rfl (e_le rfl) (e_lt hnx rfl) ?_
      refine r_iconst F dX12_rule_120 (v := 2) (by decide) ?_
      refine r_iald F dX12_rule_121 (i := 2) h80 (e_le rfl) (e_lt hnx rfl) (e_vp (by decide)) ?_
      refine r_mat (k := 91) h91 (l' := [(72, o72 0 a72_2 a72_3 a72_4 a72_5 a72_6 a72_7 a72_8 a72_9 a72_10 a72_11 a72_17 a72_18 a72_19 a72_21 a72_22 q3.2.1 a72_31 a72_35 a72_37 a72_38 a72_39 a72_40 a72_41 a72_44 a72_50), (81, o81 q3.2.2.1), (82, o82 q3.2.2.2.1), (83, o83 q3.2.2.2.2.1), (84, o84 q3.2.2.2.2.2.1), (85, o85 q3.2.2.2.2.2.2), (91, o91 A91)]) rfl ?_
      refine r_mat (k := 92) h92 (l' := [(72, o72 0 a72_2 a72_3 a72_4 a72_5 a72_6 a72_7 a72_8 a72_9 a72_10 a72_11 a72_17 a72_18 a72_19 a72_21 a72_22 q3.2.1 a72_31 a72_35 a72_37 a72_38 a72_39 a72_40 a72_41 a72_44 a72_50), (81, o81 q3.2.2.1), (82, o82 q3.2.2.2.1), (83, o83 q3.2.2.2.2.1), (84, o84 q3.2.2.2.2.2.1), (85, o85 q3.2.2.2.2.2.2), (91, o91 A91), (92, o92 A92)]) rfl ?_
      obtain rfl := Option.some.inj hf
      exact r_iret F hq dX12_rule_122 rfl rfl (Nat.le_refl _) (Nat.le_refl _) ⟨rfl, rfl⟩
    have hf := e_f hk4 hf
    refine Classical.byCases (p := p0 = 5) (fun hc => ?_) (fun hk5 => ?_)
    · have hf := e_t hc hf
      refine r_tsIn F dX12_rule_22 (by rw [hc]; decide) (by rw [hc]; decide) (off := 101) (by rw [hc]; decide) (tgt := 123) (by decide) ?_
      refine r_aload_n F dX12_rule_123 rfl ?_
      refine r_get F dX12_rule_124 flX12_31 rfl rfl (e_le rfl) (e_lt hnx rfl) ?_
      refine r_iconst F dX12_rule_127 (v := 3) (by decide) ?_
      refine r_iald F dX12_rule_128 (i := 3) h80 (e_le rfl) (e_lt hnx rfl) (e_vp (by decide)) ?_
      refine r_mat (k := 91) h91 (l' := [(72, o72 0 a72_2 a72_3 a72_4 a72_5 a72_6 a72_7 a72_8 a72_9 a72_10 a72_11 a72_17 a72_18 a72_19 a72_21 a72_22 q3.2.1 a72_31 a72_35 a72_37 a72_38 a72_39 a72_40 a72_41 a72_44 a72_50), (81, o81 q3.2.2.1), (82, o82 q3.2.2.2.1), (83, o83 q3.2.2.2.2.1), (84, o84 q3.2.2.2.2.2.1), (85, o85 q3.2.2.2.2.2.2), (91, o91 A91)]) rfl ?_
      refine r_mat (k := 92) h92 (l' := [(72, o72 0 a72_2 a72_3 a72_4 a72_5 a72_6 a72_7 a72_8 a72_9 a72_10 a72_11 a72_17 a72_18 a72_19 a72_21 a72_22 q3.2.1 a72_31 a72_35 a72_37 a72_38 a72_39 a72_40 a72_41 a72_44 a72_50), (81, o81 q3.2.2.1), (82, o82 q3.2.2.2.1), (83, o83 q3.2.2.2.2.1), (84, o84 q3.2.2.2.2.2.1), (85, o85 q3.2.2.2.2.2.2), (91, o91 A91), (92, o92 A92)]) rfl ?_
      obtain rfl := Option.some.inj hf
      exact r_iret F hq dX12_rule_129 rfl rfl (Nat.le_refl _) (Nat.le_refl _) ⟨rfl, rfl⟩
    have hf := e_f hk5 hf
    refine Classical.byCases (p := p0 = 6) (fun hc => ?_) (fun hk6 => ?_)
    · have hf := e_t hc hf
      refine r_tsIn F dX12_rule_22 (by rw [hc]; decide) (by rw [hc]; decide) (off := 108) (by rw [hc]; decide) (tgt := 130) (by decide) ?_
      refine r_aload_n F dX12_rule_130 rfl ?_
      refine r_get F dX12_rule_131 flX12_241 rfl rfl (e_le rfl) (e_lt hnx rfl) ?_
      refine r_mat (k := 91) h91 (l' := [(72, o72 0 a72_2 a72_3 a72_4 a72_5 a72_6 a72_7 a72_8 a72_9 a72_10 a72_11 a72_17 a72_18 a72_19 a72_21 a72_22 q3.2.1 a72_31 a72_35 a72_37 a72_38 a72_39 a72_40 a72_41 a72_44 a72_50), (81, o81 q3.2.2.1), (82, o82 q3.2.2.2.1), (83, o83 q3.2.2.2.2.1), (84, o84 q3.2.2.2.2.2.1), (85, o85 q3.2.2.2.2.2.2), (91, o91 A91)]) rfl ?_
      refine r_mat (k := 92) h92 (l' := [(72, o72 0 a72_2 a72_3 a72_4 a72_5 a72_6 a72_7 a72_8 a72_9 a72_10 a72_11 a72_17 a72_18 a72_19 a72_21 a72_22 q3.2.1 a72_31 a72_35 a72_37 a72_38 a72_39 a72_40 a72_41 a72_44 a72_50), (81, o81 q3.2.2.1), (82, o82 q3.2.2.2.1), (83, o83 q3.2.2.2.2.1), (84, o84 q3.2.2.2.2.2.1), (85, o85 q3.2.2.2.2.2.2), (91, o91 A91), (92, o92 A92)]) rfl ?_
      obtain rfl := Option.some.inj hf
      exact r_iret F hq dX12_rule_134 rfl rfl (Nat.le_refl _) (Nat.le_refl _) ⟨rfl, rfl⟩
    have hf := e_f hk6 hf
    refine Classical.byCases (p := p0 = 7) (fun hc => ?_) (fun hk7 => ?_)
    · have hf := e_t hc hf
      refine r_tsIn F dX12_rule_22 (by rw [hc]; decide) (by rw [hc]; decide) (off := 113) (by rw [hc]; decide) (tgt := 135) (by decide) ?_
      refine r_aload_n F dX12_rule_135 rfl ?_
      obtain ⟨q5, hq6, hf⟩ := e_bd hf
      refine r_callV F dX12_rule_136 (b := 72) (dc := 0) (ds := 0) (As := []) (S0 := []) lkX12_311 mX12_slipped (tX12_slipped_72 hG (la := x_l X) (h := e_up h [(72, o72 0 a72_2 a72_3 a72_4 a72_5 a72_6 a72_7 a72_8 a72_9 a72_10 a72_11 a72_17 a72_18 a72_19 a72_21 a72_22 q3.2.1 a72_31 a72_35 a72_37 a72_38 a72_39 a72_40 a72_41 a72_44 a72_50), (81, o81 q3.2.2.1), (82, o82 q3.2.2.2.1), (83, o83 q3.2.2.2.2.1), (84, o84 q3.2.2.2.2.2.1), (85, o85 q3.2.2.2.2.2.2)]) hnx rfl h79 hq6) rfl rfl rfl (e_le rfl) (e_le rfl) (e_le rfl) rfl (ci := 12) e_cl12.1 rfl (e_le rfl) (e_lt hnx rfl) (Nat.zero_le _) (Nat.zero_le _) (e_k ?_)
      refine r_wr0 ?_
      refine r_mat (k := 91) h91 (l' := [(72, o72 0 a72_2 a72_3 a72_4 a72_5 a72_6 a72_7 a72_8 a72_9 a72_10 a72_11 a72_17 a72_18 a72_19 a72_21 a72_22 q3.2.1 a72_31 a72_35 a72_37 a72_38 a72_39 a72_40 a72_41 a72_44 a72_50), (81, o81 q3.2.2.1), (82, o82 q3.2.2.2.1), (83, o83 q3.2.2.2.2.1), (84, o84 q3.2.2.2.2.2.1), (85, o85 q3.2.2.2.2.2.2), (91, o91 A91)]) rfl ?_
      refine r_mat (k := 92) h92 (l' := [(72, o72 0 a72_2 a72_3 a72_4 a72_5 a72_6 a72_7 a72_8 a72_9 a72_10 a72_11 a72_17 a72_18 a72_19 a72_21 a72_22 q3.2.1 a72_31 a72_35 a72_37 a72_38 a72_39 a72_40 a72_41 a72_44 a72_50), (81, o81 q3.2.2.1), (82, o82 q3.2.2.2.1), (83, o83 q3.2.2.2.2.1), (84, o84 q3.2.2.2.2.2.1), (85, o85 q3.2.2.2.2.2.2), (91, o91 A91), (92, o92 A92)]) rfl ?_
      obtain rfl := Option.some.inj hf
      exact r_iret F hq dX12_rule_139 rfl rfl (Nat.le_refl _) (Nat.le_refl _) ⟨rfl, rfl⟩
    have hf := e_f hk7 hf
    refine Classical.byCases (p := p0 = 8) (fun hc => ?_) (fun hk8 => ?_)
    · have hf := e_t hc hf
      refine r_tsIn F dX12_rule_22 (by rw [hc]; decide) (by rw [hc]; decide) (off := 118) (by rw [hc]; decide) (tgt := 140) (by decide) ?_
      refine r_aload_n F dX12_rule_140 rfl ?_
      refine r_get F dX12_rule_141 flX12_28 rfl rfl (e_le rfl) (e_lt hnx rfl) ?_
      refine r_sipush F dX12_rule_144 (v := 325) (by decide) ?_
      refine r_iald F dX12_rule_147 (i := 325) h79 (e_le rfl) (e_lt hnx rfl) (e_vp (by decide)) ?_
      refine r_mat (k := 91) h91 (l' := [(72, o72 0 a72_2 a72_3 a72_4 a72_5 a72_6 a72_7 a72_8 a72_9 a72_10 a72_11 a72_17 a72_18 a72_19 a72_21 a72_22 q3.2.1 a72_31 a72_35 a72_37 a72_38 a72_39 a72_40 a72_41 a72_44 a72_50), (81, o81 q3.2.2.1), (82, o82 q3.2.2.2.1), (83, o83 q3.2.2.2.2.1), (84, o84 q3.2.2.2.2.2.1), (85, o85 q3.2.2.2.2.2.2), (91, o91 A91)]) rfl ?_
      refine r_mat (k := 92) h92 (l' := [(72, o72 0 a72_2 a72_3 a72_4 a72_5 a72_6 a72_7 a72_8 a72_9 a72_10 a72_11 a72_17 a72_18 a72_19 a72_21 a72_22 q3.2.1 a72_31 a72_35 a72_37 a72_38 a72_39 a72_40 a72_41 a72_44 a72_50), (81, o81 q3.2.2.1), (82, o82 q3.2.2.2.1), (83, o83 q3.2.2.2.2.1), (84, o84 q3.2.2.2.2.2.1), (85, o85 q3.2.2.2.2.2.2), (91, o91 A91), (92, o92 A92)]) rfl ?_
      obtain rfl := Option.some.inj hf
      exact r_iret F hq dX12_rule_148 rfl rfl (Nat.le_refl _) (Nat.le_refl _) ⟨rfl, rfl⟩
    have hf := e_f hk8 hf
    refine Classical.byCases (p := p0 = 9) (fun hc => ?_) (fun hk9 => ?_)
    · have hf := e_t hc hf
      refine r_tsIn F dX12_rule_22 (by rw [hc]; decide) (by rw [hc]; decide) (off := 127) (by rw [hc]; decide) (tgt := 149) (by decide) ?_
      refine r_aload_n F dX12_rule_149 rfl ?_
      refine r_iconst F dX12_rule_150 (v := 0) (by decide) ?_
      refine r_iconst F dX12_rule_151 (v := 0) (by decide) ?_
      refine r_aload_n F dX12_rule_152 rfl ?_
      refine r_get F dX12_rule_153 flX12_205 rfl rfl (e_le rfl) (e_lt hnx rfl) ?_
      refine r_iconst F dX12_rule_156 (v := 1) (by decide) ?_
      refine r_isub F dX12_rule_157 ?_
      refine r_aload_n F dX12_rule_158 rfl ?_
      refine r_get F dX12_rule_159 flX12_208 rfl rfl (e_le rfl) (e_lt hnx rfl) ?_
      refine r_iconst F dX12_rule_162 (v := 1) (by decide) ?_
      refine r_isub F dX12_rule_163 ?_
      refine r_iconst F dX12_rule_164 (v := 0) (by decide) ?_
      obtain ⟨q7, hq8, hf⟩ := e_bd hf
      refine r_callV F dX12_rule_165 (b := 72) (dc := 0) (ds := 0) (As := [.int 0, .int 0, .int (a72_21 - 1), .int (a72_22 - 1), .int 0]) (S0 := []) lkX12_314 mX12_sumRound (tX12_sumRound_72 hG (la := x_l X) (h := e_up h [(72, o72 0 a72_2 a72_3 a72_4 a72_5 a72_6 a72_7 a72_8 a72_9 a72_10 a72_11 a72_17 a72_18 a72_19 a72_21 a72_22 q3.2.1 a72_31 a72_35 a72_37 a72_38 a72_39 a72_40 a72_41 a72_44 a72_50), (81, o81 q3.2.2.1), (82, o82 q3.2.2.2.1), (83, o83 q3.2.2.2.2.1), (84, o84 q3.2.2.2.2.2.1), (85, o85 q3.2.2.2.2.2.2)]) hnx rfl h79 hq8) rfl rfl rfl (e_le rfl) (e_le rfl) (e_le rfl) rfl (ci := 12) e_cl12.1 rfl (e_le rfl) (e_lt hnx rfl) (Nat.zero_le _) (Nat.zero_le _) (e_k ?_)
      refine r_wr0 ?_
      refine r_mat (k := 91) h91 (l' := [(72, o72 0 a72_2 a72_3 a72_4 a72_5 a72_6 a72_7 a72_8 a72_9 a72_10 a72_11 a72_17 a72_18 a72_19 a72_21 a72_22 q3.2.1 a72_31 a72_35 a72_37 a72_38 a72_39 a72_40 a72_41 a72_44 a72_50), (81, o81 q3.2.2.1), (82, o82 q3.2.2.2.1), (83, o83 q3.2.2.2.2.1), (84, o84 q3.2.2.2.2.2.1), (85, o85 q3.2.2.2.2.2.2), (91, o91 A91)]) rfl ?_
      refine r_mat (k := 92) h92 (l' := [(72, o72 0 a72_2 a72_3 a72_4 a72_5 a72_6 a72_7 a72_8 a72_9 a72_10 a72_11 a72_17 a72_18 a72_19 a72_21 a72_22 q3.2.1 a72_31 a72_35 a72_37 a72_38 a72_39 a72_40 a72_41 a72_44 a72_50), (81, o81 q3.2.2.1), (82, o82 q3.2.2.2.1), (83, o83 q3.2.2.2.2.1), (84, o84 q3.2.2.2.2.2.1), (85, o85 q3.2.2.2.2.2.2), (91, o91 A91), (92, o92 A92)]) rfl ?_
      obtain rfl := Option.some.inj hf
      exact r_iret F hq dX12_rule_168 rfl rfl (Nat.le_refl _) (Nat.le_refl _) ⟨rfl, rfl⟩
    have hf := e_f hk9 hf
    refine Classical.byCases (p := p0 = 10) (fun hc => ?_) (fun hk10 => ?_)
    · have hf := e_t hc hf
      refine r_tsIn F dX12_rule_22 (by rw [hc]; decide) (by rw [hc]; decide) (off := 147) (by rw [hc]; decide) (tgt := 169) (by decide) ?_
      refine r_aload_n F dX12_rule_169 rfl ?_
      refine r_iconst F dX12_rule_170 (v := 0) (by decide) ?_
      refine r_iconst F dX12_rule_171 (v := 0) (by decide) ?_
      refine r_aload_n F dX12_rule_172 rfl ?_
      refine r_get F dX12_rule_173 flX12_205 rfl rfl (e_le rfl) (e_lt hnx rfl) ?_
      refine r_iconst F dX12_rule_176 (v := 1) (by decide) ?_
      refine r_isub F dX12_rule_177 ?_
      refine r_aload_n F dX12_rule_178 rfl ?_
      refine r_get F dX12_rule_179 flX12_208 rfl rfl (e_le rfl) (e_lt hnx rfl) ?_
      refine r_iconst F dX12_rule_182 (v := 1) (by decide) ?_
      refine r_isub F dX12_rule_183 ?_
      refine r_iconst F dX12_rule_184 (v := 1) (by decide) ?_
      obtain ⟨q9, hq10, hf⟩ := e_bd hf
      refine r_callV F dX12_rule_185 (b := 72) (dc := 0) (ds := 0) (As := [.int 0, .int 0, .int (a72_21 - 1), .int (a72_22 - 1), .int 1]) (S0 := []) lkX12_314 mX12_sumRound (tX12_sumRound_72 hG (la := x_l X) (h := e_up h [(72, o72 0 a72_2 a72_3 a72_4 a72_5 a72_6 a72_7 a72_8 a72_9 a72_10 a72_11 a72_17 a72_18 a72_19 a72_21 a72_22 q3.2.1 a72_31 a72_35 a72_37 a72_38 a72_39 a72_40 a72_41 a72_44 a72_50), (81, o81 q3.2.2.1), (82, o82 q3.2.2.2.1), (83, o83 q3.2.2.2.2.1), (84, o84 q3.2.2.2.2.2.1), (85, o85 q3.2.2.2.2.2.2)]) hnx rfl h79 hq10) rfl rfl rfl (e_le rfl) (e_le rfl) (e_le rfl) rfl (ci := 12) e_cl12.1 rfl (e_le rfl) (e_lt hnx rfl) (Nat.zero_le _) (Nat.zero_le _) (e_k ?_)
      refine r_wr0 ?_
      refine r_mat (k := 91) h91 (l' := [(72, o72 0 a72_2 a72_3 a72_4 a72_5 a72_6 a72_7 a72_8 a72_9 a72_10 a72_11 a72_17 a72_18 a72_19 a72_21 a72_22 q3.2.1 a72_31 a72_35 a72_37 a72_38 a72_39 a72_40 a72_41 a72_44 a72_50), (81, o81 q3.2.2.1), (82, o82 q3.2.2.2.1), (83, o83 q3.2.2.2.2.1), (84, o84 q3.2.2.2.2.2.1), (85, o85 q3.2.2.2.2.2.2), (91, o91 A91)]) rfl ?_
      refine r_mat (k := 92) h92 (l' := [(72, o72 0 a72_2 a72_3 a72_4 a72_5 a72_6 a72_7 a72_8 a72_9 a72_10 a72_11 a72_17 a72_18 a72_19 a72_21 a72_22 q3.2.1 a72_31 a72_35 a72_37 a72_38 a72_39 a72_40 a72_41 a72_44 a72_50), (81, o81 q3.2.2.1), (82, o82 q3.2.2.2.1), (83, o83 q3.2.2.2.2.1), (84, o84 q3.2.2.2.2.2.1), (85, o85 q3.2.2.2.2.2.2), (91, o91 A91), (92, o92 A92)]) rfl ?_
      obtain rfl := Option.some.inj hf
      exact r_iret F hq dX12_rule_188 rfl rfl (Nat.le_refl _) (Nat.le_refl _) ⟨rfl, rfl⟩
    have hf := e_f hk10 hf
    refine Classical.byCases (p := p0 = 11) (fun hc => ?_) (fun hk11 => ?_)
    · have hf := e_t hc hf
      refine r_tsIn F dX12_rule_22 (by rw [hc]; decide) (by rw [hc]; decide) (off := 167) (by rw [hc]; decide) (tgt := 189) (by decide) ?_
      refine r_aload_n F dX12_rule_189 rfl ?_
      obtain ⟨q11, hq12, hf⟩ := e_bd hf
      refine r_callV F dX12_rule_190 (b := 72) (dc := 0) (ds := 0) (As := []) (S0 := []) lkX12_318 mX12_energy (tX12_energy_72 hG (la := x_l X) (h := e_up h [(72, o72 0 a72_2 a72_3 a72_4 a72_5 a72_6 a72_7 a72_8 a72_9 a72_10 a72_11 a72_17 a72_18 a72_19 a72_21 a72_22 q3.2.1 a72_31 a72_35 a72_37 a72_38 a72_39 a72_40 a72_41 a72_44 a72_50), (81, o81 q3.2.2.1), (82, o82 q3.2.2.2.1), (83, o83 q3.2.2.2.2.1), (84, o84 q3.2.2.2.2.2.1), (85, o85 q3.2.2.2.2.2.2)]) hnx rfl rfl rfl rfl rfl hq12) rfl rfl rfl (e_le rfl) (e_le rfl) (e_le rfl) rfl (ci := 12) e_cl12.1 rfl (e_le rfl) (e_lt hnx rfl) (Nat.zero_le _) (Nat.zero_le _) (e_k ?_)
      refine r_wr0 ?_
      refine r_mat (k := 91) h91 (l' := [(72, o72 0 a72_2 a72_3 a72_4 a72_5 a72_6 a72_7 a72_8 a72_9 a72_10 a72_11 a72_17 a72_18 a72_19 a72_21 a72_22 q3.2.1 a72_31 a72_35 a72_37 a72_38 a72_39 a72_40 a72_41 a72_44 a72_50), (81, o81 q3.2.2.1), (82, o82 q3.2.2.2.1), (83, o83 q3.2.2.2.2.1), (84, o84 q3.2.2.2.2.2.1), (85, o85 q3.2.2.2.2.2.2), (91, o91 A91)]) rfl ?_
      refine r_mat (k := 92) h92 (l' := [(72, o72 0 a72_2 a72_3 a72_4 a72_5 a72_6 a72_7 a72_8 a72_9 a72_10 a72_11 a72_17 a72_18 a72_19 a72_21 a72_22 q3.2.1 a72_31 a72_35 a72_37 a72_38 a72_39 a72_40 a72_41 a72_44 a72_50), (81, o81 q3.2.2.1), (82, o82 q3.2.2.2.1), (83, o83 q3.2.2.2.2.1), (84, o84 q3.2.2.2.2.2.1), (85, o85 q3.2.2.2.2.2.2), (91, o91 A91), (92, o92 A92)]) rfl ?_
      obtain rfl := Option.some.inj hf
      exact r_iret F hq dX12_rule_193 rfl rfl (Nat.le_refl _) (Nat.le_refl _) ⟨rfl, rfl⟩
    have hf := e_f hk11 hf
    refine Classical.byCases (p := p0 = 12) (fun hc => ?_) (fun hk12 => ?_)
    · have hf := e_t hc hf
      refine r_tsIn F dX12_rule_22 (by rw [hc]; decide) (by rw [hc]; decide) (off := 172) (by rw [hc]; decide) (tgt := 194) (by decide) ?_
      refine r_aload_n F dX12_rule_194 rfl ?_
      obtain ⟨q13, hq14, hf⟩ := e_bd hf
      refine r_callV F dX12_rule_195 (b := 72) (dc := 0) (ds := 0) (As := []) (S0 := []) lkX12_321 mX12_laysWalls (tX12_laysWalls_72 hG (la := x_l X) (h := e_up h [(72, o72 0 a72_2 a72_3 a72_4 a72_5 a72_6 a72_7 a72_8 a72_9 a72_10 a72_11 a72_17 a72_18 a72_19 a72_21 a72_22 q3.2.1 a72_31 a72_35 a72_37 a72_38 a72_39 a72_40 a72_41 a72_44 a72_50), (81, o81 q3.2.2.1), (82, o82 q3.2.2.2.1), (83, o83 q3.2.2.2.2.1), (84, o84 q3.2.2.2.2.2.1), (85, o85 q3.2.2.2.2.2.2)]) hnx rfl h79 h91 h92 hq14) rfl rfl rfl (e_le rfl) (e_le rfl) (e_le rfl) rfl (ci := 12) e_cl12.1 rfl (e_le rfl) (e_lt hnx rfl) (Nat.zero_le _) (Nat.zero_le _) (e_k ?_)
      refine r_wr (l' := [(72, o72 0 a72_2 a72_3 a72_4 a72_5 a72_6 a72_7 a72_8 a72_9 a72_10 a72_11 a72_17 a72_18 a72_19 a72_21 a72_22 q3.2.1 a72_31 a72_35 a72_37 a72_38 a72_39 a72_40 a72_41 q13.2.1 a72_50), (81, o81 q3.2.2.1), (82, o82 q3.2.2.2.1), (83, o83 q3.2.2.2.2.1), (84, o84 q3.2.2.2.2.2.1), (85, o85 q3.2.2.2.2.2.2), (91, o91 q13.2.2.1), (92, o92 q13.2.2.2)]) rfl rfl ?_
      obtain rfl := Option.some.inj hf
      exact r_iret F hq dX12_rule_198 rfl rfl (Nat.le_refl _) (Nat.le_refl _) ⟨rfl, rfl⟩
    have hf := e_f hk12 hf
    refine Classical.byCases (p := p0 = 13) (fun hc => ?_) (fun hk13 => ?_)
    · have hf := e_t hc hf
      refine r_tsIn F dX12_rule_22 (by rw [hc]; decide) (by rw [hc]; decide) (off := 177) (by rw [hc]; decide) (tgt := 199) (by decide) ?_
      refine r_aload_n F dX12_rule_199 rfl ?_
      obtain ⟨q15, hq16, hf⟩ := e_bd hf
      refine r_callV F dX12_rule_200 (b := 72) (dc := 0) (ds := 0) (As := []) (S0 := []) lkX12_324 mX12_wayless (tX12_wayless_72 hG (la := x_l X) (h := e_up h [(72, o72 0 a72_2 a72_3 a72_4 a72_5 a72_6 a72_7 a72_8 a72_9 a72_10 a72_11 a72_17 a72_18 a72_19 a72_21 a72_22 q3.2.1 a72_31 a72_35 a72_37 a72_38 a72_39 a72_40 a72_41 a72_44 a72_50), (81, o81 q3.2.2.1), (82, o82 q3.2.2.2.1), (83, o83 q3.2.2.2.2.1), (84, o84 q3.2.2.2.2.2.1), (85, o85 q3.2.2.2.2.2.2)]) hnx rfl rfl rfl hq16) rfl rfl rfl (e_le rfl) (e_le rfl) (e_le rfl) rfl (ci := 12) e_cl12.1 rfl (e_le rfl) (e_lt hnx rfl) (Nat.zero_le _) (Nat.zero_le _) (e_k ?_)
      refine r_wr0 ?_
      refine r_mat (k := 91) h91 (l' := [(72, o72 0 a72_2 a72_3 a72_4 a72_5 a72_6 a72_7 a72_8 a72_9 a72_10 a72_11 a72_17 a72_18 a72_19 a72_21 a72_22 q3.2.1 a72_31 a72_35 a72_37 a72_38 a72_39 a72_40 a72_41 a72_44 a72_50), (81, o81 q3.2.2.1), (82, o82 q3.2.2.2.1), (83, o83 q3.2.2.2.2.1), (84, o84 q3.2.2.2.2.2.1), (85, o85 q3.2.2.2.2.2.2), (91, o91 A91)]) rfl ?_
      refine r_mat (k := 92) h92 (l' := [(72, o72 0 a72_2 a72_3 a72_4 a72_5 a72_6 a72_7 a72_8 a72_9 a72_10 a72_11 a72_17 a72_18 a72_19 a72_21 a72_22 q3.2.1 a72_31 a72_35 a72_37 a72_38 a72_39 a72_40 a72_41 a72_44 a72_50), (81, o81 q3.2.2.1), (82, o82 q3.2.2.2.1), (83, o83 q3.2.2.2.2.1), (84, o84 q3.2.2.2.2.2.1), (85, o85 q3.2.2.2.2.2.2), (91, o91 A91), (92, o92 A92)]) rfl ?_
      obtain rfl := Option.some.inj hf
      exact r_iret F hq dX12_rule_203 rfl rfl (Nat.le_refl _) (Nat.le_refl _) ⟨rfl, rfl⟩
    have hf := e_f hk13 hf
    refine r_tsOut F dX12_rule_22 (e_out14 hk0 hk1 hk2 hk3 hk4 hk5 hk6 hk7 hk8 hk9 hk10 hk11 hk12 hk13) (tgt := 204) (by decide) ?_
    refine r_ldcw F dX12_rule_204 kcX12_310 ?_
    refine r_mat (k := 91) h91 (l' := [(72, o72 0 a72_2 a72_3 a72_4 a72_5 a72_6 a72_7 a72_8 a72_9 a72_10 a72_11 a72_17 a72_18 a72_19 a72_21 a72_22 q3.2.1 a72_31 a72_35 a72_37 a72_38 a72_39 a72_40 a72_41 a72_44 a72_50), (81, o81 q3.2.2.1), (82, o82 q3.2.2.2.1), (83, o83 q3.2.2.2.2.1), (84, o84 q3.2.2.2.2.2.1), (85, o85 q3.2.2.2.2.2.2), (91, o91 A91)]) rfl ?_
    refine r_mat (k := 92) h92 (l' := [(72, o72 0 a72_2 a72_3 a72_4 a72_5 a72_6 a72_7 a72_8 a72_9 a72_10 a72_11 a72_17 a72_18 a72_19 a72_21 a72_22 q3.2.1 a72_31 a72_35 a72_37 a72_38 a72_39 a72_40 a72_41 a72_44 a72_50), (81, o81 q3.2.2.1), (82, o82 q3.2.2.2.1), (83, o83 q3.2.2.2.2.1), (84, o84 q3.2.2.2.2.2.1), (85, o85 q3.2.2.2.2.2.2), (91, o91 A91), (92, o92 A92)]) rfl ?_
    obtain rfl := Option.some.inj hf
    exact r_iret F hq dX12_rule_207 rfl rfl (Nat.le_refl _) (Nat.le_refl _) ⟨rfl, rfl⟩
  · have hf := e_f hc hf
    refine r_ldcw F dX12_rule_12 kcX12_310 ?_
    refine r_mat (k := 81) h81 (l' := [(72, o72 0 a72_2 a72_3 a72_4 a72_5 a72_6 a72_7 a72_8 a72_9 a72_10 a72_11 a72_17 a72_18 a72_19 a72_21 a72_22 a72_29 a72_31 a72_35 a72_37 a72_38 a72_39 a72_40 a72_41 a72_44 a72_50), (81, o81 A81)]) rfl ?_
    refine r_mat (k := 82) h82 (l' := [(72, o72 0 a72_2 a72_3 a72_4 a72_5 a72_6 a72_7 a72_8 a72_9 a72_10 a72_11 a72_17 a72_18 a72_19 a72_21 a72_22 a72_29 a72_31 a72_35 a72_37 a72_38 a72_39 a72_40 a72_41 a72_44 a72_50), (81, o81 A81), (82, o82 A82)]) rfl ?_
    refine r_mat (k := 83) h83 (l' := [(72, o72 0 a72_2 a72_3 a72_4 a72_5 a72_6 a72_7 a72_8 a72_9 a72_10 a72_11 a72_17 a72_18 a72_19 a72_21 a72_22 a72_29 a72_31 a72_35 a72_37 a72_38 a72_39 a72_40 a72_41 a72_44 a72_50), (81, o81 A81), (82, o82 A82), (83, o83 A83)]) rfl ?_
    refine r_mat (k := 84) h84 (l' := [(72, o72 0 a72_2 a72_3 a72_4 a72_5 a72_6 a72_7 a72_8 a72_9 a72_10 a72_11 a72_17 a72_18 a72_19 a72_21 a72_22 a72_29 a72_31 a72_35 a72_37 a72_38 a72_39 a72_40 a72_41 a72_44 a72_50), (81, o81 A81), (82, o82 A82), (83, o83 A83), (84, o84 A84)]) rfl ?_
    refine r_mat (k := 85) h85 (l' := [(72, o72 0 a72_2 a72_3 a72_4 a72_5 a72_6 a72_7 a72_8 a72_9 a72_10 a72_11 a72_17 a72_18 a72_19 a72_21 a72_22 a72_29 a72_31 a72_35 a72_37 a72_38 a72_39 a72_40 a72_41 a72_44 a72_50), (81, o81 A81), (82, o82 A82), (83, o83 A83), (84, o84 A84), (85, o85 A85)]) rfl ?_
    refine r_mat (k := 91) h91 (l' := [(72, o72 0 a72_2 a72_3 a72_4 a72_5 a72_6 a72_7 a72_8 a72_9 a72_10 a72_11 a72_17 a72_18 a72_19 a72_21 a72_22 a72_29 a72_31 a72_35 a72_37 a72_38 a72_39 a72_40 a72_41 a72_44 a72_50), (81, o81 A81), (82, o82 A82), (83, o83 A83), (84, o84 A84), (85, o85 A85), (91, o91 A91)]) rfl ?_
    refine r_mat (k := 92) h92 (l' := [(72, o72 0 a72_2 a72_3 a72_4 a72_5 a72_6 a72_7 a72_8 a72_9 a72_10 a72_11 a72_17 a72_18 a72_19 a72_21 a72_22 a72_29 a72_31 a72_35 a72_37 a72_38 a72_39 a72_40 a72_41 a72_44 a72_50), (81, o81 A81), (82, o82 A82), (83, o83 A83), (84, o84 A84), (85, o85 A85), (91, o91 A91), (92, o92 A92)]) rfl ?_
    obtain rfl := Option.some.inj hf
    exact r_iret F hq dX12_rule_15 rfl rfl (Nat.le_refl _) (Nat.le_refl _) ⟨rfl, rfl⟩
