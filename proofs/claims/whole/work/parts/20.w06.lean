set_option maxRecDepth 100000 in
theorem tX0_greatestForce_49_53 {G : eG} (hG : e_GS G) {la : Launch} {h : Nat → eO} {nx : Nat} (hnx : 99 ≤ nx) {a49_0 : Int32} {A50 : Nat → Int32} {A51 : Nat → Int32} {A53 : Nat → Int32}  (h49 : h 49 = o49 a49_0) (h50 : h 50 = o50 A50) (h51 : h 51 = o51 A51) (h53 : h 53 = o53 A53) {R9 : Int32} (hf : fX0_greatestForce a49_0 A50 A51 A53  = some R9) :
    eSem G la MX0_greatestForce [.ref 49, .ref 53] h nx 0 0 (fun r9 h9 => r9 = some (.int R9) ∧ h9 = h) := by
  refine eSem.of (k := 2) (L := [some (.ref 49), some (.ref 53), none, none]) (by decide +kernel) rfl rfl (fun X F hxl hq hcR hsR => ?_)
  subst hxl
  unfold fX0_greatestForce at hf
  refine r_iconst F dX0_greatestForce_0 (v := 0) (by decide) ?_
  refine r_istore_n F dX0_greatestForce_1 (e_le rfl) (L' := [some (.ref 49), some (.ref 53), some (.int 0), none]) rfl ?_
  refine r_iconst F dX0_greatestForce_2 (v := 0) (by decide) ?_
  refine r_istore_n F dX0_greatestForce_3 (e_le rfl) (L' := [some (.ref 49), some (.ref 53), some (.int 0), some (.int 0)]) rfl ?_
  obtain ⟨x4, hx5, hf⟩ := e_bd hf
  refine (e_loop_ok (P := fun (v3 : Int32 × Int32) => eRun G X 4 [some (.ref 49), some (.ref 53), some (.int v3.1), some (.int v3.2)] [] h [] nx 0 0) (K := fun (x4 : Int32) => eRun G X 32 [none, none, some (.int x4), none] [] h [] nx 0 0) ?_ e_fuel (0, 0) x4 hx5 ?_ : _)
  · intro v3 z hz ih hx
    refine r_iload_n F dX0_greatestForce_4 rfl ?_
    refine r_aload_n F dX0_greatestForce_5 rfl ?_
    refine r_get F dX0_greatestForce_6 flX0_18 h49 rfl (e_le rfl) (e_lt hnx rfl) ?_
    refine r_icmp_ge F dX0_greatestForce_9 (tgt := 32) (by decide) (fun hc => ?_) (fun hc => ?_)
    · have hz := e_t hc hz
      refine r_drop 0 (L' := [none, some (.ref 53), some (.int v3.1), some (.int v3.2)]) rfl ?_
      refine r_drop 1 (L' := [none, none, some (.int v3.1), some (.int v3.2)]) rfl ?_
      refine r_drop 3 (L' := [none, none, some (.int v3.1), none]) rfl ?_
      obtain rfl := Option.some.inj hz
      exact hx v3.1 rfl
    · have hz := e_f hc hz
      refine r_iload_n F dX0_greatestForce_12 rfl ?_
      refine r_aload_n F dX0_greatestForce_13 rfl ?_
      refine r_iload_n F dX0_greatestForce_14 rfl ?_
      refine r_aload_n F dX0_greatestForce_15 rfl ?_
      obtain ⟨q6, hq7, hz⟩ := e_bd hz
      refine r_callV F dX0_greatestForce_16 (b := 49) (dc := 0) (ds := 0) (As := [.int v3.2, .ref 53]) (S0 := [.int v3.1]) lkX0_66 mX0_forceOn (tX0_forceOn_49_53 hG (la := x_l X) (h := e_up h []) hnx h49 h50 h51 h53 hq7) rfl rfl rfl (e_le rfl) (e_le rfl) (e_le rfl) h49 (ci := 0) e_cl0.1 rfl (e_le rfl) (e_lt hnx rfl) (Nat.zero_le _) (Nat.zero_le _) (e_k ?_)
      refine r_wr0 ?_
      obtain ⟨q8, hq9, hz⟩ := e_bd hz
      refine r_callS F dX0_greatestForce_19 (dc := 0) (ds := 0) (As := [.int q6]) (S0 := [.int v3.1]) lkX0_61 mJ9_abs_0f7a4 (tJ9_abs_0f7a4 hG (la := x_l X) (h := e_up h []) hnx  hq9) rfl rfl rfl (e_le rfl) (e_le rfl) (e_le rfl) (Nat.zero_le _) (Nat.zero_le _) (e_k ?_)
      refine r_wr0 ?_
      obtain ⟨q10, hq11, hz⟩ := e_bd hz
      refine r_callS F dX0_greatestForce_22 (dc := 0) (ds := 0) (As := [.int v3.1, .int q8]) (S0 := []) lkX0_70 mJ9_max_7cf53 (tJ9_max_7cf53 hG (la := x_l X) (h := e_up h []) hnx  hq11) rfl rfl rfl (e_le rfl) (e_le rfl) (e_le rfl) (Nat.zero_le _) (Nat.zero_le _) (e_k ?_)
      refine r_wr0 ?_
      refine r_istore_n F dX0_greatestForce_25 (e_le rfl) (L' := [some (.ref 49), some (.ref 53), some (.int q10), some (.int v3.2)]) rfl ?_
      refine r_inc F dX0_greatestForce_26 (k9 := 1) (by decide) rfl (L' := [some (.ref 49), some (.ref 53), some (.int q10), some (.int (v3.2 + 1))]) rfl ?_
      refine r_goto F dX0_greatestForce_29 (tgt := 4) (by decide) ?_
      obtain rfl := Option.some.inj hz
      exact ih (q10, v3.2 + 1) rfl
  · show eRun G X 32 [none, none, some (.int x4), none] [] h [] nx 0 0
    refine r_iload_n F dX0_greatestForce_32 rfl ?_
    obtain rfl := Option.some.inj hf
    exact r_iret F hq dX0_greatestForce_33 rfl rfl (Nat.le_refl _) (Nat.le_refl _) ⟨rfl, rfl⟩

def fX11_rests (a40_0 : Int32) (a40_1 : Int32) (a47_0 : Int32) (a47_1 : Int32) (a49_0 : Int32) (A41 : Nat → Int32) (A48 : Nat → Int32) (A50 : Nat → Int32) (A51 : Nat → Int32) (A52 : Nat → Int32) (A53 : Nat → Int32)  : Option (Int32 × Int32 × Int32 × Int32 × (Nat → Int32) × (Nat → Int32) × (Nat → Int32) × (Nat → Int32)) :=
  (fX11_isEmpty a40_0).bind (fun q1 =>
  if q1 = true then
    some ((-1), a47_0, a47_1, a49_0, A48, A50, A51, A52)
  else
    (fX1_copy a40_0 a40_1 a47_0 a47_1 a49_0 A41 A48 A50 A51).bind (fun q3 =>
    (e_loop (fun (v7 : Int32 × Int32 × (Nat → Int32) × (Nat → Int32) × (Nat → Int32) × (Nat → Int32)) => (
        if 40 < v7.1 then
          some (.inr (.inl (v7.2.1, v7.2.2.1, v7.2.2.2.1, v7.2.2.2.2.1, v7.2.2.2.2.2)))
        else
          (fX0_greatestForce v7.2.1 v7.2.2.2.1 v7.2.2.2.2.1 A53).bind (fun q10 =>
          if (A53 (tn 2)) < q10 then
            (fX1_playRound q3.1 q3.2.1 v7.2.1 v7.2.2.1 v7.2.2.2.1 v7.2.2.2.2.1 v7.2.2.2.2.2 A53).bind (fun q12 =>
            some (.inl (v7.1 + 1, q12.1, q12.2.1, q12.2.2.1, q12.2.2.2.1, q12.2.2.2.2)))
          else
            some (.inr (.inr (v7.1, q3.1, q3.2.1, v7.2.1, v7.2.2.1, v7.2.2.2.1, v7.2.2.2.2.1, v7.2.2.2.2.2)))) : Option ((Int32 × Int32 × (Nat → Int32) × (Nat → Int32) × (Nat → Int32) × (Nat → Int32)) ⊕ ((Int32 × (Nat → Int32) × (Nat → Int32) × (Nat → Int32) × (Nat → Int32)) ⊕ (Int32 × Int32 × Int32 × Int32 × (Nat → Int32) × (Nat → Int32) × (Nat → Int32) × (Nat → Int32)))))) e_fuel (0, q3.2.2.1, q3.2.2.2.1, q3.2.2.2.2.1, q3.2.2.2.2.2, A52)).bind (fun x8 => Sum.elim (fun x8e =>
      some ((-1), q3.1, q3.2.1, x8e.1, x8e.2.1, x8e.2.2.1, x8e.2.2.2.1, x8e.2.2.2.2)) (fun r9 => some r9) x8)))
set_option maxRecDepth 100000 in
theorem tX11_rests_32 {G : eG} (hG : e_GS G) {la : Launch} {h : Nat → eO} {nx : Nat} (hnx : 99 ≤ nx) {a32_8 : Bool} {a32_10 : Bool} {a40_0 : Int32} {a40_1 : Int32} {A41 : Nat → Int32} {a47_0 : Int32} {a47_1 : Int32} {A48 : Nat → Int32} {a49_0 : Int32} {A50 : Nat → Int32} {A51 : Nat → Int32} {A52 : Nat → Int32} {A53 : Nat → Int32}  (h32 : h 32 = o32 a32_8 a32_10) (h39 : h 39 = o39) (h40 : h 40 = o40 a40_0 a40_1) (h41 : h 41 = o41 A41) (h46 : h 46 = o46) (h47 : h 47 = o47 a47_0 a47_1) (h48 : h 48 = o48 A48) (h49 : h 49 = o49 a49_0) (h50 : h 50 = o50 A50) (h51 : h 51 = o51 A51) (h52 : h 52 = o52 A52) (h53 : h 53 = o53 A53) {R9 : Int32 × Int32 × Int32 × Int32 × (Nat → Int32) × (Nat → Int32) × (Nat → Int32) × (Nat → Int32)} (hf : fX11_rests a40_0 a40_1 a47_0 a47_1 a49_0 A41 A48 A50 A51 A52 A53  = some R9) :
    eSem G la MX11_rests [.ref 32] h nx 0 0 (fun r9 h9 => r9 = some (.int R9.1) ∧ h9 = e_up h [(47, o47 R9.2.1 R9.2.2.1), (48, o48 R9.2.2.2.2.1), (49, o49 R9.2.2.2.1), (50, o50 R9.2.2.2.2.2.1), (51, o51 R9.2.2.2.2.2.2.1), (52, o52 R9.2.2.2.2.2.2.2)]) := by
  refine eSem.of (k := 1) (L := [some (.ref 32), none]) (by decide +kernel) rfl rfl (fun X F hxl hq hcR hsR => ?_)
  subst hxl
  unfold fX11_rests at hf
  refine r_aload_n F dX11_rests_0 rfl ?_
  obtain ⟨q1, hq2, hf⟩ := e_bd hf
  refine r_callV F dX11_rests_1 (b := 32) (dc := 0) (ds := 0) (As := []) (S0 := []) lkX11_136 mX11_isEmpty (tX11_isEmpty_32 hG (la := x_l X) (h := e_up h []) hnx h32 h39 h40 hq2) rfl rfl rfl (e_le rfl) (e_le rfl) (e_le rfl) h32 (ci := 11) e_cl11.1 rfl (e_le rfl) (e_lt hnx rfl) (Nat.zero_le _) (Nat.zero_le _) (e_k ?_)
  refine r_wr0 ?_
  refine r_z_eq F dX11_rests_4 (tgt := 9) (by decide) (fun hc => ?_) (fun hc => ?_)
  · have hf := e_t hc hf
    refine r_iconst F dX11_rests_7 (v := (-1)) (by decide) ?_
    refine r_mat (k := 47) h47 (l' := [(47, o47 a47_0 a47_1)]) rfl ?_
    refine r_mat (k := 48) h48 (l' := [(47, o47 a47_0 a47_1), (48, o48 A48)]) rfl ?_
    refine r_mat (k := 49) h49 (l' := [(47, o47 a47_0 a47_1), (48, o48 A48), (49, o49 a49_0)]) rfl ?_
    refine r_mat (k := 50) h50 (l' := [(47, o47 a47_0 a47_1), (48, o48 A48), (49, o49 a49_0), (50, o50 A50)]) rfl ?_
    refine r_mat (k := 51) h51 (l' := [(47, o47 a47_0 a47_1), (48, o48 A48), (49, o49 a49_0), (50, o50 A50), (51, o51 A51)]) rfl ?_
    refine r_mat (k := 52) h52 (l' := [(47, o47 a47_0 a47_1), (48, o48 A48), (49, o49 a49_0), (50, o50 A50), (51, o51 A51), (52, o52 A52)]) rfl ?_
    obtain rfl := Option.some.inj hf
    exact r_iret F hq dX11_rests_8 rfl rfl (Nat.le_refl _) (Nat.le_refl _) ⟨rfl, rfl⟩
  · have hf := e_f hc hf
    refine r_aload_n F dX11_rests_9 rfl ?_
    refine r_get F dX11_rests_10 flX11_32 h32 rfl (e_le rfl) (e_lt hnx rfl) ?_
    refine r_aload_n F dX11_rests_13 rfl ?_
    refine r_get F dX11_rests_14 flX11_28 h32 rfl (e_le rfl) (e_lt hnx rfl) ?_
    obtain ⟨q3, hq4, hf⟩ := e_bd hf
    refine r_callV F dX11_rests_17 (b := 46) (dc := 0) (ds := 0) (As := [.ref 39]) (S0 := []) lkX11_325 mX1_copy (tX1_copy_46_39 hG (la := x_l X) (h := e_up h []) hnx h39 h40 h41 h46 h47 h48 h49 h50 h51 hq4) rfl rfl rfl (e_le rfl) (e_le rfl) (e_le rfl) h46 (ci := 1) e_cl1.1 rfl (e_le rfl) (e_lt hnx rfl) (Nat.zero_le _) (Nat.zero_le _) (e_k ?_)
    refine r_wr (l' := [(47, o47 q3.1 q3.2.1), (48, o48 q3.2.2.2.1), (49, o49 q3.2.2.1), (50, o50 q3.2.2.2.2.1), (51, o51 q3.2.2.2.2.2)]) rfl rfl ?_
    refine r_iconst F dX11_rests_20 (v := 0) (by decide) ?_
    refine r_istore_n F dX11_rests_21 (e_le rfl) (L' := [some (.ref 32), some (.int 0)]) rfl ?_
    refine r_mat (k := 52) h52 (l' := [(47, o47 q3.1 q3.2.1), (48, o48 q3.2.2.2.1), (49, o49 q3.2.2.1), (50, o50 q3.2.2.2.2.1), (51, o51 q3.2.2.2.2.2), (52, o52 A52)]) rfl ?_
    obtain ⟨x8, hx9, hf⟩ := e_bd hf
    refine (e_loop_ok (P := fun (v7 : Int32 × Int32 × (Nat → Int32) × (Nat → Int32) × (Nat → Int32) × (Nat → Int32)) => eRun G X 22 [some (.ref 32), some (.int v7.1)] [] h [(47, o47 q3.1 q3.2.1), (48, o48 v7.2.2.1), (49, o49 v7.2.1), (50, o50 v7.2.2.2.1), (51, o51 v7.2.2.2.2.1), (52, o52 v7.2.2.2.2.2)] nx 0 0) (K := fun (x8 : (Int32 × (Nat → Int32) × (Nat → Int32) × (Nat → Int32) × (Nat → Int32)) ⊕ (Int32 × Int32 × Int32 × Int32 × (Nat → Int32) × (Nat → Int32) × (Nat → Int32) × (Nat → Int32))) => Sum.elim (fun x8e => eRun G X 70 [none, none] [] h [(47, o47 q3.1 q3.2.1), (48, o48 x8e.2.1), (49, o49 x8e.1), (50, o50 x8e.2.2.1), (51, o51 x8e.2.2.2.1), (52, o52 x8e.2.2.2.2)] nx 0 0) (fun r9 => r9 = R9) x8) ?_ e_fuel (0, q3.2.2.1, q3.2.2.2.1, q3.2.2.2.2.1, q3.2.2.2.2.2, A52) x8 hx9 ?_ : _)
    · intro v7 z hz ih hx
      refine r_iload_n F dX11_rests_22 rfl ?_
      refine r_bipush F dX11_rests_23 (v := 40) (by decide) ?_
      refine r_icmp_gt F dX11_rests_25 (tgt := 70) (by decide) (fun hc => ?_) (fun hc => ?_)
      · have hz := e_t hc hz
        refine r_drop 0 (L' := [none, some (.int v7.1)]) rfl ?_
        refine r_drop 1 (L' := [none, none]) rfl ?_
        obtain rfl := Option.some.inj hz
        exact hx (.inl (v7.2.1, v7.2.2.1, v7.2.2.2.1, v7.2.2.2.2.1, v7.2.2.2.2.2)) rfl
      · have hz := e_f hc hz
        refine r_aload_n F dX11_rests_28 rfl ?_
        refine r_get F dX11_rests_29 flX11_32 h32 rfl (e_le rfl) (e_lt hnx rfl) ?_
        refine r_get F dX11_rests_32 flX11_127 h46 rfl (e_le rfl) (e_lt hnx rfl) ?_
        refine r_aload_n F dX11_rests_35 rfl ?_
        refine r_get F dX11_rests_36 flX11_35 h32 rfl (e_le rfl) (e_lt hnx rfl) ?_
        obtain ⟨q10, hq11, hz⟩ := e_bd hz
        refine r_callV F dX11_rests_39 (b := 49) (dc := 0) (ds := 0) (As := [.ref 53]) (S0 := []) lkX11_329 mX0_greatestForce (tX0_greatestForce_49_53 hG (la := x_l X) (h := e_up h [(47, o47 q3.1 q3.2.1), (48, o48 v7.2.2.1), (49, o49 v7.2.1), (50, o50 v7.2.2.2.1), (51, o51 v7.2.2.2.2.1), (52, o52 v7.2.2.2.2.2)]) hnx rfl rfl rfl h53 hq11) rfl rfl rfl (e_le rfl) (e_le rfl) (e_le rfl) rfl (ci := 0) e_cl0.1 rfl (e_le rfl) (e_lt hnx rfl) (Nat.zero_le _) (Nat.zero_le _) (e_k ?_)
        refine r_wr0 ?_
        refine r_aload_n F dX11_rests_42 rfl ?_
        refine r_get F dX11_rests_43 flX11_35 h32 rfl (e_le rfl) (e_lt hnx rfl) ?_
        refine r_iconst F dX11_rests_46 (v := 2) (by decide) ?_
        refine r_iald F dX11_rests_47 (i := 2) h53 (e_le rfl) (e_lt hnx rfl) (e_vp (by decide)) ?_
        refine r_icmp_gt F dX11_rests_48 (tgt := 53) (by decide) (fun hc => ?_) (fun hc => ?_)
        · have hz := e_t hc hz
          refine r_aload_n F dX11_rests_53 rfl ?_
          refine r_get F dX11_rests_54 flX11_32 h32 rfl (e_le rfl) (e_lt hnx rfl) ?_
          refine r_aload_n F dX11_rests_57 rfl ?_
          refine r_get F dX11_rests_58 flX11_35 h32 rfl (e_le rfl) (e_lt hnx rfl) ?_
          obtain ⟨q12, hq13, hz⟩ := e_bd hz
          refine r_callV F dX11_rests_61 (b := 46) (dc := 0) (ds := 0) (As := [.ref 53]) (S0 := []) lkX11_264 mX1_playRound (tX1_playRound_46_53 hG (la := x_l X) (h := e_up h [(47, o47 q3.1 q3.2.1), (48, o48 v7.2.2.1), (49, o49 v7.2.1), (50, o50 v7.2.2.2.1), (51, o51 v7.2.2.2.2.1), (52, o52 v7.2.2.2.2.2)]) hnx h46 rfl rfl rfl rfl rfl rfl h53 hq13) rfl rfl rfl (e_le rfl) (e_le rfl) (e_le rfl) h46 (ci := 1) e_cl1.1 rfl (e_le rfl) (e_lt hnx rfl) (Nat.zero_le _) (Nat.zero_le _) (e_k ?_)
          refine r_wr (l' := [(47, o47 q3.1 q3.2.1), (48, o48 q12.2.1), (49, o49 q12.1), (50, o50 q12.2.2.1), (51, o51 q12.2.2.2.1), (52, o52 q12.2.2.2.2)]) rfl rfl ?_
          refine r_inc F dX11_rests_64 (k9 := 1) (by decide) rfl (L' := [some (.ref 32), some (.int (v7.1 + 1))]) rfl ?_
          refine r_goto F dX11_rests_67 (tgt := 22) (by decide) ?_
          obtain rfl := Option.some.inj hz
          exact ih (v7.1 + 1, q12.1, q12.2.1, q12.2.2.1, q12.2.2.2.1, q12.2.2.2.2) rfl
        · have hz := e_f hc hz
          refine r_iload_n F dX11_rests_51 rfl ?_
          obtain rfl := Option.some.inj hz
          have e9 := hx (.inr (v7.1, q3.1, q3.2.1, v7.2.1, v7.2.2.1, v7.2.2.2.1, v7.2.2.2.2.1, v7.2.2.2.2.2)) rfl
          subst e9
          exact r_iret F hq dX11_rests_52 rfl rfl (Nat.le_refl _) (Nat.le_refl _) ⟨rfl, rfl⟩
    · cases x8 with
      | inr r9 => exact Option.some.inj hf
      | inl x8e =>
        simp only [Sum.elim_inl] at hf
        show eRun G X 70 [none, none] [] h [(47, o47 q3.1 q3.2.1), (48, o48 x8e.2.1), (49, o49 x8e.1), (50, o50 x8e.2.2.1), (51, o51 x8e.2.2.2.1), (52, o52 x8e.2.2.2.2)] nx 0 0
        refine r_iconst F dX11_rests_70 (v := (-1)) (by decide) ?_
        obtain rfl := Option.some.inj hf
        exact r_iret F hq dX11_rests_71 rfl rfl (Nat.le_refl _) (Nat.le_refl _) ⟨rfl, rfl⟩

set_option maxRecDepth 100000 in
theorem tX7_slippedLinks_40 {G : eG} (hG : e_GS G) {la : Launch} {h : Nat → eO} {nx : Nat} (hnx : 99 ≤ nx) {a40_0 : Int32} {a40_1 : Int32} {A41 : Nat → Int32}  (h40 : h 40 = o40 a40_0 a40_1) (h41 : h 41 = o41 A41) {R9 : Int32} (hf : fX7_slippedLinks a40_0 a40_1 A41  = some R9) :
    eSem G la MX7_slippedLinks [.ref 40] h nx 0 0 (fun r9 h9 => r9 = some (.int R9) ∧ h9 = h) := by
  refine eSem.of (k := 2) (L := [some (.ref 40), none, none]) (by decide +kernel) rfl rfl (fun X F hxl hq hcR hsR => ?_)
  subst hxl
  unfold fX7_slippedLinks at hf
  refine r_iconst F dX7_slippedLinks_0 (v := 0) (by decide) ?_
  refine r_istore_n F dX7_slippedLinks_1 (e_le rfl) (L' := [some (.ref 40), some (.int 0), none]) rfl ?_
  refine r_iconst F dX7_slippedLinks_2 (v := 0) (by decide) ?_
  refine r_istore_n F dX7_slippedLinks_3 (e_le rfl) (L' := [some (.ref 40), some (.int 0), some (.int 0)]) rfl ?_
  obtain ⟨x4, hx5, hf⟩ := e_bd hf
  refine (e_loop_ok (P := fun (v3 : Int32 × Int32) => eRun G X 4 [some (.ref 40), some (.int v3.1), some (.int v3.2)] [] h [] nx 0 0) (K := fun (x4 : Int32) => eRun G X 34 [none, some (.int x4), none] [] h [] nx 0 0) ?_ e_fuel (0, 0) x4 hx5 ?_ : _)
  · intro v3 z hz ih hx
    refine r_iload_n F dX7_slippedLinks_4 rfl ?_
    refine r_aload_n F dX7_slippedLinks_5 rfl ?_
    refine r_get F dX7_slippedLinks_6 flX7_19 h40 rfl (e_le rfl) (e_lt hnx rfl) ?_
    refine r_icmp_ge F dX7_slippedLinks_9 (tgt := 34) (by decide) (fun hc => ?_) (fun hc => ?_)
    · have hz := e_t hc hz
      refine r_drop 0 (L' := [none, some (.int v3.1), some (.int v3.2)]) rfl ?_
      refine r_drop 2 (L' := [none, some (.int v3.1), none]) rfl ?_
      obtain rfl := Option.some.inj hz
      exact hx v3.1 rfl
    · have hz := e_f hc hz
      refine r_iload_n F dX7_slippedLinks_12 rfl ?_
      refine r_aload_n F dX7_slippedLinks_13 rfl ?_
      refine r_iload_n F dX7_slippedLinks_14 rfl ?_
      refine r_iconst F dX7_slippedLinks_15 (v := 0) (by decide) ?_
      obtain ⟨q6, hq7, hz⟩ := e_bd hz
      refine r_callV F dX7_slippedLinks_16 (b := 40) (dc := 0) (ds := 0) (As := [.int v3.2, .int 0]) (S0 := [.int v3.1]) lkX7_40 mX7_slippedFrom (tX7_slippedFrom_40 hG (la := x_l X) (h := e_up h []) hnx h40 h41 hq7) rfl rfl rfl (e_le rfl) (e_le rfl) (e_le rfl) h40 (ci := 7) e_cl7.1 rfl (e_le rfl) (e_lt hnx rfl) (Nat.zero_le _) (Nat.zero_le _) (e_k ?_)
      refine r_wr0 ?_
      refine r_aload_n F dX7_slippedLinks_19 rfl ?_
      refine r_iload_n F dX7_slippedLinks_20 rfl ?_
      refine r_iconst F dX7_slippedLinks_21 (v := 1) (by decide) ?_
      obtain ⟨q8, hq9, hz⟩ := e_bd hz
      refine r_callV F dX7_slippedLinks_22 (b := 40) (dc := 0) (ds := 0) (As := [.int v3.2, .int 1]) (S0 := [.int q6, .int v3.1]) lkX7_40 mX7_slippedFrom (tX7_slippedFrom_40 hG (la := x_l X) (h := e_up h []) hnx h40 h41 hq9) rfl rfl rfl (e_le rfl) (e_le rfl) (e_le rfl) h40 (ci := 7) e_cl7.1 rfl (e_le rfl) (e_lt hnx rfl) (Nat.zero_le _) (Nat.zero_le _) (e_k ?_)
      refine r_wr0 ?_
      refine r_iadd F dX7_slippedLinks_25 ?_
      refine r_iadd F dX7_slippedLinks_26 ?_
      refine r_istore_n F dX7_slippedLinks_27 (e_le rfl) (L' := [some (.ref 40), some (.int (v3.1 + (q6 + q8))), some (.int v3.2)]) rfl ?_
      refine r_inc F dX7_slippedLinks_28 (k9 := 1) (by decide) rfl (L' := [some (.ref 40), some (.int (v3.1 + (q6 + q8))), some (.int (v3.2 + 1))]) rfl ?_
      refine r_goto F dX7_slippedLinks_31 (tgt := 4) (by decide) ?_
      obtain rfl := Option.some.inj hz
      exact ih (v3.1 + (q6 + q8), v3.2 + 1) rfl
  · show eRun G X 34 [none, some (.int x4), none] [] h [] nx 0 0
    refine r_iload_n F dX7_slippedLinks_34 rfl ?_
    obtain rfl := Option.some.inj hf
    exact r_iret F hq dX7_slippedLinks_35 rfl rfl (Nat.le_refl _) (Nat.le_refl _) ⟨rfl, rfl⟩

def fX7_sumRoundAll (a40_0 : Int32) (a40_1 : Int32) (A41 : Nat → Int32) (p0 : Int32) : Option (Int32) :=
  (fX7_sumRound a40_0 a40_1 A41 0 0 (a40_0 - 1) (a40_1 - 1) p0).bind (fun q1 =>
  some q1)
set_option maxRecDepth 100000 in
theorem tX7_sumRoundAll_40 {G : eG} (hG : e_GS G) {la : Launch} {h : Nat → eO} {nx : Nat} (hnx : 99 ≤ nx) {a40_0 : Int32} {a40_1 : Int32} {A41 : Nat → Int32} {p0 : Int32} (h40 : h 40 = o40 a40_0 a40_1) (h41 : h 41 = o41 A41) {R9 : Int32} (hf : fX7_sumRoundAll a40_0 a40_1 A41 p0 = some R9) :
    eSem G la MX7_sumRoundAll [.ref 40, .int p0] h nx 0 0 (fun r9 h9 => r9 = some (.int R9) ∧ h9 = h) := by
  refine eSem.of (k := 0) (L := [some (.ref 40), some (.int p0)]) (by decide +kernel) rfl rfl (fun X F hxl hq hcR hsR => ?_)
  subst hxl
  unfold fX7_sumRoundAll at hf
  refine r_aload_n F dX7_sumRoundAll_0 rfl ?_
  refine r_iconst F dX7_sumRoundAll_1 (v := 0) (by decide) ?_
  refine r_iconst F dX7_sumRoundAll_2 (v := 0) (by decide) ?_
  refine r_aload_n F dX7_sumRoundAll_3 rfl ?_
  refine r_get F dX7_sumRoundAll_4 flX7_15 h40 rfl (e_le rfl) (e_lt hnx rfl) ?_
  refine r_iconst F dX7_sumRoundAll_7 (v := 1) (by decide) ?_
  refine r_isub F dX7_sumRoundAll_8 ?_
  refine r_aload_n F dX7_sumRoundAll_9 rfl ?_
  refine r_get F dX7_sumRoundAll_10 flX7_19 h40 rfl (e_le rfl) (e_lt hnx rfl) ?_
  refine r_iconst F dX7_sumRoundAll_13 (v := 1) (by decide) ?_
  refine r_isub F dX7_sumRoundAll_14 ?_
  refine r_iload_n F dX7_sumRoundAll_15 rfl ?_
  obtain ⟨q1, hq2, hf⟩ := e_bd hf
  refine r_callV F dX7_sumRoundAll_16 (b := 40) (dc := 0) (ds := 0) (As := [.int 0, .int 0, .int (a40_0 - 1), .int (a40_1 - 1), .int p0]) (S0 := []) lkX7_47 mX7_sumRound (tX7_sumRound_40 hG (la := x_l X) (h := e_up h []) hnx h40 h41 hq2) rfl rfl rfl (e_le rfl) (e_le rfl) (e_le rfl) h40 (ci := 7) e_cl7.1 rfl (e_le rfl) (e_lt hnx rfl) (Nat.zero_le _) (Nat.zero_le _) (e_k ?_)
  refine r_wr0 ?_
  obtain rfl := Option.some.inj hf
  exact r_iret F hq dX7_sumRoundAll_19 rfl rfl (Nat.le_refl _) (Nat.le_refl _) ⟨rfl, rfl⟩

set_option maxRecDepth 100000 in
theorem tX0_productOf_42 {G : eG} (hG : e_GS G) {la : Launch} {h : Nat → eO} {nx : Nat} (hnx : 99 ≤ nx) {a42_0 : Int32} {A44 : Nat → Int32} {p0 : Int32} {p1 : Int32} (h42 : h 42 = o42 a42_0) (h44 : h 44 = o44 A44) {R9 : Int32} (hf : fX0_productOf a42_0 A44 p0 p1 = some R9) :
    eSem G la MX0_productOf [.ref 42, .int p0, .int p1] h nx 0 0 (fun r9 h9 => r9 = some (.int R9) ∧ h9 = h) := by
  refine eSem.of (k := 0) (L := [some (.ref 42), some (.int p0), some (.int p1)]) (by decide +kernel) rfl rfl (fun X F hxl hq hcR hsR => ?_)
  subst hxl
  unfold fX0_productOf at hf
  refine r_aload_n F dX0_productOf_0 rfl ?_
  refine r_iload_n F dX0_productOf_1 rfl ?_
  refine r_iconst F dX0_productOf_2 (v := 0) (by decide) ?_
  obtain ⟨q1, hq2, hf⟩ := e_bd hf
  refine r_callV F dX0_productOf_3 (b := 42) (dc := 0) (ds := 0) (As := [.int p0, .int 0]) (S0 := []) lkX0_38 mX0_numberOf (tX0_numberOf_42 hG (la := x_l X) (h := e_up h []) hnx h42 h44 hq2) rfl rfl rfl (e_le rfl) (e_le rfl) (e_le rfl) h42 (ci := 0) e_cl0.1 rfl (e_le rfl) (e_lt hnx rfl) (Nat.zero_le _) (Nat.zero_le _) (e_k ?_)
  refine r_wr0 ?_
  refine r_aload_n F dX0_productOf_6 rfl ?_
  refine r_iload_n F dX0_productOf_7 rfl ?_
  refine r_iconst F dX0_productOf_8 (v := 0) (by decide) ?_
  obtain ⟨q3, hq4, hf⟩ := e_bd hf
  refine r_callV F dX0_productOf_9 (b := 42) (dc := 0) (ds := 0) (As := [.int p1, .int 0]) (S0 := [.int q1]) lkX0_38 mX0_numberOf (tX0_numberOf_42 hG (la := x_l X) (h := e_up h []) hnx h42 h44 hq4) rfl rfl rfl (e_le rfl) (e_le rfl) (e_le rfl) h42 (ci := 0) e_cl0.1 rfl (e_le rfl) (e_lt hnx rfl) (Nat.zero_le _) (Nat.zero_le _) (e_k ?_)
  refine r_wr0 ?_
  refine r_imul F dX0_productOf_12 ?_
  refine r_aload_n F dX0_productOf_13 rfl ?_
  refine r_iload_n F dX0_productOf_14 rfl ?_
  refine r_iconst F dX0_productOf_15 (v := 1) (by decide) ?_
  obtain ⟨q5, hq6, hf⟩ := e_bd hf
  refine r_callV F dX0_productOf_16 (b := 42) (dc := 0) (ds := 0) (As := [.int p0, .int 1]) (S0 := [.int (q1 * q3)]) lkX0_38 mX0_numberOf (tX0_numberOf_42 hG (la := x_l X) (h := e_up h []) hnx h42 h44 hq6) rfl rfl rfl (e_le rfl) (e_le rfl) (e_le rfl) h42 (ci := 0) e_cl0.1 rfl (e_le rfl) (e_lt hnx rfl) (Nat.zero_le _) (Nat.zero_le _) (e_k ?_)
  refine r_wr0 ?_
  refine r_aload_n F dX0_productOf_19 rfl ?_
  refine r_iload_n F dX0_productOf_20 rfl ?_
  refine r_iconst F dX0_productOf_21 (v := 1) (by decide) ?_
  obtain ⟨q7, hq8, hf⟩ := e_bd hf
  refine r_callV F dX0_productOf_22 (b := 42) (dc := 0) (ds := 0) (As := [.int p1, .int 1]) (S0 := [.int q5, .int (q1 * q3)]) lkX0_38 mX0_numberOf (tX0_numberOf_42 hG (la := x_l X) (h := e_up h []) hnx h42 h44 hq8) rfl rfl rfl (e_le rfl) (e_le rfl) (e_le rfl) h42 (ci := 0) e_cl0.1 rfl (e_le rfl) (e_lt hnx rfl) (Nat.zero_le _) (Nat.zero_le _) (e_k ?_)
  refine r_wr0 ?_
  refine r_imul F dX0_productOf_25 ?_
  refine r_iadd F dX0_productOf_26 ?_
  obtain rfl := Option.some.inj hf
  exact r_iret F hq dX0_productOf_27 rfl rfl (Nat.le_refl _) (Nat.le_refl _) ⟨rfl, rfl⟩

set_option maxRecDepth 100000 in
theorem tX0_energy_42 {G : eG} (hG : e_GS G) {la : Launch} {h : Nat → eO} {nx : Nat} (hnx : 99 ≤ nx) {a42_0 : Int32} {A43 : Nat → Int32} {A44 : Nat → Int32}  (h42 : h 42 = o42 a42_0) (h43 : h 43 = o43 A43) (h44 : h 44 = o44 A44) {R9 : Int32} (hf : fX0_energy a42_0 A43 A44  = some R9) :
    eSem G la MX0_energy [.ref 42] h nx 0 0 (fun r9 h9 => r9 = some (.int R9) ∧ h9 = h) := by
  refine eSem.of (k := 4) (L := [some (.ref 42), none, none, none, none]) (by decide +kernel) rfl rfl (fun X F hxl hq hcR hsR => ?_)
  subst hxl
  unfold fX0_energy at hf
  refine r_iconst F dX0_energy_0 (v := 0) (by decide) ?_
  refine r_istore_n F dX0_energy_1 (e_le rfl) (L' := [some (.ref 42), some (.int 0), none, none, none]) rfl ?_
  refine r_iconst F dX0_energy_2 (v := 0) (by decide) ?_
  refine r_istore_n F dX0_energy_3 (e_le rfl) (L' := [some (.ref 42), some (.int 0), some (.int 0), none, none]) rfl ?_
  obtain ⟨x4, hx5, hf⟩ := e_bd hf
  refine (e_loop_ok (P := fun (v3 : Int32 × Int32) => eRun G X 4 [some (.ref 42), some (.int v3.1), some (.int v3.2), none, none] [] h [] nx 0 0) (K := fun (x4 : Int32) => eRun G X 80 [none, some (.int x4), none, none, none] [] h [] nx 0 0) ?_ e_fuel (0, 0) x4 hx5 ?_ : _)
  · intro v3 z hz ih hx
    refine r_iload_n F dX0_energy_4 rfl ?_
    refine r_aload_n F dX0_energy_5 rfl ?_
    refine r_get F dX0_energy_6 flX0_18 h42 rfl (e_le rfl) (e_lt hnx rfl) ?_
    refine r_icmp_ge F dX0_energy_9 (tgt := 80) (by decide) (fun hc => ?_) (fun hc => ?_)
    · have hz := e_t hc hz
      refine r_drop 0 (L' := [none, some (.int v3.1), some (.int v3.2), none, none]) rfl ?_
      refine r_drop 2 (L' := [none, some (.int v3.1), none, none, none]) rfl ?_
      obtain rfl := Option.some.inj hz
      exact hx v3.1 rfl
    · have hz := e_f hc hz
      refine r_iload_n F dX0_energy_12 rfl ?_
      refine r_bipush F dX0_energy_13 (v := 50) (by decide) ?_
      refine r_aload_n F dX0_energy_15 rfl ?_
      refine r_iload_n F dX0_energy_16 rfl ?_
      refine r_iload_n F dX0_energy_17 rfl ?_
      obtain ⟨q6, hq7, hz⟩ := e_bd hz
      refine r_callV F dX0_energy_18 (b := 42) (dc := 0) (ds := 0) (As := [.int v3.2, .int v3.2]) (S0 := [.int 50, .int v3.1]) lkX0_77 mX0_productOf (tX0_productOf_42 hG (la := x_l X) (h := e_up h []) hnx h42 h44 hq7) rfl rfl rfl (e_le rfl) (e_le rfl) (e_le rfl) h42 (ci := 0) e_cl0.1 rfl (e_le rfl) (e_lt hnx rfl) (Nat.zero_le _) (Nat.zero_le _) (e_k ?_)
      refine r_wr0 ?_
      refine r_imul F dX0_energy_21 ?_
      refine r_iadd F dX0_energy_22 ?_
      refine r_istore_n F dX0_energy_23 (e_le rfl) (L' := [some (.ref 42), some (.int (v3.1 + ((50 : Int32) * q6))), some (.int v3.2), none, none]) rfl ?_
      refine r_iload_n F dX0_energy_24 rfl ?_
      refine r_iconst F dX0_energy_25 (v := 1) (by decide) ?_
      refine r_iadd F dX0_energy_26 ?_
      refine r_istore_n F dX0_energy_27 (e_le rfl) (L' := [some (.ref 42), some (.int (v3.1 + ((50 : Int32) * q6))), some (.int v3.2), some (.int (v3.2 + 1)), none]) rfl ?_
      obtain ⟨x10, hx11, hz⟩ := e_bd hz
      refine (e_loop_ok (P := fun (v9 : Int32 × Int32) => eRun G X 28 [some (.ref 42), some (.int v9.1), some (.int v3.2), some (.int v9.2), none] [] h [] nx 0 0) (K := fun (x10 : Int32) => eRun G X 74 [some (.ref 42), some (.int x10), some (.int v3.2), none, none] [] h [] nx 0 0) ?_ e_fuel (v3.1 + ((50 : Int32) * q6), v3.2 + 1) x10 hx11 ?_ : _)
      · intro v9 z hz ih hx
        refine r_iload_n F dX0_energy_28 rfl ?_
        refine r_aload_n F dX0_energy_29 rfl ?_
        refine r_get F dX0_energy_30 flX0_18 h42 rfl (e_le rfl) (e_lt hnx rfl) ?_
        refine r_icmp_ge F dX0_energy_33 (tgt := 74) (by decide) (fun hc => ?_) (fun hc => ?_)
        · have hz := e_t hc hz
          refine r_drop 3 (L' := [some (.ref 42), some (.int v9.1), some (.int v3.2), none, none]) rfl ?_
          obtain rfl := Option.some.inj hz
          exact hx v9.1 rfl
        · have hz := e_f hc hz
          refine r_aload_n F dX0_energy_36 rfl ?_
          refine r_iload_n F dX0_energy_37 rfl ?_
          refine r_iload_n F dX0_energy_38 rfl ?_
          obtain ⟨q12, hq13, hz⟩ := e_bd hz
          refine r_callV F dX0_energy_39 (b := 42) (dc := 0) (ds := 0) (As := [.int v3.2, .int v9.2]) (S0 := []) lkX0_80 mX0_squareBetween (tX0_squareBetween_42 hG (la := x_l X) (h := e_up h []) hnx h42 h43 hq13) rfl rfl rfl (e_le rfl) (e_le rfl) (e_le rfl) h42 (ci := 0) e_cl0.1 rfl (e_le rfl) (e_lt hnx rfl) (Nat.zero_le _) (Nat.zero_le _) (e_k ?_)
          refine r_wr0 ?_
          refine r_istore F dX0_energy_42 (e_le rfl) (L' := [some (.ref 42), some (.int v9.1), some (.int v3.2), some (.int v9.2), some (.int q12)]) rfl ?_
          refine r_iload_n F dX0_energy_44 rfl ?_
          refine r_iload F dX0_energy_45 rfl ?_
          obtain ⟨q14, hq15, hz⟩ := e_bd hz
          have Jq14 : eRun G X 66 [some (.ref 42), none, some (.int v3.2), some (.int v9.2), none] [.int q14, .int v9.1] h [] nx 0 0 := by
            refine r_iadd F dX0_energy_66 ?_
            refine r_istore_n F dX0_energy_67 (e_le rfl) (L' := [some (.ref 42), some (.int (v9.1 + q14)), some (.int v3.2), some (.int v9.2), none]) rfl ?_
            refine r_inc F dX0_energy_68 (k9 := 1) (by decide) rfl (L' := [some (.ref 42), some (.int (v9.1 + q14)), some (.int v3.2), some (.int (v9.2 + 1)), none]) rfl ?_
            refine r_goto F dX0_energy_71 (tgt := 28) (by decide) ?_
            obtain rfl := Option.some.inj hz
            exact ih (v9.1 + q14, v9.2 + 1) rfl
          refine r_if_le F dX0_energy_47 (tgt := 65) (by decide) (fun hc => ?_) (fun hc => ?_)
          · have hq15 := e_t hc hq15
            refine r_iconst F dX0_energy_65 (v := 0) (by decide) ?_
            refine r_drop 1 (L' := [some (.ref 42), none, some (.int v3.2), some (.int v9.2), some (.int q12)]) rfl ?_
            refine r_drop 4 (L' := [some (.ref 42), none, some (.int v3.2), some (.int v9.2), none]) rfl ?_
            obtain rfl := Option.some.inj hq15
            exact Jq14
          · have hq15 := e_f hc hq15
            refine r_bipush F dX0_energy_50 (v := 100) (by decide) ?_
            refine r_aload_n F dX0_energy_52 rfl ?_
            refine r_iload_n F dX0_energy_53 rfl ?_
            refine r_iload_n F dX0_energy_54 rfl ?_
            obtain ⟨q16, hq17, hq15⟩ := e_bd hq15
            refine r_callV F dX0_energy_55 (b := 42) (dc := 0) (ds := 0) (As := [.int v3.2, .int v9.2]) (S0 := [.int 100, .int v9.1]) lkX0_77 mX0_productOf (tX0_productOf_42 hG (la := x_l X) (h := e_up h []) hnx h42 h44 hq17) rfl rfl rfl (e_le rfl) (e_le rfl) (e_le rfl) h42 (ci := 0) e_cl0.1 rfl (e_le rfl) (e_lt hnx rfl) (Nat.zero_le _) (Nat.zero_le _) (e_k ?_)
            refine r_wr0 ?_
            refine r_imul F dX0_energy_58 ?_
            refine r_iload F dX0_energy_59 rfl ?_
            obtain ⟨hg, hq15⟩ := e_gd hq15
            refine r_idiv F dX0_energy_61 (e_nz_ne hg) ?_
            refine r_goto F dX0_energy_62 (tgt := 66) (by decide) ?_
            refine r_drop 1 (L' := [some (.ref 42), none, some (.int v3.2), some (.int v9.2), some (.int q12)]) rfl ?_
            refine r_drop 4 (L' := [some (.ref 42), none, some (.int v3.2), some (.int v9.2), none]) rfl ?_
            obtain rfl := Option.some.inj hq15
            exact Jq14
      · show eRun G X 74 [some (.ref 42), some (.int x10), some (.int v3.2), none, none] [] h [] nx 0 0
        refine r_inc F dX0_energy_74 (k9 := 1) (by decide) rfl (L' := [some (.ref 42), some (.int x10), some (.int (v3.2 + 1)), none, none]) rfl ?_
        refine r_goto F dX0_energy_77 (tgt := 4) (by decide) ?_
        obtain rfl := Option.some.inj hz
        exact ih (x10, v3.2 + 1) rfl
  · show eRun G X 80 [none, some (.int x4), none, none, none] [] h [] nx 0 0
    refine r_iload_n F dX0_energy_80 rfl ?_
    obtain rfl := Option.some.inj hf
    exact r_iret F hq dX0_energy_81 rfl rfl (Nat.le_refl _) (Nat.le_refl _) ⟨rfl, rfl⟩

def fX10_size (A65 : Nat → Int32)  : Option (Int32) :=
  (e_loop (fun (v3 : Int32 × Int32) => (
      if 162 ≤ v3.2 then
        some (.inr v3.1)
      else
        e_g (e_in v3.2 162) (
        Option.bind (α := Int32) (
          if (A65 (tn v3.2)) = v3.2 then
            some (v3.1 + 1)
          else
            some v3.1) (fun q6 =>
        some (.inl (q6, v3.2 + 1)))) : Option ((Int32 × Int32) ⊕ (Int32)))) e_fuel (0, 0)).bind (fun x4 =>
  some x4)
set_option maxRecDepth 100000 in
theorem tX10_size_64 {G : eG} (hG : e_GS G) {la : Launch} {h : Nat → eO} {nx : Nat} (hnx : 99 ≤ nx) {A65 : Nat → Int32}  (h64 : h 64 = o64) (h65 : h 65 = o65 A65) {R9 : Int32} (hf : fX10_size A65  = some R9) :
    eSem G la MX10_size [.ref 64] h nx 0 0 (fun r9 h9 => r9 = some (.int R9) ∧ h9 = h) := by
  refine eSem.of (k := 2) (L := [some (.ref 64), none, none]) (by decide +kernel) rfl rfl (fun X F hxl hq hcR hsR => ?_)
  subst hxl
  unfold fX10_size at hf
  refine r_iconst F dX10_size_0 (v := 0) (by decide) ?_
  refine r_istore_n F dX10_size_1 (e_le rfl) (L' := [some (.ref 64), some (.int 0), none]) rfl ?_
  refine r_iconst F dX10_size_2 (v := 0) (by decide) ?_
  refine r_istore_n F dX10_size_3 (e_le rfl) (L' := [some (.ref 64), some (.int 0), some (.int 0)]) rfl ?_
  obtain ⟨x4, hx5, hf⟩ := e_bd hf
  refine (e_loop_ok (P := fun (v3 : Int32 × Int32) => eRun G X 4 [some (.ref 64), some (.int v3.1), some (.int v3.2)] [] h [] nx 0 0) (K := fun (x4 : Int32) => eRun G X 30 [none, some (.int x4), none] [] h [] nx 0 0) ?_ e_fuel (0, 0) x4 hx5 ?_ : _)
  · intro v3 z hz ih hx
    refine r_iload_n F dX10_size_4 rfl ?_
    refine r_sipush F dX10_size_5 (v := 162) (by decide) ?_
    refine r_icmp_ge F dX10_size_8 (tgt := 30) (by decide) (fun hc => ?_) (fun hc => ?_)
    · have hz := e_t hc hz
      refine r_drop 0 (L' := [none, some (.int v3.1), some (.int v3.2)]) rfl ?_
      refine r_drop 2 (L' := [none, some (.int v3.1), none]) rfl ?_
      obtain rfl := Option.some.inj hz
      exact hx v3.1 rfl
    · have hz := e_f hc hz
      refine r_aload_n F dX10_size_11 rfl ?_
      refine r_get F dX10_size_12 flX10_11 h64 rfl (e_le rfl) (e_lt hnx rfl) ?_
      refine r_iload_n F dX10_size_15 rfl ?_
      obtain ⟨hg, hz⟩ := e_gd hz
      refine r_iald F dX10_size_16 (i := v3.2) h65 (e_le rfl) (e_lt hnx rfl) (e_vp hg) ?_
      refine r_iload_n F dX10_size_17 rfl ?_
      obtain ⟨q6, hq7, hz⟩ := e_bd hz
      have Jq6 : eRun G X 24 [some (.ref 64), some (.int q6), some (.int v3.2)] [] h [] nx 0 0 := by
        refine r_inc F dX10_size_24 (k9 := 1) (by decide) rfl (L' := [some (.ref 64), some (.int q6), some (.int (v3.2 + 1))]) rfl ?_
        refine r_goto F dX10_size_27 (tgt := 4) (by decide) ?_
        obtain rfl := Option.some.inj hz
        exact ih (q6, v3.2 + 1) rfl
      refine r_icmp_ne F dX10_size_18 (tgt := 24) (by decide) (fun hc => ?_) (fun hc => ?_)
      · have hq7 := e_f hc hq7
        obtain rfl := Option.some.inj hq7
        exact Jq6
      · have hq7 := e_t hc hq7
        refine r_inc F dX10_size_21 (k9 := 1) (by decide) rfl (L' := [some (.ref 64), some (.int (v3.1 + 1)), some (.int v3.2)]) rfl ?_
        obtain rfl := Option.some.inj hq7
        exact Jq6
  · show eRun G X 30 [none, some (.int x4), none] [] h [] nx 0 0
    refine r_iload_n F dX10_size_30 rfl ?_
    obtain rfl := Option.some.inj hf
    exact r_iret F hq dX10_size_31 rfl rfl (Nat.le_refl _) (Nat.le_refl _) ⟨rfl, rfl⟩

def fX0_withoutWay (a42_0 : Int32) (A44 : Nat → Int32)  : Option (Int32) :=
  (e_loop (fun (v3 : Int32 × Int32) => (
      if a42_0 ≤ v3.2 then
        some (.inr v3.1)
      else
        (fX0_wayOf a42_0 A44 v3.2).bind (fun q6 =>
        Option.bind (α := Int32) (
          if q6 = (-1) then
            some (v3.1 + 1)
          else
            some v3.1) (fun q8 =>
        some (.inl (q8, v3.2 + 1)))) : Option ((Int32 × Int32) ⊕ (Int32)))) e_fuel (0, 0)).bind (fun x4 =>
  some x4)
set_option maxRecDepth 100000 in
theorem tX0_withoutWay_42 {G : eG} (hG : e_GS G) {la : Launch} {h : Nat → eO} {nx : Nat} (hnx : 99 ≤ nx) {a42_0 : Int32} {A44 : Nat → Int32}  (h42 : h 42 = o42 a42_0) (h44 : h 44 = o44 A44) {R9 : Int32} (hf : fX0_withoutWay a42_0 A44  = some R9) :
    eSem G la MX0_withoutWay [.ref 42] h nx 0 0 (fun r9 h9 => r9 = some (.int R9) ∧ h9 = h) := by
  refine eSem.of (k := 2) (L := [some (.ref 42), none, none]) (by decide +kernel) rfl rfl (fun X F hxl hq hcR hsR => ?_)
  subst hxl
  unfold fX0_withoutWay at hf
  refine r_iconst F dX0_withoutWay_0 (v := 0) (by decide) ?_
  refine r_istore_n F dX0_withoutWay_1 (e_le rfl) (L' := [some (.ref 42), some (.int 0), none]) rfl ?_
  refine r_iconst F dX0_withoutWay_2 (v := 0) (by decide) ?_
  refine r_istore_n F dX0_withoutWay_3 (e_le rfl) (L' := [some (.ref 42), some (.int 0), some (.int 0)]) rfl ?_
  obtain ⟨x4, hx5, hf⟩ := e_bd hf
  refine (e_loop_ok (P := fun (v3 : Int32 × Int32) => eRun G X 4 [some (.ref 42), some (.int v3.1), some (.int v3.2)] [] h [] nx 0 0) (K := fun (x4 : Int32) => eRun G X 30 [none, some (.int x4), none] [] h [] nx 0 0) ?_ e_fuel (0, 0) x4 hx5 ?_ : _)
  · intro v3 z hz ih hx
    refine r_iload_n F dX0_withoutWay_4 rfl ?_
    refine r_aload_n F dX0_withoutWay_5 rfl ?_
    refine r_get F dX0_withoutWay_6 flX0_18 h42 rfl (e_le rfl) (e_lt hnx rfl) ?_
    refine r_icmp_ge F dX0_withoutWay_9 (tgt := 30) (by decide) (fun hc => ?_) (fun hc => ?_)
    · have hz := e_t hc hz
      refine r_drop 0 (L' := [none, some (.int v3.1), some (.int v3.2)]) rfl ?_
      refine r_drop 2 (L' := [none, some (.int v3.1), none]) rfl ?_
      obtain rfl := Option.some.inj hz
      exact hx v3.1 rfl
    · have hz := e_f hc hz
      refine r_aload_n F dX0_withoutWay_12 rfl ?_
      refine r_iload_n F dX0_withoutWay_13 rfl ?_
      obtain ⟨q6, hq7, hz⟩ := e_bd hz
      refine r_callV F dX0_withoutWay_14 (b := 42) (dc := 0) (ds := 0) (As := [.int v3.2]) (S0 := []) lkX0_48 mX0_wayOf (tX0_wayOf_42 hG (la := x_l X) (h := e_up h []) hnx h42 h44 hq7) rfl rfl rfl (e_le rfl) (e_le rfl) (e_le rfl) h42 (ci := 0) e_cl0.1 rfl (e_le rfl) (e_lt hnx rfl) (Nat.zero_le _) (Nat.zero_le _) (e_k ?_)
      refine r_wr0 ?_
      refine r_iconst F dX0_withoutWay_17 (v := (-1)) (by decide) ?_
      obtain ⟨q8, hq9, hz⟩ := e_bd hz
      have Jq8 : eRun G X 24 [some (.ref 42), some (.int q8), some (.int v3.2)] [] h [] nx 0 0 := by
        refine r_inc F dX0_withoutWay_24 (k9 := 1) (by decide) rfl (L' := [some (.ref 42), some (.int q8), some (.int (v3.2 + 1))]) rfl ?_
        refine r_goto F dX0_withoutWay_27 (tgt := 4) (by decide) ?_
        obtain rfl := Option.some.inj hz
        exact ih (q8, v3.2 + 1) rfl
      refine r_icmp_ne F dX0_withoutWay_18 (tgt := 24) (by decide) (fun hc => ?_) (fun hc => ?_)
      · have hq9 := e_f hc hq9
        obtain rfl := Option.some.inj hq9
        exact Jq8
      · have hq9 := e_t hc hq9
        refine r_inc F dX0_withoutWay_21 (k9 := 1) (by decide) rfl (L' := [some (.ref 42), some (.int (v3.1 + 1)), some (.int v3.2)]) rfl ?_
        obtain rfl := Option.some.inj hq9
        exact Jq8
  · show eRun G X 30 [none, some (.int x4), none] [] h [] nx 0 0
    refine r_iload_n F dX0_withoutWay_30 rfl ?_
    obtain rfl := Option.some.inj hf
    exact r_iret F hq dX0_withoutWay_31 rfl rfl (Nat.le_refl _) (Nat.le_refl _) ⟨rfl, rfl⟩

def fX11_rule (a40_0 : Int32) (a40_1 : Int32) (a42_0 : Int32) (a54_1 : Int32) (A41 : Nat → Int32) (A43 : Nat → Int32) (A44 : Nat → Int32) (A53 : Nat → Int32) (A65 : Nat → Int32) (p0 : Int32) : Option (Int32 × (Nat → Int32)) :=
  (fX11_isEmpty a40_0).bind (fun q1 =>
  if q1 = true then
    some ((-1000000), A65)
  else
    if p0 = 0 then
      some (a40_0, A65)
    else
      if p0 = 1 then
        some (a40_1, A65)
      else
        if p0 = 2 then
          e_g (e_in (p0 - 2) 4) (
          some (A53 (tn (p0 - 2)), A65))
        else
          if p0 = 3 then
            e_g (e_in (p0 - 2) 4) (
            some (A53 (tn (p0 - 2)), A65))
          else
            if p0 = 4 then
              e_g (e_in (p0 - 2) 4) (
              some (A53 (tn (p0 - 2)), A65))
            else
              if p0 = 5 then
                e_g (e_in (p0 - 2) 4) (
                some (A53 (tn (p0 - 2)), A65))
              else
                if p0 = 6 then
                  some (a42_0, A65)
                else
                  if p0 = 7 then
                    (fX7_slippedLinks a40_0 a40_1 A41).bind (fun q3 =>
                    some (q3, A65))
                  else
                    if p0 = 8 then
                      some (a54_1, A65)
                    else
                      if p0 = 9 then
                        (fX7_sumRoundAll a40_0 a40_1 A41 (p0 - 9)).bind (fun q5 =>
                        some (q5, A65))
                      else
                        if p0 = 10 then
                          (fX7_sumRoundAll a40_0 a40_1 A41 (p0 - 9)).bind (fun q7 =>
                          some (q7, A65))
                        else
                          if p0 = 11 then
                            (fX0_energy a42_0 A43 A44).bind (fun q9 =>
                            some (q9, A65))
                          else
                            if p0 = 12 then
                              (fX10_find a40_0 a40_1 A41 A65).bind (fun q11 =>
                              (fX10_size q11).bind (fun q13 =>
                              some (q13, q11)))
                            else
                              if p0 = 13 then
                                (fX0_withoutWay a42_0 A44).bind (fun q15 =>
                                some (q15, A65))
                              else
                                some ((-1000000), A65))
set_option maxRecDepth 100000 in
theorem tX11_rule_32 {G : eG} (hG : e_GS G) {la : Launch} {h : Nat → eO} {nx : Nat} (hnx : 99 ≤ nx) {a32_8 : Bool} {a32_10 : Bool} {a40_0 : Int32} {a40_1 : Int32} {A41 : Nat → Int32} {a42_0 : Int32} {A43 : Nat → Int32} {A44 : Nat → Int32} {A53 : Nat → Int32} {a54_1 : Int32} {A65 : Nat → Int32} {p0 : Int32} (h32 : h 32 = o32 a32_8 a32_10) (h39 : h 39 = o39) (h40 : h 40 = o40 a40_0 a40_1) (h41 : h 41 = o41 A41) (h42 : h 42 = o42 a42_0) (h43 : h 43 = o43 A43) (h44 : h 44 = o44 A44) (h53 : h 53 = o53 A53) (h54 : h 54 = o54 a54_1) (h64 : h 64 = o64) (h65 : h 65 = o65 A65) {R9 : Int32 × (Nat → Int32)} (hf : fX11_rule a40_0 a40_1 a42_0 a54_1 A41 A43 A44 A53 A65 p0 = some R9) :
    eSem G la MX11_rule [.ref 32, .int p0] h nx 0 0 (fun r9 h9 => r9 = some (.int R9.1) ∧ h9 = e_up h [(65, o65 R9.2)]) := by
  refine eSem.of (k := 0) (L := [some (.ref 32), some (.int p0)]) (by decide +kernel) rfl rfl (fun X F hxl hq hcR hsR => ?_)
  subst hxl
  unfold fX11_rule at hf
  refine r_aload_n F dX11_rule_0 rfl ?_
  obtain ⟨q1, hq2, hf⟩ := e_bd hf
  refine r_callV F dX11_rule_1 (b := 32) (dc := 0) (ds := 0) (As := []) (S0 := []) lkX11_136 mX11_isEmpty (tX11_isEmpty_32 hG (la := x_l X) (h := e_up h []) hnx h32 h39 h40 hq2) rfl rfl rfl (e_le rfl) (e_le rfl) (e_le rfl) h32 (ci := 11) e_cl11.1 rfl (e_le rfl) (e_lt hnx rfl) (Nat.zero_le _) (Nat.zero_le _) (e_k ?_)
  refine r_wr0 ?_
  refine r_z_eq F dX11_rule_4 (tgt := 10) (by decide) (fun hc => ?_) (fun hc => ?_)
  · have hf := e_t hc hf
    refine r_ldc F dX11_rule_7 kcX11_140 ?_
    refine r_mat (k := 65) h65 (l' := [(65, o65 A65)]) rfl ?_
    obtain rfl := Option.some.inj hf
    exact r_iret F hq dX11_rule_9 rfl rfl (Nat.le_refl _) (Nat.le_refl _) ⟨rfl, rfl⟩
  · have hf := e_f hc hf
    refine r_iload_n F dX11_rule_10 rfl ?_
    refine Classical.byCases (p := p0 = 0) (fun hc => ?_) (fun hk0 => ?_)
    · have hf := e_t hc hf
      refine r_tsIn F dX11_rule_11 (by rw [hc]; decide) (by rw [hc]; decide) (off := 69) (by rw [hc]; decide) (tgt := 80) (by decide) ?_
      refine r_aload_n F dX11_rule_80 rfl ?_
      refine r_get F dX11_rule_81 flX11_28 h32 rfl (e_le rfl) (e_lt hnx rfl) ?_
      refine r_get F dX11_rule_84 flX11_141 h39 rfl (e_le rfl) (e_lt hnx rfl) ?_
      refine r_get F dX11_rule_87 flX11_145 h40 rfl (e_le rfl) (e_lt hnx rfl) ?_
      refine r_mat (k := 65) h65 (l' := [(65, o65 A65)]) rfl ?_
      obtain rfl := Option.some.inj hf
      exact r_iret F hq dX11_rule_90 rfl rfl (Nat.le_refl _) (Nat.le_refl _) ⟨rfl, rfl⟩
    have hf := e_f hk0 hf
    refine Classical.byCases (p := p0 = 1) (fun hc => ?_) (fun hk1 => ?_)
    · have hf := e_t hc hf
      refine r_tsIn F dX11_rule_11 (by rw [hc]; decide) (by rw [hc]; decide) (off := 80) (by rw [hc]; decide) (tgt := 91) (by decide) ?_
      refine r_aload_n F dX11_rule_91 rfl ?_
      refine r_get F dX11_rule_92 flX11_28 h32 rfl (e_le rfl) (e_lt hnx rfl) ?_
      refine r_get F dX11_rule_95 flX11_141 h39 rfl (e_le rfl) (e_lt hnx rfl) ?_
      refine r_get F dX11_rule_98 flX11_150 h40 rfl (e_le rfl) (e_lt hnx rfl) ?_
      refine r_mat (k := 65) h65 (l' := [(65, o65 A65)]) rfl ?_
      obtain rfl := Option.some.inj hf
      exact r_iret F hq dX11_rule_101 rfl rfl (Nat.le_refl _) (Nat.le_refl _) ⟨rfl, rfl⟩
    have hf := e_f hk1 hf
    refine Classical.byCases (p := p0 = 2) (fun hc => ?_) (fun hk2 => ?_)
    · have hf := e_t hc hf
      refine r_tsIn F dX11_rule_11 (by rw [hc]; decide) (by rw [hc]; decide) (off := 91) (by rw [hc]; decide) (tgt := 102) (by decide) ?_
      refine r_aload_n F dX11_rule_102 rfl ?_
      refine r_get F dX11_rule_103 flX11_35 h32 rfl (e_le rfl) (e_lt hnx rfl) ?_
      refine r_iload_n F dX11_rule_106 rfl ?_
      refine r_iconst F dX11_rule_107 (v := 2) (by decide) ?_
      refine r_isub F dX11_rule_108 ?_
      obtain ⟨hg, hf⟩ := e_gd hf
      refine r_iald F dX11_rule_109 (i := (p0 - 2)) h53 (e_le rfl) (e_lt hnx rfl) (e_vp hg) ?_
      refine r_mat (k := 65) h65 (l' := [(65, o65 A65)]) rfl ?_
      obtain rfl := Option.some.inj hf
      exact r_iret F hq dX11_rule_110 rfl rfl (Nat.le_refl _) (Nat.le_refl _) ⟨rfl, rfl⟩
    have hf := e_f hk2 hf
    refine Classical.byCases (p := p0 = 3) (fun hc => ?_) (fun hk3 => ?_)
    · have hf := e_t hc hf
      refine r_tsIn F dX11_rule_11 (by rw [hc]; decide) (by rw [hc]; decide) (off := 91) (by rw [hc]; decide) (tgt := 102) (by decide) ?_
      refine r_aload_n F dX11_rule_102 rfl ?_
      refine r_get F dX11_rule_103 flX11_35 h32 rfl (e_le rfl) (e_lt hnx rfl) ?_
      refine r_iload_n F dX11_rule_106 rfl ?_
      refine r_iconst F dX11_rule_107 (v := 2) (by decide) ?_
      refine r_isub F dX11_rule_108 ?_
      obtain ⟨hg, hf⟩ := e_gd hf
      refine r_iald F dX11_rule_109 (i := (p0 - 2)) h53 (e_le rfl) (e_lt hnx rfl) (e_vp hg) ?_
      refine r_mat (k := 65) h65 (l' := [(65, o65 A65)]) rfl ?_
      obtain rfl := Option.some.inj hf
      exact r_iret F hq dX11_rule_110 rfl rfl (Nat.le_refl _) (Nat.le_refl _) ⟨rfl, rfl⟩
    have hf := e_f hk3 hf
    refine Classical.byCases (p := p0 = 4) (fun hc => ?_) (fun hk4 => ?_)
    · have hf := e_t hc hf
      refine r_tsIn F dX11_rule_11 (by rw [hc]; decide) (by rw [hc]; decide) (off := 91) (by rw [hc]; decide) (tgt := 102) (by decide) ?_
      refine r_aload_n F dX11_rule_102 rfl ?_
      refine r_get F dX11_rule_103 flX11_35 h32 rfl (e_le rfl) (e_lt hnx rfl) ?_
      refine r_iload_n F dX11_rule_106 rfl ?_
      refine r_iconst F dX11_rule_107 (v := 2) (by decide) ?_
      refine r_isub F dX11_rule_108 ?_
      obtain ⟨hg, hf⟩ := e_gd hf
      refine r_iald F dX11_rule_109 (i := (p0 - 2)) h53 (e_le rfl) (e_lt hnx rfl) (e_vp hg) ?_
      refine r_mat (k := 65) h65 (l' := [(65, o65 A65)]) rfl ?_
      obtain rfl := Option.some.inj hf
      exact r_iret F hq dX11_rule_110 rfl rfl (Nat.le_refl _) (Nat.le_refl _) ⟨rfl, rfl⟩
    have hf := e_f hk4 hf
    refine Classical.byCases (p := p0 = 5) (fun hc => ?_) (fun hk5 => ?_)
    · have hf := e_t hc hf
      refine r_tsIn F dX11_rule_11 (by rw [hc]; decide) (by rw [hc]; decide) (off := 91) (by rw [hc]; decide) (tgt := 102) (by decide) ?_
      refine r_aload_n F dX11_rule_102 rfl ?_
      refine r_get F dX11_rule_103 flX11_35 h32 rfl (e_le rfl) (e_lt hnx rfl) ?_
      refine r_iload_n F dX11_rule_106 rfl ?_
      refine r_iconst F dX11_rule_107 (v := 2) (by decide) ?_
      refine r_isub F dX11_rule_108 ?_
      obtain ⟨hg, hf⟩ := e_gd hf
      refine r_iald F dX11_rule_109 (i := (p0 - 2)) h53 (e_le rfl) (e_lt hnx rfl) (e_vp hg) ?_
      refine r_mat (k := 65) h65 (l' := [(65, o65 A65)]) rfl ?_
      obtain rfl := Option.some.inj hf
      exact r_iret F hq dX11_rule_110 rfl rfl (Nat.le_refl _) (Nat.le_refl _) ⟨rfl, rfl⟩
    have hf := e_f hk5 hf
    refine Classical.byCases (p := p0 = 6) (fun hc => ?_) (fun hk6 => ?_)
    · have hf := e_t hc hf
      refine r_tsIn F dX11_rule_11 (by rw [hc]; decide) (by rw [hc]; decide) (off := 100) (by rw [hc]; decide) (tgt := 111) (by decide) ?_
      refine r_aload_n F dX11_rule_111 rfl ?_
      refine r_get F dX11_rule_112 flX11_28 h32 rfl (e_le rfl) (e_lt hnx rfl) ?_
      refine r_get F dX11_rule_115 flX11_127 h39 rfl (e_le rfl) (e_lt hnx rfl) ?_
      refine r_get F dX11_rule_118 flX11_131 h42 rfl (e_le rfl) (e_lt hnx rfl) ?_
      refine r_mat (k := 65) h65 (l' := [(65, o65 A65)]) rfl ?_
      obtain rfl := Option.some.inj hf
      exact r_iret F hq dX11_rule_121 rfl rfl (Nat.le_refl _) (Nat.le_refl _) ⟨rfl, rfl⟩
    have hf := e_f hk6 hf
    refine Classical.byCases (p := p0 = 7) (fun hc => ?_) (fun hk7 => ?_)
    · have hf := e_t hc hf
      refine r_tsIn F dX11_rule_11 (by rw [hc]; decide) (by rw [hc]; decide) (off := 111) (by rw [hc]; decide) (tgt := 122) (by decide) ?_
      refine r_aload_n F dX11_rule_122 rfl ?_
      refine r_get F dX11_rule_123 flX11_28 h32 rfl (e_le rfl) (e_lt hnx rfl) ?_
      refine r_get F dX11_rule_126 flX11_141 h39 rfl (e_le rfl) (e_lt hnx rfl) ?_
      obtain ⟨q3, hq4, hf⟩ := e_bd hf
      refine r_callV F dX11_rule_129 (b := 40) (dc := 0) (ds := 0) (As := []) (S0 := []) lkX11_153 mX7_slippedLinks (tX7_slippedLinks_40 hG (la := x_l X) (h := e_up h []) hnx h40 h41 hq4) rfl rfl rfl (e_le rfl) (e_le rfl) (e_le rfl) h40 (ci := 7) e_cl7.1 rfl (e_le rfl) (e_lt hnx rfl) (Nat.zero_le _) (Nat.zero_le _) (e_k ?_)
      refine r_wr0 ?_
      refine r_mat (k := 65) h65 (l' := [(65, o65 A65)]) rfl ?_
      obtain rfl := Option.some.inj hf
      exact r_iret F hq dX11_rule_132 rfl rfl (Nat.le_refl _) (Nat.le_refl _) ⟨rfl, rfl⟩
    have hf := e_f hk7 hf
    refine Classical.byCases (p := p0 = 8) (fun hc => ?_) (fun hk8 => ?_)
    · have hf := e_t hc hf
      refine r_tsIn F dX11_rule_11 (by rw [hc]; decide) (by rw [hc]; decide) (off := 122) (by rw [hc]; decide) (tgt := 133) (by decide) ?_
      refine r_aload_n F dX11_rule_133 rfl ?_
      refine r_get F dX11_rule_134 flX11_42 h32 rfl (e_le rfl) (e_lt hnx rfl) ?_
      refine r_get F dX11_rule_137 flX11_114 h54 rfl (e_le rfl) (e_lt hnx rfl) ?_
      refine r_mat (k := 65) h65 (l' := [(65, o65 A65)]) rfl ?_
      obtain rfl := Option.some.inj hf
      exact r_iret F hq dX11_rule_140 rfl rfl (Nat.le_refl _) (Nat.le_refl _) ⟨rfl, rfl⟩
    have hf := e_f hk8 hf
    refine Classical.byCases (p := p0 = 9) (fun hc => ?_) (fun hk9 => ?_)
    · have hf := e_t hc hf
      refine r_tsIn F dX11_rule_11 (by rw [hc]; decide) (by rw [hc]; decide) (off := 130) (by rw [hc]; decide) (tgt := 141) (by decide) ?_
      refine r_aload_n F dX11_rule_141 rfl ?_
      refine r_get F dX11_rule_142 flX11_28 h32 rfl (e_le rfl) (e_lt hnx rfl) ?_
      refine r_get F dX11_rule_145 flX11_141 h39 rfl (e_le rfl) (e_lt hnx rfl) ?_
      refine r_iload_n F dX11_rule_148 rfl ?_
      refine r_bipush F dX11_rule_149 (v := 9) (by decide) ?_
      refine r_isub F dX11_rule_151 ?_
      obtain ⟨q5, hq6, hf⟩ := e_bd hf
      refine r_callV F dX11_rule_152 (b := 40) (dc := 0) (ds := 0) (As := [.int (p0 - 9)]) (S0 := []) lkX11_156 mX7_sumRoundAll (tX7_sumRoundAll_40 hG (la := x_l X) (h := e_up h []) hnx h40 h41 hq6) rfl rfl rfl (e_le rfl) (e_le rfl) (e_le rfl) h40 (ci := 7) e_cl7.1 rfl (e_le rfl) (e_lt hnx rfl) (Nat.zero_le _) (Nat.zero_le _) (e_k ?_)
      refine r_wr0 ?_
      refine r_mat (k := 65) h65 (l' := [(65, o65 A65)]) rfl ?_
      obtain rfl := Option.some.inj hf
      exact r_iret F hq dX11_rule_155 rfl rfl (Nat.le_refl _) (Nat.le_refl _) ⟨rfl, rfl⟩
    have hf := e_f hk9 hf
    refine Classical.byCases (p := p0 = 10) (fun hc => ?_) (fun hk10 => ?_)
    · have hf := e_t hc hf
      refine r_tsIn F dX11_rule_11 (by rw [hc]; decide) (by rw [hc]; decide) (off := 130) (by rw [hc]; decide) (tgt := 141) (by decide) ?_
      refine r_aload_n F dX11_rule_141 rfl ?_
      refine r_get F dX11_rule_142 flX11_28 h32 rfl (e_le rfl) (e_lt hnx rfl) ?_
      refine r_get F dX11_rule_145 flX11_141 h39 rfl (e_le rfl) (e_lt hnx rfl) ?_
      refine r_iload_n F dX11_rule_148 rfl ?_
      refine r_bipush F dX11_rule_149 (v := 9) (by decide) ?_
      refine r_isub F dX11_rule_151 ?_
      obtain ⟨q7, hq8, hf⟩ := e_bd hf
      refine r_callV F dX11_rule_152 (b := 40) (dc := 0) (ds := 0) (As := [.int (p0 - 9)]) (S0 := []) lkX11_156 mX7_sumRoundAll (tX7_sumRoundAll_40 hG (la := x_l X) (h := e_up h []) hnx h40 h41 hq8) rfl rfl rfl (e_le rfl) (e_le rfl) (e_le rfl) h40 (ci := 7) e_cl7.1 rfl (e_le rfl) (e_lt hnx rfl) (Nat.zero_le _) (Nat.zero_le _) (e_k ?_)
      refine r_wr0 ?_
      refine r_mat (k := 65) h65 (l' := [(65, o65 A65)]) rfl ?_
      obtain rfl := Option.some.inj hf
      exact r_iret F hq dX11_rule_155 rfl rfl (Nat.le_refl _) (Nat.le_refl _) ⟨rfl, rfl⟩
    have hf := e_f hk10 hf
    refine Classical.byCases (p := p0 = 11) (fun hc => ?_) (fun hk11 => ?_)
    · have hf := e_t hc hf
      refine r_tsIn F dX11_rule_11 (by rw [hc]; decide) (by rw [hc]; decide) (off := 145) (by rw [hc]; decide) (tgt := 156) (by decide) ?_
      refine r_aload_n F dX11_rule_156 rfl ?_
      refine r_get F dX11_rule_157 flX11_28 h32 rfl (e_le rfl) (e_lt hnx rfl) ?_
      refine r_get F dX11_rule_160 flX11_127 h39 rfl (e_le rfl) (e_lt hnx rfl) ?_
      obtain ⟨q9, hq10, hf⟩ := e_bd hf
      refine r_callV F dX11_rule_163 (b := 42) (dc := 0) (ds := 0) (As := []) (S0 := []) lkX11_159 mX0_energy (tX0_energy_42 hG (la := x_l X) (h := e_up h []) hnx h42 h43 h44 hq10) rfl rfl rfl (e_le rfl) (e_le rfl) (e_le rfl) h42 (ci := 0) e_cl0.1 rfl (e_le rfl) (e_lt hnx rfl) (Nat.zero_le _) (Nat.zero_le _) (e_k ?_)
      refine r_wr0 ?_
      refine r_mat (k := 65) h65 (l' := [(65, o65 A65)]) rfl ?_
      obtain rfl := Option.some.inj hf
      exact r_iret F hq dX11_rule_166 rfl rfl (Nat.le_refl _) (Nat.le_refl _) ⟨rfl, rfl⟩
    have hf := e_f hk11 hf
    refine Classical.byCases (p := p0 = 12) (fun hc => ?_) (fun hk12 => ?_)
    · have hf := e_t hc hf
      refine r_tsIn F dX11_rule_11 (by rw [hc]; decide) (by rw [hc]; decide) (off := 156) (by rw [hc]; decide) (tgt := 167) (by decide) ?_
      refine r_aload_n F dX11_rule_167 rfl ?_
      refine r_get F dX11_rule_168 flX11_76 h32 rfl (e_le rfl) (e_lt hnx rfl) ?_
      refine r_aload_n F dX11_rule_171 rfl ?_
      refine r_get F dX11_rule_172 flX11_28 h32 rfl (e_le rfl) (e_lt hnx rfl) ?_
      refine r_get F dX11_rule_175 flX11_141 h39 rfl (e_le rfl) (e_lt hnx rfl) ?_
      obtain ⟨q11, hq12, hf⟩ := e_bd hf
      refine r_callV F dX11_rule_178 (b := 64) (dc := 0) (ds := 0) (As := [.ref 40]) (S0 := []) lkX11_162 mX10_find (tX10_find_64_40 hG (la := x_l X) (h := e_up h []) hnx h40 h41 h64 h65 hq12) rfl rfl rfl (e_le rfl) (e_le rfl) (e_le rfl) h64 (ci := 10) e_cl10.1 rfl (e_le rfl) (e_lt hnx rfl) (Nat.zero_le _) (Nat.zero_le _) (e_k ?_)
      refine r_wr (l' := [(65, o65 q11)]) rfl rfl ?_
      refine r_aload_n F dX11_rule_181 rfl ?_
      refine r_get F dX11_rule_182 flX11_76 h32 rfl (e_le rfl) (e_lt hnx rfl) ?_
      obtain ⟨q13, hq14, hf⟩ := e_bd hf
      refine r_callV F dX11_rule_185 (b := 64) (dc := 0) (ds := 0) (As := []) (S0 := []) lkX11_166 mX10_size (tX10_size_64 hG (la := x_l X) (h := e_up h [(65, o65 q11)]) hnx h64 rfl hq14) rfl rfl rfl (e_le rfl) (e_le rfl) (e_le rfl) h64 (ci := 10) e_cl10.1 rfl (e_le rfl) (e_lt hnx rfl) (Nat.zero_le _) (Nat.zero_le _) (e_k ?_)
      refine r_wr0 ?_
      obtain rfl := Option.some.inj hf
      exact r_iret F hq dX11_rule_188 rfl rfl (Nat.le_refl _) (Nat.le_refl _) ⟨rfl, rfl⟩
    have hf := e_f hk12 hf
    refine Classical.byCases (p := p0 = 13) (fun hc => ?_) (fun hk13 => ?_)
    · have hf := e_t hc hf
      refine r_tsIn F dX11_rule_11 (by rw [hc]; decide) (by rw [hc]; decide) (off := 178) (by rw [hc]; decide) (tgt := 189) (by decide) ?_
      refine r_aload_n F dX11_rule_189 rfl ?_
      refine r_get F dX11_rule_190 flX11_28 h32 rfl (e_le rfl) (e_lt hnx rfl) ?_
      refine r_get F dX11_rule_193 flX11_127 h39 rfl (e_le rfl) (e_lt hnx rfl) ?_
      obtain ⟨q15, hq16, hf⟩ := e_bd hf
      refine r_callV F dX11_rule_196 (b := 42) (dc := 0) (ds := 0) (As := []) (S0 := []) lkX11_168 mX0_withoutWay (tX0_withoutWay_42 hG (la := x_l X) (h := e_up h []) hnx h42 h44 hq16) rfl rfl rfl (e_le rfl) (e_le rfl) (e_le rfl) h42 (ci := 0) e_cl0.1 rfl (e_le rfl) (e_lt hnx rfl) (Nat.zero_le _) (Nat.zero_le _) (e_k ?_)
      refine r_wr0 ?_
      refine r_mat (k := 65) h65 (l' := [(65, o65 A65)]) rfl ?_
      obtain rfl := Option.some.inj hf
      exact r_iret F hq dX11_rule_199 rfl rfl (Nat.le_refl _) (Nat.le_refl _) ⟨rfl, rfl⟩
    have hf := e_f hk13 hf
    refine r_tsOut F dX11_rule_11 (e_out14 hk0 hk1 hk2 hk3 hk4 hk5 hk6 hk7 hk8 hk9 hk10 hk11 hk12 hk13) (tgt := 200) (by decide) ?_
    refine r_ldc F dX11_rule_200 kcX11_140 ?_
    refine r_mat (k := 65) h65 (l' := [(65, o65 A65)]) rfl ?_
    obtain rfl := Option.some.inj hf
    exact r_iret F hq dX11_rule_202 rfl rfl (Nat.le_refl _) (Nat.le_refl _) ⟨rfl, rfl⟩

def fX11_set (a40_0 : Int32) (A53 : Nat → Int32) (A62 : Nat → Int32) (p0 : Int32) (p1 : Int32) : Option (Int32 × (Nat → Int32) × (Nat → Int32)) :=
  (fX11_isEmpty a40_0).bind (fun q1 =>
  if q1 = true then
    (fX11_refuse A62 0).bind (fun q3 =>
    some ((-1000000), A53, q3.2))
  else
    if p0 < 0 then
      (fX11_refuse A62 2).bind (fun q5 =>
      some ((-1000000), A53, q5.2))
    else
      if 4 ≤ p0 then
        (fX11_refuse A62 2).bind (fun q7 =>
        some ((-1000000), A53, q7.2))
      else
        e_g (e_in p0 4) (
        if p1 < (sA0 (tn p0)) then
          (fX11_refuse A62 2).bind (fun q9 =>
          some ((-1000000), A53, q9.2))
        else
          e_g (e_in p0 4) (
          if p1 ≤ (sA1 (tn p0)) then
            e_g (e_in p0 4) (
            e_g (e_in p0 4) (
            some (A53 (tn p0), upd A53 (tn p0) p1, A62)))
          else
            (fX11_refuse A62 2).bind (fun q11 =>
            some ((-1000000), A53, q11.2)))))
set_option maxRecDepth 100000 in
theorem tX11_set_32 {G : eG} (hG : e_GS G) {la : Launch} {h : Nat → eO} {nx : Nat} (hnx : 99 ≤ nx) {a32_8 : Bool} {a32_10 : Bool} {a40_0 : Int32} {a40_1 : Int32} {A53 : Nat → Int32} {A62 : Nat → Int32} {p0 : Int32} {p1 : Int32} (h32 : h 32 = o32 a32_8 a32_10) (h39 : h 39 = o39) (h40 : h 40 = o40 a40_0 a40_1) (h53 : h 53 = o53 A53) (h62 : h 62 = o62 A62) {R9 : Int32 × (Nat → Int32) × (Nat → Int32)} (hf : fX11_set a40_0 A53 A62 p0 p1 = some R9) :
    eSem G la MX11_set [.ref 32, .int p0, .int p1] h nx 0 0 (fun r9 h9 => r9 = some (.int R9.1) ∧ h9 = e_up h [(53, o53 R9.2.1), (62, o62 R9.2.2)]) := by
  refine eSem.of (k := 1) (L := [some (.ref 32), some (.int p0), some (.int p1), none]) (by decide +kernel) rfl rfl (fun X F hxl hq hcR hsR => ?_)
  subst hxl
  unfold fX11_set at hf
  refine r_aload_n F dX11_set_0 rfl ?_
  obtain ⟨q1, hq2, hf⟩ := e_bd hf
  refine r_callV F dX11_set_1 (b := 32) (dc := 0) (ds := 0) (As := []) (S0 := []) lkX11_136 mX11_isEmpty (tX11_isEmpty_32 hG (la := x_l X) (h := e_up h []) hnx h32 h39 h40 hq2) rfl rfl rfl (e_le rfl) (e_le rfl) (e_le rfl) h32 (ci := 11) e_cl11.1 rfl (e_le rfl) (e_lt hnx rfl) (Nat.zero_le _) (Nat.zero_le _) (e_k ?_)
  refine r_wr0 ?_
  refine r_z_eq F dX11_set_4 (tgt := 16) (by decide) (fun hc => ?_) (fun hc => ?_)
  · have hf := e_t hc hf
    refine r_aload_n F dX11_set_7 rfl ?_
    refine r_iconst F dX11_set_8 (v := 0) (by decide) ?_
    obtain ⟨q3, hq4, hf⟩ := e_bd hf
    refine r_callV F dX11_set_9 (b := 32) (dc := 0) (ds := 0) (As := [.int 0]) (S0 := []) lkX11_243 mX11_refuse (tX11_refuse_32 hG (la := x_l X) (h := e_up h []) hnx h32 h62 hq4) rfl rfl rfl (e_le rfl) (e_le rfl) (e_le rfl) h32 (ci := 11) e_cl11.1 rfl (e_le rfl) (e_lt hnx rfl) (Nat.zero_le _) (Nat.zero_le _) (e_k ?_)
    refine r_wr (l' := [(62, o62 q3.2)]) rfl rfl ?_
    refine r_pop F dX11_set_12 rfl ?_
    refine r_ldc F dX11_set_13 kcX11_140 ?_
    refine r_mat (k := 53) h53 (l' := [(53, o53 A53), (62, o62 q3.2)]) rfl ?_
    obtain rfl := Option.some.inj hf
    exact r_iret F hq dX11_set_15 rfl rfl (Nat.le_refl _) (Nat.le_refl _) ⟨rfl, rfl⟩
  · have hf := e_f hc hf
    refine r_iload_n F dX11_set_16 rfl ?_
    refine r_if_lt F dX11_set_17 (tgt := 47) (by decide) (fun hc => ?_) (fun hc => ?_)
    · have hf := e_t hc hf
      refine r_aload_n F dX11_set_47 rfl ?_
      refine r_iconst F dX11_set_48 (v := 2) (by decide) ?_
      obtain ⟨q5, hq6, hf⟩ := e_bd hf
      refine r_callV F dX11_set_49 (b := 32) (dc := 0) (ds := 0) (As := [.int 2]) (S0 := []) lkX11_243 mX11_refuse (tX11_refuse_32 hG (la := x_l X) (h := e_up h []) hnx h32 h62 hq6) rfl rfl rfl (e_le rfl) (e_le rfl) (e_le rfl) h32 (ci := 11) e_cl11.1 rfl (e_le rfl) (e_lt hnx rfl) (Nat.zero_le _) (Nat.zero_le _) (e_k ?_)
      refine r_wr (l' := [(62, o62 q5.2)]) rfl rfl ?_
      refine r_pop F dX11_set_52 rfl ?_
      refine r_ldc F dX11_set_53 kcX11_140 ?_
      refine r_mat (k := 53) h53 (l' := [(53, o53 A53), (62, o62 q5.2)]) rfl ?_
      obtain rfl := Option.some.inj hf
      exact r_iret F hq dX11_set_55 rfl rfl (Nat.le_refl _) (Nat.le_refl _) ⟨rfl, rfl⟩
    · have hf := e_f hc hf
      refine r_iload_n F dX11_set_20 rfl ?_
      refine r_aload_n F dX11_set_21 rfl ?_
      refine r_get F dX11_set_22 flX11_35 h32 rfl (e_le rfl) (e_lt hnx rfl) ?_
      refine r_alen F dX11_set_25 h53 (e_le rfl) (e_lt hnx rfl) (v := 4) rfl ?_
      refine r_icmp_ge F dX11_set_26 (tgt := 47) (by decide) (fun hc => ?_) (fun hc => ?_)
      · have hf := e_t hc hf
        refine r_aload_n F dX11_set_47 rfl ?_
        refine r_iconst F dX11_set_48 (v := 2) (by decide) ?_
        obtain ⟨q7, hq8, hf⟩ := e_bd hf
        refine r_callV F dX11_set_49 (b := 32) (dc := 0) (ds := 0) (As := [.int 2]) (S0 := []) lkX11_243 mX11_refuse (tX11_refuse_32 hG (la := x_l X) (h := e_up h []) hnx h32 h62 hq8) rfl rfl rfl (e_le rfl) (e_le rfl) (e_le rfl) h32 (ci := 11) e_cl11.1 rfl (e_le rfl) (e_lt hnx rfl) (Nat.zero_le _) (Nat.zero_le _) (e_k ?_)
        refine r_wr (l' := [(62, o62 q7.2)]) rfl rfl ?_
        refine r_pop F dX11_set_52 rfl ?_
        refine r_ldc F dX11_set_53 kcX11_140 ?_
        refine r_mat (k := 53) h53 (l' := [(53, o53 A53), (62, o62 q7.2)]) rfl ?_
        obtain rfl := Option.some.inj hf
        exact r_iret F hq dX11_set_55 rfl rfl (Nat.le_refl _) (Nat.le_refl _) ⟨rfl, rfl⟩
      · have hf := e_f hc hf
        refine r_iload_n F dX11_set_29 rfl ?_
        refine r_gets F dX11_set_30 (C := "SlipLattice") (n := "LEAST_SETTING") (d := "[I") (v := .ref 0) (by decide +kernel) fsX11_299 ?_
        refine r_iload_n F dX11_set_33 rfl ?_
        obtain ⟨hg, hf⟩ := e_gd hf
        refine r_ialdS F dX11_set_34 (i := p0) (hG.s0) (e_vp hg) ?_
        refine r_icmp_lt F dX11_set_35 (tgt := 47) (by decide) (fun hc => ?_) (fun hc => ?_)
        · have hf := e_t hc hf
          refine r_aload_n F dX11_set_47 rfl ?_
          refine r_iconst F dX11_set_48 (v := 2) (by decide) ?_
          obtain ⟨q9, hq10, hf⟩ := e_bd hf
          refine r_callV F dX11_set_49 (b := 32) (dc := 0) (ds := 0) (As := [.int 2]) (S0 := []) lkX11_243 mX11_refuse (tX11_refuse_32 hG (la := x_l X) (h := e_up h []) hnx h32 h62 hq10) rfl rfl rfl (e_le rfl) (e_le rfl) (e_le rfl) h32 (ci := 11) e_cl11.1 rfl (e_le rfl) (e_lt hnx rfl) (Nat.zero_le _) (Nat.zero_le _) (e_k ?_)
          refine r_wr (l' := [(62, o62 q9.2)]) rfl rfl ?_
          refine r_pop F dX11_set_52 rfl ?_
          refine r_ldc F dX11_set_53 kcX11_140 ?_
          refine r_mat (k := 53) h53 (l' := [(53, o53 A53), (62, o62 q9.2)]) rfl ?_
          obtain rfl := Option.some.inj hf
          exact r_iret F hq dX11_set_55 rfl rfl (Nat.le_refl _) (Nat.le_refl _) ⟨rfl, rfl⟩
        · have hf := e_f hc hf
          refine r_iload_n F dX11_set_38 rfl ?_
          refine r_gets F dX11_set_39 (C := "SlipLattice") (n := "MOST_SETTING") (d := "[I") (v := .ref 1) (by decide +kernel) fsX11_302 ?_
          refine r_iload_n F dX11_set_42 rfl ?_
          obtain ⟨hg, hf⟩ := e_gd hf
          refine r_ialdS F dX11_set_43 (i := p0) (hG.s1) (e_vp hg) ?_
          refine r_icmp_le F dX11_set_44 (tgt := 56) (by decide) (fun hc => ?_) (fun hc => ?_)
          · have hf := e_t hc hf
            refine r_aload_n F dX11_set_56 rfl ?_
            refine r_get F dX11_set_57 flX11_35 h32 rfl (e_le rfl) (e_lt hnx rfl) ?_
            refine r_iload_n F dX11_set_60 rfl ?_
            obtain ⟨hg, hf⟩ := e_gd hf
            refine r_iald F dX11_set_61 (i := p0) h53 (e_le rfl) (e_lt hnx rfl) (e_vp hg) ?_
            refine r_istore_n F dX11_set_62 (e_le rfl) (L' := [some (.ref 32), some (.int p0), some (.int p1), some (.int (A53 (tn p0)))]) rfl ?_
            refine r_aload_n F dX11_set_63 rfl ?_
            refine r_get F dX11_set_64 flX11_35 h32 rfl (e_le rfl) (e_lt hnx rfl) ?_
            refine r_iload_n F dX11_set_67 rfl ?_
            refine r_iload_n F dX11_set_68 rfl ?_
            obtain ⟨hg, hf⟩ := e_gd hf
            refine r_iast F dX11_set_69 h53 (e_le rfl) (e_lt hnx rfl) (e_vp hg) (l' := [(53, o53 (upd A53 (tn p0) p1))]) rfl ?_
            refine r_iload_n F dX11_set_70 rfl ?_
            refine r_mat (k := 62) h62 (l' := [(53, o53 (upd A53 (tn p0) p1)), (62, o62 A62)]) rfl ?_
            obtain rfl := Option.some.inj hf
            exact r_iret F hq dX11_set_71 rfl rfl (Nat.le_refl _) (Nat.le_refl _) ⟨rfl, rfl⟩
          · have hf := e_f hc hf
            refine r_aload_n F dX11_set_47 rfl ?_
            refine r_iconst F dX11_set_48 (v := 2) (by decide) ?_
            obtain ⟨q11, hq12, hf⟩ := e_bd hf
            refine r_callV F dX11_set_49 (b := 32) (dc := 0) (ds := 0) (As := [.int 2]) (S0 := []) lkX11_243 mX11_refuse (tX11_refuse_32 hG (la := x_l X) (h := e_up h []) hnx h32 h62 hq12) rfl rfl rfl (e_le rfl) (e_le rfl) (e_le rfl) h32 (ci := 11) e_cl11.1 rfl (e_le rfl) (e_lt hnx rfl) (Nat.zero_le _) (Nat.zero_le _) (e_k ?_)
            refine r_wr (l' := [(62, o62 q11.2)]) rfl rfl ?_
            refine r_pop F dX11_set_52 rfl ?_
            refine r_ldc F dX11_set_53 kcX11_140 ?_
            refine r_mat (k := 53) h53 (l' := [(53, o53 A53), (62, o62 q11.2)]) rfl ?_
            obtain rfl := Option.some.inj hf
            exact r_iret F hq dX11_set_55 rfl rfl (Nat.le_refl _) (Nat.le_refl _) ⟨rfl, rfl⟩

set_option maxRecDepth 100000 in
theorem tX1_glide_39 {G : eG} (hG : e_GS G) {la : Launch} {h : Nat → eO} {nx : Nat} (hnx : 99 ≤ nx) {a40_0 : Int32} {a40_1 : Int32} {A41 : Nat → Int32} {a42_0 : Int32} {A43 : Nat → Int32} {A44 : Nat → Int32} {A45 : Nat → Int32} {p0 : Int32} {p1 : Bool} (h39 : h 39 = o39) (h40 : h 40 = o40 a40_0 a40_1) (h41 : h 41 = o41 A41) (h42 : h 42 = o42 a42_0) (h43 : h 43 = o43 A43) (h44 : h 44 = o44 A44) (h45 : h 45 = o45 A45) {R9 : (Nat → Int32) × (Nat → Int32)} (hf : fX1_glide a40_0 a40_1 a42_0 A41 A43 A44 A45 p0 p1 = some R9) :
    eSem G la MX1_glide [.ref 39, .int p0, .int (e_b p1)] h nx 0 0 (fun r9 h9 => r9 = none ∧ h9 = e_up h [(41, o41 R9.1), (45, o45 R9.2)]) := by
  refine eSem.of (k := 2) (L := [some (.ref 39), some (.int p0), some (.int (e_b p1)), none, none]) (by decide +kernel) rfl rfl (fun X F hxl hq hcR hsR => ?_)
  subst hxl
  unfold fX1_glide at hf
  refine r_aload_n F dX1_glide_0 rfl ?_
  refine r_get F dX1_glide_1 flX1_21 h39 rfl (e_le rfl) (e_lt hnx rfl) ?_
  refine r_iload_n F dX1_glide_4 rfl ?_
  obtain ⟨q1, hq2, hf⟩ := e_bd hf
  refine r_callV F dX1_glide_5 (b := 42) (dc := 0) (ds := 0) (As := [.int p0]) (S0 := []) lkX1_93 mX0_wayOf (tX0_wayOf_42 hG (la := x_l X) (h := e_up h []) hnx h42 h44 hq2) rfl rfl rfl (e_le rfl) (e_le rfl) (e_le rfl) h42 (ci := 0) e_cl0.1 rfl (e_le rfl) (e_lt hnx rfl) (Nat.zero_le _) (Nat.zero_le _) (e_k ?_)
  refine r_wr0 ?_
  refine r_iload_n F dX1_glide_8 rfl ?_
  obtain ⟨q3, hq4, hf⟩ := e_bd hf
  have Jq3 : eRun G X 17 [some (.ref 39), some (.int p0), none, none, none] [.int q3, .int q1] h [] nx 0 0 := by
    refine r_iadd F dX1_glide_17 ?_
    refine r_istore_n F dX1_glide_18 (e_le rfl) (L' := [some (.ref 39), some (.int p0), none, some (.int (q1 + q3)), none]) rfl ?_
    refine r_aload_n F dX1_glide_19 rfl ?_
    refine r_get F dX1_glide_20 flX1_12 h39 rfl (e_le rfl) (e_lt hnx rfl) ?_
    refine r_aload_n F dX1_glide_23 rfl ?_
    refine r_get F dX1_glide_24 flX1_21 h39 rfl (e_le rfl) (e_lt hnx rfl) ?_
    refine r_iload_n F dX1_glide_27 rfl ?_
    refine r_iconst F dX1_glide_28 (v := 0) (by decide) ?_
    obtain ⟨q5, hq6, hf⟩ := e_bd hf
    refine r_callV F dX1_glide_29 (b := 42) (dc := 0) (ds := 0) (As := [.int p0, .int 0]) (S0 := [.ref 40]) lkX1_82 mX0_placeOf (tX0_placeOf_42 hG (la := x_l X) (h := e_up h []) hnx h42 h43 hq6) rfl rfl rfl (e_le rfl) (e_le rfl) (e_le rfl) h42 (ci := 0) e_cl0.1 rfl (e_le rfl) (e_lt hnx rfl) (Nat.zero_le _) (Nat.zero_le _) (e_k ?_)
    refine r_wr0 ?_
    refine r_aload_n F dX1_glide_32 rfl ?_
    refine r_get F dX1_glide_33 flX1_21 h39 rfl (e_le rfl) (e_lt hnx rfl) ?_
    refine r_iload_n F dX1_glide_36 rfl ?_
    refine r_iconst F dX1_glide_37 (v := 1) (by decide) ?_
    obtain ⟨q7, hq8, hf⟩ := e_bd hf
    refine r_callV F dX1_glide_38 (b := 42) (dc := 0) (ds := 0) (As := [.int p0, .int 1]) (S0 := [.int q5, .ref 40]) lkX1_82 mX0_placeOf (tX0_placeOf_42 hG (la := x_l X) (h := e_up h []) hnx h42 h43 hq8) rfl rfl rfl (e_le rfl) (e_le rfl) (e_le rfl) h42 (ci := 0) e_cl0.1 rfl (e_le rfl) (e_lt hnx rfl) (Nat.zero_le _) (Nat.zero_le _) (e_k ?_)
    refine r_wr0 ?_
    refine r_aload_n F dX1_glide_41 rfl ?_
    refine r_get F dX1_glide_42 flX1_21 h39 rfl (e_le rfl) (e_lt hnx rfl) ?_
    refine r_iload_n F dX1_glide_45 rfl ?_
    refine r_iconst F dX1_glide_46 (v := 0) (by decide) ?_
    obtain ⟨q9, hq10, hf⟩ := e_bd hf
    refine r_callV F dX1_glide_47 (b := 42) (dc := 0) (ds := 0) (As := [.int p0, .int 0]) (S0 := [.int q7, .int q5, .ref 40]) lkX1_90 mX0_numberOf (tX0_numberOf_42 hG (la := x_l X) (h := e_up h []) hnx h42 h44 hq10) rfl rfl rfl (e_le rfl) (e_le rfl) (e_le rfl) h42 (ci := 0) e_cl0.1 rfl (e_le rfl) (e_lt hnx rfl) (Nat.zero_le _) (Nat.zero_le _) (e_k ?_)
    refine r_wr0 ?_
    refine r_aload_n F dX1_glide_50 rfl ?_
    refine r_get F dX1_glide_51 flX1_21 h39 rfl (e_le rfl) (e_lt hnx rfl) ?_
    refine r_iload_n F dX1_glide_54 rfl ?_
    refine r_iconst F dX1_glide_55 (v := 1) (by decide) ?_
    obtain ⟨q11, hq12, hf⟩ := e_bd hf
    refine r_callV F dX1_glide_56 (b := 42) (dc := 0) (ds := 0) (As := [.int p0, .int 1]) (S0 := [.int q9, .int q7, .int q5, .ref 40]) lkX1_90 mX0_numberOf (tX0_numberOf_42 hG (la := x_l X) (h := e_up h []) hnx h42 h44 hq12) rfl rfl rfl (e_le rfl) (e_le rfl) (e_le rfl) h42 (ci := 0) e_cl0.1 rfl (e_le rfl) (e_lt hnx rfl) (Nat.zero_le _) (Nat.zero_le _) (e_k ?_)
    refine r_wr0 ?_
    refine r_iload_n F dX1_glide_59 rfl ?_
    obtain ⟨q13, hq14, hf⟩ := e_bd hf
    refine r_callV F dX1_glide_60 (b := 40) (dc := 0) (ds := 0) (As := [.int q5, .int q7, .int q9, .int q11, .int (q1 + q3)]) (S0 := []) lkX1_96 mX7_carry (tX7_carry_40 hG (la := x_l X) (h := e_up h []) hnx h40 h41 hq14) rfl rfl rfl (e_le rfl) (e_le rfl) (e_le rfl) h40 (ci := 7) e_cl7.1 rfl (e_le rfl) (e_lt hnx rfl) (Nat.zero_le _) (Nat.zero_le _) (e_k ?_)
    refine r_wr (l' := [(41, o41 q13.2)]) rfl rfl ?_
    refine r_istore F dX1_glide_63 (e_le rfl) (L' := [some (.ref 39), some (.int p0), none, some (.int (q1 + q3)), some (.int q13.1)]) rfl ?_
    refine r_aload_n F dX1_glide_65 rfl ?_
    refine r_get F dX1_glide_66 flX1_25 h39 rfl (e_le rfl) (e_lt hnx rfl) ?_
    refine r_iconst F dX1_glide_69 (v := 0) (by decide) ?_
    refine r_dup2 F dX1_glide_70 rfl rfl ?_
    refine r_iald F dX1_glide_71 (i := 0) h45 (e_le rfl) (e_lt hnx rfl) (e_vp (by decide)) ?_
    refine r_iconst F dX1_glide_72 (v := 1) (by decide) ?_
    refine r_iadd F dX1_glide_73 ?_
    refine r_iast F dX1_glide_74 h45 (e_le rfl) (e_lt hnx rfl) (e_vp (by decide)) (l' := [(41, o41 q13.2), (45, o45 (upd A45 (tn 0) ((A45 (tn 0)) + 1)))]) rfl ?_
    refine r_iload F dX1_glide_75 rfl ?_
    refine r_iconst F dX1_glide_77 (v := 2) (by decide) ?_
    refine r_icmp_ne F dX1_glide_78 (tgt := 94) (by decide) (fun hc => ?_) (fun hc => ?_)
    · have hf := e_f hc hf
      refine r_iload F dX1_glide_94 rfl ?_
      refine r_iconst F dX1_glide_96 (v := 3) (by decide) ?_
      refine r_icmp_ne F dX1_glide_97 (tgt := 110) (by decide) (fun hc => ?_) (fun hc => ?_)
      · have hf := e_f hc hf
        obtain rfl := Option.some.inj hf
        exact r_vret F hq dX1_glide_110 rfl rfl (Nat.le_refl _) (Nat.le_refl _) ⟨rfl, rfl⟩
      · have hf := e_t hc hf
        refine r_aload_n F dX1_glide_100 rfl ?_
        refine r_get F dX1_glide_101 flX1_25 h39 rfl (e_le rfl) (e_lt hnx rfl) ?_
        refine r_iconst F dX1_glide_104 (v := 2) (by decide) ?_
        refine r_dup2 F dX1_glide_105 rfl rfl ?_
        refine r_iald F dX1_glide_106 (i := 2) rfl (e_le rfl) (e_lt hnx rfl) (e_vp (by decide)) ?_
        refine r_iconst F dX1_glide_107 (v := 1) (by decide) ?_
        refine r_iadd F dX1_glide_108 ?_
        refine r_iast F dX1_glide_109 rfl (e_le rfl) (e_lt hnx rfl) (e_vp (by decide)) (l' := [(41, o41 q13.2), (45, o45 (upd (upd A45 (tn 0) ((A45 (tn 0)) + 1)) (tn 2) (((upd A45 (tn 0) ((A45 (tn 0)) + 1)) (tn 2)) + 1)))]) rfl ?_
        obtain rfl := Option.some.inj hf
        exact r_vret F hq dX1_glide_110 rfl rfl (Nat.le_refl _) (Nat.le_refl _) ⟨rfl, rfl⟩
    · have hf := e_t hc hf
      refine r_aload_n F dX1_glide_81 rfl ?_
      refine r_get F dX1_glide_82 flX1_25 h39 rfl (e_le rfl) (e_lt hnx rfl) ?_
      refine r_iconst F dX1_glide_85 (v := 1) (by decide) ?_
      refine r_dup2 F dX1_glide_86 rfl rfl ?_
      refine r_iald F dX1_glide_87 (i := 1) rfl (e_le rfl) (e_lt hnx rfl) (e_vp (by decide)) ?_
      refine r_iconst F dX1_glide_88 (v := 1) (by decide) ?_
      refine r_iadd F dX1_glide_89 ?_
      refine r_iast F dX1_glide_90 rfl (e_le rfl) (e_lt hnx rfl) (e_vp (by decide)) (l' := [(41, o41 q13.2), (45, o45 (upd (upd A45 (tn 0) ((A45 (tn 0)) + 1)) (tn 1) (((upd A45 (tn 0) ((A45 (tn 0)) + 1)) (tn 1)) + 1)))]) rfl ?_
      refine r_goto F dX1_glide_91 (tgt := 110) (by decide) ?_
      obtain rfl := Option.some.inj hf
      exact r_vret F hq dX1_glide_110 rfl rfl (Nat.le_refl _) (Nat.le_refl _) ⟨rfl, rfl⟩
  refine r_z_eq F dX1_glide_9 (tgt := 16) (by decide) (fun hc => ?_) (fun hc => ?_)
  · have hq4 := e_t hc hq4
    refine r_iconst F dX1_glide_12 (v := 0) (by decide) ?_
    refine r_goto F dX1_glide_13 (tgt := 17) (by decide) ?_
    refine r_drop 2 (L' := [some (.ref 39), some (.int p0), none, none, none]) rfl ?_
    obtain rfl := Option.some.inj hq4
    exact Jq3
  · have hq4 := e_f hc hq4
    refine r_iconst F dX1_glide_16 (v := 2) (by decide) ?_
    refine r_drop 2 (L' := [some (.ref 39), some (.int p0), none, none, none]) rfl ?_
    obtain rfl := Option.some.inj hq4
    exact Jq3

def fX7_shiftSite (a40_0 : Int32) (a40_1 : Int32) (A41 : Nat → Int32) (p0 : Int32) (p1 : Int32) (p2 : Int32) (p3 : Int32) : Option ((Nat → Int32)) :=
  (fX7_addTo a40_0 a40_1 A41 (p0 - 1) p1 0 p2 p3).bind (fun q1 =>
  (fX7_addTo a40_0 a40_1 q1 p0 (p1 - 1) 1 p2 p3).bind (fun q3 =>
  (fX7_addTo a40_0 a40_1 q3 p0 p1 0 ((0 : Int32) - p2) ((0 : Int32) - p3)).bind (fun q5 =>
  (fX7_addTo a40_0 a40_1 q5 p0 p1 1 ((0 : Int32) - p2) ((0 : Int32) - p3)).bind (fun q7 =>
  some q7))))
set_option maxRecDepth 100000 in
theorem tX7_shiftSite_40 {G : eG} (hG : e_GS G) {la : Launch} {h : Nat → eO} {nx : Nat} (hnx : 99 ≤ nx) {a40_0 : Int32} {a40_1 : Int32} {A41 : Nat → Int32} {p0 : Int32} {p1 : Int32} {p2 : Int32} {p3 : Int32} (h40 : h 40 = o40 a40_0 a40_1) (h41 : h 41 = o41 A41) {R9 : (Nat → Int32)} (hf : fX7_shiftSite a40_0 a40_1 A41 p0 p1 p2 p3 = some R9) :
    eSem G la MX7_shiftSite [.ref 40, .int p0, .int p1, .int p2, .int p3] h nx 0 0 (fun r9 h9 => r9 = none ∧ h9 = e_up h [(41, o41 R9)]) := by
  refine eSem.of (k := 0) (L := [some (.ref 40), some (.int p0), some (.int p1), some (.int p2), some (.int p3)]) (by decide +kernel) rfl rfl (fun X F hxl hq hcR hsR => ?_)
  subst hxl
  unfold fX7_shiftSite at hf
  refine r_aload_n F dX7_shiftSite_0 rfl ?_
  refine r_iload_n F dX7_shiftSite_1 rfl ?_
  refine r_iconst F dX7_shiftSite_2 (v := 1) (by decide) ?_
  refine r_isub F dX7_shiftSite_3 ?_
  refine r_iload_n F dX7_shiftSite_4 rfl ?_
  refine r_iconst F dX7_shiftSite_5 (v := 0) (by decide) ?_
  refine r_iload_n F dX7_shiftSite_6 rfl ?_
  refine r_iload F dX7_shiftSite_7 rfl ?_
  obtain ⟨q1, hq2, hf⟩ := e_bd hf
  refine r_callV F dX7_shiftSite_9 (b := 40) (dc := 0) (ds := 0) (As := [.int (p0 - 1), .int p1, .int 0, .int p2, .int p3]) (S0 := []) lkX7_58 mX7_addTo (tX7_addTo_40 hG (la := x_l X) (h := e_up h []) hnx h40 h41 hq2) rfl rfl rfl (e_le rfl) (e_le rfl) (e_le rfl) h40 (ci := 7) e_cl7.1 rfl (e_le rfl) (e_lt hnx rfl) (Nat.zero_le _) (Nat.zero_le _) (e_k ?_)
  refine r_wr (l' := [(41, o41 q1)]) rfl rfl ?_
  refine r_aload_n F dX7_shiftSite_12 rfl ?_
  refine r_iload_n F dX7_shiftSite_13 rfl ?_
  refine r_iload_n F dX7_shiftSite_14 rfl ?_
  refine r_iconst F dX7_shiftSite_15 (v := 1) (by decide) ?_
  refine r_isub F dX7_shiftSite_16 ?_
  refine r_iconst F dX7_shiftSite_17 (v := 1) (by decide) ?_
  refine r_iload_n F dX7_shiftSite_18 rfl ?_
  refine r_iload F dX7_shiftSite_19 rfl ?_
  obtain ⟨q3, hq4, hf⟩ := e_bd hf
  refine r_callV F dX7_shiftSite_21 (b := 40) (dc := 0) (ds := 0) (As := [.int p0, .int (p1 - 1), .int 1, .int p2, .int p3]) (S0 := []) lkX7_58 mX7_addTo (tX7_addTo_40 hG (la := x_l X) (h := e_up h [(41, o41 q1)]) hnx h40 rfl hq4) rfl rfl rfl (e_le rfl) (e_le rfl) (e_le rfl) h40 (ci := 7) e_cl7.1 rfl (e_le rfl) (e_lt hnx rfl) (Nat.zero_le _) (Nat.zero_le _) (e_k ?_)
  refine r_wr (l' := [(41, o41 q3)]) rfl rfl ?_
  refine r_aload_n F dX7_shiftSite_24 rfl ?_
  refine r_iload_n F dX7_shiftSite_25 rfl ?_
  refine r_iload_n F dX7_shiftSite_26 rfl ?_
  refine r_iconst F dX7_shiftSite_27 (v := 0) (by decide) ?_
  refine r_iload_n F dX7_shiftSite_28 rfl ?_
  refine r_ineg F dX7_shiftSite_29 ?_
  refine r_iload F dX7_shiftSite_30 rfl ?_
  refine r_ineg F dX7_shiftSite_32 ?_
  obtain ⟨q5, hq6, hf⟩ := e_bd hf
  refine r_callV F dX7_shiftSite_33 (b := 40) (dc := 0) (ds := 0) (As := [.int p0, .int p1, .int 0, .int ((0 : Int32) - p2), .int ((0 : Int32) - p3)]) (S0 := []) lkX7_58 mX7_addTo (tX7_addTo_40 hG (la := x_l X) (h := e_up h [(41, o41 q3)]) hnx h40 rfl hq6) rfl rfl rfl (e_le rfl) (e_le rfl) (e_le rfl) h40 (ci := 7) e_cl7.1 rfl (e_le rfl) (e_lt hnx rfl) (Nat.zero_le _) (Nat.zero_le _) (e_k ?_)
  refine r_wr (l' := [(41, o41 q5)]) rfl rfl ?_
  refine r_aload_n F dX7_shiftSite_36 rfl ?_
  refine r_iload_n F dX7_shiftSite_37 rfl ?_
  refine r_iload_n F dX7_shiftSite_38 rfl ?_
  refine r_iconst F dX7_shiftSite_39 (v := 1) (by decide) ?_
  refine r_iload_n F dX7_shiftSite_40 rfl ?_
  refine r_ineg F dX7_shiftSite_41 ?_
  refine r_iload F dX7_shiftSite_42 rfl ?_
  refine r_ineg F dX7_shiftSite_44 ?_
  obtain ⟨q7, hq8, hf⟩ := e_bd hf
  refine r_callV F dX7_shiftSite_45 (b := 40) (dc := 0) (ds := 0) (As := [.int p0, .int p1, .int 1, .int ((0 : Int32) - p2), .int ((0 : Int32) - p3)]) (S0 := []) lkX7_58 mX7_addTo (tX7_addTo_40 hG (la := x_l X) (h := e_up h [(41, o41 q5)]) hnx h40 rfl hq8) rfl rfl rfl (e_le rfl) (e_le rfl) (e_le rfl) h40 (ci := 7) e_cl7.1 rfl (e_le rfl) (e_lt hnx rfl) (Nat.zero_le _) (Nat.zero_le _) (e_k ?_)
  refine r_wr (l' := [(41, o41 q7)]) rfl rfl ?_
  obtain rfl := Option.some.inj hf
  exact r_vret F hq dX7_shiftSite_48 rfl rfl (Nat.le_refl _) (Nat.le_refl _) ⟨rfl, rfl⟩

def fX11_status (A62 : Nat → Int32) (p0 : Int32) : Option (Int32) :=
  if p0 < 0 then
    some (-1)
  else
    if 4 ≤ p0 then
      some (-1)
    else
      e_g (e_in p0 4) (
      some (A62 (tn p0)))
set_option maxRecDepth 100000 in
theorem tX11_status_32 {G : eG} (hG : e_GS G) {la : Launch} {h : Nat → eO} {nx : Nat} (hnx : 99 ≤ nx) {a32_8 : Bool} {a32_10 : Bool} {A62 : Nat → Int32} {p0 : Int32} (h32 : h 32 = o32 a32_8 a32_10) (h62 : h 62 = o62 A62) {R9 : Int32} (hf : fX11_status A62 p0 = some R9) :
    eSem G la MX11_status [.ref 32, .int p0] h nx 0 0 (fun r9 h9 => r9 = some (.int R9) ∧ h9 = h) := by
  refine eSem.of (k := 0) (L := [some (.ref 32), some (.int p0)]) (by decide +kernel) rfl rfl (fun X F hxl hq hcR hsR => ?_)
  subst hxl
  unfold fX11_status at hf
  refine r_iload_n F dX11_status_0 rfl ?_
  refine r_if_lt F dX11_status_1 (tgt := 22) (by decide) (fun hc => ?_) (fun hc => ?_)
  · have hf := e_t hc hf
    refine r_iconst F dX11_status_22 (v := (-1)) (by decide) ?_
    obtain rfl := Option.some.inj hf
    exact r_iret F hq dX11_status_23 rfl rfl (Nat.le_refl _) (Nat.le_refl _) ⟨rfl, rfl⟩
  · have hf := e_f hc hf
    refine r_iload_n F dX11_status_4 rfl ?_
    refine r_aload_n F dX11_status_5 rfl ?_
    refine r_get F dX11_status_6 flX11_63 h32 rfl (e_le rfl) (e_lt hnx rfl) ?_
    refine r_alen F dX11_status_9 h62 (e_le rfl) (e_lt hnx rfl) (v := 4) rfl ?_
    refine r_icmp_ge F dX11_status_10 (tgt := 22) (by decide) (fun hc => ?_) (fun hc => ?_)
    · have hf := e_t hc hf
      refine r_iconst F dX11_status_22 (v := (-1)) (by decide) ?_
      obtain rfl := Option.some.inj hf
      exact r_iret F hq dX11_status_23 rfl rfl (Nat.le_refl _) (Nat.le_refl _) ⟨rfl, rfl⟩
    · have hf := e_f hc hf
      refine r_aload_n F dX11_status_13 rfl ?_
      refine r_get F dX11_status_14 flX11_63 h32 rfl (e_le rfl) (e_lt hnx rfl) ?_
      refine r_iload_n F dX11_status_17 rfl ?_
      obtain ⟨hg, hf⟩ := e_gd hf
      refine r_iald F dX11_status_18 (i := p0) h62 (e_le rfl) (e_lt hnx rfl) (e_vp hg) ?_
      refine r_goto F dX11_status_19 (tgt := 23) (by decide) ?_
      obtain rfl := Option.some.inj hf
      exact r_iret F hq dX11_status_23 rfl rfl (Nat.le_refl _) (Nat.le_refl _) ⟨rfl, rfl⟩

def fX11_stills (a40_0 : Int32) (a42_0 : Int32) (A43 : Nat → Int32) (A44 : Nat → Int32) (A53 : Nat → Int32)  : Option (Int32) :=
  (fX11_isEmpty a40_0).bind (fun q1 =>
  if q1 = true then
    some (-1)
  else
    (fX0_greatestForce a42_0 A43 A44 A53).bind (fun q3 =>
    if q3 ≤ 99 then
      some q3
    else
      some (-1)))
set_option maxRecDepth 100000 in
theorem tX11_stills_32 {G : eG} (hG : e_GS G) {la : Launch} {h : Nat → eO} {nx : Nat} (hnx : 99 ≤ nx) {a32_8 : Bool} {a32_10 : Bool} {a40_0 : Int32} {a40_1 : Int32} {a42_0 : Int32} {A43 : Nat → Int32} {A44 : Nat → Int32} {A53 : Nat → Int32}  (h32 : h 32 = o32 a32_8 a32_10) (h39 : h 39 = o39) (h40 : h 40 = o40 a40_0 a40_1) (h42 : h 42 = o42 a42_0) (h43 : h 43 = o43 A43) (h44 : h 44 = o44 A44) (h53 : h 53 = o53 A53) {R9 : Int32} (hf : fX11_stills a40_0 a42_0 A43 A44 A53  = some R9) :
    eSem G la MX11_stills [.ref 32] h nx 0 0 (fun r9 h9 => r9 = some (.int R9) ∧ h9 = h) := by
  refine eSem.of (k := 1) (L := [some (.ref 32), none]) (by decide +kernel) rfl rfl (fun X F hxl hq hcR hsR => ?_)
  subst hxl
  unfold fX11_stills at hf
  refine r_aload_n F dX11_stills_0 rfl ?_
  obtain ⟨q1, hq2, hf⟩ := e_bd hf
  refine r_callV F dX11_stills_1 (b := 32) (dc := 0) (ds := 0) (As := []) (S0 := []) lkX11_136 mX11_isEmpty (tX11_isEmpty_32 hG (la := x_l X) (h := e_up h []) hnx h32 h39 h40 hq2) rfl rfl rfl (e_le rfl) (e_le rfl) (e_le rfl) h32 (ci := 11) e_cl11.1 rfl (e_le rfl) (e_lt hnx rfl) (Nat.zero_le _) (Nat.zero_le _) (e_k ?_)
  refine r_wr0 ?_
  refine r_z_eq F dX11_stills_4 (tgt := 9) (by decide) (fun hc => ?_) (fun hc => ?_)
  · have hf := e_t hc hf
    refine r_iconst F dX11_stills_7 (v := (-1)) (by decide) ?_
    obtain rfl := Option.some.inj hf
    exact r_iret F hq dX11_stills_8 rfl rfl (Nat.le_refl _) (Nat.le_refl _) ⟨rfl, rfl⟩
  · have hf := e_f hc hf
    refine r_aload_n F dX11_stills_9 rfl ?_
    refine r_get F dX11_stills_10 flX11_28 h32 rfl (e_le rfl) (e_lt hnx rfl) ?_
    refine r_get F dX11_stills_13 flX11_127 h39 rfl (e_le rfl) (e_lt hnx rfl) ?_
    refine r_aload_n F dX11_stills_16 rfl ?_
    refine r_get F dX11_stills_17 flX11_35 h32 rfl (e_le rfl) (e_lt hnx rfl) ?_
    obtain ⟨q3, hq4, hf⟩ := e_bd hf
    refine r_callV F dX11_stills_20 (b := 42) (dc := 0) (ds := 0) (As := [.ref 53]) (S0 := []) lkX11_329 mX0_greatestForce (tX0_greatestForce_42_53 hG (la := x_l X) (h := e_up h []) hnx h42 h43 h44 h53 hq4) rfl rfl rfl (e_le rfl) (e_le rfl) (e_le rfl) h42 (ci := 0) e_cl0.1 rfl (e_le rfl) (e_lt hnx rfl) (Nat.zero_le _) (Nat.zero_le _) (e_k ?_)
    refine r_wr0 ?_
    refine r_istore_n F dX11_stills_23 (e_le rfl) (L' := [some (.ref 32), some (.int q3)]) rfl ?_
    refine r_iload_n F dX11_stills_24 rfl ?_
    refine r_bipush F dX11_stills_25 (v := 99) (by decide) ?_
    refine r_icmp_le F dX11_stills_27 (tgt := 34) (by decide) (fun hc => ?_) (fun hc => ?_)
    · have hf := e_t hc hf
      refine r_iload_n F dX11_stills_34 rfl ?_
      obtain rfl := Option.some.inj hf
      exact r_iret F hq dX11_stills_35 rfl rfl (Nat.le_refl _) (Nat.le_refl _) ⟨rfl, rfl⟩
    · have hf := e_f hc hf
      refine r_iconst F dX11_stills_30 (v := (-1)) (by decide) ?_
      refine r_goto F dX11_stills_31 (tgt := 35) (by decide) ?_
      obtain rfl := Option.some.inj hf
      exact r_iret F hq dX11_stills_35 rfl rfl (Nat.le_refl _) (Nat.le_refl _) ⟨rfl, rfl⟩

def fX7_lay (a40_0 : Int32) (a40_1 : Int32) (A41 : Nat → Int32) (p0 : Int32) (p1 : Int32) : Option (Int32 × Int32 × (Nat → Int32)) :=
  (e_loop (fun (v3 : Int32 × (Nat → Int32)) => (
      if 324 ≤ (v3.1 + 3) then
        some (.inr v3.2)
      else
        e_g (e_in v3.1 324) (
        e_g (e_in (v3.1 + 1) 324) (
        e_g (e_in (v3.1 + 2) 324) (
        e_g (e_in (v3.1 + 3) 324) (
        some (.inl (v3.1 + 4, upd (upd (upd (upd v3.2 (tn v3.1) 1) (tn (v3.1 + 1)) 0) (tn (v3.1 + 2)) 0) (tn (v3.1 + 3)) 1)))))) : Option ((Int32 × (Nat → Int32)) ⊕ ((Nat → Int32))))) e_fuel (0, A41)).bind (fun x4 =>
  some (p0, p1, x4))
set_option maxRecDepth 100000 in
theorem tX7_lay_40 {G : eG} (hG : e_GS G) {la : Launch} {h : Nat → eO} {nx : Nat} (hnx : 99 ≤ nx) {a40_0 : Int32} {a40_1 : Int32} {A41 : Nat → Int32} {p0 : Int32} {p1 : Int32} (h40 : h 40 = o40 a40_0 a40_1) (h41 : h 41 = o41 A41) {R9 : Int32 × Int32 × (Nat → Int32)} (hf : fX7_lay a40_0 a40_1 A41 p0 p1 = some R9) :
    eSem G la MX7_lay [.ref 40, .int p0, .int p1] h nx 0 0 (fun r9 h9 => r9 = none ∧ h9 = e_up h [(40, o40 R9.1 R9.2.1), (41, o41 R9.2.2)]) := by
  refine eSem.of (k := 1) (L := [some (.ref 40), some (.int p0), some (.int p1), none]) (by decide +kernel) rfl rfl (fun X F hxl hq hcR hsR => ?_)
  subst hxl
  unfold fX7_lay at hf
  refine r_aload_n F dX7_lay_0 rfl ?_
  refine r_iload_n F dX7_lay_1 rfl ?_
  refine r_put F dX7_lay_2 flX7_15 rfl rfl rfl h40 (e_le rfl) (e_le rfl) (e_lt hnx rfl) (l' := [(40, o40 p0 a40_1)]) rfl ?_
  refine r_aload_n F dX7_lay_5 rfl ?_
  refine r_iload_n F dX7_lay_6 rfl ?_
  refine r_put F dX7_lay_7 flX7_19 rfl rfl rfl rfl (e_le rfl) (e_le rfl) (e_lt hnx rfl) (l' := [(40, o40 p0 p1)]) rfl ?_
  refine r_iconst F dX7_lay_10 (v := 0) (by decide) ?_
  refine r_istore_n F dX7_lay_11 (e_le rfl) (L' := [some (.ref 40), some (.int p0), some (.int p1), some (.int 0)]) rfl ?_
  refine r_drop 1 (L' := [some (.ref 40), none, some (.int p1), some (.int 0)]) rfl ?_
  refine r_drop 2 (L' := [some (.ref 40), none, none, some (.int 0)]) rfl ?_
  refine r_mat (k := 41) h41 (l' := [(40, o40 p0 p1), (41, o41 A41)]) rfl ?_
  obtain ⟨x4, hx5, hf⟩ := e_bd hf
  refine (e_loop_ok (P := fun (v3 : Int32 × (Nat → Int32)) => eRun G X 12 [some (.ref 40), none, none, some (.int v3.1)] [] h [(40, o40 p0 p1), (41, o41 v3.2)] nx 0 0) (K := fun (x4 : (Nat → Int32)) => eRun G X 63 [none, none, none, none] [] h [(40, o40 p0 p1), (41, o41 x4)] nx 0 0) ?_ e_fuel (0, A41) x4 hx5 ?_ : _)
  · intro v3 z hz ih hx
    refine r_iload_n F dX7_lay_12 rfl ?_
    refine r_iconst F dX7_lay_13 (v := 3) (by decide) ?_
    refine r_iadd F dX7_lay_14 ?_
    refine r_aload_n F dX7_lay_15 rfl ?_
    refine r_get F dX7_lay_16 flX7_11 rfl rfl (e_le rfl) (e_lt hnx rfl) ?_
    refine r_alen F dX7_lay_19 rfl (e_le rfl) (e_lt hnx rfl) (v := 324) rfl ?_
    refine r_icmp_ge F dX7_lay_20 (tgt := 63) (by decide) (fun hc => ?_) (fun hc => ?_)
    · have hz := e_t hc hz
      refine r_drop 0 (L' := [none, none, none, some (.int v3.1)]) rfl ?_
      refine r_drop 3 (L' := [none, none, none, none]) rfl ?_
      obtain rfl := Option.some.inj hz
      exact hx v3.2 rfl
    · have hz := e_f hc hz
      refine r_aload_n F dX7_lay_23 rfl ?_
      refine r_get F dX7_lay_24 flX7_11 rfl rfl (e_le rfl) (e_lt hnx rfl) ?_
      refine r_iload_n F dX7_lay_27 rfl ?_
      refine r_iconst F dX7_lay_28 (v := 1) (by decide) ?_
      obtain ⟨hg, hz⟩ := e_gd hz
      refine r_iast F dX7_lay_29 rfl (e_le rfl) (e_lt hnx rfl) (e_vp hg) (l' := [(40, o40 p0 p1), (41, o41 (upd v3.2 (tn v3.1) 1))]) rfl ?_
      refine r_aload_n F dX7_lay_30 rfl ?_
      refine r_get F dX7_lay_31 flX7_11 rfl rfl (e_le rfl) (e_lt hnx rfl) ?_
      refine r_iload_n F dX7_lay_34 rfl ?_
      refine r_iconst F dX7_lay_35 (v := 1) (by decide) ?_
      refine r_iadd F dX7_lay_36 ?_
      refine r_iconst F dX7_lay_37 (v := 0) (by decide) ?_
      obtain ⟨hg, hz⟩ := e_gd hz
      refine r_iast F dX7_lay_38 rfl (e_le rfl) (e_lt hnx rfl) (e_vp hg) (l' := [(40, o40 p0 p1), (41, o41 (upd (upd v3.2 (tn v3.1) 1) (tn (v3.1 + 1)) 0))]) rfl ?_
      refine r_aload_n F dX7_lay_39 rfl ?_
      refine r_get F dX7_lay_40 flX7_11 rfl rfl (e_le rfl) (e_lt hnx rfl) ?_
      refine r_iload_n F dX7_lay_43 rfl ?_
      refine r_iconst F dX7_lay_44 (v := 2) (by decide) ?_
      refine r_iadd F dX7_lay_45 ?_
      refine r_iconst F dX7_lay_46 (v := 0) (by decide) ?_
      obtain ⟨hg, hz⟩ := e_gd hz
      refine r_iast F dX7_lay_47 rfl (e_le rfl) (e_lt hnx rfl) (e_vp hg) (l' := [(40, o40 p0 p1), (41, o41 (upd (upd (upd v3.2 (tn v3.1) 1) (tn (v3.1 + 1)) 0) (tn (v3.1 + 2)) 0))]) rfl ?_
      refine r_aload_n F dX7_lay_48 rfl ?_
      refine r_get F dX7_lay_49 flX7_11 rfl rfl (e_le rfl) (e_lt hnx rfl) ?_
      refine r_iload_n F dX7_lay_52 rfl ?_
      refine r_iconst F dX7_lay_53 (v := 3) (by decide) ?_
      refine r_iadd F dX7_lay_54 ?_
      refine r_iconst F dX7_lay_55 (v := 1) (by decide) ?_
      obtain ⟨hg, hz⟩ := e_gd hz
      refine r_iast F dX7_lay_56 rfl (e_le rfl) (e_lt hnx rfl) (e_vp hg) (l' := [(40, o40 p0 p1), (41, o41 (upd (upd (upd (upd v3.2 (tn v3.1) 1) (tn (v3.1 + 1)) 0) (tn (v3.1 + 2)) 0) (tn (v3.1 + 3)) 1))]) rfl ?_
      refine r_inc F dX7_lay_57 (k9 := 4) (by decide) rfl (L' := [some (.ref 40), none, none, some (.int (v3.1 + 4))]) rfl ?_
      refine r_goto F dX7_lay_60 (tgt := 12) (by decide) ?_
      obtain rfl := Option.some.inj hz
      exact ih (v3.1 + 4, upd (upd (upd (upd v3.2 (tn v3.1) 1) (tn (v3.1 + 1)) 0) (tn (v3.1 + 2)) 0) (tn (v3.1 + 3)) 1) rfl
  · show eRun G X 63 [none, none, none, none] [] h [(40, o40 p0 p1), (41, o41 x4)] nx 0 0
    obtain rfl := Option.some.inj hf
    exact r_vret F hq dX7_lay_63 rfl rfl (Nat.le_refl _) (Nat.le_refl _) ⟨rfl, rfl⟩

def fX1_build (a35_4 : Int32) (a35_5 : Int32) (a35_10 : Int32) (a40_0 : Int32) (a40_1 : Int32) (a42_0 : Int32) (A37 : Nat → Int32) (A38 : Nat → Int32) (A41 : Nat → Int32) (A43 : Nat → Int32) (A44 : Nat → Int32)  : Option (Int32 × Int32 × Int32 × (Nat → Int32) × (Nat → Int32) × (Nat → Int32)) :=
  (fX7_lay a40_0 a40_1 A41 a35_4 a35_5).bind (fun q1 =>
  (e_loop (fun (v5 : Int32 × (Nat → Int32)) => (
      if a35_10 ≤ v5.1 then
        some (.inr v5.2)
      else
        if 20 ≤ (((2 : Int32) * v5.1) + 1) then
          some (.inr v5.2)
        else
          (e_loop (fun (v10 : Int32 × (Nat → Int32)) => (
              e_g (e_in ((2 : Int32) * v5.1) 20) (
              if (A37 (tn ((2 : Int32) * v5.1))) < v10.1 then
                some (.inr v10.2)
              else
                e_g (e_in (((2 : Int32) * v5.1) + 1) 20) (
                e_g (e_in ((2 : Int32) * v5.1) 20) (
                e_g (e_in (((2 : Int32) * v5.1) + 1) 20) (
                (fX7_addTo q1.1 q1.2.1 v10.2 v10.1 (A37 (tn (((2 : Int32) * v5.1) + 1))) 1 ((0 : Int32) - (A38 (tn ((2 : Int32) * v5.1)))) ((0 : Int32) - (A38 (tn (((2 : Int32) * v5.1) + 1))))).bind (fun q13 =>
                some (.inl (v10.1 + 1, q13))))))) : Option ((Int32 × (Nat → Int32)) ⊕ ((Nat → Int32))))) e_fuel (0, v5.2)).bind (fun x11 =>
          some (.inl (v5.1 + 1, x11))) : Option ((Int32 × (Nat → Int32)) ⊕ ((Nat → Int32))))) e_fuel (0, q1.2.2)).bind (fun x6 =>
  (fX0_find q1.1 q1.2.1 a42_0 x6 A43 A44).bind (fun q15 =>
  some (q1.1, q1.2.1, q15.1, x6, q15.2.1, q15.2.2))))
set_option maxRecDepth 100000 in
theorem tX1_build_39_35 {G : eG} (hG : e_GS G) {la : Launch} {h : Nat → eO} {nx : Nat} (hnx : 99 ≤ nx) {a35_1 : Int32} {a35_2 : Int32} {a35_3 : Int32} {a35_4 : Int32} {a35_5 : Int32} {a35_7 : Bool} {a35_8 : Bool} {a35_9 : Bool} {a35_10 : Int32} {A37 : Nat → Int32} {A38 : Nat → Int32} {a40_0 : Int32} {a40_1 : Int32} {A41 : Nat → Int32} {a42_0 : Int32} {A43 : Nat → Int32} {A44 : Nat → Int32}  (h35 : h 35 = o35 a35_1 a35_2 a35_3 a35_4 a35_5 a35_7 a35_8 a35_9 a35_10) (h37 : h 37 = o37 A37) (h38 : h 38 = o38 A38) (h39 : h 39 = o39) (h40 : h 40 = o40 a40_0 a40_1) (h41 : h 41 = o41 A41) (h42 : h 42 = o42 a42_0) (h43 : h 43 = o43 A43) (h44 : h 44 = o44 A44) {R9 : Int32 × Int32 × Int32 × (Nat → Int32) × (Nat → Int32) × (Nat → Int32)} (hf : fX1_build a35_4 a35_5 a35_10 a40_0 a40_1 a42_0 A37 A38 A41 A43 A44  = some R9) :
    eSem G la MX1_build [.ref 39, .ref 35] h nx 0 0 (fun r9 h9 => r9 = none ∧ h9 = e_up h [(40, o40 R9.1 R9.2.1), (41, o41 R9.2.2.2.1), (42, o42 R9.2.2.1), (43, o43 R9.2.2.2.2.1), (44, o44 R9.2.2.2.2.2)]) := by
  refine eSem.of (k := 2) (L := [some (.ref 39), some (.ref 35), none, none]) (by decide +kernel) rfl rfl (fun X F hxl hq hcR hsR => ?_)
  subst hxl
  unfold fX1_build at hf
  refine r_aload_n F dX1_build_0 rfl ?_
  refine r_get F dX1_build_1 flX1_12 h39 rfl (e_le rfl) (e_lt hnx rfl) ?_
  refine r_aload_n F dX1_build_4 rfl ?_
  refine r_get F dX1_build_5 flX1_29 h35 rfl (e_le rfl) (e_lt hnx rfl) ?_
  refine r_aload_n F dX1_build_8 rfl ?_
  refine r_get F dX1_build_9 flX1_35 h35 rfl (e_le rfl) (e_lt hnx rfl) ?_
  obtain ⟨q1, hq2, hf⟩ := e_bd hf
  refine r_callV F dX1_build_12 (b := 40) (dc := 0) (ds := 0) (As := [.int a35_4, .int a35_5]) (S0 := []) lkX1_38 mX7_lay (tX7_lay_40 hG (la := x_l X) (h := e_up h []) hnx h40 h41 hq2) rfl rfl rfl (e_le rfl) (e_le rfl) (e_le rfl) h40 (ci := 7) e_cl7.1 rfl (e_le rfl) (e_lt hnx rfl) (Nat.zero_le _) (Nat.zero_le _) (e_k ?_)
  refine r_wr (l' := [(40, o40 q1.1 q1.2.1), (41, o41 q1.2.2)]) rfl rfl ?_
  refine r_iconst F dX1_build_15 (v := 0) (by decide) ?_
  refine r_istore_n F dX1_build_16 (e_le rfl) (L' := [some (.ref 39), some (.ref 35), some (.int 0), none]) rfl ?_
  obtain ⟨x6, hx7, hf⟩ := e_bd hf
  refine (e_loop_ok (P := fun (v5 : Int32 × (Nat → Int32)) => eRun G X 17 [some (.ref 39), some (.ref 35), some (.int v5.1), none] [] h [(40, o40 q1.1 q1.2.1), (41, o41 v5.2)] nx 0 0) (K := fun (x6 : (Nat → Int32)) => eRun G X 103 [some (.ref 39), none, none, none] [] h [(40, o40 q1.1 q1.2.1), (41, o41 x6)] nx 0 0) ?_ e_fuel (0, q1.2.2) x6 hx7 ?_ : _)
  · intro v5 z hz ih hx
    refine r_iload_n F dX1_build_17 rfl ?_
    refine r_aload_n F dX1_build_18 rfl ?_
    refine r_get F dX1_build_19 flX1_42 h35 rfl (e_le rfl) (e_lt hnx rfl) ?_
    refine r_icmp_ge F dX1_build_22 (tgt := 103) (by decide) (fun hc => ?_) (fun hc => ?_)
    · have hz := e_t hc hz
      refine r_drop 1 (L' := [some (.ref 39), none, some (.int v5.1), none]) rfl ?_
      refine r_drop 2 (L' := [some (.ref 39), none, none, none]) rfl ?_
      obtain rfl := Option.some.inj hz
      exact hx v5.2 rfl
    · have hz := e_f hc hz
      refine r_iconst F dX1_build_25 (v := 2) (by decide) ?_
      refine r_iload_n F dX1_build_26 rfl ?_
      refine r_imul F dX1_build_27 ?_
      refine r_iconst F dX1_build_28 (v := 1) (by decide) ?_
      refine r_iadd F dX1_build_29 ?_
      refine r_aload_n F dX1_build_30 rfl ?_
      refine r_get F dX1_build_31 flX1_44 h35 rfl (e_le rfl) (e_lt hnx rfl) ?_
      refine r_alen F dX1_build_34 h37 (e_le rfl) (e_lt hnx rfl) (v := 20) rfl ?_
      refine r_icmp_ge F dX1_build_35 (tgt := 103) (by decide) (fun hc => ?_) (fun hc => ?_)
      · have hz := e_t hc hz
        refine r_drop 1 (L' := [some (.ref 39), none, some (.int v5.1), none]) rfl ?_
        refine r_drop 2 (L' := [some (.ref 39), none, none, none]) rfl ?_
        obtain rfl := Option.some.inj hz
        exact hx v5.2 rfl
      · have hz := e_f hc hz
        refine r_iconst F dX1_build_38 (v := 0) (by decide) ?_
        refine r_istore_n F dX1_build_39 (e_le rfl) (L' := [some (.ref 39), some (.ref 35), some (.int v5.1), some (.int 0)]) rfl ?_
        obtain ⟨x11, hx12, hz⟩ := e_bd hz
        refine (e_loop_ok (P := fun (v10 : Int32 × (Nat → Int32)) => eRun G X 40 [some (.ref 39), some (.ref 35), some (.int v5.1), some (.int v10.1)] [] h [(40, o40 q1.1 q1.2.1), (41, o41 v10.2)] nx 0 0) (K := fun (x11 : (Nat → Int32)) => eRun G X 97 [some (.ref 39), some (.ref 35), some (.int v5.1), none] [] h [(40, o40 q1.1 q1.2.1), (41, o41 x11)] nx 0 0) ?_ e_fuel (0, v5.2) x11 hx12 ?_ : _)
        · intro v10 z hz ih hx
          refine r_iload_n F dX1_build_40 rfl ?_
          refine r_aload_n F dX1_build_41 rfl ?_
          refine r_get F dX1_build_42 flX1_44 h35 rfl (e_le rfl) (e_lt hnx rfl) ?_
          refine r_iconst F dX1_build_45 (v := 2) (by decide) ?_
          refine r_iload_n F dX1_build_46 rfl ?_
          refine r_imul F dX1_build_47 ?_
          obtain ⟨hg, hz⟩ := e_gd hz
          refine r_iald F dX1_build_48 (i := ((2 : Int32) * v5.1)) h37 (e_le rfl) (e_lt hnx rfl) (e_vp hg) ?_
          refine r_icmp_gt F dX1_build_49 (tgt := 97) (by decide) (fun hc => ?_) (fun hc => ?_)
          · have hz := e_t hc hz
            refine r_drop 3 (L' := [some (.ref 39), some (.ref 35), some (.int v5.1), none]) rfl ?_
            obtain rfl := Option.some.inj hz
            exact hx v10.2 rfl
          · have hz := e_f hc hz
            refine r_aload_n F dX1_build_52 rfl ?_
            refine r_get F dX1_build_53 flX1_12 h39 rfl (e_le rfl) (e_lt hnx rfl) ?_
            refine r_iload_n F dX1_build_56 rfl ?_
            refine r_aload_n F dX1_build_57 rfl ?_
            refine r_get F dX1_build_58 flX1_44 h35 rfl (e_le rfl) (e_lt hnx rfl) ?_
            refine r_iconst F dX1_build_61 (v := 2) (by decide) ?_
            refine r_iload_n F dX1_build_62 rfl ?_
            refine r_imul F dX1_build_63 ?_
            refine r_iconst F dX1_build_64 (v := 1) (by decide) ?_
            refine r_iadd F dX1_build_65 ?_
            obtain ⟨hg, hz⟩ := e_gd hz
            refine r_iald F dX1_build_66 (i := (((2 : Int32) * v5.1) + 1)) h37 (e_le rfl) (e_lt hnx rfl) (e_vp hg) ?_
            refine r_iconst F dX1_build_67 (v := 1) (by decide) ?_
            refine r_aload_n F dX1_build_68 rfl ?_
            refine r_get F dX1_build_69 flX1_47 h35 rfl (e_le rfl) (e_lt hnx rfl) ?_
            refine r_iconst F dX1_build_72 (v := 2) (by decide) ?_
            refine r_iload_n F dX1_build_73 rfl ?_
            refine r_imul F dX1_build_74 ?_
            obtain ⟨hg, hz⟩ := e_gd hz
            refine r_iald F dX1_build_75 (i := ((2 : Int32) * v5.1)) h38 (e_le rfl) (e_lt hnx rfl) (e_vp hg) ?_
            refine r_ineg F dX1_build_76 ?_
            refine r_aload_n F dX1_build_77 rfl ?_
            refine r_get F dX1_build_78 flX1_47 h35 rfl (e_le rfl) (e_lt hnx rfl) ?_
            refine r_iconst F dX1_build_81 (v := 2) (by decide) ?_
            refine r_iload_n F dX1_build_82 rfl ?_
            refine r_imul F dX1_build_83 ?_
            refine r_iconst F dX1_build_84 (v := 1) (by decide) ?_
            refine r_iadd F dX1_build_85 ?_
            obtain ⟨hg, hz⟩ := e_gd hz
            refine r_iald F dX1_build_86 (i := (((2 : Int32) * v5.1) + 1)) h38 (e_le rfl) (e_lt hnx rfl) (e_vp hg) ?_
            refine r_ineg F dX1_build_87 ?_
            obtain ⟨q13, hq14, hz⟩ := e_bd hz
            refine r_callV F dX1_build_88 (b := 40) (dc := 0) (ds := 0) (As := [.int v10.1, .int (A37 (tn (((2 : Int32) * v5.1) + 1))), .int 1, .int ((0 : Int32) - (A38 (tn ((2 : Int32) * v5.1)))), .int ((0 : Int32) - (A38 (tn (((2 : Int32) * v5.1) + 1))))]) (S0 := []) lkX1_50 mX7_addTo (tX7_addTo_40 hG (la := x_l X) (h := e_up h [(40, o40 q1.1 q1.2.1), (41, o41 v10.2)]) hnx rfl rfl hq14) rfl rfl rfl (e_le rfl) (e_le rfl) (e_le rfl) rfl (ci := 7) e_cl7.1 rfl (e_le rfl) (e_lt hnx rfl) (Nat.zero_le _) (Nat.zero_le _) (e_k ?_)
            refine r_wr (l' := [(40, o40 q1.1 q1.2.1), (41, o41 q13)]) rfl rfl ?_
            refine r_inc F dX1_build_91 (k9 := 1) (by decide) rfl (L' := [some (.ref 39), some (.ref 35), some (.int v5.1), some (.int (v10.1 + 1))]) rfl ?_
            refine r_goto F dX1_build_94 (tgt := 40) (by decide) ?_
            obtain rfl := Option.some.inj hz
            exact ih (v10.1 + 1, q13) rfl
        · show eRun G X 97 [some (.ref 39), some (.ref 35), some (.int v5.1), none] [] h [(40, o40 q1.1 q1.2.1), (41, o41 x11)] nx 0 0
          refine r_inc F dX1_build_97 (k9 := 1) (by decide) rfl (L' := [some (.ref 39), some (.ref 35), some (.int (v5.1 + 1)), none]) rfl ?_
          refine r_goto F dX1_build_100 (tgt := 17) (by decide) ?_
          obtain rfl := Option.some.inj hz
          exact ih (v5.1 + 1, x11) rfl
  · show eRun G X 103 [some (.ref 39), none, none, none] [] h [(40, o40 q1.1 q1.2.1), (41, o41 x6)] nx 0 0
    refine r_aload_n F dX1_build_103 rfl ?_
    refine r_get F dX1_build_104 flX1_21 h39 rfl (e_le rfl) (e_lt hnx rfl) ?_
    refine r_aload_n F dX1_build_107 rfl ?_
    refine r_get F dX1_build_108 flX1_12 h39 rfl (e_le rfl) (e_lt hnx rfl) ?_
    obtain ⟨q15, hq16, hf⟩ := e_bd hf
    refine r_callV F dX1_build_111 (b := 42) (dc := 0) (ds := 0) (As := [.ref 40]) (S0 := []) lkX1_54 mX0_find (tX0_find_42_40 hG (la := x_l X) (h := e_up h [(40, o40 q1.1 q1.2.1), (41, o41 x6)]) hnx rfl rfl h42 h43 h44 hq16) rfl rfl rfl (e_le rfl) (e_le rfl) (e_le rfl) h42 (ci := 0) e_cl0.1 rfl (e_le rfl) (e_lt hnx rfl) (Nat.zero_le _) (Nat.zero_le _) (e_k ?_)
    refine r_wr (l' := [(40, o40 q1.1 q1.2.1), (41, o41 x6), (42, o42 q15.1), (43, o43 q15.2.1), (44, o44 q15.2.2)]) rfl rfl ?_
    obtain rfl := Option.some.inj hf
    exact r_vret F hq dX1_build_114 rfl rfl (Nat.le_refl _) (Nat.le_refl _) ⟨rfl, rfl⟩

def fX11_text (a32_8 : Bool) (a32_10 : Bool) (a33_1 : Int32) (a35_1 : Int32) (a35_2 : Int32) (a35_3 : Int32) (a35_4 : Int32) (a35_5 : Int32) (a35_7 : Bool) (a35_8 : Bool) (a35_9 : Bool) (a35_10 : Int32) (a40_0 : Int32) (a40_1 : Int32) (a42_0 : Int32) (a54_1 : Int32) (a56_2 : Int32) (A34 : Nat → Int32) (A36 : Nat → Int32) (A37 : Nat → Int32) (A38 : Nat → Int32) (A41 : Nat → Int32) (A43 : Nat → Int32) (A44 : Nat → Int32) (A53 : Nat → Int32)  : Option (Int32 × Bool × Bool × Int32 × Int32 × Int32 × Int32 × Int32 × Int32 × Bool × Bool × Bool × Int32 × Int32 × Int32 × Int32 × Int32 × Int32 × (Nat → Int32) × (Nat → Int32) × (Nat → Int32) × (Nat → Int32) × (Nat → Int32) × (Nat → Int32) × (Nat → Int32)) :=
  (fX5_read a33_1 a35_1 a35_2 a35_3 a35_4 a35_5 a35_7 a35_8 a35_9 a35_10 A34 A36 A37 A38).bind (fun q1 =>
  if q1.1 = (-1) then
    (fX1_build q1.2.2.2.2.1 q1.2.2.2.2.2.1 q1.2.2.2.2.2.2.2.2.2.1 a40_0 a40_1 a42_0 q1.2.2.2.2.2.2.2.2.2.2.2.1 q1.2.2.2.2.2.2.2.2.2.2.2.2 A41 A43 A44).bind (fun q3 =>
    (fX4_forget a56_2).bind (fun q5 =>
    some (q3.2.2.1, false, false, 0, q1.2.1, q1.2.2.1, q1.2.2.2.1, q1.2.2.2.2.1, q1.2.2.2.2.2.1, q1.2.2.2.2.2.2.1, q1.2.2.2.2.2.2.2.1, q1.2.2.2.2.2.2.2.2.1, q1.2.2.2.2.2.2.2.2.2.1, q3.1, q3.2.1, q3.2.2.1, 0, q5, q1.2.2.2.2.2.2.2.2.2.2.1, q1.2.2.2.2.2.2.2.2.2.2.2.1, q1.2.2.2.2.2.2.2.2.2.2.2.2, q3.2.2.2.1, q3.2.2.2.2.1, q3.2.2.2.2.2, va_cpy q1.2.2.2.2.2.2.2.2.2.2.1 A53 (tn 0) (tn 0) (tn 4))))
  else
    some ((-1), a32_8, a32_10, a33_1, q1.2.1, q1.2.2.1, q1.2.2.2.1, q1.2.2.2.2.1, q1.2.2.2.2.2.1, q1.2.2.2.2.2.2.1, q1.2.2.2.2.2.2.2.1, q1.2.2.2.2.2.2.2.2.1, q1.2.2.2.2.2.2.2.2.2.1, a40_0, a40_1, a42_0, a54_1, a56_2, q1.2.2.2.2.2.2.2.2.2.2.1, q1.2.2.2.2.2.2.2.2.2.2.2.1, q1.2.2.2.2.2.2.2.2.2.2.2.2, A41, A43, A44, A53))
set_option maxRecDepth 100000 in
theorem tX11_text_32 {G : eG} (hG : e_GS G) {la : Launch} {h : Nat → eO} {nx : Nat} (hnx : 99 ≤ nx) {a32_8 : Bool} {a32_10 : Bool} {a33_1 : Int32} {A34 : Nat → Int32} {a35_1 : Int32} {a35_2 : Int32} {a35_3 : Int32} {a35_4 : Int32} {a35_5 : Int32} {a35_7 : Bool} {a35_8 : Bool} {a35_9 : Bool} {a35_10 : Int32} {A36 : Nat → Int32} {A37 : Nat → Int32} {A38 : Nat → Int32} {a40_0 : Int32} {a40_1 : Int32} {A41 : Nat → Int32} {a42_0 : Int32} {A43 : Nat → Int32} {A44 : Nat → Int32} {A53 : Nat → Int32} {a54_1 : Int32} {a56_1 : Int32} {a56_2 : Int32}  (h32 : h 32 = o32 a32_8 a32_10) (h33 : h 33 = o33 a33_1) (h34 : h 34 = o34 A34) (h35 : h 35 = o35 a35_1 a35_2 a35_3 a35_4 a35_5 a35_7 a35_8 a35_9 a35_10) (h36 : h 36 = o36 A36) (h37 : h 37 = o37 A37) (h38 : h 38 = o38 A38) (h39 : h 39 = o39) (h40 : h 40 = o40 a40_0 a40_1) (h41 : h 41 = o41 A41) (h42 : h 42 = o42 a42_0) (h43 : h 43 = o43 A43) (h44 : h 44 = o44 A44) (h53 : h 53 = o53 A53) (h54 : h 54 = o54 a54_1) (h56 : h 56 = o56 a56_1 a56_2) {R9 : Int32 × Bool × Bool × Int32 × Int32 × Int32 × Int32 × Int32 × Int32 × Bool × Bool × Bool × Int32 × Int32 × Int32 × Int32 × Int32 × Int32 × (Nat → Int32) × (Nat → Int32) × (Nat → Int32) × (Nat → Int32) × (Nat → Int32) × (Nat → Int32) × (Nat → Int32)} (hf : fX11_text a32_8 a32_10 a33_1 a35_1 a35_2 a35_3 a35_4 a35_5 a35_7 a35_8 a35_9 a35_10 a40_0 a40_1 a42_0 a54_1 a56_2 A34 A36 A37 A38 A41 A43 A44 A53  = some R9) :
    eSem G la MX11_text [.ref 32] h nx 0 0 (fun r9 h9 => r9 = some (.int R9.1) ∧ h9 = e_up h [(32, o32 R9.2.1 R9.2.2.1), (33, o33 R9.2.2.2.1), (35, o35 R9.2.2.2.2.1 R9.2.2.2.2.2.1 R9.2.2.2.2.2.2.1 R9.2.2.2.2.2.2.2.1 R9.2.2.2.2.2.2.2.2.1 R9.2.2.2.2.2.2.2.2.2.1 R9.2.2.2.2.2.2.2.2.2.2.1 R9.2.2.2.2.2.2.2.2.2.2.2.1 R9.2.2.2.2.2.2.2.2.2.2.2.2.1), (36, o36 R9.2.2.2.2.2.2.2.2.2.2.2.2.2.2.2.2.2.2.1), (37, o37 R9.2.2.2.2.2.2.2.2.2.2.2.2.2.2.2.2.2.2.2.1), (38, o38 R9.2.2.2.2.2.2.2.2.2.2.2.2.2.2.2.2.2.2.2.2.1), (40, o40 R9.2.2.2.2.2.2.2.2.2.2.2.2.2.1 R9.2.2.2.2.2.2.2.2.2.2.2.2.2.2.1), (41, o41 R9.2.2.2.2.2.2.2.2.2.2.2.2.2.2.2.2.2.2.2.2.2.1), (42, o42 R9.2.2.2.2.2.2.2.2.2.2.2.2.2.2.2.1), (43, o43 R9.2.2.2.2.2.2.2.2.2.2.2.2.2.2.2.2.2.2.2.2.2.2.1), (44, o44 R9.2.2.2.2.2.2.2.2.2.2.2.2.2.2.2.2.2.2.2.2.2.2.2.1), (53, o53 R9.2.2.2.2.2.2.2.2.2.2.2.2.2.2.2.2.2.2.2.2.2.2.2.2), (54, o54 R9.2.2.2.2.2.2.2.2.2.2.2.2.2.2.2.2.1), (56, o56 a56_1 R9.2.2.2.2.2.2.2.2.2.2.2.2.2.2.2.2.2.1)]) := by
  refine eSem.of (k := 0) (L := [some (.ref 32)]) (by decide +kernel) rfl rfl (fun X F hxl hq hcR hsR => ?_)
  subst hxl
  unfold fX11_text at hf
  refine r_aload_n F dX11_text_0 rfl ?_
  refine r_get F dX11_text_1 flX11_21 h32 rfl (e_le rfl) (e_lt hnx rfl) ?_
  obtain ⟨q1, hq2, hf⟩ := e_bd hf
  refine r_callV F dX11_text_4 (b := 35) (dc := 0) (ds := 0) (As := []) (S0 := []) lkX11_99 mX5_read (tX5_read_35 hG (la := x_l X) (h := e_up h []) hnx h33 h34 h35 h36 h37 h38 hq2) rfl rfl rfl (e_le rfl) (e_le rfl) (e_le rfl) h35 (ci := 5) e_cl5.1 rfl (e_le rfl) (e_lt hnx rfl) (Nat.zero_le _) (Nat.zero_le _) (e_k ?_)
  refine r_wr (l' := [(35, o35 q1.2.1 q1.2.2.1 q1.2.2.2.1 q1.2.2.2.2.1 q1.2.2.2.2.2.1 q1.2.2.2.2.2.2.1 q1.2.2.2.2.2.2.2.1 q1.2.2.2.2.2.2.2.2.1 q1.2.2.2.2.2.2.2.2.2.1), (36, o36 q1.2.2.2.2.2.2.2.2.2.2.1), (37, o37 q1.2.2.2.2.2.2.2.2.2.2.2.1), (38, o38 q1.2.2.2.2.2.2.2.2.2.2.2.2)]) rfl rfl ?_
  refine r_iconst F dX11_text_7 (v := (-1)) (by decide) ?_
  refine r_icmp_eq F dX11_text_8 (tgt := 13) (by decide) (fun hc => ?_) (fun hc => ?_)
  · have hf := e_t hc hf
    refine r_aload_n F dX11_text_13 rfl ?_
    refine r_get F dX11_text_14 flX11_10 h32 rfl (e_le rfl) (e_lt hnx rfl) ?_
    refine r_iconst F dX11_text_17 (v := 0) (by decide) ?_
    refine r_put F dX11_text_18 flX11_91 rfl rfl rfl h33 (e_le rfl) (e_le rfl) (e_lt hnx rfl) (l' := [(33, o33 0), (35, o35 q1.2.1 q1.2.2.1 q1.2.2.2.1 q1.2.2.2.2.1 q1.2.2.2.2.2.1 q1.2.2.2.2.2.2.1 q1.2.2.2.2.2.2.2.1 q1.2.2.2.2.2.2.2.2.1 q1.2.2.2.2.2.2.2.2.2.1), (36, o36 q1.2.2.2.2.2.2.2.2.2.2.1), (37, o37 q1.2.2.2.2.2.2.2.2.2.2.2.1), (38, o38 q1.2.2.2.2.2.2.2.2.2.2.2.2)]) rfl ?_
    refine r_aload_n F dX11_text_21 rfl ?_
    refine r_get F dX11_text_22 flX11_28 h32 rfl (e_le rfl) (e_lt hnx rfl) ?_
    refine r_aload_n F dX11_text_25 rfl ?_
    refine r_get F dX11_text_26 flX11_21 h32 rfl (e_le rfl) (e_lt hnx rfl) ?_
    obtain ⟨q3, hq4, hf⟩ := e_bd hf
    refine r_callV F dX11_text_29 (b := 39) (dc := 0) (ds := 0) (As := [.ref 35]) (S0 := []) lkX11_103 mX1_build (tX1_build_39_35 hG (la := x_l X) (h := e_up h [(33, o33 0), (35, o35 q1.2.1 q1.2.2.1 q1.2.2.2.1 q1.2.2.2.2.1 q1.2.2.2.2.2.1 q1.2.2.2.2.2.2.1 q1.2.2.2.2.2.2.2.1 q1.2.2.2.2.2.2.2.2.1 q1.2.2.2.2.2.2.2.2.2.1), (36, o36 q1.2.2.2.2.2.2.2.2.2.2.1), (37, o37 q1.2.2.2.2.2.2.2.2.2.2.2.1), (38, o38 q1.2.2.2.2.2.2.2.2.2.2.2.2)]) hnx rfl rfl rfl h39 h40 h41 h42 h43 h44 hq4) rfl rfl rfl (e_le rfl) (e_le rfl) (e_le rfl) h39 (ci := 1) e_cl1.1 rfl (e_le rfl) (e_lt hnx rfl) (Nat.zero_le _) (Nat.zero_le _) (e_k ?_)
    refine r_wr (l' := [(33, o33 0), (35, o35 q1.2.1 q1.2.2.1 q1.2.2.2.1 q1.2.2.2.2.1 q1.2.2.2.2.2.1 q1.2.2.2.2.2.2.1 q1.2.2.2.2.2.2.2.1 q1.2.2.2.2.2.2.2.2.1 q1.2.2.2.2.2.2.2.2.2.1), (36, o36 q1.2.2.2.2.2.2.2.2.2.2.1), (37, o37 q1.2.2.2.2.2.2.2.2.2.2.2.1), (38, o38 q1.2.2.2.2.2.2.2.2.2.2.2.2), (40, o40 q3.1 q3.2.1), (41, o41 q3.2.2.2.1), (42, o42 q3.2.2.1), (43, o43 q3.2.2.2.2.1), (44, o44 q3.2.2.2.2.2)]) rfl rfl ?_
    refine r_aload_n F dX11_text_32 rfl ?_
    refine r_get F dX11_text_33 flX11_21 h32 rfl (e_le rfl) (e_lt hnx rfl) ?_
    refine r_get F dX11_text_36 flX11_107 rfl rfl (e_le rfl) (e_lt hnx rfl) ?_
    refine r_iconst F dX11_text_39 (v := 0) (by decide) ?_
    refine r_aload_n F dX11_text_40 rfl ?_
    refine r_get F dX11_text_41 flX11_35 h32 rfl (e_le rfl) (e_lt hnx rfl) ?_
    refine r_iconst F dX11_text_44 (v := 0) (by decide) ?_
    refine r_aload_n F dX11_text_45 rfl ?_
    refine r_get F dX11_text_46 flX11_35 h32 rfl (e_le rfl) (e_lt hnx rfl) ?_
    refine r_alen F dX11_text_49 h53 (e_le rfl) (e_lt hnx rfl) (v := 4) rfl ?_
    refine r_copy F dX11_text_50 lnX11_108 k_an k_as k_ai rfl (e_le rfl) (e_lt hnx rfl) h53 (e_le rfl) (e_lt hnx rfl) (by decide) (by decide) (by decide) (by decide) (by decide) rfl (e_le rfl) (e_le rfl) (by decide) (l' := [(33, o33 0), (35, o35 q1.2.1 q1.2.2.1 q1.2.2.2.1 q1.2.2.2.2.1 q1.2.2.2.2.2.1 q1.2.2.2.2.2.2.1 q1.2.2.2.2.2.2.2.1 q1.2.2.2.2.2.2.2.2.1 q1.2.2.2.2.2.2.2.2.2.1), (36, o36 q1.2.2.2.2.2.2.2.2.2.2.1), (37, o37 q1.2.2.2.2.2.2.2.2.2.2.2.1), (38, o38 q1.2.2.2.2.2.2.2.2.2.2.2.2), (40, o40 q3.1 q3.2.1), (41, o41 q3.2.2.2.1), (42, o42 q3.2.2.1), (43, o43 q3.2.2.2.2.1), (44, o44 q3.2.2.2.2.2), (53, o53 (va_cpy q1.2.2.2.2.2.2.2.2.2.2.1 A53 (tn 0) (tn 0) (tn 4)))]) rfl ?_
    refine r_aload_n F dX11_text_53 rfl ?_
    refine r_get F dX11_text_54 flX11_42 h32 rfl (e_le rfl) (e_lt hnx rfl) ?_
    refine r_iconst F dX11_text_57 (v := 0) (by decide) ?_
    refine r_put F dX11_text_58 flX11_114 rfl rfl rfl h54 (e_le rfl) (e_le rfl) (e_lt hnx rfl) (l' := [(33, o33 0), (35, o35 q1.2.1 q1.2.2.1 q1.2.2.2.1 q1.2.2.2.2.1 q1.2.2.2.2.2.1 q1.2.2.2.2.2.2.1 q1.2.2.2.2.2.2.2.1 q1.2.2.2.2.2.2.2.2.1 q1.2.2.2.2.2.2.2.2.2.1), (36, o36 q1.2.2.2.2.2.2.2.2.2.2.1), (37, o37 q1.2.2.2.2.2.2.2.2.2.2.2.1), (38, o38 q1.2.2.2.2.2.2.2.2.2.2.2.2), (40, o40 q3.1 q3.2.1), (41, o41 q3.2.2.2.1), (42, o42 q3.2.2.1), (43, o43 q3.2.2.2.2.1), (44, o44 q3.2.2.2.2.2), (53, o53 (va_cpy q1.2.2.2.2.2.2.2.2.2.2.1 A53 (tn 0) (tn 0) (tn 4))), (54, o54 0)]) rfl ?_
    refine r_aload_n F dX11_text_61 rfl ?_
    refine r_get F dX11_text_62 flX11_49 h32 rfl (e_le rfl) (e_lt hnx rfl) ?_
    obtain ⟨q5, hq6, hf⟩ := e_bd hf
    refine r_callV F dX11_text_65 (b := 56) (dc := 0) (ds := 0) (As := []) (S0 := []) lkX11_117 mX4_forget (tX4_forget_56 hG (la := x_l X) (h := e_up h [(33, o33 0), (35, o35 q1.2.1 q1.2.2.1 q1.2.2.2.1 q1.2.2.2.2.1 q1.2.2.2.2.2.1 q1.2.2.2.2.2.2.1 q1.2.2.2.2.2.2.2.1 q1.2.2.2.2.2.2.2.2.1 q1.2.2.2.2.2.2.2.2.2.1), (36, o36 q1.2.2.2.2.2.2.2.2.2.2.1), (37, o37 q1.2.2.2.2.2.2.2.2.2.2.2.1), (38, o38 q1.2.2.2.2.2.2.2.2.2.2.2.2), (40, o40 q3.1 q3.2.1), (41, o41 q3.2.2.2.1), (42, o42 q3.2.2.1), (43, o43 q3.2.2.2.2.1), (44, o44 q3.2.2.2.2.2), (53, o53 (va_cpy q1.2.2.2.2.2.2.2.2.2.2.1 A53 (tn 0) (tn 0) (tn 4))), (54, o54 0)]) hnx h56 hq6) rfl rfl rfl (e_le rfl) (e_le rfl) (e_le rfl) h56 (ci := 4) e_cl4.1 rfl (e_le rfl) (e_lt hnx rfl) (Nat.zero_le _) (Nat.zero_le _) (e_k ?_)
    refine r_wr (l' := [(33, o33 0), (35, o35 q1.2.1 q1.2.2.1 q1.2.2.2.1 q1.2.2.2.2.1 q1.2.2.2.2.2.1 q1.2.2.2.2.2.2.1 q1.2.2.2.2.2.2.2.1 q1.2.2.2.2.2.2.2.2.1 q1.2.2.2.2.2.2.2.2.2.1), (36, o36 q1.2.2.2.2.2.2.2.2.2.2.1), (37, o37 q1.2.2.2.2.2.2.2.2.2.2.2.1), (38, o38 q1.2.2.2.2.2.2.2.2.2.2.2.2), (40, o40 q3.1 q3.2.1), (41, o41 q3.2.2.2.1), (42, o42 q3.2.2.1), (43, o43 q3.2.2.2.2.1), (44, o44 q3.2.2.2.2.2), (53, o53 (va_cpy q1.2.2.2.2.2.2.2.2.2.2.1 A53 (tn 0) (tn 0) (tn 4))), (54, o54 0), (56, o56 a56_1 q5)]) rfl rfl ?_
    refine r_aload_n F dX11_text_68 rfl ?_
    refine r_iconst F dX11_text_69 (v := 0) (by decide) ?_
    refine r_put F dX11_text_70 (v := .int (e_b false)) flX11_120 rfl (e_b_nar _) (e_b_fit _) h32 (e_le rfl) (e_le rfl) (e_lt hnx rfl) (l' := [(32, o32 false a32_10), (33, o33 0), (35, o35 q1.2.1 q1.2.2.1 q1.2.2.2.1 q1.2.2.2.2.1 q1.2.2.2.2.2.1 q1.2.2.2.2.2.2.1 q1.2.2.2.2.2.2.2.1 q1.2.2.2.2.2.2.2.2.1 q1.2.2.2.2.2.2.2.2.2.1), (36, o36 q1.2.2.2.2.2.2.2.2.2.2.1), (37, o37 q1.2.2.2.2.2.2.2.2.2.2.2.1), (38, o38 q1.2.2.2.2.2.2.2.2.2.2.2.2), (40, o40 q3.1 q3.2.1), (41, o41 q3.2.2.2.1), (42, o42 q3.2.2.1), (43, o43 q3.2.2.2.2.1), (44, o44 q3.2.2.2.2.2), (53, o53 (va_cpy q1.2.2.2.2.2.2.2.2.2.2.1 A53 (tn 0) (tn 0) (tn 4))), (54, o54 0), (56, o56 a56_1 q5)]) rfl ?_
    refine r_aload_n F dX11_text_73 rfl ?_
    refine r_iconst F dX11_text_74 (v := 0) (by decide) ?_
    refine r_put F dX11_text_75 (v := .int (e_b false)) flX11_124 rfl (e_b_nar _) (e_b_fit _) rfl (e_le rfl) (e_le rfl) (e_lt hnx rfl) (l' := [(32, o32 false false), (33, o33 0), (35, o35 q1.2.1 q1.2.2.1 q1.2.2.2.1 q1.2.2.2.2.1 q1.2.2.2.2.2.1 q1.2.2.2.2.2.2.1 q1.2.2.2.2.2.2.2.1 q1.2.2.2.2.2.2.2.2.1 q1.2.2.2.2.2.2.2.2.2.1), (36, o36 q1.2.2.2.2.2.2.2.2.2.2.1), (37, o37 q1.2.2.2.2.2.2.2.2.2.2.2.1), (38, o38 q1.2.2.2.2.2.2.2.2.2.2.2.2), (40, o40 q3.1 q3.2.1), (41, o41 q3.2.2.2.1), (42, o42 q3.2.2.1), (43, o43 q3.2.2.2.2.1), (44, o44 q3.2.2.2.2.2), (53, o53 (va_cpy q1.2.2.2.2.2.2.2.2.2.2.1 A53 (tn 0) (tn 0) (tn 4))), (54, o54 0), (56, o56 a56_1 q5)]) rfl ?_
    refine r_aload_n F dX11_text_78 rfl ?_
    refine r_get F dX11_text_79 flX11_28 rfl rfl (e_le rfl) (e_lt hnx rfl) ?_
    refine r_get F dX11_text_82 flX11_127 h39 rfl (e_le rfl) (e_lt hnx rfl) ?_
    refine r_get F dX11_text_85 flX11_131 rfl rfl (e_le rfl) (e_lt hnx rfl) ?_
    obtain rfl := Option.some.inj hf
    exact r_iret F hq dX11_text_88 rfl rfl (Nat.le_refl _) (Nat.le_refl _) ⟨rfl, rfl⟩
  · have hf := e_f hc hf
    refine r_iconst F dX11_text_11 (v := (-1)) (by decide) ?_
    refine r_mat (k := 32) h32 (l' := [(32, o32 a32_8 a32_10), (35, o35 q1.2.1 q1.2.2.1 q1.2.2.2.1 q1.2.2.2.2.1 q1.2.2.2.2.2.1 q1.2.2.2.2.2.2.1 q1.2.2.2.2.2.2.2.1 q1.2.2.2.2.2.2.2.2.1 q1.2.2.2.2.2.2.2.2.2.1), (36, o36 q1.2.2.2.2.2.2.2.2.2.2.1), (37, o37 q1.2.2.2.2.2.2.2.2.2.2.2.1), (38, o38 q1.2.2.2.2.2.2.2.2.2.2.2.2)]) rfl ?_
    refine r_mat (k := 33) h33 (l' := [(32, o32 a32_8 a32_10), (33, o33 a33_1), (35, o35 q1.2.1 q1.2.2.1 q1.2.2.2.1 q1.2.2.2.2.1 q1.2.2.2.2.2.1 q1.2.2.2.2.2.2.1 q1.2.2.2.2.2.2.2.1 q1.2.2.2.2.2.2.2.2.1 q1.2.2.2.2.2.2.2.2.2.1), (36, o36 q1.2.2.2.2.2.2.2.2.2.2.1), (37, o37 q1.2.2.2.2.2.2.2.2.2.2.2.1), (38, o38 q1.2.2.2.2.2.2.2.2.2.2.2.2)]) rfl ?_
    refine r_mat (k := 40) h40 (l' := [(32, o32 a32_8 a32_10), (33, o33 a33_1), (35, o35 q1.2.1 q1.2.2.1 q1.2.2.2.1 q1.2.2.2.2.1 q1.2.2.2.2.2.1 q1.2.2.2.2.2.2.1 q1.2.2.2.2.2.2.2.1 q1.2.2.2.2.2.2.2.2.1 q1.2.2.2.2.2.2.2.2.2.1), (36, o36 q1.2.2.2.2.2.2.2.2.2.2.1), (37, o37 q1.2.2.2.2.2.2.2.2.2.2.2.1), (38, o38 q1.2.2.2.2.2.2.2.2.2.2.2.2), (40, o40 a40_0 a40_1)]) rfl ?_
    refine r_mat (k := 41) h41 (l' := [(32, o32 a32_8 a32_10), (33, o33 a33_1), (35, o35 q1.2.1 q1.2.2.1 q1.2.2.2.1 q1.2.2.2.2.1 q1.2.2.2.2.2.1 q1.2.2.2.2.2.2.1 q1.2.2.2.2.2.2.2.1 q1.2.2.2.2.2.2.2.2.1 q1.2.2.2.2.2.2.2.2.2.1), (36, o36 q1.2.2.2.2.2.2.2.2.2.2.1), (37, o37 q1.2.2.2.2.2.2.2.2.2.2.2.1), (38, o38 q1.2.2.2.2.2.2.2.2.2.2.2.2), (40, o40 a40_0 a40_1), (41, o41 A41)]) rfl ?_
    refine r_mat (k := 42) h42 (l' := [(32, o32 a32_8 a32_10), (33, o33 a33_1), (35, o35 q1.2.1 q1.2.2.1 q1.2.2.2.1 q1.2.2.2.2.1 q1.2.2.2.2.2.1 q1.2.2.2.2.2.2.1 q1.2.2.2.2.2.2.2.1 q1.2.2.2.2.2.2.2.2.1 q1.2.2.2.2.2.2.2.2.2.1), (36, o36 q1.2.2.2.2.2.2.2.2.2.2.1), (37, o37 q1.2.2.2.2.2.2.2.2.2.2.2.1), (38, o38 q1.2.2.2.2.2.2.2.2.2.2.2.2), (40, o40 a40_0 a40_1), (41, o41 A41), (42, o42 a42_0)]) rfl ?_
    refine r_mat (k := 43) h43 (l' := [(32, o32 a32_8 a32_10), (33, o33 a33_1), (35, o35 q1.2.1 q1.2.2.1 q1.2.2.2.1 q1.2.2.2.2.1 q1.2.2.2.2.2.1 q1.2.2.2.2.2.2.1 q1.2.2.2.2.2.2.2.1 q1.2.2.2.2.2.2.2.2.1 q1.2.2.2.2.2.2.2.2.2.1), (36, o36 q1.2.2.2.2.2.2.2.2.2.2.1), (37, o37 q1.2.2.2.2.2.2.2.2.2.2.2.1), (38, o38 q1.2.2.2.2.2.2.2.2.2.2.2.2), (40, o40 a40_0 a40_1), (41, o41 A41), (42, o42 a42_0), (43, o43 A43)]) rfl ?_
    refine r_mat (k := 44) h44 (l' := [(32, o32 a32_8 a32_10), (33, o33 a33_1), (35, o35 q1.2.1 q1.2.2.1 q1.2.2.2.1 q1.2.2.2.2.1 q1.2.2.2.2.2.1 q1.2.2.2.2.2.2.1 q1.2.2.2.2.2.2.2.1 q1.2.2.2.2.2.2.2.2.1 q1.2.2.2.2.2.2.2.2.2.1), (36, o36 q1.2.2.2.2.2.2.2.2.2.2.1), (37, o37 q1.2.2.2.2.2.2.2.2.2.2.2.1), (38, o38 q1.2.2.2.2.2.2.2.2.2.2.2.2), (40, o40 a40_0 a40_1), (41, o41 A41), (42, o42 a42_0), (43, o43 A43), (44, o44 A44)]) rfl ?_
    refine r_mat (k := 53) h53 (l' := [(32, o32 a32_8 a32_10), (33, o33 a33_1), (35, o35 q1.2.1 q1.2.2.1 q1.2.2.2.1 q1.2.2.2.2.1 q1.2.2.2.2.2.1 q1.2.2.2.2.2.2.1 q1.2.2.2.2.2.2.2.1 q1.2.2.2.2.2.2.2.2.1 q1.2.2.2.2.2.2.2.2.2.1), (36, o36 q1.2.2.2.2.2.2.2.2.2.2.1), (37, o37 q1.2.2.2.2.2.2.2.2.2.2.2.1), (38, o38 q1.2.2.2.2.2.2.2.2.2.2.2.2), (40, o40 a40_0 a40_1), (41, o41 A41), (42, o42 a42_0), (43, o43 A43), (44, o44 A44), (53, o53 A53)]) rfl ?_
    refine r_mat (k := 54) h54 (l' := [(32, o32 a32_8 a32_10), (33, o33 a33_1), (35, o35 q1.2.1 q1.2.2.1 q1.2.2.2.1 q1.2.2.2.2.1 q1.2.2.2.2.2.1 q1.2.2.2.2.2.2.1 q1.2.2.2.2.2.2.2.1 q1.2.2.2.2.2.2.2.2.1 q1.2.2.2.2.2.2.2.2.2.1), (36, o36 q1.2.2.2.2.2.2.2.2.2.2.1), (37, o37 q1.2.2.2.2.2.2.2.2.2.2.2.1), (38, o38 q1.2.2.2.2.2.2.2.2.2.2.2.2), (40, o40 a40_0 a40_1), (41, o41 A41), (42, o42 a42_0), (43, o43 A43), (44, o44 A44), (53, o53 A53), (54, o54 a54_1)]) rfl ?_
    refine r_mat (k := 56) h56 (l' := [(32, o32 a32_8 a32_10), (33, o33 a33_1), (35, o35 q1.2.1 q1.2.2.1 q1.2.2.2.1 q1.2.2.2.2.1 q1.2.2.2.2.2.1 q1.2.2.2.2.2.2.1 q1.2.2.2.2.2.2.2.1 q1.2.2.2.2.2.2.2.2.1 q1.2.2.2.2.2.2.2.2.2.1), (36, o36 q1.2.2.2.2.2.2.2.2.2.2.1), (37, o37 q1.2.2.2.2.2.2.2.2.2.2.2.1), (38, o38 q1.2.2.2.2.2.2.2.2.2.2.2.2), (40, o40 a40_0 a40_1), (41, o41 A41), (42, o42 a42_0), (43, o43 A43), (44, o44 A44), (53, o53 A53), (54, o54 a54_1), (56, o56 a56_1 a56_2)]) rfl ?_
    obtain rfl := Option.some.inj hf
    exact r_iret F hq dX11_text_12 rfl rfl (Nat.le_refl _) (Nat.le_refl _) ⟨rfl, rfl⟩

def fX10_firstLinkOf (A65 : Nat → Int32) (p0 : Int32) : Option (Int32) :=
  (e_loop (fun (v3 : Int32 × Int32) => (
      if 162 ≤ v3.2 then
        some (.inr (.inl ()))
      else
        if v3.1 < 0 then
          some (.inr (.inl ()))
        else
          e_g (e_in v3.2 162) (
          if (A65 (tn v3.2)) = v3.2 then
            if v3.1 = 0 then
              some (.inr (.inr v3.2))
            else
              some (.inl (v3.1 + (-1), v3.2 + 1))
          else
            some (.inl (v3.1, v3.2 + 1))) : Option ((Int32 × Int32) ⊕ ((Unit) ⊕ (Int32))))) e_fuel (p0, 0)).bind (fun x4 => Sum.elim (fun x4e =>
    some (-1)) (fun r9 => some r9) x4)
set_option maxRecDepth 100000 in
theorem tX10_firstLinkOf_64 {G : eG} (hG : e_GS G) {la : Launch} {h : Nat → eO} {nx : Nat} (hnx : 99 ≤ nx) {A65 : Nat → Int32} {p0 : Int32} (h64 : h 64 = o64) (h65 : h 65 = o65 A65) {R9 : Int32} (hf : fX10_firstLinkOf A65 p0 = some R9) :
    eSem G la MX10_firstLinkOf [.ref 64, .int p0] h nx 0 0 (fun r9 h9 => r9 = some (.int R9) ∧ h9 = h) := by
  refine eSem.of (k := 2) (L := [some (.ref 64), some (.int p0), none, none]) (by decide +kernel) rfl rfl (fun X F hxl hq hcR hsR => ?_)
  subst hxl
  unfold fX10_firstLinkOf at hf
  refine r_iload_n F dX10_firstLinkOf_0 rfl ?_
  refine r_istore_n F dX10_firstLinkOf_1 (e_le rfl) (L' := [some (.ref 64), some (.int p0), some (.int p0), none]) rfl ?_
  refine r_iconst F dX10_firstLinkOf_2 (v := 0) (by decide) ?_
  refine r_istore_n F dX10_firstLinkOf_3 (e_le rfl) (L' := [some (.ref 64), some (.int p0), some (.int p0), some (.int 0)]) rfl ?_
  refine r_drop 1 (L' := [some (.ref 64), none, some (.int p0), some (.int 0)]) rfl ?_
  obtain ⟨x4, hx5, hf⟩ := e_bd hf
  refine (e_loop_ok (P := fun (v3 : Int32 × Int32) => eRun G X 4 [some (.ref 64), none, some (.int v3.1), some (.int v3.2)] [] h [] nx 0 0) (K := fun (x4 : (Unit) ⊕ (Int32)) => Sum.elim (fun x4e => eRun G X 40 [none, none, none, none] [] h [] nx 0 0) (fun r9 => r9 = R9) x4) ?_ e_fuel (p0, 0) x4 hx5 ?_ : _)
  · intro v3 z hz ih hx
    refine r_iload_n F dX10_firstLinkOf_4 rfl ?_
    refine r_sipush F dX10_firstLinkOf_5 (v := 162) (by decide) ?_
    refine r_icmp_ge F dX10_firstLinkOf_8 (tgt := 40) (by decide) (fun hc => ?_) (fun hc => ?_)
    · have hz := e_t hc hz
      refine r_drop 0 (L' := [none, none, some (.int v3.1), some (.int v3.2)]) rfl ?_
      refine r_drop 2 (L' := [none, none, none, some (.int v3.2)]) rfl ?_
      refine r_drop 3 (L' := [none, none, none, none]) rfl ?_
      obtain rfl := Option.some.inj hz
      exact hx (.inl ()) rfl
    · have hz := e_f hc hz
      refine r_iload_n F dX10_firstLinkOf_11 rfl ?_
      refine r_if_lt F dX10_firstLinkOf_12 (tgt := 40) (by decide) (fun hc => ?_) (fun hc => ?_)
      · have hz := e_t hc hz
        refine r_drop 0 (L' := [none, none, some (.int v3.1), some (.int v3.2)]) rfl ?_
        refine r_drop 2 (L' := [none, none, none, some (.int v3.2)]) rfl ?_
        refine r_drop 3 (L' := [none, none, none, none]) rfl ?_
        obtain rfl := Option.some.inj hz
        exact hx (.inl ()) rfl
      · have hz := e_f hc hz
        refine r_aload_n F dX10_firstLinkOf_15 rfl ?_
        refine r_get F dX10_firstLinkOf_16 flX10_11 h64 rfl (e_le rfl) (e_lt hnx rfl) ?_
        refine r_iload_n F dX10_firstLinkOf_19 rfl ?_
        obtain ⟨hg, hz⟩ := e_gd hz
        refine r_iald F dX10_firstLinkOf_20 (i := v3.2) h65 (e_le rfl) (e_lt hnx rfl) (e_vp hg) ?_
        refine r_iload_n F dX10_firstLinkOf_21 rfl ?_
        refine r_icmp_ne F dX10_firstLinkOf_22 (tgt := 34) (by decide) (fun hc => ?_) (fun hc => ?_)
        · have hz := e_f hc hz
          refine r_inc F dX10_firstLinkOf_34 (k9 := 1) (by decide) rfl (L' := [some (.ref 64), none, some (.int v3.1), some (.int (v3.2 + 1))]) rfl ?_
          refine r_goto F dX10_firstLinkOf_37 (tgt := 4) (by decide) ?_
          obtain rfl := Option.some.inj hz
          exact ih (v3.1, v3.2 + 1) rfl
        · have hz := e_t hc hz
          refine r_iload_n F dX10_firstLinkOf_25 rfl ?_
          refine r_if_ne F dX10_firstLinkOf_26 (tgt := 31) (by decide) (fun hc => ?_) (fun hc => ?_)
          · have hz := e_f hc hz
            refine r_inc F dX10_firstLinkOf_31 (k9 := (-1)) (by decide) rfl (L' := [some (.ref 64), none, some (.int (v3.1 + (-1))), some (.int v3.2)]) rfl ?_
            refine r_inc F dX10_firstLinkOf_34 (k9 := 1) (by decide) rfl (L' := [some (.ref 64), none, some (.int (v3.1 + (-1))), some (.int (v3.2 + 1))]) rfl ?_
            refine r_goto F dX10_firstLinkOf_37 (tgt := 4) (by decide) ?_
            obtain rfl := Option.some.inj hz
            exact ih (v3.1 + (-1), v3.2 + 1) rfl
          · have hz := e_t hc hz
            refine r_iload_n F dX10_firstLinkOf_29 rfl ?_
            obtain rfl := Option.some.inj hz
            have e9 := hx (.inr v3.2) rfl
            subst e9
            exact r_iret F hq dX10_firstLinkOf_30 rfl rfl (Nat.le_refl _) (Nat.le_refl _) ⟨rfl, rfl⟩
  · cases x4 with
    | inr r9 => exact Option.some.inj hf
    | inl x4e =>
      simp only [Sum.elim_inl] at hf
      show eRun G X 40 [none, none, none, none] [] h [] nx 0 0
      refine r_iconst F dX10_firstLinkOf_40 (v := (-1)) (by decide) ?_
      obtain rfl := Option.some.inj hf
      exact r_iret F hq dX10_firstLinkOf_41 rfl rfl (Nat.le_refl _) (Nat.le_refl _) ⟨rfl, rfl⟩

def fX10_isBeside (A65 : Nat → Int32) (p0 : Int32) (p1 : Int32) (p2 : Int32) : Option (Bool) :=
  (e_loop (fun (v3 : Int32) => (
      if 4 ≤ v3 then
        some (.inr (.inl ()))
      else
        (fX10_linkBeside p1 p2 v3).bind (fun q6 =>
        (fX10_firstOf A65 q6).bind (fun q8 =>
        if q8 = p0 then
          some (.inr (.inr true))
        else
          some (.inl (v3 + 1)))) : Option ((Int32) ⊕ ((Unit) ⊕ (Bool))))) e_fuel 0).bind (fun x4 => Sum.elim (fun x4e =>
    some false) (fun r9 => some r9) x4)
set_option maxRecDepth 100000 in
theorem tX10_isBeside_64 {G : eG} (hG : e_GS G) {la : Launch} {h : Nat → eO} {nx : Nat} (hnx : 99 ≤ nx) {A65 : Nat → Int32} {p0 : Int32} {p1 : Int32} {p2 : Int32} (h64 : h 64 = o64) (h65 : h 65 = o65 A65) {R9 : Bool} (hf : fX10_isBeside A65 p0 p1 p2 = some R9) :
    eSem G la MX10_isBeside [.ref 64, .int p0, .int p1, .int p2] h nx 0 0 (fun r9 h9 => r9 = some (.int (e_b R9)) ∧ h9 = h) := by
  refine eSem.of (k := 1) (L := [some (.ref 64), some (.int p0), some (.int p1), some (.int p2), none]) (by decide +kernel) rfl rfl (fun X F hxl hq hcR hsR => ?_)
  subst hxl
  unfold fX10_isBeside at hf
  refine r_iconst F dX10_isBeside_0 (v := 0) (by decide) ?_
  refine r_istore F dX10_isBeside_1 (e_le rfl) (L' := [some (.ref 64), some (.int p0), some (.int p1), some (.int p2), some (.int 0)]) rfl ?_
  obtain ⟨x4, hx5, hf⟩ := e_bd hf
  refine (e_loop_ok (P := fun (v3 : Int32) => eRun G X 3 [some (.ref 64), some (.int p0), some (.int p1), some (.int p2), some (.int v3)] [] h [] nx 0 0) (K := fun (x4 : (Unit) ⊕ (Bool)) => Sum.elim (fun x4e => eRun G X 32 [none, none, none, none, none] [] h [] nx 0 0) (fun r9 => r9 = R9) x4) ?_ e_fuel 0 x4 hx5 ?_ : _)
  · intro v3 z hz ih hx
    refine r_iload F dX10_isBeside_3 rfl ?_
    refine r_iconst F dX10_isBeside_5 (v := 4) (by decide) ?_
    refine r_icmp_ge F dX10_isBeside_6 (tgt := 32) (by decide) (fun hc => ?_) (fun hc => ?_)
    · have hz := e_t hc hz
      refine r_drop 0 (L' := [none, some (.int p0), some (.int p1), some (.int p2), some (.int v3)]) rfl ?_
      refine r_drop 1 (L' := [none, none, some (.int p1), some (.int p2), some (.int v3)]) rfl ?_
      refine r_drop 2 (L' := [none, none, none, some (.int p2), some (.int v3)]) rfl ?_
      refine r_drop 3 (L' := [none, none, none, none, some (.int v3)]) rfl ?_
      refine r_drop 4 (L' := [none, none, none, none, none]) rfl ?_
      obtain rfl := Option.some.inj hz
      exact hx (.inl ()) rfl
    · have hz := e_f hc hz
      refine r_aload_n F dX10_isBeside_9 rfl ?_
      refine r_iload_n F dX10_isBeside_10 rfl ?_
      refine r_iload_n F dX10_isBeside_11 rfl ?_
      refine r_iload F dX10_isBeside_12 rfl ?_
      obtain ⟨q6, hq7, hz⟩ := e_bd hz
      refine r_callS F dX10_isBeside_14 (dc := 0) (ds := 0) (As := [.int p1, .int p2, .int v3]) (S0 := [.ref 64]) lkX10_36 mX10_linkBeside (tX10_linkBeside hG (la := x_l X) (h := e_up h []) hnx  hq7) rfl rfl rfl (e_le rfl) (e_le rfl) (e_le rfl) (Nat.zero_le _) (Nat.zero_le _) (e_k ?_)
      refine r_wr0 ?_
      obtain ⟨q8, hq9, hz⟩ := e_bd hz
      refine r_callV F dX10_isBeside_17 (b := 64) (dc := 0) (ds := 0) (As := [.int q6]) (S0 := []) lkX10_39 mX10_firstOf (tX10_firstOf_64 hG (la := x_l X) (h := e_up h []) hnx h64 h65 hq9) rfl rfl rfl (e_le rfl) (e_le rfl) (e_le rfl) h64 (ci := 10) e_cl10.1 rfl (e_le rfl) (e_lt hnx rfl) (Nat.zero_le _) (Nat.zero_le _) (e_k ?_)
      refine r_wr0 ?_
      refine r_iload_n F dX10_isBeside_20 rfl ?_
      refine r_icmp_ne F dX10_isBeside_21 (tgt := 26) (by decide) (fun hc => ?_) (fun hc => ?_)
      · have hz := e_f hc hz
        refine r_inc F dX10_isBeside_26 (k9 := 1) (by decide) rfl (L' := [some (.ref 64), some (.int p0), some (.int p1), some (.int p2), some (.int (v3 + 1))]) rfl ?_
        refine r_goto F dX10_isBeside_29 (tgt := 3) (by decide) ?_
        obtain rfl := Option.some.inj hz
        exact ih (v3 + 1) rfl
      · have hz := e_t hc hz
        refine r_iconst F dX10_isBeside_24 (v := 1) (by decide) ?_
        obtain rfl := Option.some.inj hz
        have e9 := hx (.inr true) rfl
        subst e9
        exact r_zret F hq (v := true) dX10_isBeside_25 rfl rfl (Nat.le_refl _) (Nat.le_refl _) ⟨rfl, rfl⟩
  · cases x4 with
    | inr r9 => exact Option.some.inj hf
    | inl x4e =>
      simp only [Sum.elim_inl] at hf
      show eRun G X 32 [none, none, none, none, none] [] h [] nx 0 0
      refine r_iconst F dX10_isBeside_32 (v := 0) (by decide) ?_
      obtain rfl := Option.some.inj hf
      exact r_zret F hq (v := false) dX10_isBeside_33 rfl rfl (Nat.le_refl _) (Nat.le_refl _) ⟨rfl, rfl⟩

def fX10_coresBeside (a42_0 : Int32) (A43 : Nat → Int32) (A65 : Nat → Int32) (p0 : Int32) : Option (Int32) :=
  (e_loop (fun (v3 : Int32 × Int32) => (
      if a42_0 ≤ v3.2 then
        some (.inr v3.1)
      else
        (fX0_placeOf a42_0 A43 v3.2 0).bind (fun q6 =>
        (fX0_placeOf a42_0 A43 v3.2 1).bind (fun q8 =>
        (fX10_isBeside A65 p0 q6 q8).bind (fun q10 =>
        Option.bind (α := Int32) (
          if q10 = true then
            some (v3.1 + 1)
          else
            some v3.1) (fun q12 =>
        some (.inl (q12, v3.2 + 1)))))) : Option ((Int32 × Int32) ⊕ (Int32)))) e_fuel (0, 0)).bind (fun x4 =>
  some x4)
set_option maxRecDepth 100000 in
theorem tX10_coresBeside_64_42 {G : eG} (hG : e_GS G) {la : Launch} {h : Nat → eO} {nx : Nat} (hnx : 99 ≤ nx) {a42_0 : Int32} {A43 : Nat → Int32} {A65 : Nat → Int32} {p0 : Int32} (h42 : h 42 = o42 a42_0) (h43 : h 43 = o43 A43) (h64 : h 64 = o64) (h65 : h 65 = o65 A65) {R9 : Int32} (hf : fX10_coresBeside a42_0 A43 A65 p0 = some R9) :
    eSem G la MX10_coresBeside [.ref 64, .int p0, .ref 42] h nx 0 0 (fun r9 h9 => r9 = some (.int R9) ∧ h9 = h) := by
  refine eSem.of (k := 2) (L := [some (.ref 64), some (.int p0), some (.ref 42), none, none]) (by decide +kernel) rfl rfl (fun X F hxl hq hcR hsR => ?_)
  subst hxl
  unfold fX10_coresBeside at hf
  refine r_iconst F dX10_coresBeside_0 (v := 0) (by decide) ?_
  refine r_istore_n F dX10_coresBeside_1 (e_le rfl) (L' := [some (.ref 64), some (.int p0), some (.ref 42), some (.int 0), none]) rfl ?_
  refine r_iconst F dX10_coresBeside_2 (v := 0) (by decide) ?_
  refine r_istore F dX10_coresBeside_3 (e_le rfl) (L' := [some (.ref 64), some (.int p0), some (.ref 42), some (.int 0), some (.int 0)]) rfl ?_
  obtain ⟨x4, hx5, hf⟩ := e_bd hf
  refine (e_loop_ok (P := fun (v3 : Int32 × Int32) => eRun G X 5 [some (.ref 64), some (.int p0), some (.ref 42), some (.int v3.1), some (.int v3.2)] [] h [] nx 0 0) (K := fun (x4 : Int32) => eRun G X 45 [none, none, none, some (.int x4), none] [] h [] nx 0 0) ?_ e_fuel (0, 0) x4 hx5 ?_ : _)
  · intro v3 z hz ih hx
    refine r_iload F dX10_coresBeside_5 rfl ?_
    refine r_aload_n F dX10_coresBeside_7 rfl ?_
    refine r_get F dX10_coresBeside_8 flX10_55 h42 rfl (e_le rfl) (e_lt hnx rfl) ?_
    refine r_icmp_ge F dX10_coresBeside_11 (tgt := 45) (by decide) (fun hc => ?_) (fun hc => ?_)
    · have hz := e_t hc hz
      refine r_drop 0 (L' := [none, some (.int p0), some (.ref 42), some (.int v3.1), some (.int v3.2)]) rfl ?_
      refine r_drop 1 (L' := [none, none, some (.ref 42), some (.int v3.1), some (.int v3.2)]) rfl ?_
      refine r_drop 2 (L' := [none, none, none, some (.int v3.1), some (.int v3.2)]) rfl ?_
      refine r_drop 4 (L' := [none, none, none, some (.int v3.1), none]) rfl ?_
      obtain rfl := Option.some.inj hz
      exact hx v3.1 rfl
    · have hz := e_f hc hz
      refine r_aload_n F dX10_coresBeside_14 rfl ?_
      refine r_iload_n F dX10_coresBeside_15 rfl ?_
      refine r_aload_n F dX10_coresBeside_16 rfl ?_
      refine r_iload F dX10_coresBeside_17 rfl ?_
      refine r_iconst F dX10_coresBeside_19 (v := 0) (by decide) ?_
      obtain ⟨q6, hq7, hz⟩ := e_bd hz
      refine r_callV F dX10_coresBeside_20 (b := 42) (dc := 0) (ds := 0) (As := [.int v3.2, .int 0]) (S0 := [.int p0, .ref 64]) lkX10_60 mX0_placeOf (tX0_placeOf_42 hG (la := x_l X) (h := e_up h []) hnx h42 h43 hq7) rfl rfl rfl (e_le rfl) (e_le rfl) (e_le rfl) h42 (ci := 0) e_cl0.1 rfl (e_le rfl) (e_lt hnx rfl) (Nat.zero_le _) (Nat.zero_le _) (e_k ?_)
      refine r_wr0 ?_
      refine r_aload_n F dX10_coresBeside_23 rfl ?_
      refine r_iload F dX10_coresBeside_24 rfl ?_
      refine r_iconst F dX10_coresBeside_26 (v := 1) (by decide) ?_
      obtain ⟨q8, hq9, hz⟩ := e_bd hz
      refine r_callV F dX10_coresBeside_27 (b := 42) (dc := 0) (ds := 0) (As := [.int v3.2, .int 1]) (S0 := [.int q6, .int p0, .ref 64]) lkX10_60 mX0_placeOf (tX0_placeOf_42 hG (la := x_l X) (h := e_up h []) hnx h42 h43 hq9) rfl rfl rfl (e_le rfl) (e_le rfl) (e_le rfl) h42 (ci := 0) e_cl0.1 rfl (e_le rfl) (e_lt hnx rfl) (Nat.zero_le _) (Nat.zero_le _) (e_k ?_)
      refine r_wr0 ?_
      obtain ⟨q10, hq11, hz⟩ := e_bd hz
      refine r_callV F dX10_coresBeside_30 (b := 64) (dc := 0) (ds := 0) (As := [.int p0, .int q6, .int q8]) (S0 := []) lkX10_63 mX10_isBeside (tX10_isBeside_64 hG (la := x_l X) (h := e_up h []) hnx h64 h65 hq11) rfl rfl rfl (e_le rfl) (e_le rfl) (e_le rfl) h64 (ci := 10) e_cl10.1 rfl (e_le rfl) (e_lt hnx rfl) (Nat.zero_le _) (Nat.zero_le _) (e_k ?_)
      refine r_wr0 ?_
      obtain ⟨q12, hq13, hz⟩ := e_bd hz
      have Jq12 : eRun G X 39 [some (.ref 64), some (.int p0), some (.ref 42), some (.int q12), some (.int v3.2)] [] h [] nx 0 0 := by
        refine r_inc F dX10_coresBeside_39 (k9 := 1) (by decide) rfl (L' := [some (.ref 64), some (.int p0), some (.ref 42), some (.int q12), some (.int (v3.2 + 1))]) rfl ?_
        refine r_goto F dX10_coresBeside_42 (tgt := 5) (by decide) ?_
        obtain rfl := Option.some.inj hz
        exact ih (q12, v3.2 + 1) rfl
      refine r_z_eq F dX10_coresBeside_33 (tgt := 39) (by decide) (fun hc => ?_) (fun hc => ?_)
      · have hq13 := e_t hc hq13
        refine r_inc F dX10_coresBeside_36 (k9 := 1) (by decide) rfl (L' := [some (.ref 64), some (.int p0), some (.ref 42), some (.int (v3.1 + 1)), some (.int v3.2)]) rfl ?_
        obtain rfl := Option.some.inj hq13
        exact Jq12
      · have hq13 := e_f hc hq13
        obtain rfl := Option.some.inj hq13
        exact Jq12
  · show eRun G X 45 [none, none, none, some (.int x4), none] [] h [] nx 0 0
    refine r_iload_n F dX10_coresBeside_45 rfl ?_
    obtain rfl := Option.some.inj hf
    exact r_iret F hq dX10_coresBeside_46 rfl rfl (Nat.le_refl _) (Nat.le_refl _) ⟨rfl, rfl⟩

def fX11_wall (a40_0 : Int32) (a40_1 : Int32) (a42_0 : Int32) (A41 : Nat → Int32) (A43 : Nat → Int32) (A65 : Nat → Int32) (p0 : Int32) (p1 : Int32) : Option (Int32 × (Nat → Int32)) :=
  (fX11_isEmpty a40_0).bind (fun q1 =>
  if q1 = true then
    some ((-1), A65)
  else
    if p1 < 0 then
      some ((-1), A65)
    else
      if p1 ≤ 4 then
        (fX10_find a40_0 a40_1 A41 A65).bind (fun q3 =>
        (fX10_firstLinkOf q3 p0).bind (fun q5 =>
        if q5 = (-1) then
          some ((-1), q3)
        else
          if p1 = 0 then
            (fX10_linksOf q3 q5).bind (fun q7 =>
            some (q7, q3))
          else
            if p1 = 1 then
              some ((q5 / 2) - (q5 / 2) / 9 * 9, q3)
            else
              if p1 = 2 then
                some ((q5 / 2) / 9, q3)
              else
                if p1 = 3 then
                  some (q5 - q5 / 2 * 2, q3)
                else
                  (fX10_coresBeside a42_0 A43 q3 q5).bind (fun q9 =>
                  some (q9, q3))))
      else
        some ((-1), A65))
set_option maxRecDepth 100000 in
theorem tX11_wall_32 {G : eG} (hG : e_GS G) {la : Launch} {h : Nat → eO} {nx : Nat} (hnx : 99 ≤ nx) {a32_8 : Bool} {a32_10 : Bool} {a40_0 : Int32} {a40_1 : Int32} {A41 : Nat → Int32} {a42_0 : Int32} {A43 : Nat → Int32} {A65 : Nat → Int32} {p0 : Int32} {p1 : Int32} (h32 : h 32 = o32 a32_8 a32_10) (h39 : h 39 = o39) (h40 : h 40 = o40 a40_0 a40_1) (h41 : h 41 = o41 A41) (h42 : h 42 = o42 a42_0) (h43 : h 43 = o43 A43) (h64 : h 64 = o64) (h65 : h 65 = o65 A65) {R9 : Int32 × (Nat → Int32)} (hf : fX11_wall a40_0 a40_1 a42_0 A41 A43 A65 p0 p1 = some R9) :
    eSem G la MX11_wall [.ref 32, .int p0, .int p1] h nx 0 0 (fun r9 h9 => r9 = some (.int R9.1) ∧ h9 = e_up h [(65, o65 R9.2)]) := by
  refine eSem.of (k := 1) (L := [some (.ref 32), some (.int p0), some (.int p1), none]) (by decide +kernel) rfl rfl (fun X F hxl hq hcR hsR => ?_)
  subst hxl
  unfold fX11_wall at hf
  refine r_aload_n F dX11_wall_0 rfl ?_
  obtain ⟨q1, hq2, hf⟩ := e_bd hf
  refine r_callV F dX11_wall_1 (b := 32) (dc := 0) (ds := 0) (As := []) (S0 := []) lkX11_136 mX11_isEmpty (tX11_isEmpty_32 hG (la := x_l X) (h := e_up h []) hnx h32 h39 h40 hq2) rfl rfl rfl (e_le rfl) (e_le rfl) (e_le rfl) h32 (ci := 11) e_cl11.1 rfl (e_le rfl) (e_lt hnx rfl) (Nat.zero_le _) (Nat.zero_le _) (e_k ?_)
  refine r_wr0 ?_
  refine r_z_ne F dX11_wall_4 (tgt := 16) (by decide) (fun hc => ?_) (fun hc => ?_)
  · have hf := e_t hc hf
    refine r_iconst F dX11_wall_16 (v := (-1)) (by decide) ?_
    refine r_mat (k := 65) h65 (l' := [(65, o65 A65)]) rfl ?_
    obtain rfl := Option.some.inj hf
    exact r_iret F hq dX11_wall_17 rfl rfl (Nat.le_refl _) (Nat.le_refl _) ⟨rfl, rfl⟩
  · have hf := e_f hc hf
    refine r_iload_n F dX11_wall_7 rfl ?_
    refine r_if_lt F dX11_wall_8 (tgt := 16) (by decide) (fun hc => ?_) (fun hc => ?_)
    · have hf := e_t hc hf
      refine r_iconst F dX11_wall_16 (v := (-1)) (by decide) ?_
      refine r_mat (k := 65) h65 (l' := [(65, o65 A65)]) rfl ?_
      obtain rfl := Option.some.inj hf
      exact r_iret F hq dX11_wall_17 rfl rfl (Nat.le_refl _) (Nat.le_refl _) ⟨rfl, rfl⟩
    · have hf := e_f hc hf
      refine r_iload_n F dX11_wall_11 rfl ?_
      refine r_iconst F dX11_wall_12 (v := 4) (by decide) ?_
      refine r_icmp_le F dX11_wall_13 (tgt := 18) (by decide) (fun hc => ?_) (fun hc => ?_)
      · have hf := e_t hc hf
        refine r_aload_n F dX11_wall_18 rfl ?_
        refine r_get F dX11_wall_19 flX11_76 h32 rfl (e_le rfl) (e_lt hnx rfl) ?_
        refine r_aload_n F dX11_wall_22 rfl ?_
        refine r_get F dX11_wall_23 flX11_28 h32 rfl (e_le rfl) (e_lt hnx rfl) ?_
        refine r_get F dX11_wall_26 flX11_141 h39 rfl (e_le rfl) (e_lt hnx rfl) ?_
        obtain ⟨q3, hq4, hf⟩ := e_bd hf
        refine r_callV F dX11_wall_29 (b := 64) (dc := 0) (ds := 0) (As := [.ref 40]) (S0 := []) lkX11_162 mX10_find (tX10_find_64_40 hG (la := x_l X) (h := e_up h []) hnx h40 h41 h64 h65 hq4) rfl rfl rfl (e_le rfl) (e_le rfl) (e_le rfl) h64 (ci := 10) e_cl10.1 rfl (e_le rfl) (e_lt hnx rfl) (Nat.zero_le _) (Nat.zero_le _) (e_k ?_)
        refine r_wr (l' := [(65, o65 q3)]) rfl rfl ?_
        refine r_aload_n F dX11_wall_32 rfl ?_
        refine r_get F dX11_wall_33 flX11_76 h32 rfl (e_le rfl) (e_lt hnx rfl) ?_
        refine r_iload_n F dX11_wall_36 rfl ?_
        obtain ⟨q5, hq6, hf⟩ := e_bd hf
        refine r_callV F dX11_wall_37 (b := 64) (dc := 0) (ds := 0) (As := [.int p0]) (S0 := []) lkX11_305 mX10_firstLinkOf (tX10_firstLinkOf_64 hG (la := x_l X) (h := e_up h [(65, o65 q3)]) hnx h64 rfl hq6) rfl rfl rfl (e_le rfl) (e_le rfl) (e_le rfl) h64 (ci := 10) e_cl10.1 rfl (e_le rfl) (e_lt hnx rfl) (Nat.zero_le _) (Nat.zero_le _) (e_k ?_)
        refine r_wr0 ?_
        refine r_istore_n F dX11_wall_40 (e_le rfl) (L' := [some (.ref 32), some (.int p0), some (.int p1), some (.int q5)]) rfl ?_
        refine r_iload_n F dX11_wall_41 rfl ?_
        refine r_iconst F dX11_wall_42 (v := (-1)) (by decide) ?_
        refine r_icmp_ne F dX11_wall_43 (tgt := 48) (by decide) (fun hc => ?_) (fun hc => ?_)
        · have hf := e_f hc hf
          refine r_iload_n F dX11_wall_48 rfl ?_
          refine Classical.byCases (p := p1 = 0) (fun hc => ?_) (fun hk0 => ?_)
          · have hf := e_t hc hf
            refine r_tsIn F dX11_wall_49 (by rw [hc]; decide) (by rw [hc]; decide) (off := 31) (by rw [hc]; decide) (tgt := 80) (by decide) ?_
            refine r_aload_n F dX11_wall_80 rfl ?_
            refine r_get F dX11_wall_81 flX11_76 h32 rfl (e_le rfl) (e_lt hnx rfl) ?_
            refine r_iload_n F dX11_wall_84 rfl ?_
            obtain ⟨q7, hq8, hf⟩ := e_bd hf
            refine r_callV F dX11_wall_85 (b := 64) (dc := 0) (ds := 0) (As := [.int q5]) (S0 := []) lkX11_308 mX10_linksOf (tX10_linksOf_64 hG (la := x_l X) (h := e_up h [(65, o65 q3)]) hnx h64 rfl hq8) rfl rfl rfl (e_le rfl) (e_le rfl) (e_le rfl) h64 (ci := 10) e_cl10.1 rfl (e_le rfl) (e_lt hnx rfl) (Nat.zero_le _) (Nat.zero_le _) (e_k ?_)
            refine r_wr0 ?_
            obtain rfl := Option.some.inj hf
            exact r_iret F hq dX11_wall_88 rfl rfl (Nat.le_refl _) (Nat.le_refl _) ⟨rfl, rfl⟩
          have hf := e_f hk0 hf
          refine Classical.byCases (p := p1 = 1) (fun hc => ?_) (fun hk1 => ?_)
          · have hf := e_t hc hf
            refine r_tsIn F dX11_wall_49 (by rw [hc]; decide) (by rw [hc]; decide) (off := 40) (by rw [hc]; decide) (tgt := 89) (by decide) ?_
            refine r_iload_n F dX11_wall_89 rfl ?_
            refine r_iconst F dX11_wall_90 (v := 2) (by decide) ?_
            refine r_idiv F dX11_wall_91 (by decide) ?_
            refine r_bipush F dX11_wall_92 (v := 9) (by decide) ?_
            refine r_irem F dX11_wall_94 (by decide) ?_
            obtain rfl := Option.some.inj hf
            exact r_iret F hq dX11_wall_95 rfl rfl (Nat.le_refl _) (Nat.le_refl _) ⟨rfl, rfl⟩
          have hf := e_f hk1 hf
          refine Classical.byCases (p := p1 = 2) (fun hc => ?_) (fun hk2 => ?_)
          · have hf := e_t hc hf
            refine r_tsIn F dX11_wall_49 (by rw [hc]; decide) (by rw [hc]; decide) (off := 47) (by rw [hc]; decide) (tgt := 96) (by decide) ?_
            refine r_iload_n F dX11_wall_96 rfl ?_
            refine r_iconst F dX11_wall_97 (v := 2) (by decide) ?_
            refine r_idiv F dX11_wall_98 (by decide) ?_
            refine r_bipush F dX11_wall_99 (v := 9) (by decide) ?_
            refine r_idiv F dX11_wall_101 (by decide) ?_
            obtain rfl := Option.some.inj hf
            exact r_iret F hq dX11_wall_102 rfl rfl (Nat.le_refl _) (Nat.le_refl _) ⟨rfl, rfl⟩
          have hf := e_f hk2 hf
          refine Classical.byCases (p := p1 = 3) (fun hc => ?_) (fun hk3 => ?_)
          · have hf := e_t hc hf
            refine r_tsIn F dX11_wall_49 (by rw [hc]; decide) (by rw [hc]; decide) (off := 54) (by rw [hc]; decide) (tgt := 103) (by decide) ?_
            refine r_iload_n F dX11_wall_103 rfl ?_
            refine r_iconst F dX11_wall_104 (v := 2) (by decide) ?_
            refine r_irem F dX11_wall_105 (by decide) ?_
            obtain rfl := Option.some.inj hf
            exact r_iret F hq dX11_wall_106 rfl rfl (Nat.le_refl _) (Nat.le_refl _) ⟨rfl, rfl⟩
          have hf := e_f hk3 hf
          refine r_tsOut F dX11_wall_49 (e_out4 hk0 hk1 hk2 hk3) (tgt := 107) (by decide) ?_
          refine r_aload_n F dX11_wall_107 rfl ?_
          refine r_get F dX11_wall_108 flX11_76 h32 rfl (e_le rfl) (e_lt hnx rfl) ?_
          refine r_iload_n F dX11_wall_111 rfl ?_
          refine r_aload_n F dX11_wall_112 rfl ?_
          refine r_get F dX11_wall_113 flX11_28 h32 rfl (e_le rfl) (e_lt hnx rfl) ?_
          refine r_get F dX11_wall_116 flX11_127 h39 rfl (e_le rfl) (e_lt hnx rfl) ?_
          obtain ⟨q9, hq10, hf⟩ := e_bd hf
          refine r_callV F dX11_wall_119 (b := 64) (dc := 0) (ds := 0) (As := [.int q5, .ref 42]) (S0 := []) lkX11_311 mX10_coresBeside (tX10_coresBeside_64_42 hG (la := x_l X) (h := e_up h [(65, o65 q3)]) hnx h42 h43 h64 rfl hq10) rfl rfl rfl (e_le rfl) (e_le rfl) (e_le rfl) h64 (ci := 10) e_cl10.1 rfl (e_le rfl) (e_lt hnx rfl) (Nat.zero_le _) (Nat.zero_le _) (e_k ?_)
          refine r_wr0 ?_
          obtain rfl := Option.some.inj hf
          exact r_iret F hq dX11_wall_122 rfl rfl (Nat.le_refl _) (Nat.le_refl _) ⟨rfl, rfl⟩
        · have hf := e_t hc hf
          refine r_iconst F dX11_wall_46 (v := (-1)) (by decide) ?_
          obtain rfl := Option.some.inj hf
          exact r_iret F hq dX11_wall_47 rfl rfl (Nat.le_refl _) (Nat.le_refl _) ⟨rfl, rfl⟩
      · have hf := e_f hc hf
        refine r_iconst F dX11_wall_16 (v := (-1)) (by decide) ?_
        refine r_mat (k := 65) h65 (l' := [(65, o65 A65)]) rfl ?_
        obtain rfl := Option.some.inj hf
        exact r_iret F hq dX11_wall_17 rfl rfl (Nat.le_refl _) (Nat.le_refl _) ⟨rfl, rfl⟩

def fX12_isCrystal (a72_21 : Int32)  : Option (Bool) :=
  if a72_21 ≤ 0 then
    some false
  else
    some true
set_option maxRecDepth 100000 in
theorem tX12_isCrystal_72 {G : eG} (hG : e_GS G) {la : Launch} {h : Nat → eO} {nx : Nat} (hnx : 99 ≤ nx) {a72_0 : Int32} {a72_2 : Int32} {a72_3 : Int32} {a72_4 : Int32} {a72_5 : Int32} {a72_6 : Int32} {a72_7 : Int32} {a72_8 : Bool} {a72_9 : Int32} {a72_10 : Int32} {a72_11 : Int32} {a72_17 : Bool} {a72_18 : Bool} {a72_19 : Bool} {a72_21 : Int32} {a72_22 : Int32} {a72_29 : Int32} {a72_31 : Int32} {a72_35 : Int32} {a72_37 : Bool} {a72_38 : Int32} {a72_39 : Int32} {a72_40 : Int32} {a72_41 : Int64} {a72_44 : Int32} {a72_50 : Bool}  (h72 : h 72 = o72 a72_0 a72_2 a72_3 a72_4 a72_5 a72_6 a72_7 a72_8 a72_9 a72_10 a72_11 a72_17 a72_18 a72_19 a72_21 a72_22 a72_29 a72_31 a72_35 a72_37 a72_38 a72_39 a72_40 a72_41 a72_44 a72_50) {R9 : Bool} (hf : fX12_isCrystal a72_21  = some R9) :
    eSem G la MX12_isCrystal [.ref 72] h nx 0 0 (fun r9 h9 => r9 = some (.int (e_b R9)) ∧ h9 = h) := by
  refine eSem.of (k := 0) (L := [some (.ref 72)]) (by decide +kernel) rfl rfl (fun X F hxl hq hcR hsR => ?_)
  subst hxl
  unfold fX12_isCrystal at hf
  refine r_aload_n F dX12_isCrystal_0 rfl ?_
  refine r_get F dX12_isCrystal_1 flX12_205 h72 rfl (e_le rfl) (e_lt hnx rfl) ?_
  refine r_if_le F dX12_isCrystal_4 (tgt := 11) (by decide) (fun hc => ?_) (fun hc => ?_)
  · have hf := e_t hc hf
    refine r_iconst F dX12_isCrystal_11 (v := 0) (by decide) ?_
    obtain rfl := Option.some.inj hf
    exact r_zret F hq (v := false) dX12_isCrystal_12 rfl rfl (Nat.le_refl _) (Nat.le_refl _) ⟨rfl, rfl⟩
  · have hf := e_f hc hf
    refine r_iconst F dX12_isCrystal_7 (v := 1) (by decide) ?_
    refine r_goto F dX12_isCrystal_8 (tgt := 12) (by decide) ?_
    obtain rfl := Option.some.inj hf
    exact r_zret F hq (v := true) dX12_isCrystal_12 rfl rfl (Nat.le_refl _) (Nat.le_refl _) ⟨rfl, rfl⟩

def fX12_in  (p0 : Int64) (p1 : Int64) (p2 : Int64) : Option (Bool) :=
  if (lg_cmp p0 p1) < 0 then
    some false
  else
    if 0 < (lg_cmp p0 p2) then
      some false
    else
      some true
set_option maxRecDepth 100000 in
theorem tX12_in {G : eG} (hG : e_GS G) {la : Launch} {h : Nat → eO} {nx : Nat} (hnx : 99 ≤ nx)  {p0 : Int64} {p1 : Int64} {p2 : Int64}  {R9 : Bool} (hf : fX12_in  p0 p1 p2 = some R9) :
    eSem G la MX12_in [.long p0, .long p1, .long p2] h nx 0 0 (fun r9 h9 => r9 = some (.int (e_b R9)) ∧ h9 = h) := by
  refine eSem.of (k := 0) (L := [some (.long p0), none, some (.long p1), none, some (.long p2), none]) (by decide +kernel) rfl rfl (fun X F hxl hq hcR hsR => ?_)
  subst hxl
  unfold fX12_in at hf
  refine r_lload_n F dX12_in_0 rfl ?_
  refine r_lload_n F dX12_in_1 rfl ?_
  refine r_lcmp F dX12_in_2 ?_
  refine r_if_lt F dX12_in_3 (tgt := 17) (by decide) (fun hc => ?_) (fun hc => ?_)
  · have hf := e_t hc hf
    refine r_iconst F dX12_in_17 (v := 0) (by decide) ?_
    obtain rfl := Option.some.inj hf
    exact r_zret F hq (v := false) dX12_in_18 rfl rfl (Nat.le_refl _) (Nat.le_refl _) ⟨rfl, rfl⟩
  · have hf := e_f hc hf
    refine r_lload_n F dX12_in_6 rfl ?_
    refine r_lload F dX12_in_7 rfl ?_
    refine r_lcmp F dX12_in_9 ?_
    refine r_if_gt F dX12_in_10 (tgt := 17) (by decide) (fun hc => ?_) (fun hc => ?_)
    · have hf := e_t hc hf
      refine r_iconst F dX12_in_17 (v := 0) (by decide) ?_
      obtain rfl := Option.some.inj hf
      exact r_zret F hq (v := false) dX12_in_18 rfl rfl (Nat.le_refl _) (Nat.le_refl _) ⟨rfl, rfl⟩
    · have hf := e_f hc hf
      refine r_iconst F dX12_in_13 (v := 1) (by decide) ?_
      refine r_goto F dX12_in_14 (tgt := 18) (by decide) ?_
      obtain rfl := Option.some.inj hf
      exact r_zret F hq (v := true) dX12_in_18 rfl rfl (Nat.le_refl _) (Nat.le_refl _) ⟨rfl, rfl⟩

def fX12_putAside (A79 : Nat → Int32) (A96 : Nat → Int32)  : Option ((Nat → Int32)) :=
  (e_loop (fun (v3 : Int32 × (Nat → Int32)) => (
      if 486 ≤ v3.1 then
        some (.inr v3.2)
      else
        e_g (e_in v3.1 486) (
        e_g (e_in v3.1 486) (
        some (.inl (v3.1 + 1, upd v3.2 (tn v3.1) (A79 (tn v3.1)))))) : Option ((Int32 × (Nat → Int32)) ⊕ ((Nat → Int32))))) e_fuel (0, A96)).bind (fun x4 =>
  some x4)
set_option maxRecDepth 100000 in
theorem tX12_putAside_72 {G : eG} (hG : e_GS G) {la : Launch} {h : Nat → eO} {nx : Nat} (hnx : 99 ≤ nx) {a72_0 : Int32} {a72_2 : Int32} {a72_3 : Int32} {a72_4 : Int32} {a72_5 : Int32} {a72_6 : Int32} {a72_7 : Int32} {a72_8 : Bool} {a72_9 : Int32} {a72_10 : Int32} {a72_11 : Int32} {a72_17 : Bool} {a72_18 : Bool} {a72_19 : Bool} {a72_21 : Int32} {a72_22 : Int32} {a72_29 : Int32} {a72_31 : Int32} {a72_35 : Int32} {a72_37 : Bool} {a72_38 : Int32} {a72_39 : Int32} {a72_40 : Int32} {a72_41 : Int64} {a72_44 : Int32} {a72_50 : Bool} {A79 : Nat → Int32} {A96 : Nat → Int32}  (h72 : h 72 = o72 a72_0 a72_2 a72_3 a72_4 a72_5 a72_6 a72_7 a72_8 a72_9 a72_10 a72_11 a72_17 a72_18 a72_19 a72_21 a72_22 a72_29 a72_31 a72_35 a72_37 a72_38 a72_39 a72_40 a72_41 a72_44 a72_50) (h79 : h 79 = o79 A79) (h96 : h 96 = o96 A96) {R9 : (Nat → Int32)} (hf : fX12_putAside A79 A96  = some R9) :
    eSem G la MX12_putAside [.ref 72] h nx 0 0 (fun r9 h9 => r9 = none ∧ h9 = e_up h [(96, o96 R9)]) := by
  refine eSem.of (k := 1) (L := [some (.ref 72), none]) (by decide +kernel) rfl rfl (fun X F hxl hq hcR hsR => ?_)
  subst hxl
  unfold fX12_putAside at hf
  refine r_iconst F dX12_putAside_0 (v := 0) (by decide) ?_
  refine r_istore_n F dX12_putAside_1 (e_le rfl) (L' := [some (.ref 72), some (.int 0)]) rfl ?_
  refine r_mat (k := 96) h96 (l' := [(96, o96 A96)]) rfl ?_
  obtain ⟨x4, hx5, hf⟩ := e_bd hf
  refine (e_loop_ok (P := fun (v3 : Int32 × (Nat → Int32)) => eRun G X 2 [some (.ref 72), some (.int v3.1)] [] h [(96, o96 v3.2)] nx 0 0) (K := fun (x4 : (Nat → Int32)) => eRun G X 27 [none, none] [] h [(96, o96 x4)] nx 0 0) ?_ e_fuel (0, A96) x4 hx5 ?_ : _)
  · intro v3 z hz ih hx
    refine r_iload_n F dX12_putAside_2 rfl ?_
    refine r_sipush F dX12_putAside_3 (v := 486) (by decide) ?_
    refine r_icmp_ge F dX12_putAside_6 (tgt := 27) (by decide) (fun hc => ?_) (fun hc => ?_)
    · have hz := e_t hc hz
      refine r_drop 0 (L' := [none, some (.int v3.1)]) rfl ?_
      refine r_drop 1 (L' := [none, none]) rfl ?_
      obtain rfl := Option.some.inj hz
      exact hx v3.2 rfl
    · have hz := e_f hc hz
      refine r_aload_n F dX12_putAside_9 rfl ?_
      refine r_get F dX12_putAside_10 flX12_80 h72 rfl (e_le rfl) (e_lt hnx rfl) ?_
      refine r_iload_n F dX12_putAside_13 rfl ?_
      refine r_aload_n F dX12_putAside_14 rfl ?_
      refine r_get F dX12_putAside_15 flX12_28 h72 rfl (e_le rfl) (e_lt hnx rfl) ?_
      refine r_iload_n F dX12_putAside_18 rfl ?_
      obtain ⟨hg, hz⟩ := e_gd hz
      refine r_iald F dX12_putAside_19 (i := v3.1) h79 (e_le rfl) (e_lt hnx rfl) (e_vp hg) ?_
      obtain ⟨hg, hz⟩ := e_gd hz
      refine r_iast F dX12_putAside_20 rfl (e_le rfl) (e_lt hnx rfl) (e_vp hg) (l' := [(96, o96 (upd v3.2 (tn v3.1) (A79 (tn v3.1))))]) rfl ?_
      refine r_inc F dX12_putAside_21 (k9 := 1) (by decide) rfl (L' := [some (.ref 72), some (.int (v3.1 + 1))]) rfl ?_
      refine r_goto F dX12_putAside_24 (tgt := 2) (by decide) ?_
      obtain rfl := Option.some.inj hz
      exact ih (v3.1 + 1, upd v3.2 (tn v3.1) (A79 (tn v3.1))) rfl
  · show eRun G X 27 [none, none] [] h [(96, o96 x4)] nx 0 0
    obtain rfl := Option.some.inj hf
    exact r_vret F hq dX12_putAside_27 rfl rfl (Nat.le_refl _) (Nat.le_refl _) ⟨rfl, rfl⟩

def fX12_counts (a72_38 : Int32) (a72_39 : Int32) (a72_40 : Int32)  : Option (Int32 × Int32 × Int32) :=
  some (0, 0, 0)
set_option maxRecDepth 100000 in
theorem tX12_counts_72 {G : eG} (hG : e_GS G) {la : Launch} {h : Nat → eO} {nx : Nat} (hnx : 99 ≤ nx) {a72_0 : Int32} {a72_2 : Int32} {a72_3 : Int32} {a72_4 : Int32} {a72_5 : Int32} {a72_6 : Int32} {a72_7 : Int32} {a72_8 : Bool} {a72_9 : Int32} {a72_10 : Int32} {a72_11 : Int32} {a72_17 : Bool} {a72_18 : Bool} {a72_19 : Bool} {a72_21 : Int32} {a72_22 : Int32} {a72_29 : Int32} {a72_31 : Int32} {a72_35 : Int32} {a72_37 : Bool} {a72_38 : Int32} {a72_39 : Int32} {a72_40 : Int32} {a72_41 : Int64} {a72_44 : Int32} {a72_50 : Bool}  (h72 : h 72 = o72 a72_0 a72_2 a72_3 a72_4 a72_5 a72_6 a72_7 a72_8 a72_9 a72_10 a72_11 a72_17 a72_18 a72_19 a72_21 a72_22 a72_29 a72_31 a72_35 a72_37 a72_38 a72_39 a72_40 a72_41 a72_44 a72_50) {R9 : Int32 × Int32 × Int32} (hf : fX12_counts a72_38 a72_39 a72_40  = some R9) :
    eSem G la MX12_counts [.ref 72] h nx 0 0 (fun r9 h9 => r9 = none ∧ h9 = e_up h [(72, o72 a72_0 a72_2 a72_3 a72_4 a72_5 a72_6 a72_7 a72_8 a72_9 a72_10 a72_11 a72_17 a72_18 a72_19 a72_21 a72_22 a72_29 a72_31 a72_35 a72_37 R9.1 R9.2.1 R9.2.2 a72_41 a72_44 a72_50)]) := by
  refine eSem.of (k := 0) (L := [some (.ref 72)]) (by decide +kernel) rfl rfl (fun X F hxl hq hcR hsR => ?_)
  subst hxl
  unfold fX12_counts at hf
  refine r_aload_n F dX12_counts_0 rfl ?_
  refine r_iconst F dX12_counts_1 (v := 0) (by decide) ?_
  refine r_put F dX12_counts_2 flX12_376 rfl rfl rfl h72 (e_le rfl) (e_le rfl) (e_lt hnx rfl) (l' := [(72, o72 a72_0 a72_2 a72_3 a72_4 a72_5 a72_6 a72_7 a72_8 a72_9 a72_10 a72_11 a72_17 a72_18 a72_19 a72_21 a72_22 a72_29 a72_31 a72_35 a72_37 0 a72_39 a72_40 a72_41 a72_44 a72_50)]) rfl ?_
  refine r_aload_n F dX12_counts_5 rfl ?_
  refine r_iconst F dX12_counts_6 (v := 0) (by decide) ?_
  refine r_put F dX12_counts_7 flX12_379 rfl rfl rfl rfl (e_le rfl) (e_le rfl) (e_lt hnx rfl) (l' := [(72, o72 a72_0 a72_2 a72_3 a72_4 a72_5 a72_6 a72_7 a72_8 a72_9 a72_10 a72_11 a72_17 a72_18 a72_19 a72_21 a72_22 a72_29 a72_31 a72_35 a72_37 0 0 a72_40 a72_41 a72_44 a72_50)]) rfl ?_
  refine r_aload_n F dX12_counts_10 rfl ?_
  refine r_iconst F dX12_counts_11 (v := 0) (by decide) ?_
  refine r_put F dX12_counts_12 flX12_382 rfl rfl rfl rfl (e_le rfl) (e_le rfl) (e_lt hnx rfl) (l' := [(72, o72 a72_0 a72_2 a72_3 a72_4 a72_5 a72_6 a72_7 a72_8 a72_9 a72_10 a72_11 a72_17 a72_18 a72_19 a72_21 a72_22 a72_29 a72_31 a72_35 a72_37 0 0 0 a72_41 a72_44 a72_50)]) rfl ?_
  obtain rfl := Option.some.inj hf
  exact r_vret F hq dX12_counts_15 rfl rfl (Nat.le_refl _) (Nat.le_refl _) ⟨rfl, rfl⟩

def fX12_linkAt  (p0 : Int32) (p1 : Int32) (p2 : Bool) (p3 : Int32) : Option (Int32) :=
  if p2 = true then
    some ((((4 : Int32) * (((9 : Int32) * p1) + p0)) + 2) + p3)
  else
    some ((((4 : Int32) * (((9 : Int32) * p1) + p0)) + 0) + p3)
set_option maxRecDepth 100000 in
theorem tX12_linkAt {G : eG} (hG : e_GS G) {la : Launch} {h : Nat → eO} {nx : Nat} (hnx : 99 ≤ nx)  {p0 : Int32} {p1 : Int32} {p2 : Bool} {p3 : Int32}  {R9 : Int32} (hf : fX12_linkAt  p0 p1 p2 p3 = some R9) :
    eSem G la MX12_linkAt [.int p0, .int p1, .int (e_b p2), .int p3] h nx 0 0 (fun r9 h9 => r9 = some (.int R9) ∧ h9 = h) := by
  refine eSem.of (k := 0) (L := [some (.int p0), some (.int p1), some (.int (e_b p2)), some (.int p3)]) (by decide +kernel) rfl rfl (fun X F hxl hq hcR hsR => ?_)
  subst hxl
  unfold fX12_linkAt at hf
  refine r_iconst F dX12_linkAt_0 (v := 4) (by decide) ?_
  refine r_bipush F dX12_linkAt_1 (v := 9) (by decide) ?_
  refine r_iload_n F dX12_linkAt_3 rfl ?_
  refine r_imul F dX12_linkAt_4 ?_
  refine r_iload_n F dX12_linkAt_5 rfl ?_
  refine r_iadd F dX12_linkAt_6 ?_
  refine r_imul F dX12_linkAt_7 ?_
  refine r_iload_n F dX12_linkAt_8 rfl ?_
  refine r_z_eq F dX12_linkAt_9 (tgt := 16) (by decide) (fun hc => ?_) (fun hc => ?_)
  · have hf := e_t hc hf
    refine r_iconst F dX12_linkAt_12 (v := 2) (by decide) ?_
    refine r_goto F dX12_linkAt_13 (tgt := 17) (by decide) ?_
    refine r_iadd F dX12_linkAt_17 ?_
    refine r_iload_n F dX12_linkAt_18 rfl ?_
    refine r_iadd F dX12_linkAt_19 ?_
    obtain rfl := Option.some.inj hf
    exact r_iret F hq dX12_linkAt_20 rfl rfl (Nat.le_refl _) (Nat.le_refl _) ⟨rfl, rfl⟩
  · have hf := e_f hc hf
    refine r_iconst F dX12_linkAt_16 (v := 0) (by decide) ?_
    refine r_iadd F dX12_linkAt_17 ?_
    refine r_iload_n F dX12_linkAt_18 rfl ?_
    refine r_iadd F dX12_linkAt_19 ?_
    obtain rfl := Option.some.inj hf
    exact r_iret F hq dX12_linkAt_20 rfl rfl (Nat.le_refl _) (Nat.le_refl _) ⟨rfl, rfl⟩

def fX12_step (A79 : Nat → Int32) (p0 : Int32) (p1 : Int32) (p2 : Bool) (p3 : Int32) : Option (Int32) :=
  (fX12_linkAt p0 p1 p2 p3).bind (fun q1 =>
  e_g (e_in q1 486) (
  some (A79 (tn q1))))
set_option maxRecDepth 100000 in
theorem tX12_step_72 {G : eG} (hG : e_GS G) {la : Launch} {h : Nat → eO} {nx : Nat} (hnx : 99 ≤ nx) {a72_0 : Int32} {a72_2 : Int32} {a72_3 : Int32} {a72_4 : Int32} {a72_5 : Int32} {a72_6 : Int32} {a72_7 : Int32} {a72_8 : Bool} {a72_9 : Int32} {a72_10 : Int32} {a72_11 : Int32} {a72_17 : Bool} {a72_18 : Bool} {a72_19 : Bool} {a72_21 : Int32} {a72_22 : Int32} {a72_29 : Int32} {a72_31 : Int32} {a72_35 : Int32} {a72_37 : Bool} {a72_38 : Int32} {a72_39 : Int32} {a72_40 : Int32} {a72_41 : Int64} {a72_44 : Int32} {a72_50 : Bool} {A79 : Nat → Int32} {p0 : Int32} {p1 : Int32} {p2 : Bool} {p3 : Int32} (h72 : h 72 = o72 a72_0 a72_2 a72_3 a72_4 a72_5 a72_6 a72_7 a72_8 a72_9 a72_10 a72_11 a72_17 a72_18 a72_19 a72_21 a72_22 a72_29 a72_31 a72_35 a72_37 a72_38 a72_39 a72_40 a72_41 a72_44 a72_50) (h79 : h 79 = o79 A79) {R9 : Int32} (hf : fX12_step A79 p0 p1 p2 p3 = some R9) :
    eSem G la MX12_step [.ref 72, .int p0, .int p1, .int (e_b p2), .int p3] h nx 0 0 (fun r9 h9 => r9 = some (.int R9) ∧ h9 = h) := by
  refine eSem.of (k := 0) (L := [some (.ref 72), some (.int p0), some (.int p1), some (.int (e_b p2)), some (.int p3)]) (by decide +kernel) rfl rfl (fun X F hxl hq hcR hsR => ?_)
  subst hxl
  unfold fX12_step at hf
  refine r_aload_n F dX12_step_0 rfl ?_
  refine r_get F dX12_step_1 flX12_28 h72 rfl (e_le rfl) (e_lt hnx rfl) ?_
  refine r_iload_n F dX12_step_4 rfl ?_
  refine r_iload_n F dX12_step_5 rfl ?_
  refine r_iload_n F dX12_step_6 rfl ?_
  refine r_iload F dX12_step_7 rfl ?_
  obtain ⟨q1, hq2, hf⟩ := e_bd hf
  refine r_callS F dX12_step_9 (dc := 0) (ds := 0) (As := [.int p0, .int p1, .int (e_b p2), .int p3]) (S0 := [.ref 79]) lkX12_211 mX12_linkAt (tX12_linkAt hG (la := x_l X) (h := e_up h []) hnx  hq2) rfl rfl rfl (e_le rfl) (e_le rfl) (e_le rfl) (Nat.zero_le _) (Nat.zero_le _) (e_k ?_)
  refine r_wr0 ?_
  obtain ⟨hg, hf⟩ := e_gd hf
  refine r_iald F dX12_step_12 (i := q1) h79 (e_le rfl) (e_lt hnx rfl) (e_vp hg) ?_
  obtain rfl := Option.some.inj hf
  exact r_iret F hq dX12_step_13 rfl rfl (Nat.le_refl _) (Nat.le_refl _) ⟨rfl, rfl⟩
