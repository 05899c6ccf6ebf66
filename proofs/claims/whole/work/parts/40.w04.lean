def fX11_shake (a40_0 : Int32) (a40_1 : Int32) (a42_0 : Int32) (a54_1 : Int32) (a56_1 : Int32) (a56_2 : Int32) (A41 : Nat → Int32) (A43 : Nat → Int32) (A44 : Nat → Int32) (A45 : Nat → Int32) (A55 : Nat → Int32) (A57 : Nat → Option Nat) (A62 : Nat → Int32) (SS : eSS) (p0 : Int32) (p1 : Int64) (nx : Nat) : Option (Int32 × Int32 × Int32 × Int32 × (Nat → Int32) × (Nat → Int32) × (Nat → Int32) × (Nat → Int32) × (Nat → Option Nat) × (Nat → Int32) × eSS × Nat) :=
  (fX11_isEmpty a40_0).bind (fun q1 =>
  if q1 = true then
    (fX11_refuse A62 0).bind (fun q3 =>
    some (q3.1, a42_0, a56_1, a56_2, A41, A43, A44, A45, A57, q3.2, SS, 0))
  else
    if p0 < 1 then
      (fX11_refuse A62 2).bind (fun q5 =>
      some (q5.1, a42_0, a56_1, a56_2, A41, A43, A44, A45, A57, q5.2, SS, 0))
    else
      if p0 ≤ 60 then
        (f_rem A57 SS a56_1 a56_2 A41 A55 a54_1 nx).bind (fun q7 =>
        (e_loop (fun (v11 : Int32 × Int64 × Int32 × Int32 × (Nat → Int32) × (Nat → Int32) × (Nat → Int32) × (Nat → Int32)) => (
            if p0 ≤ v11.2.2.1 then
              some (.inr (v11.1, v11.2.2.2.1, v11.2.2.2.2.1, v11.2.2.2.2.2.1, v11.2.2.2.2.2.2.1, v11.2.2.2.2.2.2.2))
            else
              if v11.2.2.2.1 ≤ 0 then
                some (.inr (v11.1, v11.2.2.2.1, v11.2.2.2.2.1, v11.2.2.2.2.2.1, v11.2.2.2.2.2.2.1, v11.2.2.2.2.2.2.2))
              else
                (fX11_nextState v11.2.1).bind (fun q14 =>
                (fX11_drawOf q14 v11.2.2.2.1).bind (fun q16 =>
                (fX11_nextState q14).bind (fun q18 =>
                (fX11_drawOf q18 2).bind (fun q20 =>
                Option.bind (α := Bool) (
                  if q20 = 1 then
                    some true
                  else
                    some false) (fun q22 =>
                (fX0_wayOf v11.2.2.2.1 v11.2.2.2.2.2.2.1 q16).bind (fun q24 =>
                Option.bind (α := Int32 × (Nat → Int32) × Int32 × (Nat → Int32) × (Nat → Int32) × (Nat → Int32)) (
                  if q24 = (-1) then
                    some (v11.1, v11.2.2.2.2.1, v11.2.2.2.1, v11.2.2.2.2.2.1, v11.2.2.2.2.2.2.1, v11.2.2.2.2.2.2.2)
                  else
                    (fX1_glide a40_0 a40_1 v11.2.2.2.1 v11.2.2.2.2.1 v11.2.2.2.2.2.1 v11.2.2.2.2.2.2.1 v11.2.2.2.2.2.2.2 q16 q22).bind (fun q28 =>
                    (fX0_find a40_0 a40_1 v11.2.2.2.1 q28.1 v11.2.2.2.2.2.1 v11.2.2.2.2.2.2.1).bind (fun q30 =>
                    some (v11.1 + 1, q28.1, q30.1, q30.2.1, q30.2.2, q28.2)))) (fun q26 =>
                some (.inl (q26.1, q18, v11.2.2.1 + 1, q26.2.2.1, q26.2.1, q26.2.2.2.1, q26.2.2.2.2.1, q26.2.2.2.2.2))))))))) : Option ((Int32 × Int64 × Int32 × Int32 × (Nat → Int32) × (Nat → Int32) × (Nat → Int32) × (Nat → Int32)) ⊕ (Int32 × Int32 × (Nat → Int32) × (Nat → Int32) × (Nat → Int32) × (Nat → Int32))))) e_fuel (0, p1, 0, a42_0, A41, A43, A44, A45)).bind (fun x12 =>
        some (x12.1, x12.2.1, q7.1, q7.2.1, x12.2.2.1, x12.2.2.2.1, x12.2.2.2.2.1, x12.2.2.2.2.2, q7.2.2.1, A62, q7.2.2.2.1, q7.2.2.2.2)))
      else
        (fX11_refuse A62 2).bind (fun q32 =>
        some (q32.1, a42_0, a56_1, a56_2, A41, A43, A44, A45, A57, q32.2, SS, 0)))
set_option maxRecDepth 100000 in
theorem tX11_shake_32 {G : eG} (hG : e_GS G) {la : Launch} {h : Nat → eO} {nx : Nat} (hnx : 99 ≤ nx) {a32_8 : Bool} {a32_10 : Bool} {a40_0 : Int32} {a40_1 : Int32} {A41 : Nat → Int32} {a42_0 : Int32} {A43 : Nat → Int32} {A44 : Nat → Int32} {A45 : Nat → Int32} {a54_1 : Int32} {A55 : Nat → Int32} {a56_1 : Int32} {a56_2 : Int32} {A57 : Nat → Option Nat} {A62 : Nat → Int32} {SS : eSS} {q6 nl : Nat} {LE : Nat → Int32} {p0 : Int32} {p1 : Int64} (h32 : h 32 = o32 a32_8 a32_10) (h39 : h 39 = o39) (h40 : h 40 = o40 a40_0 a40_1) (h41 : h 41 = o41 A41) (h42 : h 42 = o42 a42_0) (h43 : h 43 = o43 A43) (h44 : h 44 = o44 A44) (h45 : h 45 = o45 A45) (h54 : h 54 = o54 a54_1) (h55 : h 55 = o55 A55) (h56 : h 56 = o56 a56_1 a56_2) (h57 : h 57 = o57 A57) (h62 : h 62 = o62 A62) (hdy : e_dyn h nx A57 SS q6 nl LE) {R9 : Int32 × Int32 × Int32 × Int32 × (Nat → Int32) × (Nat → Int32) × (Nat → Int32) × (Nat → Int32) × (Nat → Option Nat) × (Nat → Int32) × eSS × Nat} (hf : fX11_shake a40_0 a40_1 a42_0 a54_1 a56_1 a56_2 A41 A43 A44 A45 A55 A57 A62 SS p0 p1 nx = some R9) :
    eSemB G la MX11_shake [.ref 32, .int p0, .long p1] h nx 3 487 (fun r9 h9 nx9 => r9 = some (.int R9.1) ∧ nx9 = nx + 3 * R9.2.2.2.2.2.2.2.2.2.2.2 ∧ (∀ k, k < 99 → [41, 42, 43, 44, 45, 56, 57, 62].contains k = false → h9 k = h k) ∧ h9 41 = o41 R9.2.2.2.2.1 ∧ h9 42 = o42 R9.2.1 ∧ h9 43 = o43 R9.2.2.2.2.2.1 ∧ h9 44 = o44 R9.2.2.2.2.2.2.1 ∧ h9 45 = o45 R9.2.2.2.2.2.2.2.1 ∧ h9 56 = o56 R9.2.2.1 R9.2.2.2.1 ∧ h9 57 = o57 R9.2.2.2.2.2.2.2.2.1 ∧ h9 62 = o62 R9.2.2.2.2.2.2.2.2.2.1 ∧ e_dyn h9 nx9 R9.2.2.2.2.2.2.2.2.1 R9.2.2.2.2.2.2.2.2.2.2.1 q6 nl LE) := by
  refine eSemB.of (k := 6) (L := [some (.ref 32), some (.int p0), some (.long p1), none, none, none, none, none, none, none]) (by decide +kernel) rfl rfl (fun X F hxl hq hcR hsR => ?_)
  subst hxl
  unfold fX11_shake at hf
  refine r_aload_n F dX11_shake_0 rfl ?_
  obtain ⟨q1, hq2, hf⟩ := e_bd hf
  refine r_callV F dX11_shake_1 (b := 32) (dc := 0) (ds := 0) (As := []) (S0 := []) lkX11_136 mX11_isEmpty (tX11_isEmpty_32 hG (la := x_l X) (h := e_up h []) hnx h32 h39 h40 hq2) rfl rfl rfl (e_le rfl) (e_le rfl) (e_le rfl) h32 (ci := 11) e_cl11.1 rfl (e_le rfl) (e_lt hnx rfl) (Nat.zero_le _) (Nat.zero_le _) (e_k ?_)
  refine r_wr0 ?_
  refine r_z_eq F dX11_shake_4 (tgt := 13) (by decide) (fun hc => ?_) (fun hc => ?_)
  · have hf := e_t hc hf
    refine r_aload_n F dX11_shake_7 rfl ?_
    refine r_iconst F dX11_shake_8 (v := 0) (by decide) ?_
    obtain ⟨q3, hq4, hf⟩ := e_bd hf
    refine r_callV F dX11_shake_9 (b := 32) (dc := 0) (ds := 0) (As := [.int 0]) (S0 := []) lkX11_243 mX11_refuse (tX11_refuse_32 hG (la := x_l X) (h := e_up h []) hnx h32 h62 hq4) rfl rfl rfl (e_le rfl) (e_le rfl) (e_le rfl) h32 (ci := 11) e_cl11.1 rfl (e_le rfl) (e_lt hnx rfl) (Nat.zero_le _) (Nat.zero_le _) (e_k ?_)
    refine r_wr (l' := [(62, o62 q3.2)]) rfl rfl ?_
    obtain rfl := Option.some.inj hf
    exact r_iretB F hq dX11_shake_12 rfl (Nat.zero_le _) (Nat.zero_le _) ⟨rfl, rfl, e_frm (fun _ _ _ _ => rfl) rfl rfl rfl, h41, h42, h43, h44, h45, h56, h57, rfl, e_dyn.up rfl hdy⟩
  · have hf := e_f hc hf
    refine r_iload_n F dX11_shake_13 rfl ?_
    refine r_iconst F dX11_shake_14 (v := 1) (by decide) ?_
    refine r_icmp_lt F dX11_shake_15 (tgt := 24) (by decide) (fun hc => ?_) (fun hc => ?_)
    · have hf := e_t hc hf
      refine r_aload_n F dX11_shake_24 rfl ?_
      refine r_iconst F dX11_shake_25 (v := 2) (by decide) ?_
      obtain ⟨q5, hq6, hf⟩ := e_bd hf
      refine r_callV F dX11_shake_26 (b := 32) (dc := 0) (ds := 0) (As := [.int 2]) (S0 := []) lkX11_243 mX11_refuse (tX11_refuse_32 hG (la := x_l X) (h := e_up h []) hnx h32 h62 hq6) rfl rfl rfl (e_le rfl) (e_le rfl) (e_le rfl) h32 (ci := 11) e_cl11.1 rfl (e_le rfl) (e_lt hnx rfl) (Nat.zero_le _) (Nat.zero_le _) (e_k ?_)
      refine r_wr (l' := [(62, o62 q5.2)]) rfl rfl ?_
      obtain rfl := Option.some.inj hf
      exact r_iretB F hq dX11_shake_29 rfl (Nat.zero_le _) (Nat.zero_le _) ⟨rfl, rfl, e_frm (fun _ _ _ _ => rfl) rfl rfl rfl, h41, h42, h43, h44, h45, h56, h57, rfl, e_dyn.up rfl hdy⟩
    · have hf := e_f hc hf
      refine r_iload_n F dX11_shake_18 rfl ?_
      refine r_bipush F dX11_shake_19 (v := 60) (by decide) ?_
      refine r_icmp_le F dX11_shake_21 (tgt := 30) (by decide) (fun hc => ?_) (fun hc => ?_)
      · have hf := e_t hc hf
        refine r_aload_n F dX11_shake_30 rfl ?_
        refine r_get F dX11_shake_31 flX11_49 h32 rfl (e_le rfl) (e_lt hnx rfl) ?_
        refine r_aload_n F dX11_shake_34 rfl ?_
        refine r_get F dX11_shake_35 flX11_28 h32 rfl (e_le rfl) (e_lt hnx rfl) ?_
        refine r_get F dX11_shake_38 flX11_141 h39 rfl (e_le rfl) (e_lt hnx rfl) ?_
        refine r_aload_n F dX11_shake_41 rfl ?_
        refine r_get F dX11_shake_42 flX11_42 h32 rfl (e_le rfl) (e_lt hnx rfl) ?_
        obtain ⟨q7, hq8, hf⟩ := e_bd hf
        have hK9 := f_rem_le hq8
        refine r_callV F dX11_shake_45 (b := 56) (dc := 3 * q7.2.2.2.2) (ds := 487 * q7.2.2.2.2) (As := [.ref 40, .ref 54]) (S0 := []) lkX11_250 mX4_remember (t_rem hG (la := x_l X) (h := e_up h []) hnx h40 h41 h54 h55 h56 h57 (e_dyn.up rfl hdy) hq8) rfl rfl rfl (e_le rfl) (e_le rfl) (e_le rfl) h56 (ci := 4) e_cl4.1 rfl (e_le rfl) (e_lt hnx rfl) (by rw [hcR]; omega) (by rw [hsR]; omega) (fun r9 hB p9 => ?_)
        obtain ⟨e9, fr, hB56, hB57, hdyB⟩ := p9
        subst e9
        have h32 := (fr 32 (by decide) (by decide) (by decide)).trans h32
        have h39 := (fr 39 (by decide) (by decide) (by decide)).trans h39
        have h40 := (fr 40 (by decide) (by decide) (by decide)).trans h40
        have h41 := (fr 41 (by decide) (by decide) (by decide)).trans h41
        have h42 := (fr 42 (by decide) (by decide) (by decide)).trans h42
        have h43 := (fr 43 (by decide) (by decide) (by decide)).trans h43
        have h44 := (fr 44 (by decide) (by decide) (by decide)).trans h44
        have h45 := (fr 45 (by decide) (by decide) (by decide)).trans h45
        have h54 := (fr 54 (by decide) (by decide) (by decide)).trans h54
        have h55 := (fr 55 (by decide) (by decide) (by decide)).trans h55
        have h62 := (fr 62 (by decide) (by decide) (by decide)).trans h62
        have h56 := hB56
        have h57 := hB57
        have hnx : 99 ≤ nx + 3 * q7.2.2.2.2 := by omega
        refine r_iconst F dX11_shake_48 (v := 0) (by decide) ?_
        refine r_istore F dX11_shake_49 (e_le rfl) (L' := [some (.ref 32), some (.int p0), some (.long p1), none, some (.int 0), none, none, none, none, none]) rfl ?_
        refine r_lload_n F dX11_shake_51 rfl ?_
        refine r_lstore F dX11_shake_52 (e_le rfl) (L' := [some (.ref 32), some (.int p0), some (.long p1), none, some (.int 0), some (.long p1), none, none, none, none]) rfl ?_
        refine r_iconst F dX11_shake_54 (v := 0) (by decide) ?_
        refine r_istore F dX11_shake_55 (e_le rfl) (L' := [some (.ref 32), some (.int p0), some (.long p1), none, some (.int 0), some (.long p1), none, some (.int 0), none, none]) rfl ?_
        refine r_drop 2 (L' := [some (.ref 32), some (.int p0), none, none, some (.int 0), some (.long p1), none, some (.int 0), none, none]) rfl ?_
        refine r_mat (k := 41) h41 (l' := [(41, o41 A41)]) rfl ?_
        refine r_mat (k := 42) h42 (l' := [(41, o41 A41), (42, o42 a42_0)]) rfl ?_
        refine r_mat (k := 43) h43 (l' := [(41, o41 A41), (42, o42 a42_0), (43, o43 A43)]) rfl ?_
        refine r_mat (k := 44) h44 (l' := [(41, o41 A41), (42, o42 a42_0), (43, o43 A43), (44, o44 A44)]) rfl ?_
        refine r_mat (k := 45) h45 (l' := [(41, o41 A41), (42, o42 a42_0), (43, o43 A43), (44, o44 A44), (45, o45 A45)]) rfl ?_
        obtain ⟨x12, hx13, hf⟩ := e_bd hf
        refine (e_loop_ok (P := fun (v11 : Int32 × Int64 × Int32 × Int32 × (Nat → Int32) × (Nat → Int32) × (Nat → Int32) × (Nat → Int32)) => eRun G X 57 [some (.ref 32), some (.int p0), none, none, some (.int v11.1), some (.long v11.2.1), none, some (.int v11.2.2.1), none, none] [] hB [(41, o41 v11.2.2.2.2.1), (42, o42 v11.2.2.2.1), (43, o43 v11.2.2.2.2.2.1), (44, o44 v11.2.2.2.2.2.2.1), (45, o45 v11.2.2.2.2.2.2.2)] (nx + 3 * q7.2.2.2.2) (0 + 3 * q7.2.2.2.2) (0 + 487 * q7.2.2.2.2)) (K := fun (x12 : Int32 × Int32 × (Nat → Int32) × (Nat → Int32) × (Nat → Int32) × (Nat → Int32)) => eRun G X 177 [none, none, none, none, some (.int x12.1), none, none, none, none, none] [] hB [(41, o41 x12.2.2.1), (42, o42 x12.2.1), (43, o43 x12.2.2.2.1), (44, o44 x12.2.2.2.2.1), (45, o45 x12.2.2.2.2.2)] (nx + 3 * q7.2.2.2.2) (0 + 3 * q7.2.2.2.2) (0 + 487 * q7.2.2.2.2)) ?_ e_fuel (0, p1, 0, a42_0, A41, A43, A44, A45) x12 hx13 ?_ : _)
        · intro v11 z hz ih hx
          refine r_iload F dX11_shake_57 rfl ?_
          refine r_iload_n F dX11_shake_59 rfl ?_
          refine r_icmp_ge F dX11_shake_60 (tgt := 177) (by decide) (fun hc => ?_) (fun hc => ?_)
          · have hz := e_t hc hz
            refine r_drop 0 (L' := [none, some (.int p0), none, none, some (.int v11.1), some (.long v11.2.1), none, some (.int v11.2.2.1), none, none]) rfl ?_
            refine r_drop 1 (L' := [none, none, none, none, some (.int v11.1), some (.long v11.2.1), none, some (.int v11.2.2.1), none, none]) rfl ?_
            refine r_drop 5 (L' := [none, none, none, none, some (.int v11.1), none, none, some (.int v11.2.2.1), none, none]) rfl ?_
            refine r_drop 7 (L' := [none, none, none, none, some (.int v11.1), none, none, none, none, none]) rfl ?_
            obtain rfl := Option.some.inj hz
            exact hx (v11.1, v11.2.2.2.1, v11.2.2.2.2.1, v11.2.2.2.2.2.1, v11.2.2.2.2.2.2.1, v11.2.2.2.2.2.2.2) rfl
          · have hz := e_f hc hz
            refine r_aload_n F dX11_shake_63 rfl ?_
            refine r_get F dX11_shake_64 flX11_28 h32 rfl (e_le rfl) (e_lt hnx rfl) ?_
            refine r_get F dX11_shake_67 flX11_127 h39 rfl (e_le rfl) (e_lt hnx rfl) ?_
            refine r_get F dX11_shake_70 flX11_131 rfl rfl (e_le rfl) (e_lt hnx rfl) ?_
            refine r_if_le F dX11_shake_73 (tgt := 177) (by decide) (fun hc => ?_) (fun hc => ?_)
            · have hz := e_t hc hz
              refine r_drop 0 (L' := [none, some (.int p0), none, none, some (.int v11.1), some (.long v11.2.1), none, some (.int v11.2.2.1), none, none]) rfl ?_
              refine r_drop 1 (L' := [none, none, none, none, some (.int v11.1), some (.long v11.2.1), none, some (.int v11.2.2.1), none, none]) rfl ?_
              refine r_drop 5 (L' := [none, none, none, none, some (.int v11.1), none, none, some (.int v11.2.2.1), none, none]) rfl ?_
              refine r_drop 7 (L' := [none, none, none, none, some (.int v11.1), none, none, none, none, none]) rfl ?_
              obtain rfl := Option.some.inj hz
              exact hx (v11.1, v11.2.2.2.1, v11.2.2.2.2.1, v11.2.2.2.2.2.1, v11.2.2.2.2.2.2.1, v11.2.2.2.2.2.2.2) rfl
            · have hz := e_f hc hz
              refine r_lload F dX11_shake_76 rfl ?_
              obtain ⟨q14, hq15, hz⟩ := e_bd hz
              refine r_callS F dX11_shake_78 (dc := 0) (ds := 0) (As := [.long v11.2.1]) (S0 := []) lkX11_287 mX11_nextState (tX11_nextState hG (la := x_l X) (h := e_up hB [(41, o41 v11.2.2.2.2.1), (42, o42 v11.2.2.2.1), (43, o43 v11.2.2.2.2.2.1), (44, o44 v11.2.2.2.2.2.2.1), (45, o45 v11.2.2.2.2.2.2.2)]) hnx  hq15) rfl rfl rfl (e_le rfl) (e_le rfl) (e_le rfl) (by rw [hcR]; omega) (by rw [hsR]; omega) (e_k ?_)
              refine r_wr0 ?_
              refine r_lstore F dX11_shake_81 (e_le rfl) (L' := [some (.ref 32), some (.int p0), none, none, some (.int v11.1), some (.long q14), none, some (.int v11.2.2.1), none, none]) rfl ?_
              refine r_lload F dX11_shake_83 rfl ?_
              refine r_aload_n F dX11_shake_85 rfl ?_
              refine r_get F dX11_shake_86 flX11_28 h32 rfl (e_le rfl) (e_lt hnx rfl) ?_
              refine r_get F dX11_shake_89 flX11_127 h39 rfl (e_le rfl) (e_lt hnx rfl) ?_
              refine r_get F dX11_shake_92 flX11_131 rfl rfl (e_le rfl) (e_lt hnx rfl) ?_
              obtain ⟨q16, hq17, hz⟩ := e_bd hz
              refine r_callS F dX11_shake_95 (dc := 0) (ds := 0) (As := [.long q14, .int v11.2.2.2.1]) (S0 := []) lkX11_291 mX11_drawOf (tX11_drawOf hG (la := x_l X) (h := e_up hB [(41, o41 v11.2.2.2.2.1), (42, o42 v11.2.2.2.1), (43, o43 v11.2.2.2.2.2.1), (44, o44 v11.2.2.2.2.2.2.1), (45, o45 v11.2.2.2.2.2.2.2)]) hnx  hq17) rfl rfl rfl (e_le rfl) (e_le rfl) (e_le rfl) (by rw [hcR]; omega) (by rw [hsR]; omega) (e_k ?_)
              refine r_wr0 ?_
              refine r_istore F dX11_shake_98 (e_le rfl) (L' := [some (.ref 32), some (.int p0), none, none, some (.int v11.1), some (.long q14), none, some (.int v11.2.2.1), some (.int q16), none]) rfl ?_
              refine r_lload F dX11_shake_100 rfl ?_
              obtain ⟨q18, hq19, hz⟩ := e_bd hz
              refine r_callS F dX11_shake_102 (dc := 0) (ds := 0) (As := [.long q14]) (S0 := []) lkX11_287 mX11_nextState (tX11_nextState hG (la := x_l X) (h := e_up hB [(41, o41 v11.2.2.2.2.1), (42, o42 v11.2.2.2.1), (43, o43 v11.2.2.2.2.2.1), (44, o44 v11.2.2.2.2.2.2.1), (45, o45 v11.2.2.2.2.2.2.2)]) hnx  hq19) rfl rfl rfl (e_le rfl) (e_le rfl) (e_le rfl) (by rw [hcR]; omega) (by rw [hsR]; omega) (e_k ?_)
              refine r_wr0 ?_
              refine r_lstore F dX11_shake_105 (e_le rfl) (L' := [some (.ref 32), some (.int p0), none, none, some (.int v11.1), some (.long q18), none, some (.int v11.2.2.1), some (.int q16), none]) rfl ?_
              refine r_lload F dX11_shake_107 rfl ?_
              refine r_iconst F dX11_shake_109 (v := 2) (by decide) ?_
              obtain ⟨q20, hq21, hz⟩ := e_bd hz
              refine r_callS F dX11_shake_110 (dc := 0) (ds := 0) (As := [.long q18, .int 2]) (S0 := []) lkX11_291 mX11_drawOf (tX11_drawOf hG (la := x_l X) (h := e_up hB [(41, o41 v11.2.2.2.2.1), (42, o42 v11.2.2.2.1), (43, o43 v11.2.2.2.2.2.1), (44, o44 v11.2.2.2.2.2.2.1), (45, o45 v11.2.2.2.2.2.2.2)]) hnx  hq21) rfl rfl rfl (e_le rfl) (e_le rfl) (e_le rfl) (by rw [hcR]; omega) (by rw [hsR]; omega) (e_k ?_)
              refine r_wr0 ?_
              refine r_iconst F dX11_shake_113 (v := 1) (by decide) ?_
              obtain ⟨q22, hq23, hz⟩ := e_bd hz
              have Jq22 : eRun G X 122 [some (.ref 32), some (.int p0), none, none, some (.int v11.1), some (.long q18), none, some (.int v11.2.2.1), some (.int q16), none] [.int (e_b q22)] hB [(41, o41 v11.2.2.2.2.1), (42, o42 v11.2.2.2.1), (43, o43 v11.2.2.2.2.2.1), (44, o44 v11.2.2.2.2.2.2.1), (45, o45 v11.2.2.2.2.2.2.2)] (nx + 3 * q7.2.2.2.2) (0 + 3 * q7.2.2.2.2) (0 + 487 * q7.2.2.2.2) := by
                refine r_istore F dX11_shake_122 (e_le rfl) (L' := [some (.ref 32), some (.int p0), none, none, some (.int v11.1), some (.long q18), none, some (.int v11.2.2.1), some (.int q16), some (.int (e_b q22))]) rfl ?_
                refine r_aload_n F dX11_shake_124 rfl ?_
                refine r_get F dX11_shake_125 flX11_28 h32 rfl (e_le rfl) (e_lt hnx rfl) ?_
                refine r_get F dX11_shake_128 flX11_127 h39 rfl (e_le rfl) (e_lt hnx rfl) ?_
                refine r_iload F dX11_shake_131 rfl ?_
                obtain ⟨q24, hq25, hz⟩ := e_bd hz
                refine r_callV F dX11_shake_133 (b := 42) (dc := 0) (ds := 0) (As := [.int q16]) (S0 := []) lkX11_181 mX0_wayOf (tX0_wayOf_42 hG (la := x_l X) (h := e_up hB [(41, o41 v11.2.2.2.2.1), (42, o42 v11.2.2.2.1), (43, o43 v11.2.2.2.2.2.1), (44, o44 v11.2.2.2.2.2.2.1), (45, o45 v11.2.2.2.2.2.2.2)]) hnx rfl rfl hq25) rfl rfl rfl (e_le rfl) (e_le rfl) (e_le rfl) rfl (ci := 0) e_cl0.1 rfl (e_le rfl) (e_lt hnx rfl) (by rw [hcR]; omega) (by rw [hsR]; omega) (e_k ?_)
                refine r_wr0 ?_
                refine r_iconst F dX11_shake_136 (v := (-1)) (by decide) ?_
                obtain ⟨q26, hq27, hz⟩ := e_bd hz
                have Jq26 : eRun G X 171 [some (.ref 32), some (.int p0), none, none, some (.int q26.1), some (.long q18), none, some (.int v11.2.2.1), none, none] [] hB [(41, o41 q26.2.1), (42, o42 q26.2.2.1), (43, o43 q26.2.2.2.1), (44, o44 q26.2.2.2.2.1), (45, o45 q26.2.2.2.2.2)] (nx + 3 * q7.2.2.2.2) (0 + 3 * q7.2.2.2.2) (0 + 487 * q7.2.2.2.2) := by
                  refine r_inc F dX11_shake_171 (k9 := 1) (by decide) rfl (L' := [some (.ref 32), some (.int p0), none, none, some (.int q26.1), some (.long q18), none, some (.int (v11.2.2.1 + 1)), none, none]) rfl ?_
                  refine r_goto F dX11_shake_174 (tgt := 57) (by decide) ?_
                  obtain rfl := Option.some.inj hz
                  exact ih (q26.1, q18, v11.2.2.1 + 1, q26.2.2.1, q26.2.1, q26.2.2.2.1, q26.2.2.2.2.1, q26.2.2.2.2.2) rfl
                refine r_icmp_eq F dX11_shake_137 (tgt := 171) (by decide) (fun hc => ?_) (fun hc => ?_)
                · have hq27 := e_t hc hq27
                  refine r_drop 8 (L' := [some (.ref 32), some (.int p0), none, none, some (.int v11.1), some (.long q18), none, some (.int v11.2.2.1), none, some (.int (e_b q22))]) rfl ?_
                  refine r_drop 9 (L' := [some (.ref 32), some (.int p0), none, none, some (.int v11.1), some (.long q18), none, some (.int v11.2.2.1), none, none]) rfl ?_
                  obtain rfl := Option.some.inj hq27
                  exact Jq26
                · have hq27 := e_f hc hq27
                  refine r_aload_n F dX11_shake_140 rfl ?_
                  refine r_get F dX11_shake_141 flX11_28 h32 rfl (e_le rfl) (e_lt hnx rfl) ?_
                  refine r_iload F dX11_shake_144 rfl ?_
                  refine r_iload F dX11_shake_146 rfl ?_
                  obtain ⟨q28, hq29, hq27⟩ := e_bd hq27
                  refine r_callV F dX11_shake_148 (b := 39) (dc := 0) (ds := 0) (As := [.int q16, .int (e_b q22)]) (S0 := []) lkX11_295 mX1_glide (tX1_glide_39 hG (la := x_l X) (h := e_up hB [(41, o41 v11.2.2.2.2.1), (42, o42 v11.2.2.2.1), (43, o43 v11.2.2.2.2.2.1), (44, o44 v11.2.2.2.2.2.2.1), (45, o45 v11.2.2.2.2.2.2.2)]) hnx h39 h40 rfl rfl rfl rfl rfl hq29) rfl rfl rfl (e_le rfl) (e_le rfl) (e_le rfl) h39 (ci := 1) e_cl1.1 rfl (e_le rfl) (e_lt hnx rfl) (by rw [hcR]; omega) (by rw [hsR]; omega) (e_k ?_)
                  refine r_wr (l' := [(41, o41 q28.1), (42, o42 v11.2.2.2.1), (43, o43 v11.2.2.2.2.2.1), (44, o44 v11.2.2.2.2.2.2.1), (45, o45 q28.2)]) rfl rfl ?_
                  refine r_aload_n F dX11_shake_151 rfl ?_
                  refine r_get F dX11_shake_152 flX11_28 h32 rfl (e_le rfl) (e_lt hnx rfl) ?_
                  refine r_get F dX11_shake_155 flX11_127 h39 rfl (e_le rfl) (e_lt hnx rfl) ?_
                  refine r_aload_n F dX11_shake_158 rfl ?_
                  refine r_get F dX11_shake_159 flX11_28 h32 rfl (e_le rfl) (e_lt hnx rfl) ?_
                  refine r_get F dX11_shake_162 flX11_141 h39 rfl (e_le rfl) (e_lt hnx rfl) ?_
                  obtain ⟨q30, hq31, hq27⟩ := e_bd hq27
                  refine r_callV F dX11_shake_165 (b := 42) (dc := 0) (ds := 0) (As := [.ref 40]) (S0 := []) lkX11_257 mX0_find (tX0_find_42_40 hG (la := x_l X) (h := e_up hB [(41, o41 q28.1), (42, o42 v11.2.2.2.1), (43, o43 v11.2.2.2.2.2.1), (44, o44 v11.2.2.2.2.2.2.1), (45, o45 q28.2)]) hnx h40 rfl rfl rfl rfl hq31) rfl rfl rfl (e_le rfl) (e_le rfl) (e_le rfl) rfl (ci := 0) e_cl0.1 rfl (e_le rfl) (e_lt hnx rfl) (by rw [hcR]; omega) (by rw [hsR]; omega) (e_k ?_)
                  refine r_wr (l' := [(41, o41 q28.1), (42, o42 q30.1), (43, o43 q30.2.1), (44, o44 q30.2.2), (45, o45 q28.2)]) rfl rfl ?_
                  refine r_inc F dX11_shake_168 (k9 := 1) (by decide) rfl (L' := [some (.ref 32), some (.int p0), none, none, some (.int (v11.1 + 1)), some (.long q18), none, some (.int v11.2.2.1), some (.int q16), some (.int (e_b q22))]) rfl ?_
                  refine r_drop 8 (L' := [some (.ref 32), some (.int p0), none, none, some (.int (v11.1 + 1)), some (.long q18), none, some (.int v11.2.2.1), none, some (.int (e_b q22))]) rfl ?_
                  refine r_drop 9 (L' := [some (.ref 32), some (.int p0), none, none, some (.int (v11.1 + 1)), some (.long q18), none, some (.int v11.2.2.1), none, none]) rfl ?_
                  obtain rfl := Option.some.inj hq27
                  exact Jq26
              refine r_icmp_ne F dX11_shake_114 (tgt := 121) (by decide) (fun hc => ?_) (fun hc => ?_)
              · have hq23 := e_f hc hq23
                refine r_iconst F dX11_shake_121 (v := 0) (by decide) ?_
                obtain rfl := Option.some.inj hq23
                exact Jq22
              · have hq23 := e_t hc hq23
                refine r_iconst F dX11_shake_117 (v := 1) (by decide) ?_
                refine r_goto F dX11_shake_118 (tgt := 122) (by decide) ?_
                obtain rfl := Option.some.inj hq23
                exact Jq22
        · show eRun G X 177 [none, none, none, none, some (.int x12.1), none, none, none, none, none] [] hB [(41, o41 x12.2.2.1), (42, o42 x12.2.1), (43, o43 x12.2.2.2.1), (44, o44 x12.2.2.2.2.1), (45, o45 x12.2.2.2.2.2)] (nx + 3 * q7.2.2.2.2) (0 + 3 * q7.2.2.2.2) (0 + 487 * q7.2.2.2.2)
          refine r_iload F dX11_shake_177 rfl ?_
          obtain rfl := Option.some.inj hf
          exact r_iretB F hq dX11_shake_179 rfl (by omega) (by omega) ⟨rfl, rfl, e_frm fr rfl rfl rfl, rfl, rfl, rfl, rfl, rfl, h56, h57, h62, e_dyn.up rfl hdyB⟩
      · have hf := e_f hc hf
        refine r_aload_n F dX11_shake_24 rfl ?_
        refine r_iconst F dX11_shake_25 (v := 2) (by decide) ?_
        obtain ⟨q32, hq33, hf⟩ := e_bd hf
        refine r_callV F dX11_shake_26 (b := 32) (dc := 0) (ds := 0) (As := [.int 2]) (S0 := []) lkX11_243 mX11_refuse (tX11_refuse_32 hG (la := x_l X) (h := e_up h []) hnx h32 h62 hq33) rfl rfl rfl (e_le rfl) (e_le rfl) (e_le rfl) h32 (ci := 11) e_cl11.1 rfl (e_le rfl) (e_lt hnx rfl) (Nat.zero_le _) (Nat.zero_le _) (e_k ?_)
        refine r_wr (l' := [(62, o62 q32.2)]) rfl rfl ?_
        obtain rfl := Option.some.inj hf
        exact r_iretB F hq dX11_shake_29 rfl (Nat.zero_le _) (Nat.zero_le _) ⟨rfl, rfl, e_frm (fun _ _ _ _ => rfl) rfl rfl rfl, h41, h42, h43, h44, h45, h56, h57, rfl, e_dyn.up rfl hdy⟩
