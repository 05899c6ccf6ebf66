def fX11_shift (a40_0 : Int32) (a40_1 : Int32) (a54_1 : Int32) (a56_1 : Int32) (a56_2 : Int32) (A41 : Nat → Int32) (A55 : Nat → Int32) (A57 : Nat → Option Nat) (A62 : Nat → Int32) (SS : eSS) (p0 : Int32) (p1 : Int32) (p2 : Int32) (p3 : Int32) (nx : Nat) : Option (Int32 × Int32 × Int32 × (Nat → Int32) × (Nat → Option Nat) × (Nat → Int32) × eSS × Nat) :=
  (fX11_isEmpty a40_0).bind (fun q1 =>
  if q1 = true then
    (fX11_refuse A62 0).bind (fun q3 =>
    some (q3.1, a56_1, a56_2, A41, A57, q3.2, SS, 0))
  else
    (fX7_hasSite a40_0 a40_1 p0 p1).bind (fun q5 =>
    if q5 = true then
      (fX11_isShift p2).bind (fun q7 =>
      if q7 = true then
        (fX11_isShift p3).bind (fun q9 =>
        if q9 = true then
          if p2 = 0 then
            if p3 = 0 then
              (fX11_refuse A62 2).bind (fun q23 =>
              some (q23.1, a56_1, a56_2, A41, A57, q23.2, SS, 0))
            else
              (f_rem A57 SS a56_1 a56_2 A41 A55 a54_1 nx).bind (fun q17 =>
              (fX7_shiftSite a40_0 a40_1 A41 p0 p1 p2 p3).bind (fun q19 =>
              (fX7_slippedLinks a40_0 a40_1 q19).bind (fun q21 =>
              some (q21, q17.1, q17.2.1, q19, q17.2.2.1, A62, q17.2.2.2.1, q17.2.2.2.2))))
          else
            (f_rem A57 SS a56_1 a56_2 A41 A55 a54_1 nx).bind (fun q11 =>
            (fX7_shiftSite a40_0 a40_1 A41 p0 p1 p2 p3).bind (fun q13 =>
            (fX7_slippedLinks a40_0 a40_1 q13).bind (fun q15 =>
            some (q15, q11.1, q11.2.1, q13, q11.2.2.1, A62, q11.2.2.2.1, q11.2.2.2.2))))
        else
          (fX11_refuse A62 2).bind (fun q25 =>
          some (q25.1, a56_1, a56_2, A41, A57, q25.2, SS, 0)))
      else
        (fX11_refuse A62 2).bind (fun q27 =>
        some (q27.1, a56_1, a56_2, A41, A57, q27.2, SS, 0)))
    else
      (fX11_refuse A62 1).bind (fun q29 =>
      some (q29.1, a56_1, a56_2, A41, A57, q29.2, SS, 0))))
set_option maxRecDepth 100000 in
theorem tX11_shift_32 {G : eG} (hG : e_GS G) {la : Launch} {h : Nat → eO} {nx : Nat} (hnx : 99 ≤ nx) {a32_8 : Bool} {a32_10 : Bool} {a40_0 : Int32} {a40_1 : Int32} {A41 : Nat → Int32} {a54_1 : Int32} {A55 : Nat → Int32} {a56_1 : Int32} {a56_2 : Int32} {A57 : Nat → Option Nat} {A62 : Nat → Int32} {SS : eSS} {q6 nl : Nat} {LE : Nat → Int32} {p0 : Int32} {p1 : Int32} {p2 : Int32} {p3 : Int32} (h32 : h 32 = o32 a32_8 a32_10) (h39 : h 39 = o39) (h40 : h 40 = o40 a40_0 a40_1) (h41 : h 41 = o41 A41) (h54 : h 54 = o54 a54_1) (h55 : h 55 = o55 A55) (h56 : h 56 = o56 a56_1 a56_2) (h57 : h 57 = o57 A57) (h62 : h 62 = o62 A62) (hdy : e_dyn h nx A57 SS q6 nl LE) {R9 : Int32 × Int32 × Int32 × (Nat → Int32) × (Nat → Option Nat) × (Nat → Int32) × eSS × Nat} (hf : fX11_shift a40_0 a40_1 a54_1 a56_1 a56_2 A41 A55 A57 A62 SS p0 p1 p2 p3 nx = some R9) :
    eSemB G la MX11_shift [.ref 32, .int p0, .int p1, .int p2, .int p3] h nx 3 487 (fun r9 h9 nx9 => r9 = some (.int R9.1) ∧ nx9 = nx + 3 * R9.2.2.2.2.2.2.2 ∧ (∀ k, k < 99 → [41, 56, 57, 62].contains k = false → h9 k = h k) ∧ h9 41 = o41 R9.2.2.2.1 ∧ h9 56 = o56 R9.2.1 R9.2.2.1 ∧ h9 57 = o57 R9.2.2.2.2.1 ∧ h9 62 = o62 R9.2.2.2.2.2.1 ∧ e_dyn h9 nx9 R9.2.2.2.2.1 R9.2.2.2.2.2.2.1 q6 nl LE) := by
  refine eSemB.of (k := 0) (L := [some (.ref 32), some (.int p0), some (.int p1), some (.int p2), some (.int p3)]) (by decide +kernel) rfl rfl (fun X F hxl hq hcR hsR => ?_)
  subst hxl
  unfold fX11_shift at hf
  refine r_aload_n F dX11_shift_0 rfl ?_
  obtain ⟨q1, hq2, hf⟩ := e_bd hf
  refine r_callV F dX11_shift_1 (b := 32) (dc := 0) (ds := 0) (As := []) (S0 := []) lkX11_136 mX11_isEmpty (tX11_isEmpty_32 hG (la := x_l X) (h := e_up h []) hnx h32 h39 h40 hq2) rfl rfl rfl (e_le rfl) (e_le rfl) (e_le rfl) h32 (ci := 11) e_cl11.1 rfl (e_le rfl) (e_lt hnx rfl) (Nat.zero_le _) (Nat.zero_le _) (e_k ?_)
  refine r_wr0 ?_
  refine r_z_eq F dX11_shift_4 (tgt := 13) (by decide) (fun hc => ?_) (fun hc => ?_)
  · have hf := e_t hc hf
    refine r_aload_n F dX11_shift_7 rfl ?_
    refine r_iconst F dX11_shift_8 (v := 0) (by decide) ?_
    obtain ⟨q3, hq4, hf⟩ := e_bd hf
    refine r_callV F dX11_shift_9 (b := 32) (dc := 0) (ds := 0) (As := [.int 0]) (S0 := []) lkX11_243 mX11_refuse (tX11_refuse_32 hG (la := x_l X) (h := e_up h []) hnx h32 h62 hq4) rfl rfl rfl (e_le rfl) (e_le rfl) (e_le rfl) h32 (ci := 11) e_cl11.1 rfl (e_le rfl) (e_lt hnx rfl) (Nat.zero_le _) (Nat.zero_le _) (e_k ?_)
    refine r_wr (l' := [(62, o62 q3.2)]) rfl rfl ?_
    obtain rfl := Option.some.inj hf
    exact r_iretB F hq dX11_shift_12 rfl (Nat.zero_le _) (Nat.zero_le _) ⟨rfl, rfl, e_frm (fun _ _ _ _ => rfl) rfl rfl rfl, h41, h56, h57, rfl, e_dyn.up rfl hdy⟩
  · have hf := e_f hc hf
    refine r_aload_n F dX11_shift_13 rfl ?_
    refine r_get F dX11_shift_14 flX11_28 h32 rfl (e_le rfl) (e_lt hnx rfl) ?_
    refine r_get F dX11_shift_17 flX11_141 h39 rfl (e_le rfl) (e_lt hnx rfl) ?_
    refine r_iload_n F dX11_shift_20 rfl ?_
    refine r_iload_n F dX11_shift_21 rfl ?_
    obtain ⟨q5, hq6, hf⟩ := e_bd hf
    refine r_callV F dX11_shift_22 (b := 40) (dc := 0) (ds := 0) (As := [.int p0, .int p1]) (S0 := []) lkX11_207 mX7_hasSite (tX7_hasSite_40 hG (la := x_l X) (h := e_up h []) hnx h40 hq6) rfl rfl rfl (e_le rfl) (e_le rfl) (e_le rfl) h40 (ci := 7) e_cl7.1 rfl (e_le rfl) (e_lt hnx rfl) (Nat.zero_le _) (Nat.zero_le _) (e_k ?_)
    refine r_wr0 ?_
    refine r_z_ne F dX11_shift_25 (tgt := 34) (by decide) (fun hc => ?_) (fun hc => ?_)
    · have hf := e_t hc hf
      refine r_iload_n F dX11_shift_34 rfl ?_
      obtain ⟨q7, hq8, hf⟩ := e_bd hf
      refine r_callS F dX11_shift_35 (dc := 0) (ds := 0) (As := [.int p2]) (S0 := []) lkX11_279 mX11_isShift (tX11_isShift hG (la := x_l X) (h := e_up h []) hnx  hq8) rfl rfl rfl (e_le rfl) (e_le rfl) (e_le rfl) (Nat.zero_le _) (Nat.zero_le _) (e_k ?_)
      refine r_wr0 ?_
      refine r_z_eq F dX11_shift_38 (tgt := 58) (by decide) (fun hc => ?_) (fun hc => ?_)
      · have hf := e_t hc hf
        refine r_iload F dX11_shift_41 rfl ?_
        obtain ⟨q9, hq10, hf⟩ := e_bd hf
        refine r_callS F dX11_shift_43 (dc := 0) (ds := 0) (As := [.int p3]) (S0 := []) lkX11_279 mX11_isShift (tX11_isShift hG (la := x_l X) (h := e_up h []) hnx  hq10) rfl rfl rfl (e_le rfl) (e_le rfl) (e_le rfl) (Nat.zero_le _) (Nat.zero_le _) (e_k ?_)
        refine r_wr0 ?_
        refine r_z_eq F dX11_shift_46 (tgt := 58) (by decide) (fun hc => ?_) (fun hc => ?_)
        · have hf := e_t hc hf
          refine r_iload_n F dX11_shift_49 rfl ?_
          refine r_if_ne F dX11_shift_50 (tgt := 64) (by decide) (fun hc => ?_) (fun hc => ?_)
          · have hf := e_f hc hf
            refine r_aload_n F dX11_shift_64 rfl ?_
            refine r_get F dX11_shift_65 flX11_49 h32 rfl (e_le rfl) (e_lt hnx rfl) ?_
            refine r_aload_n F dX11_shift_68 rfl ?_
            refine r_get F dX11_shift_69 flX11_28 h32 rfl (e_le rfl) (e_lt hnx rfl) ?_
            refine r_get F dX11_shift_72 flX11_141 h39 rfl (e_le rfl) (e_lt hnx rfl) ?_
            refine r_aload_n F dX11_shift_75 rfl ?_
            refine r_get F dX11_shift_76 flX11_42 h32 rfl (e_le rfl) (e_lt hnx rfl) ?_
            obtain ⟨q11, hq12, hf⟩ := e_bd hf
            have hK9 := f_rem_le hq12
            refine r_callV F dX11_shift_79 (b := 56) (dc := 3 * q11.2.2.2.2) (ds := 487 * q11.2.2.2.2) (As := [.ref 40, .ref 54]) (S0 := []) lkX11_250 mX4_remember (t_rem hG (la := x_l X) (h := e_up h []) hnx h40 h41 h54 h55 h56 h57 (e_dyn.up rfl hdy) hq12) rfl rfl rfl (e_le rfl) (e_le rfl) (e_le rfl) h56 (ci := 4) e_cl4.1 rfl (e_le rfl) (e_lt hnx rfl) (by rw [hcR]; omega) (by rw [hsR]; omega) (fun r9 hB p9 => ?_)
            obtain ⟨e9, fr, hB56, hB57, hdyB⟩ := p9
            subst e9
            have h32 := (fr 32 (by decide) (by decide) (by decide)).trans h32
            have h39 := (fr 39 (by decide) (by decide) (by decide)).trans h39
            have h40 := (fr 40 (by decide) (by decide) (by decide)).trans h40
            have h41 := (fr 41 (by decide) (by decide) (by decide)).trans h41
            have h54 := (fr 54 (by decide) (by decide) (by decide)).trans h54
            have h55 := (fr 55 (by decide) (by decide) (by decide)).trans h55
            have h62 := (fr 62 (by decide) (by decide) (by decide)).trans h62
            have h56 := hB56
            have h57 := hB57
            have hnx : 99 ≤ nx + 3 * q11.2.2.2.2 := by omega
            refine r_aload_n F dX11_shift_82 rfl ?_
            refine r_get F dX11_shift_83 flX11_28 h32 rfl (e_le rfl) (e_lt hnx rfl) ?_
            refine r_get F dX11_shift_86 flX11_141 h39 rfl (e_le rfl) (e_lt hnx rfl) ?_
            refine r_iload_n F dX11_shift_89 rfl ?_
            refine r_iload_n F dX11_shift_90 rfl ?_
            refine r_iload_n F dX11_shift_91 rfl ?_
            refine r_iload F dX11_shift_92 rfl ?_
            obtain ⟨q13, hq14, hf⟩ := e_bd hf
            refine r_callV F dX11_shift_94 (b := 40) (dc := 0) (ds := 0) (As := [.int p0, .int p1, .int p2, .int p3]) (S0 := []) lkX11_283 mX7_shiftSite (tX7_shiftSite_40 hG (la := x_l X) (h := e_up hB []) hnx h40 h41 hq14) rfl rfl rfl (e_le rfl) (e_le rfl) (e_le rfl) h40 (ci := 7) e_cl7.1 rfl (e_le rfl) (e_lt hnx rfl) (by rw [hcR]; omega) (by rw [hsR]; omega) (e_k ?_)
            refine r_wr (l' := [(41, o41 q13)]) rfl rfl ?_
            refine r_aload_n F dX11_shift_97 rfl ?_
            refine r_get F dX11_shift_98 flX11_28 h32 rfl (e_le rfl) (e_lt hnx rfl) ?_
            refine r_get F dX11_shift_101 flX11_141 h39 rfl (e_le rfl) (e_lt hnx rfl) ?_
            obtain ⟨q15, hq16, hf⟩ := e_bd hf
            refine r_callV F dX11_shift_104 (b := 40) (dc := 0) (ds := 0) (As := []) (S0 := []) lkX11_153 mX7_slippedLinks (tX7_slippedLinks_40 hG (la := x_l X) (h := e_up hB [(41, o41 q13)]) hnx h40 rfl hq16) rfl rfl rfl (e_le rfl) (e_le rfl) (e_le rfl) h40 (ci := 7) e_cl7.1 rfl (e_le rfl) (e_lt hnx rfl) (by rw [hcR]; omega) (by rw [hsR]; omega) (e_k ?_)
            refine r_wr0 ?_
            obtain rfl := Option.some.inj hf
            exact r_iretB F hq dX11_shift_107 rfl (by omega) (by omega) ⟨rfl, rfl, e_frm fr rfl rfl rfl, rfl, h56, h57, h62, e_dyn.up rfl hdyB⟩
          · have hf := e_t hc hf
            refine r_iload F dX11_shift_53 rfl ?_
            refine r_if_ne F dX11_shift_55 (tgt := 64) (by decide) (fun hc => ?_) (fun hc => ?_)
            · have hf := e_f hc hf
              refine r_aload_n F dX11_shift_64 rfl ?_
              refine r_get F dX11_shift_65 flX11_49 h32 rfl (e_le rfl) (e_lt hnx rfl) ?_
              refine r_aload_n F dX11_shift_68 rfl ?_
              refine r_get F dX11_shift_69 flX11_28 h32 rfl (e_le rfl) (e_lt hnx rfl) ?_
              refine r_get F dX11_shift_72 flX11_141 h39 rfl (e_le rfl) (e_lt hnx rfl) ?_
              refine r_aload_n F dX11_shift_75 rfl ?_
              refine r_get F dX11_shift_76 flX11_42 h32 rfl (e_le rfl) (e_lt hnx rfl) ?_
              obtain ⟨q17, hq18, hf⟩ := e_bd hf
              have hK9 := f_rem_le hq18
              refine r_callV F dX11_shift_79 (b := 56) (dc := 3 * q17.2.2.2.2) (ds := 487 * q17.2.2.2.2) (As := [.ref 40, .ref 54]) (S0 := []) lkX11_250 mX4_remember (t_rem hG (la := x_l X) (h := e_up h []) hnx h40 h41 h54 h55 h56 h57 (e_dyn.up rfl hdy) hq18) rfl rfl rfl (e_le rfl) (e_le rfl) (e_le rfl) h56 (ci := 4) e_cl4.1 rfl (e_le rfl) (e_lt hnx rfl) (by rw [hcR]; omega) (by rw [hsR]; omega) (fun r9 hB p9 => ?_)
              obtain ⟨e9, fr, hB56, hB57, hdyB⟩ := p9
              subst e9
              have h32 := (fr 32 (by decide) (by decide) (by decide)).trans h32
              have h39 := (fr 39 (by decide) (by decide) (by decide)).trans h39
              have h40 := (fr 40 (by decide) (by decide) (by decide)).trans h40
              have h41 := (fr 41 (by decide) (by decide) (by decide)).trans h41
              have h54 := (fr 54 (by decide) (by decide) (by decide)).trans h54
              have h55 := (fr 55 (by decide) (by decide) (by decide)).trans h55
              have h62 := (fr 62 (by decide) (by decide) (by decide)).trans h62
              have h56 := hB56
              have h57 := hB57
              have hnx : 99 ≤ nx + 3 * q17.2.2.2.2 := by omega
              refine r_aload_n F dX11_shift_82 rfl ?_
              refine r_get F dX11_shift_83 flX11_28 h32 rfl (e_le rfl) (e_lt hnx rfl) ?_
              refine r_get F dX11_shift_86 flX11_141 h39 rfl (e_le rfl) (e_lt hnx rfl) ?_
              refine r_iload_n F dX11_shift_89 rfl ?_
              refine r_iload_n F dX11_shift_90 rfl ?_
              refine r_iload_n F dX11_shift_91 rfl ?_
              refine r_iload F dX11_shift_92 rfl ?_
              obtain ⟨q19, hq20, hf⟩ := e_bd hf
              refine r_callV F dX11_shift_94 (b := 40) (dc := 0) (ds := 0) (As := [.int p0, .int p1, .int p2, .int p3]) (S0 := []) lkX11_283 mX7_shiftSite (tX7_shiftSite_40 hG (la := x_l X) (h := e_up hB []) hnx h40 h41 hq20) rfl rfl rfl (e_le rfl) (e_le rfl) (e_le rfl) h40 (ci := 7) e_cl7.1 rfl (e_le rfl) (e_lt hnx rfl) (by rw [hcR]; omega) (by rw [hsR]; omega) (e_k ?_)
              refine r_wr (l' := [(41, o41 q19)]) rfl rfl ?_
              refine r_aload_n F dX11_shift_97 rfl ?_
              refine r_get F dX11_shift_98 flX11_28 h32 rfl (e_le rfl) (e_lt hnx rfl) ?_
              refine r_get F dX11_shift_101 flX11_141 h39 rfl (e_le rfl) (e_lt hnx rfl) ?_
              obtain ⟨q21, hq22, hf⟩ := e_bd hf
              refine r_callV F dX11_shift_104 (b := 40) (dc := 0) (ds := 0) (As := []) (S0 := []) lkX11_153 mX7_slippedLinks (tX7_slippedLinks_40 hG (la := x_l X) (h := e_up hB [(41, o41 q19)]) hnx h40 rfl hq22) rfl rfl rfl (e_le rfl) (e_le rfl) (e_le rfl) h40 (ci := 7) e_cl7.1 rfl (e_le rfl) (e_lt hnx rfl) (by rw [hcR]; omega) (by rw [hsR]; omega) (e_k ?_)
              refine r_wr0 ?_
              obtain rfl := Option.some.inj hf
              exact r_iretB F hq dX11_shift_107 rfl (by omega) (by omega) ⟨rfl, rfl, e_frm fr rfl rfl rfl, rfl, h56, h57, h62, e_dyn.up rfl hdyB⟩
            · have hf := e_t hc hf
              refine r_aload_n F dX11_shift_58 rfl ?_
              refine r_iconst F dX11_shift_59 (v := 2) (by decide) ?_
              obtain ⟨q23, hq24, hf⟩ := e_bd hf
              refine r_callV F dX11_shift_60 (b := 32) (dc := 0) (ds := 0) (As := [.int 2]) (S0 := []) lkX11_243 mX11_refuse (tX11_refuse_32 hG (la := x_l X) (h := e_up h []) hnx h32 h62 hq24) rfl rfl rfl (e_le rfl) (e_le rfl) (e_le rfl) h32 (ci := 11) e_cl11.1 rfl (e_le rfl) (e_lt hnx rfl) (Nat.zero_le _) (Nat.zero_le _) (e_k ?_)
              refine r_wr (l' := [(62, o62 q23.2)]) rfl rfl ?_
              obtain rfl := Option.some.inj hf
              exact r_iretB F hq dX11_shift_63 rfl (Nat.zero_le _) (Nat.zero_le _) ⟨rfl, rfl, e_frm (fun _ _ _ _ => rfl) rfl rfl rfl, h41, h56, h57, rfl, e_dyn.up rfl hdy⟩
        · have hf := e_f hc hf
          refine r_aload_n F dX11_shift_58 rfl ?_
          refine r_iconst F dX11_shift_59 (v := 2) (by decide) ?_
          obtain ⟨q25, hq26, hf⟩ := e_bd hf
          refine r_callV F dX11_shift_60 (b := 32) (dc := 0) (ds := 0) (As := [.int 2]) (S0 := []) lkX11_243 mX11_refuse (tX11_refuse_32 hG (la := x_l X) (h := e_up h []) hnx h32 h62 hq26) rfl rfl rfl (e_le rfl) (e_le rfl) (e_le rfl) h32 (ci := 11) e_cl11.1 rfl (e_le rfl) (e_lt hnx rfl) (Nat.zero_le _) (Nat.zero_le _) (e_k ?_)
          refine r_wr (l' := [(62, o62 q25.2)]) rfl rfl ?_
          obtain rfl := Option.some.inj hf
          exact r_iretB F hq dX11_shift_63 rfl (Nat.zero_le _) (Nat.zero_le _) ⟨rfl, rfl, e_frm (fun _ _ _ _ => rfl) rfl rfl rfl, h41, h56, h57, rfl, e_dyn.up rfl hdy⟩
      · have hf := e_f hc hf
        refine r_aload_n F dX11_shift_58 rfl ?_
        refine r_iconst F dX11_shift_59 (v := 2) (by decide) ?_
        obtain ⟨q27, hq28, hf⟩ := e_bd hf
        refine r_callV F dX11_shift_60 (b := 32) (dc := 0) (ds := 0) (As := [.int 2]) (S0 := []) lkX11_243 mX11_refuse (tX11_refuse_32 hG (la := x_l X) (h := e_up h []) hnx h32 h62 hq28) rfl rfl rfl (e_le rfl) (e_le rfl) (e_le rfl) h32 (ci := 11) e_cl11.1 rfl (e_le rfl) (e_lt hnx rfl) (Nat.zero_le _) (Nat.zero_le _) (e_k ?_)
        refine r_wr (l' := [(62, o62 q27.2)]) rfl rfl ?_
        obtain rfl := Option.some.inj hf
        exact r_iretB F hq dX11_shift_63 rfl (Nat.zero_le _) (Nat.zero_le _) ⟨rfl, rfl, e_frm (fun _ _ _ _ => rfl) rfl rfl rfl, h41, h56, h57, rfl, e_dyn.up rfl hdy⟩
    · have hf := e_f hc hf
      refine r_aload_n F dX11_shift_28 rfl ?_
      refine r_iconst F dX11_shift_29 (v := 1) (by decide) ?_
      obtain ⟨q29, hq30, hf⟩ := e_bd hf
      refine r_callV F dX11_shift_30 (b := 32) (dc := 0) (ds := 0) (As := [.int 1]) (S0 := []) lkX11_243 mX11_refuse (tX11_refuse_32 hG (la := x_l X) (h := e_up h []) hnx h32 h62 hq30) rfl rfl rfl (e_le rfl) (e_le rfl) (e_le rfl) h32 (ci := 11) e_cl11.1 rfl (e_le rfl) (e_lt hnx rfl) (Nat.zero_le _) (Nat.zero_le _) (e_k ?_)
      refine r_wr (l' := [(62, o62 q29.2)]) rfl rfl ?_
      obtain rfl := Option.some.inj hf
      exact r_iretB F hq dX11_shift_33 rfl (Nat.zero_le _) (Nat.zero_le _) ⟨rfl, rfl, e_frm (fun _ _ _ _ => rfl) rfl rfl rfl, h41, h56, h57, rfl, e_dyn.up rfl hdy⟩
