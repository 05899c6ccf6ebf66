def fX11_move (a40_0 : Int32) (a40_1 : Int32) (a42_0 : Int32) (a54_1 : Int32) (a56_1 : Int32) (a56_2 : Int32) (A41 : Nat → Int32) (A43 : Nat → Int32) (A44 : Nat → Int32) (A55 : Nat → Int32) (A57 : Nat → Option Nat) (A62 : Nat → Int32) (SS : eSS) (p0 : Int32) (p1 : Int32) (p2 : Int32) (p3 : Int32) (nx : Nat) : Option (Int32 × Int32 × Int32 × Int32 × (Nat → Int32) × (Nat → Int32) × (Nat → Int32) × (Nat → Option Nat) × (Nat → Int32) × eSS × Nat) :=
  (fX11_isEmpty a40_0).bind (fun q1 =>
  if q1 = true then
    (fX11_refuse A62 0).bind (fun q3 =>
    some (q3.1, a42_0, a56_1, a56_2, A41, A43, A44, A57, q3.2, SS, 0))
  else
    (fX0_indexAt a42_0 A43 p0 p1).bind (fun q5 =>
    if q5 = (-1) then
      (fX11_refuse A62 1).bind (fun q65 =>
      some (q65.1, a42_0, a56_1, a56_2, A41, A43, A44, A57, q65.2, SS, 0))
    else
      if p2 < 0 then
        (fX11_refuse A62 2).bind (fun q7 =>
        some (q7.1, a42_0, a56_1, a56_2, A41, A43, A44, A57, q7.2, SS, 0))
      else
        if 2 < p2 then
          (fX11_refuse A62 2).bind (fun q9 =>
          some (q9.1, a42_0, a56_1, a56_2, A41, A43, A44, A57, q9.2, SS, 0))
        else
          if p3 < 0 then
            (fX11_refuse A62 2).bind (fun q11 =>
            some (q11.1, a42_0, a56_1, a56_2, A41, A43, A44, A57, q11.2, SS, 0))
          else
            if p3 ≤ 3 then
              Option.bind (α := Int32) (
                if p2 = 2 then
                  some 0
                else
                  (fX7_vectorOf a40_0 a40_1 A41 p0 p1 0).bind (fun q61 =>
                  some q61)) (fun q13 =>
              Option.bind (α := Int32) (
                if p2 = 1 then
                  some 0
                else
                  (fX7_vectorOf a40_0 a40_1 A41 p0 p1 1).bind (fun q59 =>
                  some q59)) (fun q15 =>
              if q13 = 0 then
                if q15 = 0 then
                  (fX11_refuse A62 2).bind (fun q57 =>
                  some (q57.1, a42_0, a56_1, a56_2, A41, A43, A44, A57, q57.2, SS, 0))
                else
                  if a42_0 < 12 then
                    (f_rem A57 SS a56_1 a56_2 A41 A55 a54_1 nx).bind (fun q37 =>
                    (fX7_carry a40_0 a40_1 A41 p0 p1 q13 q15 p3).bind (fun q39 =>
                    (fX0_find a40_0 a40_1 a42_0 q39.2 A43 A44).bind (fun q41 =>
                    if q39.1 = 0 then
                      (fX11_wayOfVector q13 q15).bind (fun q43 =>
                      if q43 = (p3 - p3 / 2 * 2) then
                        some (0, q41.1, q37.1, q37.2.1, q39.2, q41.2.1, q41.2.2, q37.2.2.1, A62, q37.2.2.2.1, q37.2.2.2.2)
                      else
                        some (1, q41.1, q37.1, q37.2.1, q39.2, q41.2.1, q41.2.2, q37.2.2.1, A62, q37.2.2.2.1, q37.2.2.2.2))
                    else
                      some (q39.1, q41.1, q37.1, q37.2.1, q39.2, q41.2.1, q41.2.2, q37.2.2.1, A62, q37.2.2.2.1, q37.2.2.2.2))))
                  else
                    (fX11_wouldSplit a40_0 a40_1 A41 p0 p1 q13 q15 p3).bind (fun q45 =>
                    if q45 = true then
                      (fX11_refuse A62 3).bind (fun q47 =>
                      some (q47.1, a42_0, a56_1, a56_2, A41, A43, A44, A57, q47.2, SS, 0))
                    else
                      (f_rem A57 SS a56_1 a56_2 A41 A55 a54_1 nx).bind (fun q49 =>
                      (fX7_carry a40_0 a40_1 A41 p0 p1 q13 q15 p3).bind (fun q51 =>
                      (fX0_find a40_0 a40_1 a42_0 q51.2 A43 A44).bind (fun q53 =>
                      if q51.1 = 0 then
                        (fX11_wayOfVector q13 q15).bind (fun q55 =>
                        if q55 = (p3 - p3 / 2 * 2) then
                          some (0, q53.1, q49.1, q49.2.1, q51.2, q53.2.1, q53.2.2, q49.2.2.1, A62, q49.2.2.2.1, q49.2.2.2.2)
                        else
                          some (1, q53.1, q49.1, q49.2.1, q51.2, q53.2.1, q53.2.2, q49.2.2.1, A62, q49.2.2.2.1, q49.2.2.2.2))
                      else
                        some (q51.1, q53.1, q49.1, q49.2.1, q51.2, q53.2.1, q53.2.2, q49.2.2.1, A62, q49.2.2.2.1, q49.2.2.2.2)))))
              else
                if a42_0 < 12 then
                  (f_rem A57 SS a56_1 a56_2 A41 A55 a54_1 nx).bind (fun q17 =>
                  (fX7_carry a40_0 a40_1 A41 p0 p1 q13 q15 p3).bind (fun q19 =>
                  (fX0_find a40_0 a40_1 a42_0 q19.2 A43 A44).bind (fun q21 =>
                  if q19.1 = 0 then
                    (fX11_wayOfVector q13 q15).bind (fun q23 =>
                    if q23 = (p3 - p3 / 2 * 2) then
                      some (0, q21.1, q17.1, q17.2.1, q19.2, q21.2.1, q21.2.2, q17.2.2.1, A62, q17.2.2.2.1, q17.2.2.2.2)
                    else
                      some (1, q21.1, q17.1, q17.2.1, q19.2, q21.2.1, q21.2.2, q17.2.2.1, A62, q17.2.2.2.1, q17.2.2.2.2))
                  else
                    some (q19.1, q21.1, q17.1, q17.2.1, q19.2, q21.2.1, q21.2.2, q17.2.2.1, A62, q17.2.2.2.1, q17.2.2.2.2))))
                else
                  (fX11_wouldSplit a40_0 a40_1 A41 p0 p1 q13 q15 p3).bind (fun q25 =>
                  if q25 = true then
                    (fX11_refuse A62 3).bind (fun q27 =>
                    some (q27.1, a42_0, a56_1, a56_2, A41, A43, A44, A57, q27.2, SS, 0))
                  else
                    (f_rem A57 SS a56_1 a56_2 A41 A55 a54_1 nx).bind (fun q29 =>
                    (fX7_carry a40_0 a40_1 A41 p0 p1 q13 q15 p3).bind (fun q31 =>
                    (fX0_find a40_0 a40_1 a42_0 q31.2 A43 A44).bind (fun q33 =>
                    if q31.1 = 0 then
                      (fX11_wayOfVector q13 q15).bind (fun q35 =>
                      if q35 = (p3 - p3 / 2 * 2) then
                        some (0, q33.1, q29.1, q29.2.1, q31.2, q33.2.1, q33.2.2, q29.2.2.1, A62, q29.2.2.2.1, q29.2.2.2.2)
                      else
                        some (1, q33.1, q29.1, q29.2.1, q31.2, q33.2.1, q33.2.2, q29.2.2.1, A62, q29.2.2.2.1, q29.2.2.2.2))
                    else
                      some (q31.1, q33.1, q29.1, q29.2.1, q31.2, q33.2.1, q33.2.2, q29.2.2.1, A62, q29.2.2.2.1, q29.2.2.2.2)))))))
            else
              (fX11_refuse A62 2).bind (fun q63 =>
              some (q63.1, a42_0, a56_1, a56_2, A41, A43, A44, A57, q63.2, SS, 0))))
set_option maxRecDepth 100000 in
theorem tX11_move_32 {G : eG} (hG : e_GS G) {la : Launch} {h : Nat → eO} {nx : Nat} (hnx : 99 ≤ nx) {a32_8 : Bool} {a32_10 : Bool} {a40_0 : Int32} {a40_1 : Int32} {A41 : Nat → Int32} {a42_0 : Int32} {A43 : Nat → Int32} {A44 : Nat → Int32} {a54_1 : Int32} {A55 : Nat → Int32} {a56_1 : Int32} {a56_2 : Int32} {A57 : Nat → Option Nat} {A62 : Nat → Int32} {SS : eSS} {q6 nl : Nat} {LE : Nat → Int32} {p0 : Int32} {p1 : Int32} {p2 : Int32} {p3 : Int32} (h32 : h 32 = o32 a32_8 a32_10) (h39 : h 39 = o39) (h40 : h 40 = o40 a40_0 a40_1) (h41 : h 41 = o41 A41) (h42 : h 42 = o42 a42_0) (h43 : h 43 = o43 A43) (h44 : h 44 = o44 A44) (h54 : h 54 = o54 a54_1) (h55 : h 55 = o55 A55) (h56 : h 56 = o56 a56_1 a56_2) (h57 : h 57 = o57 A57) (h62 : h 62 = o62 A62) (hdy : e_dyn h nx A57 SS q6 nl LE) {R9 : Int32 × Int32 × Int32 × Int32 × (Nat → Int32) × (Nat → Int32) × (Nat → Int32) × (Nat → Option Nat) × (Nat → Int32) × eSS × Nat} (hf : fX11_move a40_0 a40_1 a42_0 a54_1 a56_1 a56_2 A41 A43 A44 A55 A57 A62 SS p0 p1 p2 p3 nx = some R9) :
    eSemB G la MX11_move [.ref 32, .int p0, .int p1, .int p2, .int p3] h nx 3 487 (fun r9 h9 nx9 => r9 = some (.int R9.1) ∧ nx9 = nx + 3 * R9.2.2.2.2.2.2.2.2.2.2 ∧ (∀ k, k < 99 → [41, 42, 43, 44, 56, 57, 62].contains k = false → h9 k = h k) ∧ h9 41 = o41 R9.2.2.2.2.1 ∧ h9 42 = o42 R9.2.1 ∧ h9 43 = o43 R9.2.2.2.2.2.1 ∧ h9 44 = o44 R9.2.2.2.2.2.2.1 ∧ h9 56 = o56 R9.2.2.1 R9.2.2.2.1 ∧ h9 57 = o57 R9.2.2.2.2.2.2.2.1 ∧ h9 62 = o62 R9.2.2.2.2.2.2.2.2.1 ∧ e_dyn h9 nx9 R9.2.2.2.2.2.2.2.1 R9.2.2.2.2.2.2.2.2.2.1 q6 nl LE) := by
  refine eSemB.of (k := 3) (L := [some (.ref 32), some (.int p0), some (.int p1), some (.int p2), some (.int p3), none, none, none]) (by decide +kernel) rfl rfl (fun X F hxl hq hcR hsR => ?_)
  subst hxl
  unfold fX11_move at hf
  refine r_aload_n F dX11_move_0 rfl ?_
  obtain ⟨q1, hq2, hf⟩ := e_bd hf
  refine r_callV F dX11_move_1 (b := 32) (dc := 0) (ds := 0) (As := []) (S0 := []) lkX11_136 mX11_isEmpty (tX11_isEmpty_32 hG (la := x_l X) (h := e_up h []) hnx h32 h39 h40 hq2) rfl rfl rfl (e_le rfl) (e_le rfl) (e_le rfl) h32 (ci := 11) e_cl11.1 rfl (e_le rfl) (e_lt hnx rfl) (Nat.zero_le _) (Nat.zero_le _) (e_k ?_)
  refine r_wr0 ?_
  refine r_z_eq F dX11_move_4 (tgt := 13) (by decide) (fun hc => ?_) (fun hc => ?_)
  · have hf := e_t hc hf
    refine r_aload_n F dX11_move_7 rfl ?_
    refine r_iconst F dX11_move_8 (v := 0) (by decide) ?_
    obtain ⟨q3, hq4, hf⟩ := e_bd hf
    refine r_callV F dX11_move_9 (b := 32) (dc := 0) (ds := 0) (As := [.int 0]) (S0 := []) lkX11_243 mX11_refuse (tX11_refuse_32 hG (la := x_l X) (h := e_up h []) hnx h32 h62 hq4) rfl rfl rfl (e_le rfl) (e_le rfl) (e_le rfl) h32 (ci := 11) e_cl11.1 rfl (e_le rfl) (e_lt hnx rfl) (Nat.zero_le _) (Nat.zero_le _) (e_k ?_)
    refine r_wr (l' := [(62, o62 q3.2)]) rfl rfl ?_
    obtain rfl := Option.some.inj hf
    exact r_iretB F hq dX11_move_12 rfl (Nat.zero_le _) (Nat.zero_le _) ⟨rfl, rfl, e_frm (fun _ _ _ _ => rfl) rfl rfl rfl, h41, h42, h43, h44, h56, h57, rfl, e_dyn.up rfl hdy⟩
  · have hf := e_f hc hf
    refine r_aload_n F dX11_move_13 rfl ?_
    refine r_get F dX11_move_14 flX11_28 h32 rfl (e_le rfl) (e_lt hnx rfl) ?_
    refine r_get F dX11_move_17 flX11_127 h39 rfl (e_le rfl) (e_lt hnx rfl) ?_
    refine r_iload_n F dX11_move_20 rfl ?_
    refine r_iload_n F dX11_move_21 rfl ?_
    obtain ⟨q5, hq6, hf⟩ := e_bd hf
    refine r_callV F dX11_move_22 (b := 42) (dc := 0) (ds := 0) (As := [.int p0, .int p1]) (S0 := []) lkX11_192 mX0_indexAt (tX0_indexAt_42 hG (la := x_l X) (h := e_up h []) hnx h42 h43 hq6) rfl rfl rfl (e_le rfl) (e_le rfl) (e_le rfl) h42 (ci := 0) e_cl0.1 rfl (e_le rfl) (e_lt hnx rfl) (Nat.zero_le _) (Nat.zero_le _) (e_k ?_)
    refine r_wr0 ?_
    refine r_iconst F dX11_move_25 (v := (-1)) (by decide) ?_
    refine r_icmp_ne F dX11_move_26 (tgt := 35) (by decide) (fun hc => ?_) (fun hc => ?_)
    · have hf := e_f hc hf
      refine r_iload_n F dX11_move_35 rfl ?_
      refine r_if_lt F dX11_move_36 (tgt := 55) (by decide) (fun hc => ?_) (fun hc => ?_)
      · have hf := e_t hc hf
        refine r_aload_n F dX11_move_55 rfl ?_
        refine r_iconst F dX11_move_56 (v := 2) (by decide) ?_
        obtain ⟨q7, hq8, hf⟩ := e_bd hf
        refine r_callV F dX11_move_57 (b := 32) (dc := 0) (ds := 0) (As := [.int 2]) (S0 := []) lkX11_243 mX11_refuse (tX11_refuse_32 hG (la := x_l X) (h := e_up h []) hnx h32 h62 hq8) rfl rfl rfl (e_le rfl) (e_le rfl) (e_le rfl) h32 (ci := 11) e_cl11.1 rfl (e_le rfl) (e_lt hnx rfl) (Nat.zero_le _) (Nat.zero_le _) (e_k ?_)
        refine r_wr (l' := [(62, o62 q7.2)]) rfl rfl ?_
        obtain rfl := Option.some.inj hf
        exact r_iretB F hq dX11_move_60 rfl (Nat.zero_le _) (Nat.zero_le _) ⟨rfl, rfl, e_frm (fun _ _ _ _ => rfl) rfl rfl rfl, h41, h42, h43, h44, h56, h57, rfl, e_dyn.up rfl hdy⟩
      · have hf := e_f hc hf
        refine r_iload_n F dX11_move_39 rfl ?_
        refine r_iconst F dX11_move_40 (v := 2) (by decide) ?_
        refine r_icmp_gt F dX11_move_41 (tgt := 55) (by decide) (fun hc => ?_) (fun hc => ?_)
        · have hf := e_t hc hf
          refine r_aload_n F dX11_move_55 rfl ?_
          refine r_iconst F dX11_move_56 (v := 2) (by decide) ?_
          obtain ⟨q9, hq10, hf⟩ := e_bd hf
          refine r_callV F dX11_move_57 (b := 32) (dc := 0) (ds := 0) (As := [.int 2]) (S0 := []) lkX11_243 mX11_refuse (tX11_refuse_32 hG (la := x_l X) (h := e_up h []) hnx h32 h62 hq10) rfl rfl rfl (e_le rfl) (e_le rfl) (e_le rfl) h32 (ci := 11) e_cl11.1 rfl (e_le rfl) (e_lt hnx rfl) (Nat.zero_le _) (Nat.zero_le _) (e_k ?_)
          refine r_wr (l' := [(62, o62 q9.2)]) rfl rfl ?_
          obtain rfl := Option.some.inj hf
          exact r_iretB F hq dX11_move_60 rfl (Nat.zero_le _) (Nat.zero_le _) ⟨rfl, rfl, e_frm (fun _ _ _ _ => rfl) rfl rfl rfl, h41, h42, h43, h44, h56, h57, rfl, e_dyn.up rfl hdy⟩
        · have hf := e_f hc hf
          refine r_iload F dX11_move_44 rfl ?_
          refine r_if_lt F dX11_move_46 (tgt := 55) (by decide) (fun hc => ?_) (fun hc => ?_)
          · have hf := e_t hc hf
            refine r_aload_n F dX11_move_55 rfl ?_
            refine r_iconst F dX11_move_56 (v := 2) (by decide) ?_
            obtain ⟨q11, hq12, hf⟩ := e_bd hf
            refine r_callV F dX11_move_57 (b := 32) (dc := 0) (ds := 0) (As := [.int 2]) (S0 := []) lkX11_243 mX11_refuse (tX11_refuse_32 hG (la := x_l X) (h := e_up h []) hnx h32 h62 hq12) rfl rfl rfl (e_le rfl) (e_le rfl) (e_le rfl) h32 (ci := 11) e_cl11.1 rfl (e_le rfl) (e_lt hnx rfl) (Nat.zero_le _) (Nat.zero_le _) (e_k ?_)
            refine r_wr (l' := [(62, o62 q11.2)]) rfl rfl ?_
            obtain rfl := Option.some.inj hf
            exact r_iretB F hq dX11_move_60 rfl (Nat.zero_le _) (Nat.zero_le _) ⟨rfl, rfl, e_frm (fun _ _ _ _ => rfl) rfl rfl rfl, h41, h42, h43, h44, h56, h57, rfl, e_dyn.up rfl hdy⟩
          · have hf := e_f hc hf
            refine r_iload F dX11_move_49 rfl ?_
            refine r_iconst F dX11_move_51 (v := 3) (by decide) ?_
            refine r_icmp_le F dX11_move_52 (tgt := 61) (by decide) (fun hc => ?_) (fun hc => ?_)
            · have hf := e_t hc hf
              refine r_iload_n F dX11_move_61 rfl ?_
              refine r_iconst F dX11_move_62 (v := 2) (by decide) ?_
              obtain ⟨q13, hq14, hf⟩ := e_bd hf
              have Jq13 : eRun G X 83 [some (.ref 32), some (.int p0), some (.int p1), some (.int p2), some (.int p3), none, none, none] [.int q13] h [] nx 0 0 := by
                refine r_istore F dX11_move_83 (e_le rfl) (L' := [some (.ref 32), some (.int p0), some (.int p1), some (.int p2), some (.int p3), some (.int q13), none, none]) rfl ?_
                refine r_iload_n F dX11_move_85 rfl ?_
                refine r_iconst F dX11_move_86 (v := 1) (by decide) ?_
                obtain ⟨q15, hq16, hf⟩ := e_bd hf
                have Jq15 : eRun G X 107 [some (.ref 32), some (.int p0), some (.int p1), none, some (.int p3), some (.int q13), none, none] [.int q15] h [] nx 0 0 := by
                  refine r_istore F dX11_move_107 (e_le rfl) (L' := [some (.ref 32), some (.int p0), some (.int p1), none, some (.int p3), some (.int q13), some (.int q15), none]) rfl ?_
                  refine r_iload F dX11_move_109 rfl ?_
                  refine r_if_ne F dX11_move_111 (tgt := 125) (by decide) (fun hc => ?_) (fun hc => ?_)
                  · have hf := e_f hc hf
                    refine r_aload_n F dX11_move_125 rfl ?_
                    refine r_get F dX11_move_126 flX11_28 h32 rfl (e_le rfl) (e_lt hnx rfl) ?_
                    refine r_get F dX11_move_129 flX11_127 h39 rfl (e_le rfl) (e_lt hnx rfl) ?_
                    refine r_get F dX11_move_132 flX11_131 h42 rfl (e_le rfl) (e_lt hnx rfl) ?_
                    refine r_bipush F dX11_move_135 (v := 12) (by decide) ?_
                    refine r_icmp_lt F dX11_move_137 (tgt := 161) (by decide) (fun hc => ?_) (fun hc => ?_)
                    · have hf := e_t hc hf
                      refine r_aload_n F dX11_move_161 rfl ?_
                      refine r_get F dX11_move_162 flX11_49 h32 rfl (e_le rfl) (e_lt hnx rfl) ?_
                      refine r_aload_n F dX11_move_165 rfl ?_
                      refine r_get F dX11_move_166 flX11_28 h32 rfl (e_le rfl) (e_lt hnx rfl) ?_
                      refine r_get F dX11_move_169 flX11_141 h39 rfl (e_le rfl) (e_lt hnx rfl) ?_
                      refine r_aload_n F dX11_move_172 rfl ?_
                      refine r_get F dX11_move_173 flX11_42 h32 rfl (e_le rfl) (e_lt hnx rfl) ?_
                      obtain ⟨q17, hq18, hf⟩ := e_bd hf
                      have hK9 := f_rem_le hq18
                      refine r_callV F dX11_move_176 (b := 56) (dc := 3 * q17.2.2.2.2) (ds := 487 * q17.2.2.2.2) (As := [.ref 40, .ref 54]) (S0 := []) lkX11_250 mX4_remember (t_rem hG (la := x_l X) (h := e_up h []) hnx h40 h41 h54 h55 h56 h57 (e_dyn.up rfl hdy) hq18) rfl rfl rfl (e_le rfl) (e_le rfl) (e_le rfl) h56 (ci := 4) e_cl4.1 rfl (e_le rfl) (e_lt hnx rfl) (by rw [hcR]; omega) (by rw [hsR]; omega) (fun r9 hB p9 => ?_)
                      obtain ⟨e9, fr, hB56, hB57, hdyB⟩ := p9
                      subst e9
                      have h32 := (fr 32 (by decide) (by decide) (by decide)).trans h32
                      have h39 := (fr 39 (by decide) (by decide) (by decide)).trans h39
                      have h40 := (fr 40 (by decide) (by decide) (by decide)).trans h40
                      have h41 := (fr 41 (by decide) (by decide) (by decide)).trans h41
                      have h42 := (fr 42 (by decide) (by decide) (by decide)).trans h42
                      have h43 := (fr 43 (by decide) (by decide) (by decide)).trans h43
                      have h44 := (fr 44 (by decide) (by decide) (by decide)).trans h44
                      have h54 := (fr 54 (by decide) (by decide) (by decide)).trans h54
                      have h55 := (fr 55 (by decide) (by decide) (by decide)).trans h55
                      have h62 := (fr 62 (by decide) (by decide) (by decide)).trans h62
                      have h56 := hB56
                      have h57 := hB57
                      have hnx : 99 ≤ nx + 3 * q17.2.2.2.2 := by omega
                      refine r_aload_n F dX11_move_179 rfl ?_
                      refine r_get F dX11_move_180 flX11_28 h32 rfl (e_le rfl) (e_lt hnx rfl) ?_
                      refine r_get F dX11_move_183 flX11_141 h39 rfl (e_le rfl) (e_lt hnx rfl) ?_
                      refine r_iload_n F dX11_move_186 rfl ?_
                      refine r_iload_n F dX11_move_187 rfl ?_
                      refine r_iload F dX11_move_188 rfl ?_
                      refine r_iload F dX11_move_190 rfl ?_
                      refine r_iload F dX11_move_192 rfl ?_
                      obtain ⟨q19, hq20, hf⟩ := e_bd hf
                      refine r_callV F dX11_move_194 (b := 40) (dc := 0) (ds := 0) (As := [.int p0, .int p1, .int q13, .int q15, .int p3]) (S0 := []) lkX11_254 mX7_carry (tX7_carry_40 hG (la := x_l X) (h := e_up hB []) hnx h40 h41 hq20) rfl rfl rfl (e_le rfl) (e_le rfl) (e_le rfl) h40 (ci := 7) e_cl7.1 rfl (e_le rfl) (e_lt hnx rfl) (by rw [hcR]; omega) (by rw [hsR]; omega) (e_k ?_)
                      refine r_wr (l' := [(41, o41 q19.2)]) rfl rfl ?_
                      refine r_istore F dX11_move_197 (e_le rfl) (L' := [some (.ref 32), some (.int p0), some (.int p1), none, some (.int p3), some (.int q13), some (.int q15), some (.int q19.1)]) rfl ?_
                      refine r_aload_n F dX11_move_199 rfl ?_
                      refine r_get F dX11_move_200 flX11_28 h32 rfl (e_le rfl) (e_lt hnx rfl) ?_
                      refine r_get F dX11_move_203 flX11_127 h39 rfl (e_le rfl) (e_lt hnx rfl) ?_
                      refine r_aload_n F dX11_move_206 rfl ?_
                      refine r_get F dX11_move_207 flX11_28 h32 rfl (e_le rfl) (e_lt hnx rfl) ?_
                      refine r_get F dX11_move_210 flX11_141 h39 rfl (e_le rfl) (e_lt hnx rfl) ?_
                      obtain ⟨q21, hq22, hf⟩ := e_bd hf
                      refine r_callV F dX11_move_213 (b := 42) (dc := 0) (ds := 0) (As := [.ref 40]) (S0 := []) lkX11_257 mX0_find (tX0_find_42_40 hG (la := x_l X) (h := e_up hB [(41, o41 q19.2)]) hnx h40 rfl h42 h43 h44 hq22) rfl rfl rfl (e_le rfl) (e_le rfl) (e_le rfl) h42 (ci := 0) e_cl0.1 rfl (e_le rfl) (e_lt hnx rfl) (by rw [hcR]; omega) (by rw [hsR]; omega) (e_k ?_)
                      refine r_wr (l' := [(41, o41 q19.2), (42, o42 q21.1), (43, o43 q21.2.1), (44, o44 q21.2.2)]) rfl rfl ?_
                      refine r_iload F dX11_move_216 rfl ?_
                      refine r_if_eq F dX11_move_218 (tgt := 224) (by decide) (fun hc => ?_) (fun hc => ?_)
                      · have hf := e_t hc hf
                        refine r_iload F dX11_move_224 rfl ?_
                        refine r_iload F dX11_move_226 rfl ?_
                        obtain ⟨q23, hq24, hf⟩ := e_bd hf
                        refine r_callS F dX11_move_228 (dc := 0) (ds := 0) (As := [.int q13, .int q15]) (S0 := []) lkX11_258 mX11_wayOfVector (tX11_wayOfVector hG (la := x_l X) (h := e_up hB [(41, o41 q19.2), (42, o42 q21.1), (43, o43 q21.2.1), (44, o44 q21.2.2)]) hnx  hq24) rfl rfl rfl (e_le rfl) (e_le rfl) (e_le rfl) (by rw [hcR]; omega) (by rw [hsR]; omega) (e_k ?_)
                        refine r_wr0 ?_
                        refine r_iload F dX11_move_231 rfl ?_
                        refine r_iconst F dX11_move_233 (v := 2) (by decide) ?_
                        refine r_irem F dX11_move_234 (by decide) ?_
                        refine r_icmp_ne F dX11_move_235 (tgt := 242) (by decide) (fun hc => ?_) (fun hc => ?_)
                        · have hf := e_f hc hf
                          refine r_iconst F dX11_move_242 (v := 1) (by decide) ?_
                          obtain rfl := Option.some.inj hf
                          exact r_iretB F hq dX11_move_243 rfl (by omega) (by omega) ⟨rfl, rfl, e_frm fr rfl rfl rfl, rfl, rfl, rfl, rfl, h56, h57, h62, e_dyn.up rfl hdyB⟩
                        · have hf := e_t hc hf
                          refine r_iconst F dX11_move_238 (v := 0) (by decide) ?_
                          refine r_goto F dX11_move_239 (tgt := 243) (by decide) ?_
                          obtain rfl := Option.some.inj hf
                          exact r_iretB F hq dX11_move_243 rfl (by omega) (by omega) ⟨rfl, rfl, e_frm fr rfl rfl rfl, rfl, rfl, rfl, rfl, h56, h57, h62, e_dyn.up rfl hdyB⟩
                      · have hf := e_f hc hf
                        refine r_iload F dX11_move_221 rfl ?_
                        obtain rfl := Option.some.inj hf
                        exact r_iretB F hq dX11_move_223 rfl (by omega) (by omega) ⟨rfl, rfl, e_frm fr rfl rfl rfl, rfl, rfl, rfl, rfl, h56, h57, h62, e_dyn.up rfl hdyB⟩
                    · have hf := e_f hc hf
                      refine r_aload_n F dX11_move_140 rfl ?_
                      refine r_iload_n F dX11_move_141 rfl ?_
                      refine r_iload_n F dX11_move_142 rfl ?_
                      refine r_iload F dX11_move_143 rfl ?_
                      refine r_iload F dX11_move_145 rfl ?_
                      refine r_iload F dX11_move_147 rfl ?_
                      obtain ⟨q25, hq26, hf⟩ := e_bd hf
                      refine r_callV F dX11_move_149 (b := 32) (dc := 0) (ds := 0) (As := [.int p0, .int p1, .int q13, .int q15, .int p3]) (S0 := []) lkX11_246 mX11_wouldSplit (tX11_wouldSplit_32 hG (la := x_l X) (h := e_up h []) hnx h32 h39 h40 h41 hq26) rfl rfl rfl (e_le rfl) (e_le rfl) (e_le rfl) h32 (ci := 11) e_cl11.1 rfl (e_le rfl) (e_lt hnx rfl) (Nat.zero_le _) (Nat.zero_le _) (e_k ?_)
                      refine r_wr0 ?_
                      refine r_z_eq F dX11_move_152 (tgt := 161) (by decide) (fun hc => ?_) (fun hc => ?_)
                      · have hf := e_t hc hf
                        refine r_aload_n F dX11_move_155 rfl ?_
                        refine r_iconst F dX11_move_156 (v := 3) (by decide) ?_
                        obtain ⟨q27, hq28, hf⟩ := e_bd hf
                        refine r_callV F dX11_move_157 (b := 32) (dc := 0) (ds := 0) (As := [.int 3]) (S0 := []) lkX11_243 mX11_refuse (tX11_refuse_32 hG (la := x_l X) (h := e_up h []) hnx h32 h62 hq28) rfl rfl rfl (e_le rfl) (e_le rfl) (e_le rfl) h32 (ci := 11) e_cl11.1 rfl (e_le rfl) (e_lt hnx rfl) (Nat.zero_le _) (Nat.zero_le _) (e_k ?_)
                        refine r_wr (l' := [(62, o62 q27.2)]) rfl rfl ?_
                        obtain rfl := Option.some.inj hf
                        exact r_iretB F hq dX11_move_160 rfl (Nat.zero_le _) (Nat.zero_le _) ⟨rfl, rfl, e_frm (fun _ _ _ _ => rfl) rfl rfl rfl, h41, h42, h43, h44, h56, h57, rfl, e_dyn.up rfl hdy⟩
                      · have hf := e_f hc hf
                        refine r_aload_n F dX11_move_161 rfl ?_
                        refine r_get F dX11_move_162 flX11_49 h32 rfl (e_le rfl) (e_lt hnx rfl) ?_
                        refine r_aload_n F dX11_move_165 rfl ?_
                        refine r_get F dX11_move_166 flX11_28 h32 rfl (e_le rfl) (e_lt hnx rfl) ?_
                        refine r_get F dX11_move_169 flX11_141 h39 rfl (e_le rfl) (e_lt hnx rfl) ?_
                        refine r_aload_n F dX11_move_172 rfl ?_
                        refine r_get F dX11_move_173 flX11_42 h32 rfl (e_le rfl) (e_lt hnx rfl) ?_
                        obtain ⟨q29, hq30, hf⟩ := e_bd hf
                        have hK9 := f_rem_le hq30
                        refine r_callV F dX11_move_176 (b := 56) (dc := 3 * q29.2.2.2.2) (ds := 487 * q29.2.2.2.2) (As := [.ref 40, .ref 54]) (S0 := []) lkX11_250 mX4_remember (t_rem hG (la := x_l X) (h := e_up h []) hnx h40 h41 h54 h55 h56 h57 (e_dyn.up rfl hdy) hq30) rfl rfl rfl (e_le rfl) (e_le rfl) (e_le rfl) h56 (ci := 4) e_cl4.1 rfl (e_le rfl) (e_lt hnx rfl) (by rw [hcR]; omega) (by rw [hsR]; omega) (fun r9 hB p9 => ?_)
                        obtain ⟨e9, fr, hB56, hB57, hdyB⟩ := p9
                        subst e9
                        have h32 := (fr 32 (by decide) (by decide) (by decide)).trans h32
                        have h39 := (fr 39 (by decide) (by decide) (by decide)).trans h39
                        have h40 := (fr 40 (by decide) (by decide) (by decide)).trans h40
                        have h41 := (fr 41 (by decide) (by decide) (by decide)).trans h41
                        have h42 := (fr 42 (by decide) (by decide) (by decide)).trans h42
                        have h43 := (fr 43 (by decide) (by decide) (by decide)).trans h43
                        have h44 := (fr 44 (by decide) (by decide) (by decide)).trans h44
                        have h54 := (fr 54 (by decide) (by decide) (by decide)).trans h54
                        have h55 := (fr 55 (by decide) (by decide) (by decide)).trans h55
                        have h62 := (fr 62 (by decide) (by decide) (by decide)).trans h62
                        have h56 := hB56
                        have h57 := hB57
                        have hnx : 99 ≤ nx + 3 * q29.2.2.2.2 := by omega
                        refine r_aload_n F dX11_move_179 rfl ?_
                        refine r_get F dX11_move_180 flX11_28 h32 rfl (e_le rfl) (e_lt hnx rfl) ?_
                        refine r_get F dX11_move_183 flX11_141 h39 rfl (e_le rfl) (e_lt hnx rfl) ?_
                        refine r_iload_n F dX11_move_186 rfl ?_
                        refine r_iload_n F dX11_move_187 rfl ?_
                        refine r_iload F dX11_move_188 rfl ?_
                        refine r_iload F dX11_move_190 rfl ?_
                        refine r_iload F dX11_move_192 rfl ?_
                        obtain ⟨q31, hq32, hf⟩ := e_bd hf
                        refine r_callV F dX11_move_194 (b := 40) (dc := 0) (ds := 0) (As := [.int p0, .int p1, .int q13, .int q15, .int p3]) (S0 := []) lkX11_254 mX7_carry (tX7_carry_40 hG (la := x_l X) (h := e_up hB []) hnx h40 h41 hq32) rfl rfl rfl (e_le rfl) (e_le rfl) (e_le rfl) h40 (ci := 7) e_cl7.1 rfl (e_le rfl) (e_lt hnx rfl) (by rw [hcR]; omega) (by rw [hsR]; omega) (e_k ?_)
                        refine r_wr (l' := [(41, o41 q31.2)]) rfl rfl ?_
                        refine r_istore F dX11_move_197 (e_le rfl) (L' := [some (.ref 32), some (.int p0), some (.int p1), none, some (.int p3), some (.int q13), some (.int q15), some (.int q31.1)]) rfl ?_
                        refine r_aload_n F dX11_move_199 rfl ?_
                        refine r_get F dX11_move_200 flX11_28 h32 rfl (e_le rfl) (e_lt hnx rfl) ?_
                        refine r_get F dX11_move_203 flX11_127 h39 rfl (e_le rfl) (e_lt hnx rfl) ?_
                        refine r_aload_n F dX11_move_206 rfl ?_
                        refine r_get F dX11_move_207 flX11_28 h32 rfl (e_le rfl) (e_lt hnx rfl) ?_
                        refine r_get F dX11_move_210 flX11_141 h39 rfl (e_le rfl) (e_lt hnx rfl) ?_
                        obtain ⟨q33, hq34, hf⟩ := e_bd hf
                        refine r_callV F dX11_move_213 (b := 42) (dc := 0) (ds := 0) (As := [.ref 40]) (S0 := []) lkX11_257 mX0_find (tX0_find_42_40 hG (la := x_l X) (h := e_up hB [(41, o41 q31.2)]) hnx h40 rfl h42 h43 h44 hq34) rfl rfl rfl (e_le rfl) (e_le rfl) (e_le rfl) h42 (ci := 0) e_cl0.1 rfl (e_le rfl) (e_lt hnx rfl) (by rw [hcR]; omega) (by rw [hsR]; omega) (e_k ?_)
                        refine r_wr (l' := [(41, o41 q31.2), (42, o42 q33.1), (43, o43 q33.2.1), (44, o44 q33.2.2)]) rfl rfl ?_
                        refine r_iload F dX11_move_216 rfl ?_
                        refine r_if_eq F dX11_move_218 (tgt := 224) (by decide) (fun hc => ?_) (fun hc => ?_)
                        · have hf := e_t hc hf
                          refine r_iload F dX11_move_224 rfl ?_
                          refine r_iload F dX11_move_226 rfl ?_
                          obtain ⟨q35, hq36, hf⟩ := e_bd hf
                          refine r_callS F dX11_move_228 (dc := 0) (ds := 0) (As := [.int q13, .int q15]) (S0 := []) lkX11_258 mX11_wayOfVector (tX11_wayOfVector hG (la := x_l X) (h := e_up hB [(41, o41 q31.2), (42, o42 q33.1), (43, o43 q33.2.1), (44, o44 q33.2.2)]) hnx  hq36) rfl rfl rfl (e_le rfl) (e_le rfl) (e_le rfl) (by rw [hcR]; omega) (by rw [hsR]; omega) (e_k ?_)
                          refine r_wr0 ?_
                          refine r_iload F dX11_move_231 rfl ?_
                          refine r_iconst F dX11_move_233 (v := 2) (by decide) ?_
                          refine r_irem F dX11_move_234 (by decide) ?_
                          refine r_icmp_ne F dX11_move_235 (tgt := 242) (by decide) (fun hc => ?_) (fun hc => ?_)
                          · have hf := e_f hc hf
                            refine r_iconst F dX11_move_242 (v := 1) (by decide) ?_
                            obtain rfl := Option.some.inj hf
                            exact r_iretB F hq dX11_move_243 rfl (by omega) (by omega) ⟨rfl, rfl, e_frm fr rfl rfl rfl, rfl, rfl, rfl, rfl, h56, h57, h62, e_dyn.up rfl hdyB⟩
                          · have hf := e_t hc hf
                            refine r_iconst F dX11_move_238 (v := 0) (by decide) ?_
                            refine r_goto F dX11_move_239 (tgt := 243) (by decide) ?_
                            obtain rfl := Option.some.inj hf
                            exact r_iretB F hq dX11_move_243 rfl (by omega) (by omega) ⟨rfl, rfl, e_frm fr rfl rfl rfl, rfl, rfl, rfl, rfl, h56, h57, h62, e_dyn.up rfl hdyB⟩
                        · have hf := e_f hc hf
                          refine r_iload F dX11_move_221 rfl ?_
                          obtain rfl := Option.some.inj hf
                          exact r_iretB F hq dX11_move_223 rfl (by omega) (by omega) ⟨rfl, rfl, e_frm fr rfl rfl rfl, rfl, rfl, rfl, rfl, h56, h57, h62, e_dyn.up rfl hdyB⟩
                  · have hf := e_t hc hf
                    refine r_iload F dX11_move_114 rfl ?_
                    refine r_if_ne F dX11_move_116 (tgt := 125) (by decide) (fun hc => ?_) (fun hc => ?_)
                    · have hf := e_f hc hf
                      refine r_aload_n F dX11_move_125 rfl ?_
                      refine r_get F dX11_move_126 flX11_28 h32 rfl (e_le rfl) (e_lt hnx rfl) ?_
                      refine r_get F dX11_move_129 flX11_127 h39 rfl (e_le rfl) (e_lt hnx rfl) ?_
                      refine r_get F dX11_move_132 flX11_131 h42 rfl (e_le rfl) (e_lt hnx rfl) ?_
                      refine r_bipush F dX11_move_135 (v := 12) (by decide) ?_
                      refine r_icmp_lt F dX11_move_137 (tgt := 161) (by decide) (fun hc => ?_) (fun hc => ?_)
                      · have hf := e_t hc hf
                        refine r_aload_n F dX11_move_161 rfl ?_
                        refine r_get F dX11_move_162 flX11_49 h32 rfl (e_le rfl) (e_lt hnx rfl) ?_
                        refine r_aload_n F dX11_move_165 rfl ?_
                        refine r_get F dX11_move_166 flX11_28 h32 rfl (e_le rfl) (e_lt hnx rfl) ?_
                        refine r_get F dX11_move_169 flX11_141 h39 rfl (e_le rfl) (e_lt hnx rfl) ?_
                        refine r_aload_n F dX11_move_172 rfl ?_
                        refine r_get F dX11_move_173 flX11_42 h32 rfl (e_le rfl) (e_lt hnx rfl) ?_
                        obtain ⟨q37, hq38, hf⟩ := e_bd hf
                        have hK9 := f_rem_le hq38
                        refine r_callV F dX11_move_176 (b := 56) (dc := 3 * q37.2.2.2.2) (ds := 487 * q37.2.2.2.2) (As := [.ref 40, .ref 54]) (S0 := []) lkX11_250 mX4_remember (t_rem hG (la := x_l X) (h := e_up h []) hnx h40 h41 h54 h55 h56 h57 (e_dyn.up rfl hdy) hq38) rfl rfl rfl (e_le rfl) (e_le rfl) (e_le rfl) h56 (ci := 4) e_cl4.1 rfl (e_le rfl) (e_lt hnx rfl) (by rw [hcR]; omega) (by rw [hsR]; omega) (fun r9 hB p9 => ?_)
                        obtain ⟨e9, fr, hB56, hB57, hdyB⟩ := p9
                        subst e9
                        have h32 := (fr 32 (by decide) (by decide) (by decide)).trans h32
                        have h39 := (fr 39 (by decide) (by decide) (by decide)).trans h39
                        have h40 := (fr 40 (by decide) (by decide) (by decide)).trans h40
                        have h41 := (fr 41 (by decide) (by decide) (by decide)).trans h41
                        have h42 := (fr 42 (by decide) (by decide) (by decide)).trans h42
                        have h43 := (fr 43 (by decide) (by decide) (by decide)).trans h43
                        have h44 := (fr 44 (by decide) (by decide) (by decide)).trans h44
                        have h54 := (fr 54 (by decide) (by decide) (by decide)).trans h54
                        have h55 := (fr 55 (by decide) (by decide) (by decide)).trans h55
                        have h62 := (fr 62 (by decide) (by decide) (by decide)).trans h62
                        have h56 := hB56
                        have h57 := hB57
                        have hnx : 99 ≤ nx + 3 * q37.2.2.2.2 := by omega
                        refine r_aload_n F dX11_move_179 rfl ?_
                        refine r_get F dX11_move_180 flX11_28 h32 rfl (e_le rfl) (e_lt hnx rfl) ?_
                        refine r_get F dX11_move_183 flX11_141 h39 rfl (e_le rfl) (e_lt hnx rfl) ?_
                        refine r_iload_n F dX11_move_186 rfl ?_
                        refine r_iload_n F dX11_move_187 rfl ?_
                        refine r_iload F dX11_move_188 rfl ?_
                        refine r_iload F dX11_move_190 rfl ?_
                        refine r_iload F dX11_move_192 rfl ?_
                        obtain ⟨q39, hq40, hf⟩ := e_bd hf
                        refine r_callV F dX11_move_194 (b := 40) (dc := 0) (ds := 0) (As := [.int p0, .int p1, .int q13, .int q15, .int p3]) (S0 := []) lkX11_254 mX7_carry (tX7_carry_40 hG (la := x_l X) (h := e_up hB []) hnx h40 h41 hq40) rfl rfl rfl (e_le rfl) (e_le rfl) (e_le rfl) h40 (ci := 7) e_cl7.1 rfl (e_le rfl) (e_lt hnx rfl) (by rw [hcR]; omega) (by rw [hsR]; omega) (e_k ?_)
                        refine r_wr (l' := [(41, o41 q39.2)]) rfl rfl ?_
                        refine r_istore F dX11_move_197 (e_le rfl) (L' := [some (.ref 32), some (.int p0), some (.int p1), none, some (.int p3), some (.int q13), some (.int q15), some (.int q39.1)]) rfl ?_
                        refine r_aload_n F dX11_move_199 rfl ?_
                        refine r_get F dX11_move_200 flX11_28 h32 rfl (e_le rfl) (e_lt hnx rfl) ?_
                        refine r_get F dX11_move_203 flX11_127 h39 rfl (e_le rfl) (e_lt hnx rfl) ?_
                        refine r_aload_n F dX11_move_206 rfl ?_
                        refine r_get F dX11_move_207 flX11_28 h32 rfl (e_le rfl) (e_lt hnx rfl) ?_
                        refine r_get F dX11_move_210 flX11_141 h39 rfl (e_le rfl) (e_lt hnx rfl) ?_
                        obtain ⟨q41, hq42, hf⟩ := e_bd hf
                        refine r_callV F dX11_move_213 (b := 42) (dc := 0) (ds := 0) (As := [.ref 40]) (S0 := []) lkX11_257 mX0_find (tX0_find_42_40 hG (la := x_l X) (h := e_up hB [(41, o41 q39.2)]) hnx h40 rfl h42 h43 h44 hq42) rfl rfl rfl (e_le rfl) (e_le rfl) (e_le rfl) h42 (ci := 0) e_cl0.1 rfl (e_le rfl) (e_lt hnx rfl) (by rw [hcR]; omega) (by rw [hsR]; omega) (e_k ?_)
                        refine r_wr (l' := [(41, o41 q39.2), (42, o42 q41.1), (43, o43 q41.2.1), (44, o44 q41.2.2)]) rfl rfl ?_
                        refine r_iload F dX11_move_216 rfl ?_
                        refine r_if_eq F dX11_move_218 (tgt := 224) (by decide) (fun hc => ?_) (fun hc => ?_)
                        · have hf := e_t hc hf
                          refine r_iload F dX11_move_224 rfl ?_
                          refine r_iload F dX11_move_226 rfl ?_
                          obtain ⟨q43, hq44, hf⟩ := e_bd hf
                          refine r_callS F dX11_move_228 (dc := 0) (ds := 0) (As := [.int q13, .int q15]) (S0 := []) lkX11_258 mX11_wayOfVector (tX11_wayOfVector hG (la := x_l X) (h := e_up hB [(41, o41 q39.2), (42, o42 q41.1), (43, o43 q41.2.1), (44, o44 q41.2.2)]) hnx  hq44) rfl rfl rfl (e_le rfl) (e_le rfl) (e_le rfl) (by rw [hcR]; omega) (by rw [hsR]; omega) (e_k ?_)
                          refine r_wr0 ?_
                          refine r_iload F dX11_move_231 rfl ?_
                          refine r_iconst F dX11_move_233 (v := 2) (by decide) ?_
                          refine r_irem F dX11_move_234 (by decide) ?_
                          refine r_icmp_ne F dX11_move_235 (tgt := 242) (by decide) (fun hc => ?_) (fun hc => ?_)
                          · have hf := e_f hc hf
                            refine r_iconst F dX11_move_242 (v := 1) (by decide) ?_
                            obtain rfl := Option.some.inj hf
                            exact r_iretB F hq dX11_move_243 rfl (by omega) (by omega) ⟨rfl, rfl, e_frm fr rfl rfl rfl, rfl, rfl, rfl, rfl, h56, h57, h62, e_dyn.up rfl hdyB⟩
                          · have hf := e_t hc hf
                            refine r_iconst F dX11_move_238 (v := 0) (by decide) ?_
                            refine r_goto F dX11_move_239 (tgt := 243) (by decide) ?_
                            obtain rfl := Option.some.inj hf
                            exact r_iretB F hq dX11_move_243 rfl (by omega) (by omega) ⟨rfl, rfl, e_frm fr rfl rfl rfl, rfl, rfl, rfl, rfl, h56, h57, h62, e_dyn.up rfl hdyB⟩
                        · have hf := e_f hc hf
                          refine r_iload F dX11_move_221 rfl ?_
                          obtain rfl := Option.some.inj hf
                          exact r_iretB F hq dX11_move_223 rfl (by omega) (by omega) ⟨rfl, rfl, e_frm fr rfl rfl rfl, rfl, rfl, rfl, rfl, h56, h57, h62, e_dyn.up rfl hdyB⟩
                      · have hf := e_f hc hf
                        refine r_aload_n F dX11_move_140 rfl ?_
                        refine r_iload_n F dX11_move_141 rfl ?_
                        refine r_iload_n F dX11_move_142 rfl ?_
                        refine r_iload F dX11_move_143 rfl ?_
                        refine r_iload F dX11_move_145 rfl ?_
                        refine r_iload F dX11_move_147 rfl ?_
                        obtain ⟨q45, hq46, hf⟩ := e_bd hf
                        refine r_callV F dX11_move_149 (b := 32) (dc := 0) (ds := 0) (As := [.int p0, .int p1, .int q13, .int q15, .int p3]) (S0 := []) lkX11_246 mX11_wouldSplit (tX11_wouldSplit_32 hG (la := x_l X) (h := e_up h []) hnx h32 h39 h40 h41 hq46) rfl rfl rfl (e_le rfl) (e_le rfl) (e_le rfl) h32 (ci := 11) e_cl11.1 rfl (e_le rfl) (e_lt hnx rfl) (Nat.zero_le _) (Nat.zero_le _) (e_k ?_)
                        refine r_wr0 ?_
                        refine r_z_eq F dX11_move_152 (tgt := 161) (by decide) (fun hc => ?_) (fun hc => ?_)
                        · have hf := e_t hc hf
                          refine r_aload_n F dX11_move_155 rfl ?_
                          refine r_iconst F dX11_move_156 (v := 3) (by decide) ?_
                          obtain ⟨q47, hq48, hf⟩ := e_bd hf
                          refine r_callV F dX11_move_157 (b := 32) (dc := 0) (ds := 0) (As := [.int 3]) (S0 := []) lkX11_243 mX11_refuse (tX11_refuse_32 hG (la := x_l X) (h := e_up h []) hnx h32 h62 hq48) rfl rfl rfl (e_le rfl) (e_le rfl) (e_le rfl) h32 (ci := 11) e_cl11.1 rfl (e_le rfl) (e_lt hnx rfl) (Nat.zero_le _) (Nat.zero_le _) (e_k ?_)
                          refine r_wr (l' := [(62, o62 q47.2)]) rfl rfl ?_
                          obtain rfl := Option.some.inj hf
                          exact r_iretB F hq dX11_move_160 rfl (Nat.zero_le _) (Nat.zero_le _) ⟨rfl, rfl, e_frm (fun _ _ _ _ => rfl) rfl rfl rfl, h41, h42, h43, h44, h56, h57, rfl, e_dyn.up rfl hdy⟩
                        · have hf := e_f hc hf
                          refine r_aload_n F dX11_move_161 rfl ?_
                          refine r_get F dX11_move_162 flX11_49 h32 rfl (e_le rfl) (e_lt hnx rfl) ?_
                          refine r_aload_n F dX11_move_165 rfl ?_
                          refine r_get F dX11_move_166 flX11_28 h32 rfl (e_le rfl) (e_lt hnx rfl) ?_
                          refine r_get F dX11_move_169 flX11_141 h39 rfl (e_le rfl) (e_lt hnx rfl) ?_
                          refine r_aload_n F dX11_move_172 rfl ?_
                          refine r_get F dX11_move_173 flX11_42 h32 rfl (e_le rfl) (e_lt hnx rfl) ?_
                          obtain ⟨q49, hq50, hf⟩ := e_bd hf
                          have hK9 := f_rem_le hq50
                          refine r_callV F dX11_move_176 (b := 56) (dc := 3 * q49.2.2.2.2) (ds := 487 * q49.2.2.2.2) (As := [.ref 40, .ref 54]) (S0 := []) lkX11_250 mX4_remember (t_rem hG (la := x_l X) (h := e_up h []) hnx h40 h41 h54 h55 h56 h57 (e_dyn.up rfl hdy) hq50) rfl rfl rfl (e_le rfl) (e_le rfl) (e_le rfl) h56 (ci := 4) e_cl4.1 rfl (e_le rfl) (e_lt hnx rfl) (by rw [hcR]; omega) (by rw [hsR]; omega) (fun r9 hB p9 => ?_)
                          obtain ⟨e9, fr, hB56, hB57, hdyB⟩ := p9
                          subst e9
                          have h32 := (fr 32 (by decide) (by decide) (by decide)).trans h32
                          have h39 := (fr 39 (by decide) (by decide) (by decide)).trans h39
                          have h40 := (fr 40 (by decide) (by decide) (by decide)).trans h40
                          have h41 := (fr 41 (by decide) (by decide) (by decide)).trans h41
                          have h42 := (fr 42 (by decide) (by decide) (by decide)).trans h42
                          have h43 := (fr 43 (by decide) (by decide) (by decide)).trans h43
                          have h44 := (fr 44 (by decide) (by decide) (by decide)).trans h44
                          have h54 := (fr 54 (by decide) (by decide) (by decide)).trans h54
                          have h55 := (fr 55 (by decide) (by decide) (by decide)).trans h55
                          have h62 := (fr 62 (by decide) (by decide) (by decide)).trans h62
                          have h56 := hB56
                          have h57 := hB57
                          have hnx : 99 ≤ nx + 3 * q49.2.2.2.2 := by omega
                          refine r_aload_n F dX11_move_179 rfl ?_
                          refine r_get F dX11_move_180 flX11_28 h32 rfl (e_le rfl) (e_lt hnx rfl) ?_
                          refine r_get F dX11_move_183 flX11_141 h39 rfl (e_le rfl) (e_lt hnx rfl) ?_
                          refine r_iload_n F dX11_move_186 rfl ?_
                          refine r_iload_n F dX11_move_187 rfl ?_
                          refine r_iload F dX11_move_188 rfl ?_
                          refine r_iload F dX11_move_190 rfl ?_
                          refine r_iload F dX11_move_192 rfl ?_
                          obtain ⟨q51, hq52, hf⟩ := e_bd hf
                          refine r_callV F dX11_move_194 (b := 40) (dc := 0) (ds := 0) (As := [.int p0, .int p1, .int q13, .int q15, .int p3]) (S0 := []) lkX11_254 mX7_carry (tX7_carry_40 hG (la := x_l X) (h := e_up hB []) hnx h40 h41 hq52) rfl rfl rfl (e_le rfl) (e_le rfl) (e_le rfl) h40 (ci := 7) e_cl7.1 rfl (e_le rfl) (e_lt hnx rfl) (by rw [hcR]; omega) (by rw [hsR]; omega) (e_k ?_)
                          refine r_wr (l' := [(41, o41 q51.2)]) rfl rfl ?_
                          refine r_istore F dX11_move_197 (e_le rfl) (L' := [some (.ref 32), some (.int p0), some (.int p1), none, some (.int p3), some (.int q13), some (.int q15), some (.int q51.1)]) rfl ?_
                          refine r_aload_n F dX11_move_199 rfl ?_
                          refine r_get F dX11_move_200 flX11_28 h32 rfl (e_le rfl) (e_lt hnx rfl) ?_
                          refine r_get F dX11_move_203 flX11_127 h39 rfl (e_le rfl) (e_lt hnx rfl) ?_
                          refine r_aload_n F dX11_move_206 rfl ?_
                          refine r_get F dX11_move_207 flX11_28 h32 rfl (e_le rfl) (e_lt hnx rfl) ?_
                          refine r_get F dX11_move_210 flX11_141 h39 rfl (e_le rfl) (e_lt hnx rfl) ?_
                          obtain ⟨q53, hq54, hf⟩ := e_bd hf
                          refine r_callV F dX11_move_213 (b := 42) (dc := 0) (ds := 0) (As := [.ref 40]) (S0 := []) lkX11_257 mX0_find (tX0_find_42_40 hG (la := x_l X) (h := e_up hB [(41, o41 q51.2)]) hnx h40 rfl h42 h43 h44 hq54) rfl rfl rfl (e_le rfl) (e_le rfl) (e_le rfl) h42 (ci := 0) e_cl0.1 rfl (e_le rfl) (e_lt hnx rfl) (by rw [hcR]; omega) (by rw [hsR]; omega) (e_k ?_)
                          refine r_wr (l' := [(41, o41 q51.2), (42, o42 q53.1), (43, o43 q53.2.1), (44, o44 q53.2.2)]) rfl rfl ?_
                          refine r_iload F dX11_move_216 rfl ?_
                          refine r_if_eq F dX11_move_218 (tgt := 224) (by decide) (fun hc => ?_) (fun hc => ?_)
                          · have hf := e_t hc hf
                            refine r_iload F dX11_move_224 rfl ?_
                            refine r_iload F dX11_move_226 rfl ?_
                            obtain ⟨q55, hq56, hf⟩ := e_bd hf
                            refine r_callS F dX11_move_228 (dc := 0) (ds := 0) (As := [.int q13, .int q15]) (S0 := []) lkX11_258 mX11_wayOfVector (tX11_wayOfVector hG (la := x_l X) (h := e_up hB [(41, o41 q51.2), (42, o42 q53.1), (43, o43 q53.2.1), (44, o44 q53.2.2)]) hnx  hq56) rfl rfl rfl (e_le rfl) (e_le rfl) (e_le rfl) (by rw [hcR]; omega) (by rw [hsR]; omega) (e_k ?_)
                            refine r_wr0 ?_
                            refine r_iload F dX11_move_231 rfl ?_
                            refine r_iconst F dX11_move_233 (v := 2) (by decide) ?_
                            refine r_irem F dX11_move_234 (by decide) ?_
                            refine r_icmp_ne F dX11_move_235 (tgt := 242) (by decide) (fun hc => ?_) (fun hc => ?_)
                            · have hf := e_f hc hf
                              refine r_iconst F dX11_move_242 (v := 1) (by decide) ?_
                              obtain rfl := Option.some.inj hf
                              exact r_iretB F hq dX11_move_243 rfl (by omega) (by omega) ⟨rfl, rfl, e_frm fr rfl rfl rfl, rfl, rfl, rfl, rfl, h56, h57, h62, e_dyn.up rfl hdyB⟩
                            · have hf := e_t hc hf
                              refine r_iconst F dX11_move_238 (v := 0) (by decide) ?_
                              refine r_goto F dX11_move_239 (tgt := 243) (by decide) ?_
                              obtain rfl := Option.some.inj hf
                              exact r_iretB F hq dX11_move_243 rfl (by omega) (by omega) ⟨rfl, rfl, e_frm fr rfl rfl rfl, rfl, rfl, rfl, rfl, h56, h57, h62, e_dyn.up rfl hdyB⟩
                          · have hf := e_f hc hf
                            refine r_iload F dX11_move_221 rfl ?_
                            obtain rfl := Option.some.inj hf
                            exact r_iretB F hq dX11_move_223 rfl (by omega) (by omega) ⟨rfl, rfl, e_frm fr rfl rfl rfl, rfl, rfl, rfl, rfl, h56, h57, h62, e_dyn.up rfl hdyB⟩
                    · have hf := e_t hc hf
                      refine r_aload_n F dX11_move_119 rfl ?_
                      refine r_iconst F dX11_move_120 (v := 2) (by decide) ?_
                      obtain ⟨q57, hq58, hf⟩ := e_bd hf
                      refine r_callV F dX11_move_121 (b := 32) (dc := 0) (ds := 0) (As := [.int 2]) (S0 := []) lkX11_243 mX11_refuse (tX11_refuse_32 hG (la := x_l X) (h := e_up h []) hnx h32 h62 hq58) rfl rfl rfl (e_le rfl) (e_le rfl) (e_le rfl) h32 (ci := 11) e_cl11.1 rfl (e_le rfl) (e_lt hnx rfl) (Nat.zero_le _) (Nat.zero_le _) (e_k ?_)
                      refine r_wr (l' := [(62, o62 q57.2)]) rfl rfl ?_
                      obtain rfl := Option.some.inj hf
                      exact r_iretB F hq dX11_move_124 rfl (Nat.zero_le _) (Nat.zero_le _) ⟨rfl, rfl, e_frm (fun _ _ _ _ => rfl) rfl rfl rfl, h41, h42, h43, h44, h56, h57, rfl, e_dyn.up rfl hdy⟩
                refine r_icmp_ne F dX11_move_87 (tgt := 94) (by decide) (fun hc => ?_) (fun hc => ?_)
                · have hq16 := e_f hc hq16
                  refine r_aload_n F dX11_move_94 rfl ?_
                  refine r_get F dX11_move_95 flX11_28 h32 rfl (e_le rfl) (e_lt hnx rfl) ?_
                  refine r_get F dX11_move_98 flX11_141 h39 rfl (e_le rfl) (e_lt hnx rfl) ?_
                  refine r_iload_n F dX11_move_101 rfl ?_
                  refine r_iload_n F dX11_move_102 rfl ?_
                  refine r_iconst F dX11_move_103 (v := 1) (by decide) ?_
                  obtain ⟨q59, hq60, hq16⟩ := e_bd hq16
                  refine r_callV F dX11_move_104 (b := 40) (dc := 0) (ds := 0) (As := [.int p0, .int p1, .int 1]) (S0 := []) lkX11_195 mX7_vectorOf (tX7_vectorOf_40 hG (la := x_l X) (h := e_up h []) hnx h40 h41 hq60) rfl rfl rfl (e_le rfl) (e_le rfl) (e_le rfl) h40 (ci := 7) e_cl7.1 rfl (e_le rfl) (e_lt hnx rfl) (Nat.zero_le _) (Nat.zero_le _) (e_k ?_)
                  refine r_wr0 ?_
                  refine r_drop 3 (L' := [some (.ref 32), some (.int p0), some (.int p1), none, some (.int p3), some (.int q13), none, none]) rfl ?_
                  obtain rfl := Option.some.inj hq16
                  exact Jq15
                · have hq16 := e_t hc hq16
                  refine r_iconst F dX11_move_90 (v := 0) (by decide) ?_
                  refine r_goto F dX11_move_91 (tgt := 107) (by decide) ?_
                  refine r_drop 3 (L' := [some (.ref 32), some (.int p0), some (.int p1), none, some (.int p3), some (.int q13), none, none]) rfl ?_
                  obtain rfl := Option.some.inj hq16
                  exact Jq15
              refine r_icmp_ne F dX11_move_63 (tgt := 70) (by decide) (fun hc => ?_) (fun hc => ?_)
              · have hq14 := e_f hc hq14
                refine r_aload_n F dX11_move_70 rfl ?_
                refine r_get F dX11_move_71 flX11_28 h32 rfl (e_le rfl) (e_lt hnx rfl) ?_
                refine r_get F dX11_move_74 flX11_141 h39 rfl (e_le rfl) (e_lt hnx rfl) ?_
                refine r_iload_n F dX11_move_77 rfl ?_
                refine r_iload_n F dX11_move_78 rfl ?_
                refine r_iconst F dX11_move_79 (v := 0) (by decide) ?_
                obtain ⟨q61, hq62, hq14⟩ := e_bd hq14
                refine r_callV F dX11_move_80 (b := 40) (dc := 0) (ds := 0) (As := [.int p0, .int p1, .int 0]) (S0 := []) lkX11_195 mX7_vectorOf (tX7_vectorOf_40 hG (la := x_l X) (h := e_up h []) hnx h40 h41 hq62) rfl rfl rfl (e_le rfl) (e_le rfl) (e_le rfl) h40 (ci := 7) e_cl7.1 rfl (e_le rfl) (e_lt hnx rfl) (Nat.zero_le _) (Nat.zero_le _) (e_k ?_)
                refine r_wr0 ?_
                obtain rfl := Option.some.inj hq14
                exact Jq13
              · have hq14 := e_t hc hq14
                refine r_iconst F dX11_move_66 (v := 0) (by decide) ?_
                refine r_goto F dX11_move_67 (tgt := 83) (by decide) ?_
                obtain rfl := Option.some.inj hq14
                exact Jq13
            · have hf := e_f hc hf
              refine r_aload_n F dX11_move_55 rfl ?_
              refine r_iconst F dX11_move_56 (v := 2) (by decide) ?_
              obtain ⟨q63, hq64, hf⟩ := e_bd hf
              refine r_callV F dX11_move_57 (b := 32) (dc := 0) (ds := 0) (As := [.int 2]) (S0 := []) lkX11_243 mX11_refuse (tX11_refuse_32 hG (la := x_l X) (h := e_up h []) hnx h32 h62 hq64) rfl rfl rfl (e_le rfl) (e_le rfl) (e_le rfl) h32 (ci := 11) e_cl11.1 rfl (e_le rfl) (e_lt hnx rfl) (Nat.zero_le _) (Nat.zero_le _) (e_k ?_)
              refine r_wr (l' := [(62, o62 q63.2)]) rfl rfl ?_
              obtain rfl := Option.some.inj hf
              exact r_iretB F hq dX11_move_60 rfl (Nat.zero_le _) (Nat.zero_le _) ⟨rfl, rfl, e_frm (fun _ _ _ _ => rfl) rfl rfl rfl, h41, h42, h43, h44, h56, h57, rfl, e_dyn.up rfl hdy⟩
    · have hf := e_t hc hf
      refine r_aload_n F dX11_move_29 rfl ?_
      refine r_iconst F dX11_move_30 (v := 1) (by decide) ?_
      obtain ⟨q65, hq66, hf⟩ := e_bd hf
      refine r_callV F dX11_move_31 (b := 32) (dc := 0) (ds := 0) (As := [.int 1]) (S0 := []) lkX11_243 mX11_refuse (tX11_refuse_32 hG (la := x_l X) (h := e_up h []) hnx h32 h62 hq66) rfl rfl rfl (e_le rfl) (e_le rfl) (e_le rfl) h32 (ci := 11) e_cl11.1 rfl (e_le rfl) (e_lt hnx rfl) (Nat.zero_le _) (Nat.zero_le _) (e_k ?_)
      refine r_wr (l' := [(62, o62 q65.2)]) rfl rfl ?_
      obtain rfl := Option.some.inj hf
      exact r_iretB F hq dX11_move_34 rfl (Nat.zero_le _) (Nat.zero_le _) ⟨rfl, rfl, e_frm (fun _ _ _ _ => rfl) rfl rfl rfl, h41, h42, h43, h44, h56, h57, rfl, e_dyn.up rfl hdy⟩
