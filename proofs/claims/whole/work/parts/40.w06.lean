def fX11_undo (a40_0 : Int32) (a40_1 : Int32) (a42_0 : Int32) (a54_1 : Int32) (a56_1 : Int32) (a56_2 : Int32) (A41 : Nat → Int32) (A43 : Nat → Int32) (A44 : Nat → Int32) (A55 : Nat → Int32) (A57 : Nat → Option Nat) (SS : eSS)  : Option (Int32 × Int32 × Int32 × Int32 × Int32 × (Nat → Int32) × (Nat → Int32) × (Nat → Int32) × (Nat → Int32)) :=
  (f_res A57 SS a56_1 a56_2 A41 A55 a54_1).bind (fun q1 =>
  if q1.1 = true then
    (fX11_afterReturn a40_0 a40_1 a42_0 q1.2.2.2.1 A43 A44 q1.2.2.1).bind (fun q3 =>
    some (q3.1, q3.2.1, q1.2.2.2.2.2, q1.2.1, q1.2.2.1, q1.2.2.2.1, q3.2.2.1, q3.2.2.2, q1.2.2.2.2.1))
  else
    some ((-1), a42_0, q1.2.2.2.2.2, q1.2.1, q1.2.2.1, q1.2.2.2.1, A43, A44, q1.2.2.2.2.1))
set_option maxRecDepth 100000 in
theorem tX11_undo_32 {G : eG} (hG : e_GS G) {la : Launch} {h : Nat → eO} {nx : Nat} (hnx : 99 ≤ nx) {a32_8 : Bool} {a32_10 : Bool} {a40_0 : Int32} {a40_1 : Int32} {A41 : Nat → Int32} {a42_0 : Int32} {A43 : Nat → Int32} {A44 : Nat → Int32} {a54_1 : Int32} {A55 : Nat → Int32} {a56_1 : Int32} {a56_2 : Int32} {A57 : Nat → Option Nat} {SS : eSS} {q6 nl : Nat} {LE : Nat → Int32}  (h32 : h 32 = o32 a32_8 a32_10) (h39 : h 39 = o39) (h40 : h 40 = o40 a40_0 a40_1) (h41 : h 41 = o41 A41) (h42 : h 42 = o42 a42_0) (h43 : h 43 = o43 A43) (h44 : h 44 = o44 A44) (h54 : h 54 = o54 a54_1) (h55 : h 55 = o55 A55) (h56 : h 56 = o56 a56_1 a56_2) (h57 : h 57 = o57 A57) (hdy : e_dyn h nx A57 SS q6 nl LE) {R9 : Int32 × Int32 × Int32 × Int32 × Int32 × (Nat → Int32) × (Nat → Int32) × (Nat → Int32) × (Nat → Int32)} (hf : fX11_undo a40_0 a40_1 a42_0 a54_1 a56_1 a56_2 A41 A43 A44 A55 A57 SS  = some R9) :
    eSem G la MX11_undo [.ref 32] h nx 0 0 (fun r9 h9 => r9 = some (.int R9.1) ∧ h9 = e_up h [(41, o41 R9.2.2.2.2.2.1), (42, o42 R9.2.1), (43, o43 R9.2.2.2.2.2.2.1), (44, o44 R9.2.2.2.2.2.2.2.1), (54, o54 R9.2.2.1), (55, o55 R9.2.2.2.2.2.2.2.2), (56, o56 R9.2.2.2.1 R9.2.2.2.2.1)]) := by
  refine eSem.of (k := 0) (L := [some (.ref 32)]) (by decide +kernel) rfl rfl (fun X F hxl hq hcR hsR => ?_)
  subst hxl
  unfold fX11_undo at hf
  refine r_aload_n F dX11_undo_0 rfl ?_
  refine r_get F dX11_undo_1 flX11_49 h32 rfl (e_le rfl) (e_lt hnx rfl) ?_
  refine r_aload_n F dX11_undo_4 rfl ?_
  refine r_get F dX11_undo_5 flX11_28 h32 rfl (e_le rfl) (e_lt hnx rfl) ?_
  refine r_get F dX11_undo_8 flX11_141 h39 rfl (e_le rfl) (e_lt hnx rfl) ?_
  refine r_aload_n F dX11_undo_11 rfl ?_
  refine r_get F dX11_undo_12 flX11_42 h32 rfl (e_le rfl) (e_lt hnx rfl) ?_
  obtain ⟨q1, hq2, hf⟩ := e_bd hf
  refine r_callV F dX11_undo_15 (b := 56) (dc := 0) (ds := 0) (As := [.ref 40, .ref 54]) (S0 := []) lkX11_347 mX4_restore (t_res hG (la := x_l X) (h := e_up h []) hnx h40 h41 h54 h55 h56 h57 (e_dyn.up rfl hdy) hq2) rfl rfl rfl (e_le rfl) (e_le rfl) (e_le rfl) h56 (ci := 4) e_cl4.1 rfl (e_le rfl) (e_lt hnx rfl) (Nat.zero_le _) (Nat.zero_le _) (e_k ?_)
  refine r_wr (l' := [(41, o41 q1.2.2.2.1), (54, o54 q1.2.2.2.2.2), (55, o55 q1.2.2.2.2.1), (56, o56 q1.2.1 q1.2.2.1)]) rfl rfl ?_
  refine r_z_eq F dX11_undo_18 (tgt := 35) (by decide) (fun hc => ?_) (fun hc => ?_)
  · have hf := e_t hc hf
    refine r_aload_n F dX11_undo_21 rfl ?_
    refine r_aload_n F dX11_undo_22 rfl ?_
    refine r_get F dX11_undo_23 flX11_49 h32 rfl (e_le rfl) (e_lt hnx rfl) ?_
    refine r_get F dX11_undo_26 flX11_351 rfl rfl (e_le rfl) (e_lt hnx rfl) ?_
    obtain ⟨q3, hq4, hf⟩ := e_bd hf
    refine r_callV F dX11_undo_29 (b := 32) (dc := 0) (ds := 0) (As := [.int q1.2.2.1]) (S0 := []) lkX11_352 mX11_afterReturn (tX11_afterReturn_32 hG (la := x_l X) (h := e_up h [(41, o41 q1.2.2.2.1), (54, o54 q1.2.2.2.2.2), (55, o55 q1.2.2.2.2.1), (56, o56 q1.2.1 q1.2.2.1)]) hnx h32 h39 h40 rfl h42 h43 h44 hq4) rfl rfl rfl (e_le rfl) (e_le rfl) (e_le rfl) h32 (ci := 11) e_cl11.1 rfl (e_le rfl) (e_lt hnx rfl) (Nat.zero_le _) (Nat.zero_le _) (e_k ?_)
    refine r_wr (l' := [(41, o41 q1.2.2.2.1), (42, o42 q3.2.1), (43, o43 q3.2.2.1), (44, o44 q3.2.2.2), (54, o54 q1.2.2.2.2.2), (55, o55 q1.2.2.2.2.1), (56, o56 q1.2.1 q1.2.2.1)]) rfl rfl ?_
    refine r_goto F dX11_undo_32 (tgt := 36) (by decide) ?_
    obtain rfl := Option.some.inj hf
    exact r_iret F hq dX11_undo_36 rfl rfl (Nat.le_refl _) (Nat.le_refl _) ⟨rfl, rfl⟩
  · have hf := e_f hc hf
    refine r_iconst F dX11_undo_35 (v := (-1)) (by decide) ?_
    refine r_mat (k := 42) h42 (l' := [(41, o41 q1.2.2.2.1), (42, o42 a42_0), (54, o54 q1.2.2.2.2.2), (55, o55 q1.2.2.2.2.1), (56, o56 q1.2.1 q1.2.2.1)]) rfl ?_
    refine r_mat (k := 43) h43 (l' := [(41, o41 q1.2.2.2.1), (42, o42 a42_0), (43, o43 A43), (54, o54 q1.2.2.2.2.2), (55, o55 q1.2.2.2.2.1), (56, o56 q1.2.1 q1.2.2.1)]) rfl ?_
    refine r_mat (k := 44) h44 (l' := [(41, o41 q1.2.2.2.1), (42, o42 a42_0), (43, o43 A43), (44, o44 A44), (54, o54 q1.2.2.2.2.2), (55, o55 q1.2.2.2.2.1), (56, o56 q1.2.1 q1.2.2.1)]) rfl ?_
    obtain rfl := Option.some.inj hf
    exact r_iret F hq dX11_undo_36 rfl rfl (Nat.le_refl _) (Nat.le_refl _) ⟨rfl, rfl⟩
