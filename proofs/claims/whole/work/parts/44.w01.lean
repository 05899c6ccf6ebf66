def fX11_meets (a40_0 : Int32) (a40_1 : Int32) (a42_0 : Int32) (a66_0 : Int32) (a66_4 : Int32) (a66_6 : Nat) (A43 : Nat → Int32) (A44 : Nat → Int32) (A67 : Nat → Int32) (A68 : Nat → Int32) (A69 : Nat → Int32) (A70 : Nat → Int32) (LE : Nat → Int32) (nl : Nat) (p0 : Int32) (p1 : Int32) (nx : Nat) : Option (Int32 × Int32 × Int32 × Nat × (Nat → Int32) × (Nat → Int32) × (Nat → Int32) × (Nat → Int32) × (Nat → Int32) × Nat × Nat) :=
  (fX11_isEmpty a40_0).bind (fun q1 =>
  if q1 = true then
    some ((-1), a66_0, a66_4, a66_6, A67, A68, A69, A70, LE, nl, nx)
  else
    if p0 < 1 then
      some ((-1), a66_0, a66_4, a66_6, A67, A68, A69, A70, LE, nl, nx)
    else
      if 9 < p0 then
        some ((-1), a66_0, a66_4, a66_6, A67, A68, A69, A70, LE, nl, nx)
      else
        if p1 < 0 then
          some ((-1), a66_0, a66_4, a66_6, A67, A68, A69, A70, LE, nl, nx)
        else
          if p1 < a42_0 then
            (fX6_plan a40_0 a40_1 a42_0 a66_0 a66_4 a66_6 A43 A44 A67 A68 A69 A70 LE nl p0 nx).bind (fun q3 =>
            (fX6_partnerOf q3.2.2.2.1 p1).bind (fun q5 =>
            some (q5, q3.1, q3.2.1, q3.2.2.1, q3.2.2.2.1, q3.2.2.2.2.1, q3.2.2.2.2.2.1, q3.2.2.2.2.2.2.1, q3.2.2.2.2.2.2.2.1, q3.2.2.2.2.2.2.2.2.1, q3.2.2.2.2.2.2.2.2.2)))
          else
            some ((-1), a66_0, a66_4, a66_6, A67, A68, A69, A70, LE, nl, nx))
set_option maxRecDepth 100000 in
theorem tX11_meets_32 {G : eG} (hG : e_GS G) {la : Launch} {h : Nat → eO} {nx : Nat} (hnx : 99 ≤ nx) {a32_8 : Bool} {a32_10 : Bool} {a40_0 : Int32} {a40_1 : Int32} {a42_0 : Int32} {A43 : Nat → Int32} {A44 : Nat → Int32} {a66_0 : Int32} {a66_4 : Int32} {a66_6 : Nat} {A67 : Nat → Int32} {A68 : Nat → Int32} {A69 : Nat → Int32} {A70 : Nat → Int32} {nl : Nat} {LE : Nat → Int32} {A57 : Nat → Option Nat} {SS : eSS} {p0 : Int32} {p1 : Int32} (h32 : h 32 = o32 a32_8 a32_10) (h39 : h 39 = o39) (h40 : h 40 = o40 a40_0 a40_1) (h42 : h 42 = o42 a42_0) (h43 : h 43 = o43 A43) (h44 : h 44 = o44 A44) (h66 : h 66 = o66 a66_0 a66_4 a66_6) (h67 : h 67 = o67 A67) (h68 : h 68 = o68 A68) (h69 : h 69 = o69 A69) (h70 : h 70 = o70 A70) (hdy : e_dyn h nx A57 SS a66_6 nl LE) {R9 : Int32 × Int32 × Int32 × Nat × (Nat → Int32) × (Nat → Int32) × (Nat → Int32) × (Nat → Int32) × (Nat → Int32) × Nat × Nat} (hf : fX11_meets a40_0 a40_1 a42_0 a66_0 a66_4 a66_6 A43 A44 A67 A68 A69 A70 LE nl p0 p1 nx = some R9) :
    eSemB G la MX11_meets [.ref 32, .int p0, .int p1] h nx 1 4096 (fun r9 h9 nx9 => r9 = some (.int R9.1) ∧ nx9 = R9.2.2.2.2.2.2.2.2.2.2 ∧ nx ≤ nx9 ∧ (∀ k, k < 99 → [66, 67, 68, 69, 70, 71].contains k = false → h9 k = h k) ∧ h9 66 = o66 R9.2.1 R9.2.2.1 R9.2.2.2.1 ∧ h9 67 = o67 R9.2.2.2.2.1 ∧ h9 68 = o68 R9.2.2.2.2.2.1 ∧ h9 69 = o69 R9.2.2.2.2.2.2.1 ∧ h9 70 = o70 R9.2.2.2.2.2.2.2.1 ∧ e_dyn h9 nx9 A57 SS R9.2.2.2.1 R9.2.2.2.2.2.2.2.2.2.1 R9.2.2.2.2.2.2.2.2.1) := by
  refine eSemB.of (k := 0) (L := [some (.ref 32), some (.int p0), some (.int p1)]) (by decide +kernel) rfl rfl (fun X F hxl hq hcR hsR => ?_)
  subst hxl
  unfold fX11_meets at hf
  have hz6 := hdy.2.2.1.imp id (fun z => z.1)
  have hzn := hdy.2.2.2.1
  have hzQ := hdy.2.2.2.2
  refine r_aload_n F dX11_meets_0 rfl ?_
  obtain ⟨q1, hq2, hf⟩ := e_bd hf
  refine r_callV F dX11_meets_1 (b := 32) (dc := 0) (ds := 0) (As := []) (S0 := []) lkX11_136 mX11_isEmpty (tX11_isEmpty_32 hG (la := x_l X) (h := e_up h []) hnx h32 h39 h40 hq2) rfl rfl rfl (e_le rfl) (e_le rfl) (e_le rfl) h32 (ci := 11) e_cl11.1 rfl (e_le rfl) (e_lt hnx rfl) (Nat.zero_le _) (Nat.zero_le _) (e_k ?_)
  refine r_wr0 ?_
  refine r_z_ne F dX11_meets_4 (tgt := 36) (by decide) (fun hc => ?_) (fun hc => ?_)
  · have hf := e_t hc hf
    refine r_iconst F dX11_meets_36 (v := (-1)) (by decide) ?_
    obtain rfl := Option.some.inj hf
    exact r_iretB F hq dX11_meets_37 rfl (Nat.zero_le _) (Nat.zero_le _) ⟨rfl, rfl, (Nat.le_refl _), (e_frF (fun _ _ _ => rfl) rfl), h66, h67, h68, h69, h70, e_dyn.up rfl hdy⟩
  · have hf := e_f hc hf
    refine r_iload_n F dX11_meets_7 rfl ?_
    refine r_iconst F dX11_meets_8 (v := 1) (by decide) ?_
    refine r_icmp_lt F dX11_meets_9 (tgt := 36) (by decide) (fun hc => ?_) (fun hc => ?_)
    · have hf := e_t hc hf
      refine r_iconst F dX11_meets_36 (v := (-1)) (by decide) ?_
      obtain rfl := Option.some.inj hf
      exact r_iretB F hq dX11_meets_37 rfl (Nat.zero_le _) (Nat.zero_le _) ⟨rfl, rfl, (Nat.le_refl _), (e_frF (fun _ _ _ => rfl) rfl), h66, h67, h68, h69, h70, e_dyn.up rfl hdy⟩
    · have hf := e_f hc hf
      refine r_iload_n F dX11_meets_12 rfl ?_
      refine r_bipush F dX11_meets_13 (v := 9) (by decide) ?_
      refine r_icmp_gt F dX11_meets_15 (tgt := 36) (by decide) (fun hc => ?_) (fun hc => ?_)
      · have hf := e_t hc hf
        refine r_iconst F dX11_meets_36 (v := (-1)) (by decide) ?_
        obtain rfl := Option.some.inj hf
        exact r_iretB F hq dX11_meets_37 rfl (Nat.zero_le _) (Nat.zero_le _) ⟨rfl, rfl, (Nat.le_refl _), (e_frF (fun _ _ _ => rfl) rfl), h66, h67, h68, h69, h70, e_dyn.up rfl hdy⟩
      · have hf := e_f hc hf
        refine r_iload_n F dX11_meets_18 rfl ?_
        refine r_if_lt F dX11_meets_19 (tgt := 36) (by decide) (fun hc => ?_) (fun hc => ?_)
        · have hf := e_t hc hf
          refine r_iconst F dX11_meets_36 (v := (-1)) (by decide) ?_
          obtain rfl := Option.some.inj hf
          exact r_iretB F hq dX11_meets_37 rfl (Nat.zero_le _) (Nat.zero_le _) ⟨rfl, rfl, (Nat.le_refl _), (e_frF (fun _ _ _ => rfl) rfl), h66, h67, h68, h69, h70, e_dyn.up rfl hdy⟩
        · have hf := e_f hc hf
          refine r_iload_n F dX11_meets_22 rfl ?_
          refine r_aload_n F dX11_meets_23 rfl ?_
          refine r_get F dX11_meets_24 flX11_28 h32 rfl (e_le rfl) (e_lt hnx rfl) ?_
          refine r_get F dX11_meets_27 flX11_127 h39 rfl (e_le rfl) (e_lt hnx rfl) ?_
          refine r_get F dX11_meets_30 flX11_131 h42 rfl (e_le rfl) (e_lt hnx rfl) ?_
          refine r_icmp_lt F dX11_meets_33 (tgt := 38) (by decide) (fun hc => ?_) (fun hc => ?_)
          · have hf := e_t hc hf
            refine r_aload_n F dX11_meets_38 rfl ?_
            refine r_get F dX11_meets_39 flX11_83 h32 rfl (e_le rfl) (e_lt hnx rfl) ?_
            refine r_aload_n F dX11_meets_42 rfl ?_
            refine r_get F dX11_meets_43 flX11_28 h32 rfl (e_le rfl) (e_lt hnx rfl) ?_
            refine r_iload_n F dX11_meets_46 rfl ?_
            obtain ⟨q3, hq4, hf⟩ := e_bd hf
            refine r_callVB F dX11_meets_47 (b := 66) (mc := 1) (ms := 4096) (As := [.ref 39, .int p0]) (S0 := []) lkX11_315 mX6_plan (tX6_plan_66_39 hG (la := x_l X) (h := e_up h []) hnx h39 h40 h42 h43 h44 h66 h67 h68 h69 h70 (e_dyn.up rfl hdy) hq4) rfl rfl rfl (e_le rfl) (e_le rfl) (e_le rfl) h66 (ci := 6) e_cl6.1 rfl (e_le rfl) (e_lt hnx rfl) (by rw [hcR]; omega) (by rw [hsR]; omega) (fun r9 hB nxB p9 => ?_)
            obtain ⟨e9, en9, hle, fr9, hB66, hB67, hB68, hB69, hB70, hdy⟩ := p9
            subst e9
            have fr := e_frW (WL := [66, 67, 68, 69, 70, 71]) fr9 rfl rfl
            have h32 := (fr9 32 (by decide) rfl).trans h32
            have h39 := (fr9 39 (by decide) rfl).trans h39
            have h40 := (fr9 40 (by decide) rfl).trans h40
            have h42 := (fr9 42 (by decide) rfl).trans h42
            have h43 := (fr9 43 (by decide) rfl).trans h43
            have h44 := (fr9 44 (by decide) rfl).trans h44
            have h66 := hB66
            have h67 := hB67
            have h68 := hB68
            have h69 := hB69
            have h70 := hB70
            have hnx : 99 ≤ nxB := Nat.le_trans hnx hle
            have hz6 := hdy.2.2.1.imp id (fun z => z.1)
            have hzn := hdy.2.2.2.1
            have hzQ := hdy.2.2.2.2
            refine r_aload_n F dX11_meets_50 rfl ?_
            refine r_get F dX11_meets_51 flX11_83 h32 rfl (e_le rfl) (e_lt hnx rfl) ?_
            refine r_iload_n F dX11_meets_54 rfl ?_
            obtain ⟨q5, hq6, hf⟩ := e_bd hf
            refine r_callV F dX11_meets_55 (b := 66) (dc := 0) (ds := 0) (As := [.int p1]) (S0 := []) lkX11_322 mX6_partnerOf (tX6_partnerOf_66 hG (la := x_l X) (h := e_up hB []) hnx h66 h67 hq6) rfl rfl rfl (e_le rfl) (e_le rfl) (e_le rfl) h66 (ci := 6) e_cl6.1 rfl (e_le rfl) (e_lt hnx rfl) (by rw [hcR]; omega) (by rw [hsR]; omega) (e_k ?_)
            refine r_wr0 ?_
            obtain rfl := Option.some.inj hf
            exact r_iretB F hq dX11_meets_58 rfl (by omega) (by omega) ⟨rfl, en9, hle, (e_frF fr rfl), h66, h67, h68, h69, h70, e_dyn.up rfl hdy⟩
          · have hf := e_f hc hf
            refine r_iconst F dX11_meets_36 (v := (-1)) (by decide) ?_
            obtain rfl := Option.some.inj hf
            exact r_iretB F hq dX11_meets_37 rfl (Nat.zero_le _) (Nat.zero_le _) ⟨rfl, rfl, (Nat.le_refl _), (e_frF (fun _ _ _ => rfl) rfl), h66, h67, h68, h69, h70, e_dyn.up rfl hdy⟩
