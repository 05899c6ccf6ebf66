def fX7_carry (a47_0 : Int32) (a47_1 : Int32) (A48 : Nat → Int32) (p0 : Int32) (p1 : Int32) (p2 : Int32) (p3 : Int32) (p4 : Int32) : Option (Int32 × (Nat → Int32)) :=
  if p4 < 0 then
    some (0, A48)
  else
    if p4 ≤ 3 then
      Option.bind (α := (Nat → Int32)) (
        if p4 = 0 then
          (fX7_addTo a47_0 a47_1 A48 (p0 + 1) p1 1 ((0 : Int32) - p2) ((0 : Int32) - p3)).bind (fun q7 =>
          some q7)
        else
          if p4 = 1 then
            (fX7_addTo a47_0 a47_1 A48 p0 (p1 + 1) 0 p2 p3).bind (fun q9 =>
            some q9)
          else
            if p4 = 2 then
              (fX7_addTo a47_0 a47_1 A48 p0 p1 1 p2 p3).bind (fun q11 =>
              some q11)
            else
              (fX7_addTo a47_0 a47_1 A48 p0 p1 0 ((0 : Int32) - p2) ((0 : Int32) - p3)).bind (fun q13 =>
              some q13)) (fun q1 =>
      e_g (e_in p4 4) (
      e_g (e_in p4 4) (
      (fX7_hasFace a47_0 a47_1 (p0 + (sA3 (tn p4))) (p1 + (sA4 (tn p4)))).bind (fun q3 =>
      if q3 = true then
        (fX7_isPlain a47_0 a47_1 q1 (p0 + (sA3 (tn p4))) (p1 + (sA4 (tn p4)))).bind (fun q5 =>
        if q5 = true then
          some (2, q1)
        else
          some (0, q1))
      else
        some (3, q1)))))
    else
      some (0, A48)
set_option maxRecDepth 100000 in
theorem tX7_carry_47 {G : eG} (hG : e_GS G) {la : Launch} {h : Nat → eO} {nx : Nat} (hnx : 99 ≤ nx) {a47_0 : Int32} {a47_1 : Int32} {A48 : Nat → Int32} {p0 : Int32} {p1 : Int32} {p2 : Int32} {p3 : Int32} {p4 : Int32} (h47 : h 47 = o47 a47_0 a47_1) (h48 : h 48 = o48 A48) {R9 : Int32 × (Nat → Int32)} (hf : fX7_carry a47_0 a47_1 A48 p0 p1 p2 p3 p4 = some R9) :
    eSem G la MX7_carry [.ref 47, .int p0, .int p1, .int p2, .int p3, .int p4] h nx 0 0 (fun r9 h9 => r9 = some (.int R9.1) ∧ h9 = e_up h [(48, o48 R9.2)]) := by
  refine eSem.of (k := 2) (L := [some (.ref 47), some (.int p0), some (.int p1), some (.int p2), some (.int p3), some (.int p4), none, none]) (by decide +kernel) rfl rfl (fun X F hxl hq hcR hsR => ?_)
  subst hxl
  unfold fX7_carry at hf
  refine r_iload F dX7_carry_0 rfl ?_
  refine r_if_lt F dX7_carry_2 (tgt := 11) (by decide) (fun hc => ?_) (fun hc => ?_)
  · have hf := e_t hc hf
    refine r_iconst F dX7_carry_11 (v := 0) (by decide) ?_
    refine r_mat (k := 48) h48 (l' := [(48, o48 A48)]) rfl ?_
    obtain rfl := Option.some.inj hf
    exact r_iret F hq dX7_carry_12 rfl rfl (Nat.le_refl _) (Nat.le_refl _) ⟨rfl, rfl⟩
  · have hf := e_f hc hf
    refine r_iload F dX7_carry_5 rfl ?_
    refine r_iconst F dX7_carry_7 (v := 3) (by decide) ?_
    refine r_icmp_le F dX7_carry_8 (tgt := 13) (by decide) (fun hc => ?_) (fun hc => ?_)
    · have hf := e_t hc hf
      refine r_iload F dX7_carry_13 rfl ?_
      obtain ⟨q1, hq2, hf⟩ := e_bd hf
      have Jq1 : eRun G X 97 [some (.ref 47), some (.int p0), some (.int p1), none, none, some (.int p4), none, none] [] h [(48, o48 q1)] nx 0 0 := by
        refine r_iload_n F dX7_carry_97 rfl ?_
        refine r_getsN F dX7_carry_98 (C := "SlipLattice") (n := "ACROSS") (d := "[I") (host := "SlipLattice") (v := .ref 3) (by decide +kernel) (by decide +kernel) ?_
        refine r_iload F dX7_carry_101 rfl ?_
        obtain ⟨hg, hf⟩ := e_gd hf
        refine r_ialdS F dX7_carry_103 (i := p4) (hG.s3) (e_vp hg) ?_
        refine r_iadd F dX7_carry_104 ?_
        refine r_istore F dX7_carry_105 (e_le rfl) (L' := [some (.ref 47), some (.int p0), some (.int p1), none, none, some (.int p4), some (.int (p0 + (sA3 (tn p4)))), none]) rfl ?_
        refine r_iload_n F dX7_carry_107 rfl ?_
        refine r_getsN F dX7_carry_108 (C := "SlipLattice") (n := "UPWARDS") (d := "[I") (host := "SlipLattice") (v := .ref 4) (by decide +kernel) (by decide +kernel) ?_
        refine r_iload F dX7_carry_111 rfl ?_
        obtain ⟨hg, hf⟩ := e_gd hf
        refine r_ialdS F dX7_carry_113 (i := p4) (hG.s4) (e_vp hg) ?_
        refine r_iadd F dX7_carry_114 ?_
        refine r_istore F dX7_carry_115 (e_le rfl) (L' := [some (.ref 47), some (.int p0), some (.int p1), none, none, some (.int p4), some (.int (p0 + (sA3 (tn p4)))), some (.int (p1 + (sA4 (tn p4))))]) rfl ?_
        refine r_aload_n F dX7_carry_117 rfl ?_
        refine r_iload F dX7_carry_118 rfl ?_
        refine r_iload F dX7_carry_120 rfl ?_
        obtain ⟨q3, hq4, hf⟩ := e_bd hf
        refine r_callV F dX7_carry_122 (b := 47) (dc := 0) (ds := 0) (As := [.int (p0 + (sA3 (tn p4))), .int (p1 + (sA4 (tn p4)))]) (S0 := []) lkX7_51 mX7_hasFace (tX7_hasFace_47 hG (la := x_l X) (h := e_up h [(48, o48 q1)]) hnx h47 hq4) rfl rfl rfl (e_le rfl) (e_le rfl) (e_le rfl) h47 (ci := 7) e_cl7.1 rfl (e_le rfl) (e_lt hnx rfl) (Nat.zero_le _) (Nat.zero_le _) (e_k ?_)
        refine r_wr0 ?_
        refine r_z_ne F dX7_carry_125 (tgt := 130) (by decide) (fun hc => ?_) (fun hc => ?_)
        · have hf := e_t hc hf
          refine r_aload_n F dX7_carry_130 rfl ?_
          refine r_iload F dX7_carry_131 rfl ?_
          refine r_iload F dX7_carry_133 rfl ?_
          obtain ⟨q5, hq6, hf⟩ := e_bd hf
          refine r_callV F dX7_carry_135 (b := 47) (dc := 0) (ds := 0) (As := [.int (p0 + (sA3 (tn p4))), .int (p1 + (sA4 (tn p4)))]) (S0 := []) lkX7_68 mX7_isPlain (tX7_isPlain_47 hG (la := x_l X) (h := e_up h [(48, o48 q1)]) hnx h47 rfl hq6) rfl rfl rfl (e_le rfl) (e_le rfl) (e_le rfl) h47 (ci := 7) e_cl7.1 rfl (e_le rfl) (e_lt hnx rfl) (Nat.zero_le _) (Nat.zero_le _) (e_k ?_)
          refine r_wr0 ?_
          refine r_z_eq F dX7_carry_138 (tgt := 145) (by decide) (fun hc => ?_) (fun hc => ?_)
          · have hf := e_t hc hf
            refine r_iconst F dX7_carry_141 (v := 2) (by decide) ?_
            refine r_goto F dX7_carry_142 (tgt := 146) (by decide) ?_
            obtain rfl := Option.some.inj hf
            exact r_iret F hq dX7_carry_146 rfl rfl (Nat.le_refl _) (Nat.le_refl _) ⟨rfl, rfl⟩
          · have hf := e_f hc hf
            refine r_iconst F dX7_carry_145 (v := 0) (by decide) ?_
            obtain rfl := Option.some.inj hf
            exact r_iret F hq dX7_carry_146 rfl rfl (Nat.le_refl _) (Nat.le_refl _) ⟨rfl, rfl⟩
        · have hf := e_f hc hf
          refine r_iconst F dX7_carry_128 (v := 3) (by decide) ?_
          obtain rfl := Option.some.inj hf
          exact r_iret F hq dX7_carry_129 rfl rfl (Nat.le_refl _) (Nat.le_refl _) ⟨rfl, rfl⟩
      refine Classical.byCases (p := p4 = 0) (fun hc => ?_) (fun hk0 => ?_)
      · have hq2 := e_t hc hq2
        refine r_tsIn F dX7_carry_15 (by rw [hc]; decide) (by rw [hc]; decide) (off := 25) (by rw [hc]; decide) (tgt := 40) (by decide) ?_
        refine r_aload_n F dX7_carry_40 rfl ?_
        refine r_iload_n F dX7_carry_41 rfl ?_
        refine r_iconst F dX7_carry_42 (v := 1) (by decide) ?_
        refine r_iadd F dX7_carry_43 ?_
        refine r_iload_n F dX7_carry_44 rfl ?_
        refine r_iconst F dX7_carry_45 (v := 1) (by decide) ?_
        refine r_iload_n F dX7_carry_46 rfl ?_
        refine r_ineg F dX7_carry_47 ?_
        refine r_iload F dX7_carry_48 rfl ?_
        refine r_ineg F dX7_carry_50 ?_
        obtain ⟨q7, hq8, hq2⟩ := e_bd hq2
        refine r_callV F dX7_carry_51 (b := 47) (dc := 0) (ds := 0) (As := [.int (p0 + 1), .int p1, .int 1, .int ((0 : Int32) - p2), .int ((0 : Int32) - p3)]) (S0 := []) lkX7_58 mX7_addTo (tX7_addTo_47 hG (la := x_l X) (h := e_up h []) hnx h47 h48 hq8) rfl rfl rfl (e_le rfl) (e_le rfl) (e_le rfl) h47 (ci := 7) e_cl7.1 rfl (e_le rfl) (e_lt hnx rfl) (Nat.zero_le _) (Nat.zero_le _) (e_k ?_)
        refine r_wr (l' := [(48, o48 q7)]) rfl rfl ?_
        refine r_goto F dX7_carry_54 (tgt := 97) (by decide) ?_
        refine r_drop 3 (L' := [some (.ref 47), some (.int p0), some (.int p1), none, some (.int p3), some (.int p4), none, none]) rfl ?_
        refine r_drop 4 (L' := [some (.ref 47), some (.int p0), some (.int p1), none, none, some (.int p4), none, none]) rfl ?_
        obtain rfl := Option.some.inj hq2
        exact Jq1
      have hq2 := e_f hk0 hq2
      refine Classical.byCases (p := p4 = 1) (fun hc => ?_) (fun hk1 => ?_)
      · have hq2 := e_t hc hq2
        refine r_tsIn F dX7_carry_15 (by rw [hc]; decide) (by rw [hc]; decide) (off := 42) (by rw [hc]; decide) (tgt := 57) (by decide) ?_
        refine r_aload_n F dX7_carry_57 rfl ?_
        refine r_iload_n F dX7_carry_58 rfl ?_
        refine r_iload_n F dX7_carry_59 rfl ?_
        refine r_iconst F dX7_carry_60 (v := 1) (by decide) ?_
        refine r_iadd F dX7_carry_61 ?_
        refine r_iconst F dX7_carry_62 (v := 0) (by decide) ?_
        refine r_iload_n F dX7_carry_63 rfl ?_
        refine r_iload F dX7_carry_64 rfl ?_
        obtain ⟨q9, hq10, hq2⟩ := e_bd hq2
        refine r_callV F dX7_carry_66 (b := 47) (dc := 0) (ds := 0) (As := [.int p0, .int (p1 + 1), .int 0, .int p2, .int p3]) (S0 := []) lkX7_58 mX7_addTo (tX7_addTo_47 hG (la := x_l X) (h := e_up h []) hnx h47 h48 hq10) rfl rfl rfl (e_le rfl) (e_le rfl) (e_le rfl) h47 (ci := 7) e_cl7.1 rfl (e_le rfl) (e_lt hnx rfl) (Nat.zero_le _) (Nat.zero_le _) (e_k ?_)
        refine r_wr (l' := [(48, o48 q9)]) rfl rfl ?_
        refine r_goto F dX7_carry_69 (tgt := 97) (by decide) ?_
        refine r_drop 3 (L' := [some (.ref 47), some (.int p0), some (.int p1), none, some (.int p3), some (.int p4), none, none]) rfl ?_
        refine r_drop 4 (L' := [some (.ref 47), some (.int p0), some (.int p1), none, none, some (.int p4), none, none]) rfl ?_
        obtain rfl := Option.some.inj hq2
        exact Jq1
      have hq2 := e_f hk1 hq2
      refine Classical.byCases (p := p4 = 2) (fun hc => ?_) (fun hk2 => ?_)
      · have hq2 := e_t hc hq2
        refine r_tsIn F dX7_carry_15 (by rw [hc]; decide) (by rw [hc]; decide) (off := 57) (by rw [hc]; decide) (tgt := 72) (by decide) ?_
        refine r_aload_n F dX7_carry_72 rfl ?_
        refine r_iload_n F dX7_carry_73 rfl ?_
        refine r_iload_n F dX7_carry_74 rfl ?_
        refine r_iconst F dX7_carry_75 (v := 1) (by decide) ?_
        refine r_iload_n F dX7_carry_76 rfl ?_
        refine r_iload F dX7_carry_77 rfl ?_
        obtain ⟨q11, hq12, hq2⟩ := e_bd hq2
        refine r_callV F dX7_carry_79 (b := 47) (dc := 0) (ds := 0) (As := [.int p0, .int p1, .int 1, .int p2, .int p3]) (S0 := []) lkX7_58 mX7_addTo (tX7_addTo_47 hG (la := x_l X) (h := e_up h []) hnx h47 h48 hq12) rfl rfl rfl (e_le rfl) (e_le rfl) (e_le rfl) h47 (ci := 7) e_cl7.1 rfl (e_le rfl) (e_lt hnx rfl) (Nat.zero_le _) (Nat.zero_le _) (e_k ?_)
        refine r_wr (l' := [(48, o48 q11)]) rfl rfl ?_
        refine r_goto F dX7_carry_82 (tgt := 97) (by decide) ?_
        refine r_drop 3 (L' := [some (.ref 47), some (.int p0), some (.int p1), none, some (.int p3), some (.int p4), none, none]) rfl ?_
        refine r_drop 4 (L' := [some (.ref 47), some (.int p0), some (.int p1), none, none, some (.int p4), none, none]) rfl ?_
        obtain rfl := Option.some.inj hq2
        exact Jq1
      have hq2 := e_f hk2 hq2
      refine r_tsOut F dX7_carry_15 (e_out3 hk0 hk1 hk2) (tgt := 85) (by decide) ?_
      refine r_aload_n F dX7_carry_85 rfl ?_
      refine r_iload_n F dX7_carry_86 rfl ?_
      refine r_iload_n F dX7_carry_87 rfl ?_
      refine r_iconst F dX7_carry_88 (v := 0) (by decide) ?_
      refine r_iload_n F dX7_carry_89 rfl ?_
      refine r_ineg F dX7_carry_90 ?_
      refine r_iload F dX7_carry_91 rfl ?_
      refine r_ineg F dX7_carry_93 ?_
      obtain ⟨q13, hq14, hq2⟩ := e_bd hq2
      refine r_callV F dX7_carry_94 (b := 47) (dc := 0) (ds := 0) (As := [.int p0, .int p1, .int 0, .int ((0 : Int32) - p2), .int ((0 : Int32) - p3)]) (S0 := []) lkX7_58 mX7_addTo (tX7_addTo_47 hG (la := x_l X) (h := e_up h []) hnx h47 h48 hq14) rfl rfl rfl (e_le rfl) (e_le rfl) (e_le rfl) h47 (ci := 7) e_cl7.1 rfl (e_le rfl) (e_lt hnx rfl) (Nat.zero_le _) (Nat.zero_le _) (e_k ?_)
      refine r_wr (l' := [(48, o48 q13)]) rfl rfl ?_
      refine r_drop 3 (L' := [some (.ref 47), some (.int p0), some (.int p1), none, some (.int p3), some (.int p4), none, none]) rfl ?_
      refine r_drop 4 (L' := [some (.ref 47), some (.int p0), some (.int p1), none, none, some (.int p4), none, none]) rfl ?_
      obtain rfl := Option.some.inj hq2
      exact Jq1
    · have hf := e_f hc hf
      refine r_iconst F dX7_carry_11 (v := 0) (by decide) ?_
      refine r_mat (k := 48) h48 (l' := [(48, o48 A48)]) rfl ?_
      obtain rfl := Option.some.inj hf
      exact r_iret F hq dX7_carry_12 rfl rfl (Nat.le_refl _) (Nat.le_refl _) ⟨rfl, rfl⟩

def fX1_glide (a47_0 : Int32) (a47_1 : Int32) (a49_0 : Int32) (A48 : Nat → Int32) (A50 : Nat → Int32) (A51 : Nat → Int32) (A52 : Nat → Int32) (p0 : Int32) (p1 : Bool) : Option ((Nat → Int32) × (Nat → Int32)) :=
  (fX0_wayOf a49_0 A51 p0).bind (fun q1 =>
  Option.bind (α := Int32) (
    if p1 = true then
      some 0
    else
      some 2) (fun q3 =>
  (fX0_placeOf a49_0 A50 p0 0).bind (fun q5 =>
  (fX0_placeOf a49_0 A50 p0 1).bind (fun q7 =>
  (fX0_numberOf a49_0 A51 p0 0).bind (fun q9 =>
  (fX0_numberOf a49_0 A51 p0 1).bind (fun q11 =>
  (fX7_carry a47_0 a47_1 A48 q5 q7 q9 q11 (q1 + q3)).bind (fun q13 =>
  if q13.1 = 2 then
    some (q13.2, upd (upd A52 (tn 0) ((A52 (tn 0)) + 1)) (tn 1) (((upd A52 (tn 0) ((A52 (tn 0)) + 1)) (tn 1)) + 1))
  else
    if q13.1 = 3 then
      some (q13.2, upd (upd A52 (tn 0) ((A52 (tn 0)) + 1)) (tn 2) (((upd A52 (tn 0) ((A52 (tn 0)) + 1)) (tn 2)) + 1))
    else
      some (q13.2, upd A52 (tn 0) ((A52 (tn 0)) + 1)))))))))
set_option maxRecDepth 100000 in
theorem tX1_glide_46 {G : eG} (hG : e_GS G) {la : Launch} {h : Nat → eO} {nx : Nat} (hnx : 99 ≤ nx) {a47_0 : Int32} {a47_1 : Int32} {A48 : Nat → Int32} {a49_0 : Int32} {A50 : Nat → Int32} {A51 : Nat → Int32} {A52 : Nat → Int32} {p0 : Int32} {p1 : Bool} (h46 : h 46 = o46) (h47 : h 47 = o47 a47_0 a47_1) (h48 : h 48 = o48 A48) (h49 : h 49 = o49 a49_0) (h50 : h 50 = o50 A50) (h51 : h 51 = o51 A51) (h52 : h 52 = o52 A52) {R9 : (Nat → Int32) × (Nat → Int32)} (hf : fX1_glide a47_0 a47_1 a49_0 A48 A50 A51 A52 p0 p1 = some R9) :
    eSem G la MX1_glide [.ref 46, .int p0, .int (e_b p1)] h nx 0 0 (fun r9 h9 => r9 = none ∧ h9 = e_up h [(48, o48 R9.1), (52, o52 R9.2)]) := by
  refine eSem.of (k := 2) (L := [some (.ref 46), some (.int p0), some (.int (e_b p1)), none, none]) (by decide +kernel) rfl rfl (fun X F hxl hq hcR hsR => ?_)
  subst hxl
  unfold fX1_glide at hf
  refine r_aload_n F dX1_glide_0 rfl ?_
  refine r_get F dX1_glide_1 flX1_21 h46 rfl (e_le rfl) (e_lt hnx rfl) ?_
  refine r_iload_n F dX1_glide_4 rfl ?_
  obtain ⟨q1, hq2, hf⟩ := e_bd hf
  refine r_callV F dX1_glide_5 (b := 49) (dc := 0) (ds := 0) (As := [.int p0]) (S0 := []) lkX1_93 mX0_wayOf (tX0_wayOf_49 hG (la := x_l X) (h := e_up h []) hnx h49 h51 hq2) rfl rfl rfl (e_le rfl) (e_le rfl) (e_le rfl) h49 (ci := 0) e_cl0.1 rfl (e_le rfl) (e_lt hnx rfl) (Nat.zero_le _) (Nat.zero_le _) (e_k ?_)
  refine r_wr0 ?_
  refine r_iload_n F dX1_glide_8 rfl ?_
  obtain ⟨q3, hq4, hf⟩ := e_bd hf
  have Jq3 : eRun G X 17 [some (.ref 46), some (.int p0), none, none, none] [.int q3, .int q1] h [] nx 0 0 := by
    refine r_iadd F dX1_glide_17 ?_
    refine r_istore_n F dX1_glide_18 (e_le rfl) (L' := [some (.ref 46), some (.int p0), none, some (.int (q1 + q3)), none]) rfl ?_
    refine r_aload_n F dX1_glide_19 rfl ?_
    refine r_get F dX1_glide_20 flX1_12 h46 rfl (e_le rfl) (e_lt hnx rfl) ?_
    refine r_aload_n F dX1_glide_23 rfl ?_
    refine r_get F dX1_glide_24 flX1_21 h46 rfl (e_le rfl) (e_lt hnx rfl) ?_
    refine r_iload_n F dX1_glide_27 rfl ?_
    refine r_iconst F dX1_glide_28 (v := 0) (by decide) ?_
    obtain ⟨q5, hq6, hf⟩ := e_bd hf
    refine r_callV F dX1_glide_29 (b := 49) (dc := 0) (ds := 0) (As := [.int p0, .int 0]) (S0 := [.ref 47]) lkX1_82 mX0_placeOf (tX0_placeOf_49 hG (la := x_l X) (h := e_up h []) hnx h49 h50 hq6) rfl rfl rfl (e_le rfl) (e_le rfl) (e_le rfl) h49 (ci := 0) e_cl0.1 rfl (e_le rfl) (e_lt hnx rfl) (Nat.zero_le _) (Nat.zero_le _) (e_k ?_)
    refine r_wr0 ?_
    refine r_aload_n F dX1_glide_32 rfl ?_
    refine r_get F dX1_glide_33 flX1_21 h46 rfl (e_le rfl) (e_lt hnx rfl) ?_
    refine r_iload_n F dX1_glide_36 rfl ?_
    refine r_iconst F dX1_glide_37 (v := 1) (by decide) ?_
    obtain ⟨q7, hq8, hf⟩ := e_bd hf
    refine r_callV F dX1_glide_38 (b := 49) (dc := 0) (ds := 0) (As := [.int p0, .int 1]) (S0 := [.int q5, .ref 47]) lkX1_82 mX0_placeOf (tX0_placeOf_49 hG (la := x_l X) (h := e_up h []) hnx h49 h50 hq8) rfl rfl rfl (e_le rfl) (e_le rfl) (e_le rfl) h49 (ci := 0) e_cl0.1 rfl (e_le rfl) (e_lt hnx rfl) (Nat.zero_le _) (Nat.zero_le _) (e_k ?_)
    refine r_wr0 ?_
    refine r_aload_n F dX1_glide_41 rfl ?_
    refine r_get F dX1_glide_42 flX1_21 h46 rfl (e_le rfl) (e_lt hnx rfl) ?_
    refine r_iload_n F dX1_glide_45 rfl ?_
    refine r_iconst F dX1_glide_46 (v := 0) (by decide) ?_
    obtain ⟨q9, hq10, hf⟩ := e_bd hf
    refine r_callV F dX1_glide_47 (b := 49) (dc := 0) (ds := 0) (As := [.int p0, .int 0]) (S0 := [.int q7, .int q5, .ref 47]) lkX1_90 mX0_numberOf (tX0_numberOf_49 hG (la := x_l X) (h := e_up h []) hnx h49 h51 hq10) rfl rfl rfl (e_le rfl) (e_le rfl) (e_le rfl) h49 (ci := 0) e_cl0.1 rfl (e_le rfl) (e_lt hnx rfl) (Nat.zero_le _) (Nat.zero_le _) (e_k ?_)
    refine r_wr0 ?_
    refine r_aload_n F dX1_glide_50 rfl ?_
    refine r_get F dX1_glide_51 flX1_21 h46 rfl (e_le rfl) (e_lt hnx rfl) ?_
    refine r_iload_n F dX1_glide_54 rfl ?_
    refine r_iconst F dX1_glide_55 (v := 1) (by decide) ?_
    obtain ⟨q11, hq12, hf⟩ := e_bd hf
    refine r_callV F dX1_glide_56 (b := 49) (dc := 0) (ds := 0) (As := [.int p0, .int 1]) (S0 := [.int q9, .int q7, .int q5, .ref 47]) lkX1_90 mX0_numberOf (tX0_numberOf_49 hG (la := x_l X) (h := e_up h []) hnx h49 h51 hq12) rfl rfl rfl (e_le rfl) (e_le rfl) (e_le rfl) h49 (ci := 0) e_cl0.1 rfl (e_le rfl) (e_lt hnx rfl) (Nat.zero_le _) (Nat.zero_le _) (e_k ?_)
    refine r_wr0 ?_
    refine r_iload_n F dX1_glide_59 rfl ?_
    obtain ⟨q13, hq14, hf⟩ := e_bd hf
    refine r_callV F dX1_glide_60 (b := 47) (dc := 0) (ds := 0) (As := [.int q5, .int q7, .int q9, .int q11, .int (q1 + q3)]) (S0 := []) lkX1_96 mX7_carry (tX7_carry_47 hG (la := x_l X) (h := e_up h []) hnx h47 h48 hq14) rfl rfl rfl (e_le rfl) (e_le rfl) (e_le rfl) h47 (ci := 7) e_cl7.1 rfl (e_le rfl) (e_lt hnx rfl) (Nat.zero_le _) (Nat.zero_le _) (e_k ?_)
    refine r_wr (l' := [(48, o48 q13.2)]) rfl rfl ?_
    refine r_istore F dX1_glide_63 (e_le rfl) (L' := [some (.ref 46), some (.int p0), none, some (.int (q1 + q3)), some (.int q13.1)]) rfl ?_
    refine r_aload_n F dX1_glide_65 rfl ?_
    refine r_get F dX1_glide_66 flX1_25 h46 rfl (e_le rfl) (e_lt hnx rfl) ?_
    refine r_iconst F dX1_glide_69 (v := 0) (by decide) ?_
    refine r_dup2 F dX1_glide_70 rfl rfl ?_
    refine r_iald F dX1_glide_71 (i := 0) h52 (e_le rfl) (e_lt hnx rfl) (e_vp (by decide)) ?_
    refine r_iconst F dX1_glide_72 (v := 1) (by decide) ?_
    refine r_iadd F dX1_glide_73 ?_
    refine r_iast F dX1_glide_74 h52 (e_le rfl) (e_lt hnx rfl) (e_vp (by decide)) (l' := [(48, o48 q13.2), (52, o52 (upd A52 (tn 0) ((A52 (tn 0)) + 1)))]) rfl ?_
    refine r_iload F dX1_glide_75 rfl ?_
    refine r_iconst F dX1_glide_77 (v := 2) (by decide) ?_
    refine r_icmp_ne F dX1_glide_78 (tgt := 94) (by decide) (fun hc => ?_) (fun hc => ?_)
    · have hf := e_f hc hf
      refine r_iload F dX1_glide_94 rfl ?_
      refine r_iconst F dX1_glide_96 (v := 3) (by decide) ?_
      refine r_icmp_ne F dX1_glide_97 (tgt := 110) (by decide) (fun hc => ?_) (fun hc => ?_)
      · have hf := e_f hc hf
        obtain rfl := Option.some.inj hf
        exact r_vret F hq dX1_glide_110 rfl rfl (Nat.le_refl _) (Nat.le_refl _) ⟨rfl, rfl⟩
      · have hf := e_t hc hf
        refine r_aload_n F dX1_glide_100 rfl ?_
        refine r_get F dX1_glide_101 flX1_25 h46 rfl (e_le rfl) (e_lt hnx rfl) ?_
        refine r_iconst F dX1_glide_104 (v := 2) (by decide) ?_
        refine r_dup2 F dX1_glide_105 rfl rfl ?_
        refine r_iald F dX1_glide_106 (i := 2) rfl (e_le rfl) (e_lt hnx rfl) (e_vp (by decide)) ?_
        refine r_iconst F dX1_glide_107 (v := 1) (by decide) ?_
        refine r_iadd F dX1_glide_108 ?_
        refine r_iast F dX1_glide_109 rfl (e_le rfl) (e_lt hnx rfl) (e_vp (by decide)) (l' := [(48, o48 q13.2), (52, o52 (upd (upd A52 (tn 0) ((A52 (tn 0)) + 1)) (tn 2) (((upd A52 (tn 0) ((A52 (tn 0)) + 1)) (tn 2)) + 1)))]) rfl ?_
        obtain rfl := Option.some.inj hf
        exact r_vret F hq dX1_glide_110 rfl rfl (Nat.le_refl _) (Nat.le_refl _) ⟨rfl, rfl⟩
    · have hf := e_t hc hf
      refine r_aload_n F dX1_glide_81 rfl ?_
      refine r_get F dX1_glide_82 flX1_25 h46 rfl (e_le rfl) (e_lt hnx rfl) ?_
      refine r_iconst F dX1_glide_85 (v := 1) (by decide) ?_
      refine r_dup2 F dX1_glide_86 rfl rfl ?_
      refine r_iald F dX1_glide_87 (i := 1) rfl (e_le rfl) (e_lt hnx rfl) (e_vp (by decide)) ?_
      refine r_iconst F dX1_glide_88 (v := 1) (by decide) ?_
      refine r_iadd F dX1_glide_89 ?_
      refine r_iast F dX1_glide_90 rfl (e_le rfl) (e_lt hnx rfl) (e_vp (by decide)) (l' := [(48, o48 q13.2), (52, o52 (upd (upd A52 (tn 0) ((A52 (tn 0)) + 1)) (tn 1) (((upd A52 (tn 0) ((A52 (tn 0)) + 1)) (tn 1)) + 1)))]) rfl ?_
      refine r_goto F dX1_glide_91 (tgt := 110) (by decide) ?_
      obtain rfl := Option.some.inj hf
      exact r_vret F hq dX1_glide_110 rfl rfl (Nat.le_refl _) (Nat.le_refl _) ⟨rfl, rfl⟩
  refine r_z_eq F dX1_glide_9 (tgt := 16) (by decide) (fun hc => ?_) (fun hc => ?_)
  · have hq4 := e_t hc hq4
    refine r_iconst F dX1_glide_12 (v := 0) (by decide) ?_
    refine r_goto F dX1_glide_13 (tgt := 17) (by decide) ?_
    refine r_drop 2 (L' := [some (.ref 46), some (.int p0), none, none, none]) rfl ?_
    obtain rfl := Option.some.inj hq4
    exact Jq3
  · have hq4 := e_f hc hq4
    refine r_iconst F dX1_glide_16 (v := 2) (by decide) ?_
    refine r_drop 2 (L' := [some (.ref 46), some (.int p0), none, none, none]) rfl ?_
    obtain rfl := Option.some.inj hq4
    exact Jq3

def fX1_playRound (a47_0 : Int32) (a47_1 : Int32) (a49_0 : Int32) (A48 : Nat → Int32) (A50 : Nat → Int32) (A51 : Nat → Int32) (A52 : Nat → Int32) (A53 : Nat → Int32)  : Option (Int32 × (Nat → Int32) × (Nat → Int32) × (Nat → Int32) × (Nat → Int32)) :=
  (e_loop (fun (v3 : Int32 × (Nat → Int32) × (Nat → Int32)) => (
      if a49_0 ≤ v3.1 then
        some (.inr (v3.2.1, v3.2.2))
      else
        (fX0_forceOn a49_0 A50 A51 A53 v3.1).bind (fun q6 =>
        (fJ9_abs_0f7a4 q6).bind (fun q8 =>
        Option.bind (α := (Nat → Int32) × (Nat → Int32)) (
          if q8 ≤ (A53 (tn 2)) then
            some (v3.2.1, v3.2.2)
          else
            (fX1_isUnchanged a47_0 a47_1 a49_0 v3.2.1 A50 A51 v3.1).bind (fun q12 =>
            if q12 = true then
              Option.bind (α := Bool) (
                if q6 ≤ 0 then
                  some false
                else
                  some true) (fun q14 =>
              (fX1_glide a47_0 a47_1 a49_0 v3.2.1 A50 A51 v3.2.2 v3.1 q14).bind (fun q16 =>
              some (q16.1, q16.2)))
            else
              some (v3.2.1, v3.2.2))) (fun q10 =>
        some (.inl (v3.1 + 1, q10.1, q10.2))))) : Option ((Int32 × (Nat → Int32) × (Nat → Int32)) ⊕ ((Nat → Int32) × (Nat → Int32))))) e_fuel (0, A48, A52)).bind (fun x4 =>
  (fX0_find a47_0 a47_1 a49_0 x4.1 A50 A51).bind (fun q18 =>
  some (q18.1, x4.1, q18.2.1, q18.2.2, x4.2)))
set_option maxRecDepth 100000 in
theorem tX1_playRound_46_53 {G : eG} (hG : e_GS G) {la : Launch} {h : Nat → eO} {nx : Nat} (hnx : 99 ≤ nx) {a47_0 : Int32} {a47_1 : Int32} {A48 : Nat → Int32} {a49_0 : Int32} {A50 : Nat → Int32} {A51 : Nat → Int32} {A52 : Nat → Int32} {A53 : Nat → Int32}  (h46 : h 46 = o46) (h47 : h 47 = o47 a47_0 a47_1) (h48 : h 48 = o48 A48) (h49 : h 49 = o49 a49_0) (h50 : h 50 = o50 A50) (h51 : h 51 = o51 A51) (h52 : h 52 = o52 A52) (h53 : h 53 = o53 A53) {R9 : Int32 × (Nat → Int32) × (Nat → Int32) × (Nat → Int32) × (Nat → Int32)} (hf : fX1_playRound a47_0 a47_1 a49_0 A48 A50 A51 A52 A53  = some R9) :
    eSem G la MX1_playRound [.ref 46, .ref 53] h nx 0 0 (fun r9 h9 => r9 = none ∧ h9 = e_up h [(48, o48 R9.2.1), (49, o49 R9.1), (50, o50 R9.2.2.1), (51, o51 R9.2.2.2.1), (52, o52 R9.2.2.2.2)]) := by
  refine eSem.of (k := 2) (L := [some (.ref 46), some (.ref 53), none, none]) (by decide +kernel) rfl rfl (fun X F hxl hq hcR hsR => ?_)
  subst hxl
  unfold fX1_playRound at hf
  refine r_iconst F dX1_playRound_0 (v := 0) (by decide) ?_
  refine r_istore_n F dX1_playRound_1 (e_le rfl) (L' := [some (.ref 46), some (.ref 53), some (.int 0), none]) rfl ?_
  refine r_mat (k := 48) h48 (l' := [(48, o48 A48)]) rfl ?_
  refine r_mat (k := 52) h52 (l' := [(48, o48 A48), (52, o52 A52)]) rfl ?_
  obtain ⟨x4, hx5, hf⟩ := e_bd hf
  refine (e_loop_ok (P := fun (v3 : Int32 × (Nat → Int32) × (Nat → Int32)) => eRun G X 2 [some (.ref 46), some (.ref 53), some (.int v3.1), none] [] h [(48, o48 v3.2.1), (52, o52 v3.2.2)] nx 0 0) (K := fun (x4 : (Nat → Int32) × (Nat → Int32)) => eRun G X 67 [some (.ref 46), none, none, none] [] h [(48, o48 x4.1), (52, o52 x4.2)] nx 0 0) ?_ e_fuel (0, A48, A52) x4 hx5 ?_ : _)
  · intro v3 z hz ih hx
    refine r_iload_n F dX1_playRound_2 rfl ?_
    refine r_aload_n F dX1_playRound_3 rfl ?_
    refine r_get F dX1_playRound_4 flX1_21 h46 rfl (e_le rfl) (e_lt hnx rfl) ?_
    refine r_get F dX1_playRound_7 flX1_61 h49 rfl (e_le rfl) (e_lt hnx rfl) ?_
    refine r_icmp_ge F dX1_playRound_10 (tgt := 67) (by decide) (fun hc => ?_) (fun hc => ?_)
    · have hz := e_t hc hz
      refine r_drop 1 (L' := [some (.ref 46), none, some (.int v3.1), none]) rfl ?_
      refine r_drop 2 (L' := [some (.ref 46), none, none, none]) rfl ?_
      obtain rfl := Option.some.inj hz
      exact hx (v3.2.1, v3.2.2) rfl
    · have hz := e_f hc hz
      refine r_aload_n F dX1_playRound_13 rfl ?_
      refine r_get F dX1_playRound_14 flX1_21 h46 rfl (e_le rfl) (e_lt hnx rfl) ?_
      refine r_iload_n F dX1_playRound_17 rfl ?_
      refine r_aload_n F dX1_playRound_18 rfl ?_
      obtain ⟨q6, hq7, hz⟩ := e_bd hz
      refine r_callV F dX1_playRound_19 (b := 49) (dc := 0) (ds := 0) (As := [.int v3.1, .ref 53]) (S0 := []) lkX1_64 mX0_forceOn (tX0_forceOn_49_53 hG (la := x_l X) (h := e_up h [(48, o48 v3.2.1), (52, o52 v3.2.2)]) hnx h49 h50 h51 h53 hq7) rfl rfl rfl (e_le rfl) (e_le rfl) (e_le rfl) h49 (ci := 0) e_cl0.1 rfl (e_le rfl) (e_lt hnx rfl) (Nat.zero_le _) (Nat.zero_le _) (e_k ?_)
      refine r_wr0 ?_
      refine r_istore_n F dX1_playRound_22 (e_le rfl) (L' := [some (.ref 46), some (.ref 53), some (.int v3.1), some (.int q6)]) rfl ?_
      refine r_iconst F dX1_playRound_23 (v := 2) (by decide) ?_
      refine r_aload_n F dX1_playRound_24 rfl ?_
      refine r_alen F dX1_playRound_25 h53 (e_le rfl) (e_lt hnx rfl) (v := 4) rfl ?_
      refine r_icmp_ge_f F dX1_playRound_26 (tgt := 61) (by decide) (by decide) ?_
      refine r_iload_n F dX1_playRound_29 rfl ?_
      obtain ⟨q8, hq9, hz⟩ := e_bd hz
      refine r_callS F dX1_playRound_30 (dc := 0) (ds := 0) (As := [.int q6]) (S0 := []) lkX1_68 mJ9_abs_0f7a4 (tJ9_abs_0f7a4 hG (la := x_l X) (h := e_up h [(48, o48 v3.2.1), (52, o52 v3.2.2)]) hnx  hq9) rfl rfl rfl (e_le rfl) (e_le rfl) (e_le rfl) (Nat.zero_le _) (Nat.zero_le _) (e_k ?_)
      refine r_wr0 ?_
      refine r_aload_n F dX1_playRound_33 rfl ?_
      refine r_iconst F dX1_playRound_34 (v := 2) (by decide) ?_
      refine r_iald F dX1_playRound_35 (i := 2) h53 (e_le rfl) (e_lt hnx rfl) (e_vp (by decide)) ?_
      obtain ⟨q10, hq11, hz⟩ := e_bd hz
      have Jq10 : eRun G X 61 [some (.ref 46), some (.ref 53), some (.int v3.1), none] [] h [(48, o48 q10.1), (52, o52 q10.2)] nx 0 0 := by
        refine r_inc F dX1_playRound_61 (k9 := 1) (by decide) rfl (L' := [some (.ref 46), some (.ref 53), some (.int (v3.1 + 1)), none]) rfl ?_
        refine r_goto F dX1_playRound_64 (tgt := 2) (by decide) ?_
        obtain rfl := Option.some.inj hz
        exact ih (v3.1 + 1, q10.1, q10.2) rfl
      refine r_icmp_le F dX1_playRound_36 (tgt := 61) (by decide) (fun hc => ?_) (fun hc => ?_)
      · have hq11 := e_t hc hq11
        refine r_drop 3 (L' := [some (.ref 46), some (.ref 53), some (.int v3.1), none]) rfl ?_
        obtain rfl := Option.some.inj hq11
        exact Jq10
      · have hq11 := e_f hc hq11
        refine r_aload_n F dX1_playRound_39 rfl ?_
        refine r_iload_n F dX1_playRound_40 rfl ?_
        obtain ⟨q12, hq13, hq11⟩ := e_bd hq11
        refine r_callV F dX1_playRound_41 (b := 46) (dc := 0) (ds := 0) (As := [.int v3.1]) (S0 := []) lkX1_74 mX1_isUnchanged (tX1_isUnchanged_46 hG (la := x_l X) (h := e_up h [(48, o48 v3.2.1), (52, o52 v3.2.2)]) hnx h46 h47 rfl h49 h50 h51 hq13) rfl rfl rfl (e_le rfl) (e_le rfl) (e_le rfl) h46 (ci := 1) e_cl1.1 rfl (e_le rfl) (e_lt hnx rfl) (Nat.zero_le _) (Nat.zero_le _) (e_k ?_)
        refine r_wr0 ?_
        refine r_z_eq F dX1_playRound_44 (tgt := 61) (by decide) (fun hc => ?_) (fun hc => ?_)
        · have hq11 := e_t hc hq11
          refine r_aload_n F dX1_playRound_47 rfl ?_
          refine r_iload_n F dX1_playRound_48 rfl ?_
          refine r_iload_n F dX1_playRound_49 rfl ?_
          obtain ⟨q14, hq15, hq11⟩ := e_bd hq11
          have Jq14 : eRun G X 58 [some (.ref 46), some (.ref 53), some (.int v3.1), none] [.int (e_b q14), .int v3.1, .ref 46] h [(48, o48 v3.2.1), (52, o52 v3.2.2)] nx 0 0 := by
            obtain ⟨q16, hq17, hq11⟩ := e_bd hq11
            refine r_callV F dX1_playRound_58 (b := 46) (dc := 0) (ds := 0) (As := [.int v3.1, .int (e_b q14)]) (S0 := []) lkX1_78 mX1_glide (tX1_glide_46 hG (la := x_l X) (h := e_up h [(48, o48 v3.2.1), (52, o52 v3.2.2)]) hnx h46 h47 rfl h49 h50 h51 rfl hq17) rfl rfl rfl (e_le rfl) (e_le rfl) (e_le rfl) h46 (ci := 1) e_cl1.1 rfl (e_le rfl) (e_lt hnx rfl) (Nat.zero_le _) (Nat.zero_le _) (e_k ?_)
            refine r_wr (l' := [(48, o48 q16.1), (52, o52 q16.2)]) rfl rfl ?_
            obtain rfl := Option.some.inj hq11
            exact Jq10
          refine r_if_le F dX1_playRound_50 (tgt := 57) (by decide) (fun hc => ?_) (fun hc => ?_)
          · have hq15 := e_t hc hq15
            refine r_iconst F dX1_playRound_57 (v := 0) (by decide) ?_
            refine r_drop 3 (L' := [some (.ref 46), some (.ref 53), some (.int v3.1), none]) rfl ?_
            obtain rfl := Option.some.inj hq15
            exact Jq14
          · have hq15 := e_f hc hq15
            refine r_iconst F dX1_playRound_53 (v := 1) (by decide) ?_
            refine r_goto F dX1_playRound_54 (tgt := 58) (by decide) ?_
            refine r_drop 3 (L' := [some (.ref 46), some (.ref 53), some (.int v3.1), none]) rfl ?_
            obtain rfl := Option.some.inj hq15
            exact Jq14
        · have hq11 := e_f hc hq11
          refine r_drop 3 (L' := [some (.ref 46), some (.ref 53), some (.int v3.1), none]) rfl ?_
          obtain rfl := Option.some.inj hq11
          exact Jq10
  · show eRun G X 67 [some (.ref 46), none, none, none] [] h [(48, o48 x4.1), (52, o52 x4.2)] nx 0 0
    refine r_aload_n F dX1_playRound_67 rfl ?_
    refine r_get F dX1_playRound_68 flX1_21 h46 rfl (e_le rfl) (e_lt hnx rfl) ?_
    refine r_aload_n F dX1_playRound_71 rfl ?_
    refine r_get F dX1_playRound_72 flX1_12 h46 rfl (e_le rfl) (e_lt hnx rfl) ?_
    obtain ⟨q18, hq19, hf⟩ := e_bd hf
    refine r_callV F dX1_playRound_75 (b := 49) (dc := 0) (ds := 0) (As := [.ref 47]) (S0 := []) lkX1_54 mX0_find (tX0_find_49_47 hG (la := x_l X) (h := e_up h [(48, o48 x4.1), (52, o52 x4.2)]) hnx h47 rfl h49 h50 h51 hq19) rfl rfl rfl (e_le rfl) (e_le rfl) (e_le rfl) h49 (ci := 0) e_cl0.1 rfl (e_le rfl) (e_lt hnx rfl) (Nat.zero_le _) (Nat.zero_le _) (e_k ?_)
    refine r_wr (l' := [(48, o48 x4.1), (49, o49 q18.1), (50, o50 q18.2.1), (51, o51 q18.2.2), (52, o52 x4.2)]) rfl rfl ?_
    obtain rfl := Option.some.inj hf
    exact r_vret F hq dX1_playRound_78 rfl rfl (Nat.le_refl _) (Nat.le_refl _) ⟨rfl, rfl⟩

def fX0_productOf (a49_0 : Int32) (A51 : Nat → Int32) (p0 : Int32) (p1 : Int32) : Option (Int32) :=
  (fX0_numberOf a49_0 A51 p0 0).bind (fun q1 =>
  (fX0_numberOf a49_0 A51 p1 0).bind (fun q3 =>
  (fX0_numberOf a49_0 A51 p0 1).bind (fun q5 =>
  (fX0_numberOf a49_0 A51 p1 1).bind (fun q7 =>
  some ((q1 * q3) + (q5 * q7))))))
set_option maxRecDepth 100000 in
theorem tX0_productOf_49 {G : eG} (hG : e_GS G) {la : Launch} {h : Nat → eO} {nx : Nat} (hnx : 99 ≤ nx) {a49_0 : Int32} {A51 : Nat → Int32} {p0 : Int32} {p1 : Int32} (h49 : h 49 = o49 a49_0) (h51 : h 51 = o51 A51) {R9 : Int32} (hf : fX0_productOf a49_0 A51 p0 p1 = some R9) :
    eSem G la MX0_productOf [.ref 49, .int p0, .int p1] h nx 0 0 (fun r9 h9 => r9 = some (.int R9) ∧ h9 = h) := by
  refine eSem.of (k := 0) (L := [some (.ref 49), some (.int p0), some (.int p1)]) (by decide +kernel) rfl rfl (fun X F hxl hq hcR hsR => ?_)
  subst hxl
  unfold fX0_productOf at hf
  refine r_aload_n F dX0_productOf_0 rfl ?_
  refine r_iload_n F dX0_productOf_1 rfl ?_
  refine r_iconst F dX0_productOf_2 (v := 0) (by decide) ?_
  obtain ⟨q1, hq2, hf⟩ := e_bd hf
  refine r_callV F dX0_productOf_3 (b := 49) (dc := 0) (ds := 0) (As := [.int p0, .int 0]) (S0 := []) lkX0_38 mX0_numberOf (tX0_numberOf_49 hG (la := x_l X) (h := e_up h []) hnx h49 h51 hq2) rfl rfl rfl (e_le rfl) (e_le rfl) (e_le rfl) h49 (ci := 0) e_cl0.1 rfl (e_le rfl) (e_lt hnx rfl) (Nat.zero_le _) (Nat.zero_le _) (e_k ?_)
  refine r_wr0 ?_
  refine r_aload_n F dX0_productOf_6 rfl ?_
  refine r_iload_n F dX0_productOf_7 rfl ?_
  refine r_iconst F dX0_productOf_8 (v := 0) (by decide) ?_
  obtain ⟨q3, hq4, hf⟩ := e_bd hf
  refine r_callV F dX0_productOf_9 (b := 49) (dc := 0) (ds := 0) (As := [.int p1, .int 0]) (S0 := [.int q1]) lkX0_38 mX0_numberOf (tX0_numberOf_49 hG (la := x_l X) (h := e_up h []) hnx h49 h51 hq4) rfl rfl rfl (e_le rfl) (e_le rfl) (e_le rfl) h49 (ci := 0) e_cl0.1 rfl (e_le rfl) (e_lt hnx rfl) (Nat.zero_le _) (Nat.zero_le _) (e_k ?_)
  refine r_wr0 ?_
  refine r_imul F dX0_productOf_12 ?_
  refine r_aload_n F dX0_productOf_13 rfl ?_
  refine r_iload_n F dX0_productOf_14 rfl ?_
  refine r_iconst F dX0_productOf_15 (v := 1) (by decide) ?_
  obtain ⟨q5, hq6, hf⟩ := e_bd hf
  refine r_callV F dX0_productOf_16 (b := 49) (dc := 0) (ds := 0) (As := [.int p0, .int 1]) (S0 := [.int (q1 * q3)]) lkX0_38 mX0_numberOf (tX0_numberOf_49 hG (la := x_l X) (h := e_up h []) hnx h49 h51 hq6) rfl rfl rfl (e_le rfl) (e_le rfl) (e_le rfl) h49 (ci := 0) e_cl0.1 rfl (e_le rfl) (e_lt hnx rfl) (Nat.zero_le _) (Nat.zero_le _) (e_k ?_)
  refine r_wr0 ?_
  refine r_aload_n F dX0_productOf_19 rfl ?_
  refine r_iload_n F dX0_productOf_20 rfl ?_
  refine r_iconst F dX0_productOf_21 (v := 1) (by decide) ?_
  obtain ⟨q7, hq8, hf⟩ := e_bd hf
  refine r_callV F dX0_productOf_22 (b := 49) (dc := 0) (ds := 0) (As := [.int p1, .int 1]) (S0 := [.int q5, .int (q1 * q3)]) lkX0_38 mX0_numberOf (tX0_numberOf_49 hG (la := x_l X) (h := e_up h []) hnx h49 h51 hq8) rfl rfl rfl (e_le rfl) (e_le rfl) (e_le rfl) h49 (ci := 0) e_cl0.1 rfl (e_le rfl) (e_lt hnx rfl) (Nat.zero_le _) (Nat.zero_le _) (e_k ?_)
  refine r_wr0 ?_
  refine r_imul F dX0_productOf_25 ?_
  refine r_iadd F dX0_productOf_26 ?_
  obtain rfl := Option.some.inj hf
  exact r_iret F hq dX0_productOf_27 rfl rfl (Nat.le_refl _) (Nat.le_refl _) ⟨rfl, rfl⟩

def fX0_squareBetween (a49_0 : Int32) (A50 : Nat → Int32) (p0 : Int32) (p1 : Int32) : Option (Int32) :=
  (fX0_placeOf a49_0 A50 p0 0).bind (fun q1 =>
  (fX0_placeOf a49_0 A50 p1 0).bind (fun q3 =>
  (fX0_placeOf a49_0 A50 p0 1).bind (fun q5 =>
  (fX0_placeOf a49_0 A50 p1 1).bind (fun q7 =>
  some (((q1 - q3) * (q1 - q3)) + ((q5 - q7) * (q5 - q7)))))))
set_option maxRecDepth 100000 in
theorem tX0_squareBetween_49 {G : eG} (hG : e_GS G) {la : Launch} {h : Nat → eO} {nx : Nat} (hnx : 99 ≤ nx) {a49_0 : Int32} {A50 : Nat → Int32} {p0 : Int32} {p1 : Int32} (h49 : h 49 = o49 a49_0) (h50 : h 50 = o50 A50) {R9 : Int32} (hf : fX0_squareBetween a49_0 A50 p0 p1 = some R9) :
    eSem G la MX0_squareBetween [.ref 49, .int p0, .int p1] h nx 0 0 (fun r9 h9 => r9 = some (.int R9) ∧ h9 = h) := by
  refine eSem.of (k := 2) (L := [some (.ref 49), some (.int p0), some (.int p1), none, none]) (by decide +kernel) rfl rfl (fun X F hxl hq hcR hsR => ?_)
  subst hxl
  unfold fX0_squareBetween at hf
  refine r_aload_n F dX0_squareBetween_0 rfl ?_
  refine r_iload_n F dX0_squareBetween_1 rfl ?_
  refine r_iconst F dX0_squareBetween_2 (v := 0) (by decide) ?_
  obtain ⟨q1, hq2, hf⟩ := e_bd hf
  refine r_callV F dX0_squareBetween_3 (b := 49) (dc := 0) (ds := 0) (As := [.int p0, .int 0]) (S0 := []) lkX0_45 mX0_placeOf (tX0_placeOf_49 hG (la := x_l X) (h := e_up h []) hnx h49 h50 hq2) rfl rfl rfl (e_le rfl) (e_le rfl) (e_le rfl) h49 (ci := 0) e_cl0.1 rfl (e_le rfl) (e_lt hnx rfl) (Nat.zero_le _) (Nat.zero_le _) (e_k ?_)
  refine r_wr0 ?_
  refine r_aload_n F dX0_squareBetween_6 rfl ?_
  refine r_iload_n F dX0_squareBetween_7 rfl ?_
  refine r_iconst F dX0_squareBetween_8 (v := 0) (by decide) ?_
  obtain ⟨q3, hq4, hf⟩ := e_bd hf
  refine r_callV F dX0_squareBetween_9 (b := 49) (dc := 0) (ds := 0) (As := [.int p1, .int 0]) (S0 := [.int q1]) lkX0_45 mX0_placeOf (tX0_placeOf_49 hG (la := x_l X) (h := e_up h []) hnx h49 h50 hq4) rfl rfl rfl (e_le rfl) (e_le rfl) (e_le rfl) h49 (ci := 0) e_cl0.1 rfl (e_le rfl) (e_lt hnx rfl) (Nat.zero_le _) (Nat.zero_le _) (e_k ?_)
  refine r_wr0 ?_
  refine r_isub F dX0_squareBetween_12 ?_
  refine r_istore_n F dX0_squareBetween_13 (e_le rfl) (L' := [some (.ref 49), some (.int p0), some (.int p1), some (.int (q1 - q3)), none]) rfl ?_
  refine r_aload_n F dX0_squareBetween_14 rfl ?_
  refine r_iload_n F dX0_squareBetween_15 rfl ?_
  refine r_iconst F dX0_squareBetween_16 (v := 1) (by decide) ?_
  obtain ⟨q5, hq6, hf⟩ := e_bd hf
  refine r_callV F dX0_squareBetween_17 (b := 49) (dc := 0) (ds := 0) (As := [.int p0, .int 1]) (S0 := []) lkX0_45 mX0_placeOf (tX0_placeOf_49 hG (la := x_l X) (h := e_up h []) hnx h49 h50 hq6) rfl rfl rfl (e_le rfl) (e_le rfl) (e_le rfl) h49 (ci := 0) e_cl0.1 rfl (e_le rfl) (e_lt hnx rfl) (Nat.zero_le _) (Nat.zero_le _) (e_k ?_)
  refine r_wr0 ?_
  refine r_aload_n F dX0_squareBetween_20 rfl ?_
  refine r_iload_n F dX0_squareBetween_21 rfl ?_
  refine r_iconst F dX0_squareBetween_22 (v := 1) (by decide) ?_
  obtain ⟨q7, hq8, hf⟩ := e_bd hf
  refine r_callV F dX0_squareBetween_23 (b := 49) (dc := 0) (ds := 0) (As := [.int p1, .int 1]) (S0 := [.int q5]) lkX0_45 mX0_placeOf (tX0_placeOf_49 hG (la := x_l X) (h := e_up h []) hnx h49 h50 hq8) rfl rfl rfl (e_le rfl) (e_le rfl) (e_le rfl) h49 (ci := 0) e_cl0.1 rfl (e_le rfl) (e_lt hnx rfl) (Nat.zero_le _) (Nat.zero_le _) (e_k ?_)
  refine r_wr0 ?_
  refine r_isub F dX0_squareBetween_26 ?_
  refine r_istore F dX0_squareBetween_27 (e_le rfl) (L' := [some (.ref 49), some (.int p0), some (.int p1), some (.int (q1 - q3)), some (.int (q5 - q7))]) rfl ?_
  refine r_iload_n F dX0_squareBetween_29 rfl ?_
  refine r_iload_n F dX0_squareBetween_30 rfl ?_
  refine r_imul F dX0_squareBetween_31 ?_
  refine r_iload F dX0_squareBetween_32 rfl ?_
  refine r_iload F dX0_squareBetween_34 rfl ?_
  refine r_imul F dX0_squareBetween_36 ?_
  refine r_iadd F dX0_squareBetween_37 ?_
  obtain rfl := Option.some.inj hf
  exact r_iret F hq dX0_squareBetween_38 rfl rfl (Nat.le_refl _) (Nat.le_refl _) ⟨rfl, rfl⟩

def fX0_energy (a49_0 : Int32) (A50 : Nat → Int32) (A51 : Nat → Int32)  : Option (Int32) :=
  (e_loop (fun (v3 : Int32 × Int32) => (
      if a49_0 ≤ v3.2 then
        some (.inr v3.1)
      else
        (fX0_productOf a49_0 A51 v3.2 v3.2).bind (fun q6 =>
        (e_loop (fun (v9 : Int32 × Int32) => (
            if a49_0 ≤ v9.2 then
              some (.inr v9.1)
            else
              (fX0_squareBetween a49_0 A50 v3.2 v9.2).bind (fun q12 =>
              Option.bind (α := Int32) (
                if q12 ≤ 0 then
                  some 0
                else
                  (fX0_productOf a49_0 A51 v3.2 v9.2).bind (fun q16 =>
                  e_g (e_nz q12) (
                  some (((100 : Int32) * q16) / q12)))) (fun q14 =>
              some (.inl (v9.1 + q14, v9.2 + 1)))) : Option ((Int32 × Int32) ⊕ (Int32)))) e_fuel (v3.1 + ((50 : Int32) * q6), v3.2 + 1)).bind (fun x10 =>
        some (.inl (x10, v3.2 + 1)))) : Option ((Int32 × Int32) ⊕ (Int32)))) e_fuel (0, 0)).bind (fun x4 =>
  some x4)
set_option maxRecDepth 100000 in
theorem tX0_energy_49 {G : eG} (hG : e_GS G) {la : Launch} {h : Nat → eO} {nx : Nat} (hnx : 99 ≤ nx) {a49_0 : Int32} {A50 : Nat → Int32} {A51 : Nat → Int32}  (h49 : h 49 = o49 a49_0) (h50 : h 50 = o50 A50) (h51 : h 51 = o51 A51) {R9 : Int32} (hf : fX0_energy a49_0 A50 A51  = some R9) :
    eSem G la MX0_energy [.ref 49] h nx 0 0 (fun r9 h9 => r9 = some (.int R9) ∧ h9 = h) := by
  refine eSem.of (k := 4) (L := [some (.ref 49), none, none, none, none]) (by decide +kernel) rfl rfl (fun X F hxl hq hcR hsR => ?_)
  subst hxl
  unfold fX0_energy at hf
  refine r_iconst F dX0_energy_0 (v := 0) (by decide) ?_
  refine r_istore_n F dX0_energy_1 (e_le rfl) (L' := [some (.ref 49), some (.int 0), none, none, none]) rfl ?_
  refine r_iconst F dX0_energy_2 (v := 0) (by decide) ?_
  refine r_istore_n F dX0_energy_3 (e_le rfl) (L' := [some (.ref 49), some (.int 0), some (.int 0), none, none]) rfl ?_
  obtain ⟨x4, hx5, hf⟩ := e_bd hf
  refine (e_loop_ok (P := fun (v3 : Int32 × Int32) => eRun G X 4 [some (.ref 49), some (.int v3.1), some (.int v3.2), none, none] [] h [] nx 0 0) (K := fun (x4 : Int32) => eRun G X 80 [none, some (.int x4), none, none, none] [] h [] nx 0 0) ?_ e_fuel (0, 0) x4 hx5 ?_ : _)
  · intro v3 z hz ih hx
    refine r_iload_n F dX0_energy_4 rfl ?_
    refine r_aload_n F dX0_energy_5 rfl ?_
    refine r_get F dX0_energy_6 flX0_18 h49 rfl (e_le rfl) (e_lt hnx rfl) ?_
    refine r_icmp_ge F dX0_energy_9 (tgt := 80) (by decide) (fun hc => ?_) (fun hc => ?_)
    · have hz := e_t hc hz
      refine r_drop 0 (L' := [none, some (.int v3.1), some (.int v3.2), none, none]) rfl ?_
      refine r_drop 2 (L' := [none, some (.int v3.1), none, none, none]) rfl ?_
      obtain rfl := Option.some.inj hz
      exact hx v3.1 rfl
    · have hz := e_f hc hz
      refine r_iload_n F dX0_energy_12 rfl ?_
      refine r_bipush F dX0_energy_13 (v := 50) (by decide) ?_
      refine r_aload_n F dX0_energy_15 rfl ?_
      refine r_iload_n F dX0_energy_16 rfl ?_
      refine r_iload_n F dX0_energy_17 rfl ?_
      obtain ⟨q6, hq7, hz⟩ := e_bd hz
      refine r_callV F dX0_energy_18 (b := 49) (dc := 0) (ds := 0) (As := [.int v3.2, .int v3.2]) (S0 := [.int 50, .int v3.1]) lkX0_77 mX0_productOf (tX0_productOf_49 hG (la := x_l X) (h := e_up h []) hnx h49 h51 hq7) rfl rfl rfl (e_le rfl) (e_le rfl) (e_le rfl) h49 (ci := 0) e_cl0.1 rfl (e_le rfl) (e_lt hnx rfl) (Nat.zero_le _) (Nat.zero_le _) (e_k ?_)
      refine r_wr0 ?_
      refine r_imul F dX0_energy_21 ?_
      refine r_iadd F dX0_energy_22 ?_
      refine r_istore_n F dX0_energy_23 (e_le rfl) (L' := [some (.ref 49), some (.int (v3.1 + ((50 : Int32) * q6))), some (.int v3.2), none, none]) rfl ?_
      refine r_iload_n F dX0_energy_24 rfl ?_
      refine r_iconst F dX0_energy_25 (v := 1) (by decide) ?_
      refine r_iadd F dX0_energy_26 ?_
      refine r_istore_n F dX0_energy_27 (e_le rfl) (L' := [some (.ref 49), some (.int (v3.1 + ((50 : Int32) * q6))), some (.int v3.2), some (.int (v3.2 + 1)), none]) rfl ?_
      obtain ⟨x10, hx11, hz⟩ := e_bd hz
      refine (e_loop_ok (P := fun (v9 : Int32 × Int32) => eRun G X 28 [some (.ref 49), some (.int v9.1), some (.int v3.2), some (.int v9.2), none] [] h [] nx 0 0) (K := fun (x10 : Int32) => eRun G X 74 [some (.ref 49), some (.int x10), some (.int v3.2), none, none] [] h [] nx 0 0) ?_ e_fuel (v3.1 + ((50 : Int32) * q6), v3.2 + 1) x10 hx11 ?_ : _)
      · intro v9 z hz ih hx
        refine r_iload_n F dX0_energy_28 rfl ?_
        refine r_aload_n F dX0_energy_29 rfl ?_
        refine r_get F dX0_energy_30 flX0_18 h49 rfl (e_le rfl) (e_lt hnx rfl) ?_
        refine r_icmp_ge F dX0_energy_33 (tgt := 74) (by decide) (fun hc => ?_) (fun hc => ?_)
        · have hz := e_t hc hz
          refine r_drop 3 (L' := [some (.ref 49), some (.int v9.1), some (.int v3.2), none, none]) rfl ?_
          obtain rfl := Option.some.inj hz
          exact hx v9.1 rfl
        · have hz := e_f hc hz
          refine r_aload_n F dX0_energy_36 rfl ?_
          refine r_iload_n F dX0_energy_37 rfl ?_
          refine r_iload_n F dX0_energy_38 rfl ?_
          obtain ⟨q12, hq13, hz⟩ := e_bd hz
          refine r_callV F dX0_energy_39 (b := 49) (dc := 0) (ds := 0) (As := [.int v3.2, .int v9.2]) (S0 := []) lkX0_80 mX0_squareBetween (tX0_squareBetween_49 hG (la := x_l X) (h := e_up h []) hnx h49 h50 hq13) rfl rfl rfl (e_le rfl) (e_le rfl) (e_le rfl) h49 (ci := 0) e_cl0.1 rfl (e_le rfl) (e_lt hnx rfl) (Nat.zero_le _) (Nat.zero_le _) (e_k ?_)
          refine r_wr0 ?_
          refine r_istore F dX0_energy_42 (e_le rfl) (L' := [some (.ref 49), some (.int v9.1), some (.int v3.2), some (.int v9.2), some (.int q12)]) rfl ?_
          refine r_iload_n F dX0_energy_44 rfl ?_
          refine r_iload F dX0_energy_45 rfl ?_
          obtain ⟨q14, hq15, hz⟩ := e_bd hz
          have Jq14 : eRun G X 66 [some (.ref 49), none, some (.int v3.2), some (.int v9.2), none] [.int q14, .int v9.1] h [] nx 0 0 := by
            refine r_iadd F dX0_energy_66 ?_
            refine r_istore_n F dX0_energy_67 (e_le rfl) (L' := [some (.ref 49), some (.int (v9.1 + q14)), some (.int v3.2), some (.int v9.2), none]) rfl ?_
            refine r_inc F dX0_energy_68 (k9 := 1) (by decide) rfl (L' := [some (.ref 49), some (.int (v9.1 + q14)), some (.int v3.2), some (.int (v9.2 + 1)), none]) rfl ?_
            refine r_goto F dX0_energy_71 (tgt := 28) (by decide) ?_
            obtain rfl := Option.some.inj hz
            exact ih (v9.1 + q14, v9.2 + 1) rfl
          refine r_if_le F dX0_energy_47 (tgt := 65) (by decide) (fun hc => ?_) (fun hc => ?_)
          · have hq15 := e_t hc hq15
            refine r_iconst F dX0_energy_65 (v := 0) (by decide) ?_
            refine r_drop 1 (L' := [some (.ref 49), none, some (.int v3.2), some (.int v9.2), some (.int q12)]) rfl ?_
            refine r_drop 4 (L' := [some (.ref 49), none, some (.int v3.2), some (.int v9.2), none]) rfl ?_
            obtain rfl := Option.some.inj hq15
            exact Jq14
          · have hq15 := e_f hc hq15
            refine r_bipush F dX0_energy_50 (v := 100) (by decide) ?_
            refine r_aload_n F dX0_energy_52 rfl ?_
            refine r_iload_n F dX0_energy_53 rfl ?_
            refine r_iload_n F dX0_energy_54 rfl ?_
            obtain ⟨q16, hq17, hq15⟩ := e_bd hq15
            refine r_callV F dX0_energy_55 (b := 49) (dc := 0) (ds := 0) (As := [.int v3.2, .int v9.2]) (S0 := [.int 100, .int v9.1]) lkX0_77 mX0_productOf (tX0_productOf_49 hG (la := x_l X) (h := e_up h []) hnx h49 h51 hq17) rfl rfl rfl (e_le rfl) (e_le rfl) (e_le rfl) h49 (ci := 0) e_cl0.1 rfl (e_le rfl) (e_lt hnx rfl) (Nat.zero_le _) (Nat.zero_le _) (e_k ?_)
            refine r_wr0 ?_
            refine r_imul F dX0_energy_58 ?_
            refine r_iload F dX0_energy_59 rfl ?_
            obtain ⟨hg, hq15⟩ := e_gd hq15
            refine r_idiv F dX0_energy_61 (e_nz_ne hg) ?_
            refine r_goto F dX0_energy_62 (tgt := 66) (by decide) ?_
            refine r_drop 1 (L' := [some (.ref 49), none, some (.int v3.2), some (.int v9.2), some (.int q12)]) rfl ?_
            refine r_drop 4 (L' := [some (.ref 49), none, some (.int v3.2), some (.int v9.2), none]) rfl ?_
            obtain rfl := Option.some.inj hq15
            exact Jq14
      · show eRun G X 74 [some (.ref 49), some (.int x10), some (.int v3.2), none, none] [] h [] nx 0 0
        refine r_inc F dX0_energy_74 (k9 := 1) (by decide) rfl (L' := [some (.ref 49), some (.int x10), some (.int (v3.2 + 1)), none, none]) rfl ?_
        refine r_goto F dX0_energy_77 (tgt := 4) (by decide) ?_
        obtain rfl := Option.some.inj hz
        exact ih (x10, v3.2 + 1) rfl
  · show eRun G X 80 [none, some (.int x4), none, none, none] [] h [] nx 0 0
    refine r_iload_n F dX0_energy_80 rfl ?_
    obtain rfl := Option.some.inj hf
    exact r_iret F hq dX0_energy_81 rfl rfl (Nat.le_refl _) (Nat.le_refl _) ⟨rfl, rfl⟩

def fX7_stepOf (a47_0 : Int32) (a47_1 : Int32) (A48 : Nat → Int32) (p0 : Int32) (p1 : Int32) (p2 : Int32) (p3 : Int32) : Option (Int32) :=
  (fX7_hasLink a47_0 a47_1 p0 p1 p2).bind (fun q1 =>
  if q1 = true then
    if p3 = 0 then
      (fX7_placeOf p0 p1 p2).bind (fun q3 =>
      e_g (e_in (q3 + p3) 324) (
      some (A48 (tn (q3 + p3)))))
    else
      if p3 = 1 then
        (fX7_placeOf p0 p1 p2).bind (fun q5 =>
        e_g (e_in (q5 + p3) 324) (
        some (A48 (tn (q5 + p3)))))
      else
        some 0
  else
    some 0)
set_option maxRecDepth 100000 in
theorem tX7_stepOf_47 {G : eG} (hG : e_GS G) {la : Launch} {h : Nat → eO} {nx : Nat} (hnx : 99 ≤ nx) {a47_0 : Int32} {a47_1 : Int32} {A48 : Nat → Int32} {p0 : Int32} {p1 : Int32} {p2 : Int32} {p3 : Int32} (h47 : h 47 = o47 a47_0 a47_1) (h48 : h 48 = o48 A48) {R9 : Int32} (hf : fX7_stepOf a47_0 a47_1 A48 p0 p1 p2 p3 = some R9) :
    eSem G la MX7_stepOf [.ref 47, .int p0, .int p1, .int p2, .int p3] h nx 0 0 (fun r9 h9 => r9 = some (.int R9) ∧ h9 = h) := by
  refine eSem.of (k := 0) (L := [some (.ref 47), some (.int p0), some (.int p1), some (.int p2), some (.int p3)]) (by decide +kernel) rfl rfl (fun X F hxl hq hcR hsR => ?_)
  subst hxl
  unfold fX7_stepOf at hf
  refine r_aload_n F dX7_stepOf_0 rfl ?_
  refine r_iload_n F dX7_stepOf_1 rfl ?_
  refine r_iload_n F dX7_stepOf_2 rfl ?_
  refine r_iload_n F dX7_stepOf_3 rfl ?_
  obtain ⟨q1, hq2, hf⟩ := e_bd hf
  refine r_callV F dX7_stepOf_4 (b := 47) (dc := 0) (ds := 0) (As := [.int p0, .int p1, .int p2]) (S0 := []) lkX7_28 mX7_hasLink (tX7_hasLink_47 hG (la := x_l X) (h := e_up h []) hnx h47 hq2) rfl rfl rfl (e_le rfl) (e_le rfl) (e_le rfl) h47 (ci := 7) e_cl7.1 rfl (e_le rfl) (e_lt hnx rfl) (Nat.zero_le _) (Nat.zero_le _) (e_k ?_)
  refine r_wr0 ?_
  refine r_z_eq F dX7_stepOf_7 (tgt := 38) (by decide) (fun hc => ?_) (fun hc => ?_)
  · have hf := e_t hc hf
    refine r_iload F dX7_stepOf_10 rfl ?_
    refine r_if_eq F dX7_stepOf_12 (tgt := 21) (by decide) (fun hc => ?_) (fun hc => ?_)
    · have hf := e_t hc hf
      refine r_aload_n F dX7_stepOf_21 rfl ?_
      refine r_get F dX7_stepOf_22 flX7_11 h47 rfl (e_le rfl) (e_lt hnx rfl) ?_
      refine r_iload_n F dX7_stepOf_25 rfl ?_
      refine r_iload_n F dX7_stepOf_26 rfl ?_
      refine r_iload_n F dX7_stepOf_27 rfl ?_
      obtain ⟨q3, hq4, hf⟩ := e_bd hf
      refine r_callS F dX7_stepOf_28 (dc := 0) (ds := 0) (As := [.int p0, .int p1, .int p2]) (S0 := [.ref 48]) lkX7_32 mX7_placeOf (tX7_placeOf hG (la := x_l X) (h := e_up h []) hnx  hq4) rfl rfl rfl (e_le rfl) (e_le rfl) (e_le rfl) (Nat.zero_le _) (Nat.zero_le _) (e_k ?_)
      refine r_wr0 ?_
      refine r_iload F dX7_stepOf_31 rfl ?_
      refine r_iadd F dX7_stepOf_33 ?_
      obtain ⟨hg, hf⟩ := e_gd hf
      refine r_iald F dX7_stepOf_34 (i := (q3 + p3)) h48 (e_le rfl) (e_lt hnx rfl) (e_vp hg) ?_
      refine r_goto F dX7_stepOf_35 (tgt := 39) (by decide) ?_
      obtain rfl := Option.some.inj hf
      exact r_iret F hq dX7_stepOf_39 rfl rfl (Nat.le_refl _) (Nat.le_refl _) ⟨rfl, rfl⟩
    · have hf := e_f hc hf
      refine r_iload F dX7_stepOf_15 rfl ?_
      refine r_iconst F dX7_stepOf_17 (v := 1) (by decide) ?_
      refine r_icmp_ne F dX7_stepOf_18 (tgt := 38) (by decide) (fun hc => ?_) (fun hc => ?_)
      · have hf := e_f hc hf
        refine r_iconst F dX7_stepOf_38 (v := 0) (by decide) ?_
        obtain rfl := Option.some.inj hf
        exact r_iret F hq dX7_stepOf_39 rfl rfl (Nat.le_refl _) (Nat.le_refl _) ⟨rfl, rfl⟩
      · have hf := e_t hc hf
        refine r_aload_n F dX7_stepOf_21 rfl ?_
        refine r_get F dX7_stepOf_22 flX7_11 h47 rfl (e_le rfl) (e_lt hnx rfl) ?_
        refine r_iload_n F dX7_stepOf_25 rfl ?_
        refine r_iload_n F dX7_stepOf_26 rfl ?_
        refine r_iload_n F dX7_stepOf_27 rfl ?_
        obtain ⟨q5, hq6, hf⟩ := e_bd hf
        refine r_callS F dX7_stepOf_28 (dc := 0) (ds := 0) (As := [.int p0, .int p1, .int p2]) (S0 := [.ref 48]) lkX7_32 mX7_placeOf (tX7_placeOf hG (la := x_l X) (h := e_up h []) hnx  hq6) rfl rfl rfl (e_le rfl) (e_le rfl) (e_le rfl) (Nat.zero_le _) (Nat.zero_le _) (e_k ?_)
        refine r_wr0 ?_
        refine r_iload F dX7_stepOf_31 rfl ?_
        refine r_iadd F dX7_stepOf_33 ?_
        obtain ⟨hg, hf⟩ := e_gd hf
        refine r_iald F dX7_stepOf_34 (i := (q5 + p3)) h48 (e_le rfl) (e_lt hnx rfl) (e_vp hg) ?_
        refine r_goto F dX7_stepOf_35 (tgt := 39) (by decide) ?_
        obtain rfl := Option.some.inj hf
        exact r_iret F hq dX7_stepOf_39 rfl rfl (Nat.le_refl _) (Nat.le_refl _) ⟨rfl, rfl⟩
  · have hf := e_f hc hf
    refine r_iconst F dX7_stepOf_38 (v := 0) (by decide) ?_
    obtain rfl := Option.some.inj hf
    exact r_iret F hq dX7_stepOf_39 rfl rfl (Nat.le_refl _) (Nat.le_refl _) ⟨rfl, rfl⟩

def fX7_isSlipped (a47_0 : Int32) (a47_1 : Int32) (A48 : Nat → Int32) (p0 : Int32) (p1 : Int32) (p2 : Int32) : Option (Bool) :=
  (fX7_hasLink a47_0 a47_1 p0 p1 p2).bind (fun q1 =>
  if q1 = true then
    (fX7_stepOf a47_0 a47_1 A48 p0 p1 p2 0).bind (fun q3 =>
    if q3 = ((1 : Int32) - p2) then
      (fX7_stepOf a47_0 a47_1 A48 p0 p1 p2 1).bind (fun q5 =>
      if q5 = p2 then
        some false
      else
        some true)
    else
      some true)
  else
    some false)
set_option maxRecDepth 100000 in
theorem tX7_isSlipped_47 {G : eG} (hG : e_GS G) {la : Launch} {h : Nat → eO} {nx : Nat} (hnx : 99 ≤ nx) {a47_0 : Int32} {a47_1 : Int32} {A48 : Nat → Int32} {p0 : Int32} {p1 : Int32} {p2 : Int32} (h47 : h 47 = o47 a47_0 a47_1) (h48 : h 48 = o48 A48) {R9 : Bool} (hf : fX7_isSlipped a47_0 a47_1 A48 p0 p1 p2 = some R9) :
    eSem G la MX7_isSlipped [.ref 47, .int p0, .int p1, .int p2] h nx 0 0 (fun r9 h9 => r9 = some (.int (e_b R9)) ∧ h9 = h) := by
  refine eSem.of (k := 0) (L := [some (.ref 47), some (.int p0), some (.int p1), some (.int p2)]) (by decide +kernel) rfl rfl (fun X F hxl hq hcR hsR => ?_)
  subst hxl
  unfold fX7_isSlipped at hf
  refine r_aload_n F dX7_isSlipped_0 rfl ?_
  refine r_iload_n F dX7_isSlipped_1 rfl ?_
  refine r_iload_n F dX7_isSlipped_2 rfl ?_
  refine r_iload_n F dX7_isSlipped_3 rfl ?_
  obtain ⟨q1, hq2, hf⟩ := e_bd hf
  refine r_callV F dX7_isSlipped_4 (b := 47) (dc := 0) (ds := 0) (As := [.int p0, .int p1, .int p2]) (S0 := []) lkX7_28 mX7_hasLink (tX7_hasLink_47 hG (la := x_l X) (h := e_up h []) hnx h47 hq2) rfl rfl rfl (e_le rfl) (e_le rfl) (e_le rfl) h47 (ci := 7) e_cl7.1 rfl (e_le rfl) (e_lt hnx rfl) (Nat.zero_le _) (Nat.zero_le _) (e_k ?_)
  refine r_wr0 ?_
  refine r_z_eq F dX7_isSlipped_7 (tgt := 40) (by decide) (fun hc => ?_) (fun hc => ?_)
  · have hf := e_t hc hf
    refine r_aload_n F dX7_isSlipped_10 rfl ?_
    refine r_iload_n F dX7_isSlipped_11 rfl ?_
    refine r_iload_n F dX7_isSlipped_12 rfl ?_
    refine r_iload_n F dX7_isSlipped_13 rfl ?_
    refine r_iconst F dX7_isSlipped_14 (v := 0) (by decide) ?_
    obtain ⟨q3, hq4, hf⟩ := e_bd hf
    refine r_callV F dX7_isSlipped_15 (b := 47) (dc := 0) (ds := 0) (As := [.int p0, .int p1, .int p2, .int 0]) (S0 := []) lkX7_36 mX7_stepOf (tX7_stepOf_47 hG (la := x_l X) (h := e_up h []) hnx h47 h48 hq4) rfl rfl rfl (e_le rfl) (e_le rfl) (e_le rfl) h47 (ci := 7) e_cl7.1 rfl (e_le rfl) (e_lt hnx rfl) (Nat.zero_le _) (Nat.zero_le _) (e_k ?_)
    refine r_wr0 ?_
    refine r_iconst F dX7_isSlipped_18 (v := 1) (by decide) ?_
    refine r_iload_n F dX7_isSlipped_19 rfl ?_
    refine r_isub F dX7_isSlipped_20 ?_
    refine r_icmp_ne F dX7_isSlipped_21 (tgt := 36) (by decide) (fun hc => ?_) (fun hc => ?_)
    · have hf := e_f hc hf
      refine r_iconst F dX7_isSlipped_36 (v := 1) (by decide) ?_
      refine r_goto F dX7_isSlipped_37 (tgt := 41) (by decide) ?_
      obtain rfl := Option.some.inj hf
      exact r_zret F hq (v := true) dX7_isSlipped_41 rfl rfl (Nat.le_refl _) (Nat.le_refl _) ⟨rfl, rfl⟩
    · have hf := e_t hc hf
      refine r_aload_n F dX7_isSlipped_24 rfl ?_
      refine r_iload_n F dX7_isSlipped_25 rfl ?_
      refine r_iload_n F dX7_isSlipped_26 rfl ?_
      refine r_iload_n F dX7_isSlipped_27 rfl ?_
      refine r_iconst F dX7_isSlipped_28 (v := 1) (by decide) ?_
      obtain ⟨q5, hq6, hf⟩ := e_bd hf
      refine r_callV F dX7_isSlipped_29 (b := 47) (dc := 0) (ds := 0) (As := [.int p0, .int p1, .int p2, .int 1]) (S0 := []) lkX7_36 mX7_stepOf (tX7_stepOf_47 hG (la := x_l X) (h := e_up h []) hnx h47 h48 hq6) rfl rfl rfl (e_le rfl) (e_le rfl) (e_le rfl) h47 (ci := 7) e_cl7.1 rfl (e_le rfl) (e_lt hnx rfl) (Nat.zero_le _) (Nat.zero_le _) (e_k ?_)
      refine r_wr0 ?_
      refine r_iload_n F dX7_isSlipped_32 rfl ?_
      refine r_icmp_eq F dX7_isSlipped_33 (tgt := 40) (by decide) (fun hc => ?_) (fun hc => ?_)
      · have hf := e_t hc hf
        refine r_iconst F dX7_isSlipped_40 (v := 0) (by decide) ?_
        obtain rfl := Option.some.inj hf
        exact r_zret F hq (v := false) dX7_isSlipped_41 rfl rfl (Nat.le_refl _) (Nat.le_refl _) ⟨rfl, rfl⟩
      · have hf := e_f hc hf
        refine r_iconst F dX7_isSlipped_36 (v := 1) (by decide) ?_
        refine r_goto F dX7_isSlipped_37 (tgt := 41) (by decide) ?_
        obtain rfl := Option.some.inj hf
        exact r_zret F hq (v := true) dX7_isSlipped_41 rfl rfl (Nat.le_refl _) (Nat.le_refl _) ⟨rfl, rfl⟩
  · have hf := e_f hc hf
    refine r_iconst F dX7_isSlipped_40 (v := 0) (by decide) ?_
    obtain rfl := Option.some.inj hf
    exact r_zret F hq (v := false) dX7_isSlipped_41 rfl rfl (Nat.le_refl _) (Nat.le_refl _) ⟨rfl, rfl⟩

def fX7_slippedFrom (a47_0 : Int32) (a47_1 : Int32) (A48 : Nat → Int32) (p0 : Int32) (p1 : Int32) : Option (Int32) :=
  (e_loop (fun (v3 : Int32 × Int32) => (
      if a47_0 ≤ v3.2 then
        some (.inr v3.1)
      else
        (fX7_isSlipped a47_0 a47_1 A48 v3.2 p0 p1).bind (fun q6 =>
        Option.bind (α := Int32) (
          if q6 = true then
            some (v3.1 + 1)
          else
            some v3.1) (fun q8 =>
        some (.inl (q8, v3.2 + 1)))) : Option ((Int32 × Int32) ⊕ (Int32)))) e_fuel (0, 0)).bind (fun x4 =>
  some x4)
set_option maxRecDepth 100000 in
theorem tX7_slippedFrom_47 {G : eG} (hG : e_GS G) {la : Launch} {h : Nat → eO} {nx : Nat} (hnx : 99 ≤ nx) {a47_0 : Int32} {a47_1 : Int32} {A48 : Nat → Int32} {p0 : Int32} {p1 : Int32} (h47 : h 47 = o47 a47_0 a47_1) (h48 : h 48 = o48 A48) {R9 : Int32} (hf : fX7_slippedFrom a47_0 a47_1 A48 p0 p1 = some R9) :
    eSem G la MX7_slippedFrom [.ref 47, .int p0, .int p1] h nx 0 0 (fun r9 h9 => r9 = some (.int R9) ∧ h9 = h) := by
  refine eSem.of (k := 2) (L := [some (.ref 47), some (.int p0), some (.int p1), none, none]) (by decide +kernel) rfl rfl (fun X F hxl hq hcR hsR => ?_)
  subst hxl
  unfold fX7_slippedFrom at hf
  refine r_iconst F dX7_slippedFrom_0 (v := 0) (by decide) ?_
  refine r_istore_n F dX7_slippedFrom_1 (e_le rfl) (L' := [some (.ref 47), some (.int p0), some (.int p1), some (.int 0), none]) rfl ?_
  refine r_iconst F dX7_slippedFrom_2 (v := 0) (by decide) ?_
  refine r_istore F dX7_slippedFrom_3 (e_le rfl) (L' := [some (.ref 47), some (.int p0), some (.int p1), some (.int 0), some (.int 0)]) rfl ?_
  obtain ⟨x4, hx5, hf⟩ := e_bd hf
  refine (e_loop_ok (P := fun (v3 : Int32 × Int32) => eRun G X 5 [some (.ref 47), some (.int p0), some (.int p1), some (.int v3.1), some (.int v3.2)] [] h [] nx 0 0) (K := fun (x4 : Int32) => eRun G X 34 [none, none, none, some (.int x4), none] [] h [] nx 0 0) ?_ e_fuel (0, 0) x4 hx5 ?_ : _)
  · intro v3 z hz ih hx
    refine r_iload F dX7_slippedFrom_5 rfl ?_
    refine r_aload_n F dX7_slippedFrom_7 rfl ?_
    refine r_get F dX7_slippedFrom_8 flX7_15 h47 rfl (e_le rfl) (e_lt hnx rfl) ?_
    refine r_icmp_ge F dX7_slippedFrom_11 (tgt := 34) (by decide) (fun hc => ?_) (fun hc => ?_)
    · have hz := e_t hc hz
      refine r_drop 0 (L' := [none, some (.int p0), some (.int p1), some (.int v3.1), some (.int v3.2)]) rfl ?_
      refine r_drop 1 (L' := [none, none, some (.int p1), some (.int v3.1), some (.int v3.2)]) rfl ?_
      refine r_drop 2 (L' := [none, none, none, some (.int v3.1), some (.int v3.2)]) rfl ?_
      refine r_drop 4 (L' := [none, none, none, some (.int v3.1), none]) rfl ?_
      obtain rfl := Option.some.inj hz
      exact hx v3.1 rfl
    · have hz := e_f hc hz
      refine r_aload_n F dX7_slippedFrom_14 rfl ?_
      refine r_iload F dX7_slippedFrom_15 rfl ?_
      refine r_iload_n F dX7_slippedFrom_17 rfl ?_
      refine r_iload_n F dX7_slippedFrom_18 rfl ?_
      obtain ⟨q6, hq7, hz⟩ := e_bd hz
      refine r_callV F dX7_slippedFrom_19 (b := 47) (dc := 0) (ds := 0) (As := [.int v3.2, .int p0, .int p1]) (S0 := []) lkX7_44 mX7_isSlipped (tX7_isSlipped_47 hG (la := x_l X) (h := e_up h []) hnx h47 h48 hq7) rfl rfl rfl (e_le rfl) (e_le rfl) (e_le rfl) h47 (ci := 7) e_cl7.1 rfl (e_le rfl) (e_lt hnx rfl) (Nat.zero_le _) (Nat.zero_le _) (e_k ?_)
      refine r_wr0 ?_
      obtain ⟨q8, hq9, hz⟩ := e_bd hz
      have Jq8 : eRun G X 28 [some (.ref 47), some (.int p0), some (.int p1), some (.int q8), some (.int v3.2)] [] h [] nx 0 0 := by
        refine r_inc F dX7_slippedFrom_28 (k9 := 1) (by decide) rfl (L' := [some (.ref 47), some (.int p0), some (.int p1), some (.int q8), some (.int (v3.2 + 1))]) rfl ?_
        refine r_goto F dX7_slippedFrom_31 (tgt := 5) (by decide) ?_
        obtain rfl := Option.some.inj hz
        exact ih (q8, v3.2 + 1) rfl
      refine r_z_eq F dX7_slippedFrom_22 (tgt := 28) (by decide) (fun hc => ?_) (fun hc => ?_)
      · have hq9 := e_t hc hq9
        refine r_inc F dX7_slippedFrom_25 (k9 := 1) (by decide) rfl (L' := [some (.ref 47), some (.int p0), some (.int p1), some (.int (v3.1 + 1)), some (.int v3.2)]) rfl ?_
        obtain rfl := Option.some.inj hq9
        exact Jq8
      · have hq9 := e_f hc hq9
        obtain rfl := Option.some.inj hq9
        exact Jq8
  · show eRun G X 34 [none, none, none, some (.int x4), none] [] h [] nx 0 0
    refine r_iload_n F dX7_slippedFrom_34 rfl ?_
    obtain rfl := Option.some.inj hf
    exact r_iret F hq dX7_slippedFrom_35 rfl rfl (Nat.le_refl _) (Nat.le_refl _) ⟨rfl, rfl⟩

def fX7_slippedLinks (a47_0 : Int32) (a47_1 : Int32) (A48 : Nat → Int32)  : Option (Int32) :=
  (e_loop (fun (v3 : Int32 × Int32) => (
      if a47_1 ≤ v3.2 then
        some (.inr v3.1)
      else
        (fX7_slippedFrom a47_0 a47_1 A48 v3.2 0).bind (fun q6 =>
        (fX7_slippedFrom a47_0 a47_1 A48 v3.2 1).bind (fun q8 =>
        some (.inl (v3.1 + (q6 + q8), v3.2 + 1)))) : Option ((Int32 × Int32) ⊕ (Int32)))) e_fuel (0, 0)).bind (fun x4 =>
  some x4)
set_option maxRecDepth 100000 in
theorem tX7_slippedLinks_47 {G : eG} (hG : e_GS G) {la : Launch} {h : Nat → eO} {nx : Nat} (hnx : 99 ≤ nx) {a47_0 : Int32} {a47_1 : Int32} {A48 : Nat → Int32}  (h47 : h 47 = o47 a47_0 a47_1) (h48 : h 48 = o48 A48) {R9 : Int32} (hf : fX7_slippedLinks a47_0 a47_1 A48  = some R9) :
    eSem G la MX7_slippedLinks [.ref 47] h nx 0 0 (fun r9 h9 => r9 = some (.int R9) ∧ h9 = h) := by
  refine eSem.of (k := 2) (L := [some (.ref 47), none, none]) (by decide +kernel) rfl rfl (fun X F hxl hq hcR hsR => ?_)
  subst hxl
  unfold fX7_slippedLinks at hf
  refine r_iconst F dX7_slippedLinks_0 (v := 0) (by decide) ?_
  refine r_istore_n F dX7_slippedLinks_1 (e_le rfl) (L' := [some (.ref 47), some (.int 0), none]) rfl ?_
  refine r_iconst F dX7_slippedLinks_2 (v := 0) (by decide) ?_
  refine r_istore_n F dX7_slippedLinks_3 (e_le rfl) (L' := [some (.ref 47), some (.int 0), some (.int 0)]) rfl ?_
  obtain ⟨x4, hx5, hf⟩ := e_bd hf
  refine (e_loop_ok (P := fun (v3 : Int32 × Int32) => eRun G X 4 [some (.ref 47), some (.int v3.1), some (.int v3.2)] [] h [] nx 0 0) (K := fun (x4 : Int32) => eRun G X 34 [none, some (.int x4), none] [] h [] nx 0 0) ?_ e_fuel (0, 0) x4 hx5 ?_ : _)
  · intro v3 z hz ih hx
    refine r_iload_n F dX7_slippedLinks_4 rfl ?_
    refine r_aload_n F dX7_slippedLinks_5 rfl ?_
    refine r_get F dX7_slippedLinks_6 flX7_19 h47 rfl (e_le rfl) (e_lt hnx rfl) ?_
    refine r_icmp_ge F dX7_slippedLinks_9 (tgt := 34) (by decide) (fun hc => ?_) (fun hc => ?_)
    · have hz := e_t hc hz
      refine r_drop 0 (L' := [none, some (.int v3.1), some (.int v3.2)]) rfl ?_
      refine r_drop 2 (L' := [none, some (.int v3.1), none]) rfl ?_
      obtain rfl := Option.some.inj hz
      exact hx v3.1 rfl
    · have hz := e_f hc hz
      refine r_iload_n F dX7_slippedLinks_12 rfl ?_
      refine r_aload_n F dX7_slippedLinks_13 rfl ?_
      refine r_iload_n F dX7_slippedLinks_14 rfl ?_
      refine r_iconst F dX7_slippedLinks_15 (v := 0) (by decide) ?_
      obtain ⟨q6, hq7, hz⟩ := e_bd hz
      refine r_callV F dX7_slippedLinks_16 (b := 47) (dc := 0) (ds := 0) (As := [.int v3.2, .int 0]) (S0 := [.int v3.1]) lkX7_40 mX7_slippedFrom (tX7_slippedFrom_47 hG (la := x_l X) (h := e_up h []) hnx h47 h48 hq7) rfl rfl rfl (e_le rfl) (e_le rfl) (e_le rfl) h47 (ci := 7) e_cl7.1 rfl (e_le rfl) (e_lt hnx rfl) (Nat.zero_le _) (Nat.zero_le _) (e_k ?_)
      refine r_wr0 ?_
      refine r_aload_n F dX7_slippedLinks_19 rfl ?_
      refine r_iload_n F dX7_slippedLinks_20 rfl ?_
      refine r_iconst F dX7_slippedLinks_21 (v := 1) (by decide) ?_
      obtain ⟨q8, hq9, hz⟩ := e_bd hz
      refine r_callV F dX7_slippedLinks_22 (b := 47) (dc := 0) (ds := 0) (As := [.int v3.2, .int 1]) (S0 := [.int q6, .int v3.1]) lkX7_40 mX7_slippedFrom (tX7_slippedFrom_47 hG (la := x_l X) (h := e_up h []) hnx h47 h48 hq9) rfl rfl rfl (e_le rfl) (e_le rfl) (e_le rfl) h47 (ci := 7) e_cl7.1 rfl (e_le rfl) (e_lt hnx rfl) (Nat.zero_le _) (Nat.zero_le _) (e_k ?_)
      refine r_wr0 ?_
      refine r_iadd F dX7_slippedLinks_25 ?_
      refine r_iadd F dX7_slippedLinks_26 ?_
      refine r_istore_n F dX7_slippedLinks_27 (e_le rfl) (L' := [some (.ref 47), some (.int (v3.1 + (q6 + q8))), some (.int v3.2)]) rfl ?_
      refine r_inc F dX7_slippedLinks_28 (k9 := 1) (by decide) rfl (L' := [some (.ref 47), some (.int (v3.1 + (q6 + q8))), some (.int (v3.2 + 1))]) rfl ?_
      refine r_goto F dX7_slippedLinks_31 (tgt := 4) (by decide) ?_
      obtain rfl := Option.some.inj hz
      exact ih (v3.1 + (q6 + q8), v3.2 + 1) rfl
  · show eRun G X 34 [none, some (.int x4), none] [] h [] nx 0 0
    refine r_iload_n F dX7_slippedLinks_34 rfl ?_
    obtain rfl := Option.some.inj hf
    exact r_iret F hq dX7_slippedLinks_35 rfl rfl (Nat.le_refl _) (Nat.le_refl _) ⟨rfl, rfl⟩

def fX11_ahead (a40_0 : Int32) (a40_1 : Int32) (a47_0 : Int32) (a47_1 : Int32) (a49_0 : Int32) (A41 : Nat → Int32) (A48 : Nat → Int32) (A50 : Nat → Int32) (A51 : Nat → Int32) (A52 : Nat → Int32) (A53 : Nat → Int32) (p0 : Int32) (p1 : Int32) : Option (Int32 × Int32 × Int32 × Int32 × (Nat → Int32) × (Nat → Int32) × (Nat → Int32) × (Nat → Int32)) :=
  (fX11_isEmpty a40_0).bind (fun q1 =>
  if q1 = true then
    some ((-1000000), a47_0, a47_1, a49_0, A48, A50, A51, A52)
  else
    if p0 < 0 then
      some ((-1000000), a47_0, a47_1, a49_0, A48, A50, A51, A52)
    else
      if 40 < p0 then
        some ((-1000000), a47_0, a47_1, a49_0, A48, A50, A51, A52)
      else
        if p1 < 0 then
          some ((-1000000), a47_0, a47_1, a49_0, A48, A50, A51, A52)
        else
          if p1 ≤ 5 then
            (fX1_copy a40_0 a40_1 a47_0 a47_1 a49_0 A41 A48 A50 A51).bind (fun q3 =>
            (fX1_clearTally A52).bind (fun q5 =>
            (e_loop (fun (v9 : Int32 × Int32 × (Nat → Int32) × (Nat → Int32) × (Nat → Int32) × (Nat → Int32)) => (
                if p0 ≤ v9.1 then
                  some (.inr (v9.2.1, v9.2.2.1, v9.2.2.2.1, v9.2.2.2.2.1, v9.2.2.2.2.2))
                else
                  (fX1_playRound q3.1 q3.2.1 v9.2.1 v9.2.2.1 v9.2.2.2.1 v9.2.2.2.2.1 v9.2.2.2.2.2 A53).bind (fun q12 =>
                  some (.inl (v9.1 + 1, q12.1, q12.2.1, q12.2.2.1, q12.2.2.2.1, q12.2.2.2.2))) : Option ((Int32 × Int32 × (Nat → Int32) × (Nat → Int32) × (Nat → Int32) × (Nat → Int32)) ⊕ (Int32 × (Nat → Int32) × (Nat → Int32) × (Nat → Int32) × (Nat → Int32))))) e_fuel (0, q3.2.2.1, q3.2.2.2.1, q3.2.2.2.2.1, q3.2.2.2.2.2, q5)).bind (fun x10 =>
            if p1 = 0 then
              some (x10.1, q3.1, q3.2.1, x10.1, x10.2.1, x10.2.2.1, x10.2.2.2.1, x10.2.2.2.2)
            else
              if p1 = 4 then
                (fX0_energy x10.1 x10.2.2.1 x10.2.2.2.1).bind (fun q14 =>
                some (q14, q3.1, q3.2.1, x10.1, x10.2.1, x10.2.2.1, x10.2.2.2.1, x10.2.2.2.2))
              else
                if p1 = 5 then
                  (fX7_slippedLinks q3.1 q3.2.1 x10.2.1).bind (fun q16 =>
                  some (q16, q3.1, q3.2.1, x10.1, x10.2.1, x10.2.2.1, x10.2.2.2.1, x10.2.2.2.2))
                else
                  e_g (e_in (p1 - 1) 3) (
                  some (x10.2.2.2.2 (tn (p1 - 1)), q3.1, q3.2.1, x10.1, x10.2.1, x10.2.2.1, x10.2.2.2.1, x10.2.2.2.2)))))
          else
            some ((-1000000), a47_0, a47_1, a49_0, A48, A50, A51, A52))
set_option maxRecDepth 100000 in
theorem tX11_ahead_32 {G : eG} (hG : e_GS G) {la : Launch} {h : Nat → eO} {nx : Nat} (hnx : 99 ≤ nx) {a32_8 : Bool} {a32_10 : Bool} {a40_0 : Int32} {a40_1 : Int32} {A41 : Nat → Int32} {a47_0 : Int32} {a47_1 : Int32} {A48 : Nat → Int32} {a49_0 : Int32} {A50 : Nat → Int32} {A51 : Nat → Int32} {A52 : Nat → Int32} {A53 : Nat → Int32} {p0 : Int32} {p1 : Int32} (h32 : h 32 = o32 a32_8 a32_10) (h39 : h 39 = o39) (h40 : h 40 = o40 a40_0 a40_1) (h41 : h 41 = o41 A41) (h46 : h 46 = o46) (h47 : h 47 = o47 a47_0 a47_1) (h48 : h 48 = o48 A48) (h49 : h 49 = o49 a49_0) (h50 : h 50 = o50 A50) (h51 : h 51 = o51 A51) (h52 : h 52 = o52 A52) (h53 : h 53 = o53 A53) {R9 : Int32 × Int32 × Int32 × Int32 × (Nat → Int32) × (Nat → Int32) × (Nat → Int32) × (Nat → Int32)} (hf : fX11_ahead a40_0 a40_1 a47_0 a47_1 a49_0 A41 A48 A50 A51 A52 A53 p0 p1 = some R9) :
    eSem G la MX11_ahead [.ref 32, .int p0, .int p1] h nx 0 0 (fun r9 h9 => r9 = some (.int R9.1) ∧ h9 = e_up h [(47, o47 R9.2.1 R9.2.2.1), (48, o48 R9.2.2.2.2.1), (49, o49 R9.2.2.2.1), (50, o50 R9.2.2.2.2.2.1), (51, o51 R9.2.2.2.2.2.2.1), (52, o52 R9.2.2.2.2.2.2.2)]) := by
  refine eSem.of (k := 1) (L := [some (.ref 32), some (.int p0), some (.int p1), none]) (by decide +kernel) rfl rfl (fun X F hxl hq hcR hsR => ?_)
  subst hxl
  unfold fX11_ahead at hf
  refine r_aload_n F dX11_ahead_0 rfl ?_
  obtain ⟨q1, hq2, hf⟩ := e_bd hf
  refine r_callV F dX11_ahead_1 (b := 32) (dc := 0) (ds := 0) (As := []) (S0 := []) lkX11_136 mX11_isEmpty (tX11_isEmpty_32 hG (la := x_l X) (h := e_up h []) hnx h32 h39 h40 hq2) rfl rfl rfl (e_le rfl) (e_le rfl) (e_le rfl) h32 (ci := 11) e_cl11.1 rfl (e_le rfl) (e_lt hnx rfl) (Nat.zero_le _) (Nat.zero_le _) (e_k ?_)
  refine r_wr0 ?_
  refine r_z_ne F dX11_ahead_4 (tgt := 26) (by decide) (fun hc => ?_) (fun hc => ?_)
  · have hf := e_t hc hf
    refine r_ldc F dX11_ahead_26 kcX11_140 ?_
    refine r_mat (k := 47) h47 (l' := [(47, o47 a47_0 a47_1)]) rfl ?_
    refine r_mat (k := 48) h48 (l' := [(47, o47 a47_0 a47_1), (48, o48 A48)]) rfl ?_
    refine r_mat (k := 49) h49 (l' := [(47, o47 a47_0 a47_1), (48, o48 A48), (49, o49 a49_0)]) rfl ?_
    refine r_mat (k := 50) h50 (l' := [(47, o47 a47_0 a47_1), (48, o48 A48), (49, o49 a49_0), (50, o50 A50)]) rfl ?_
    refine r_mat (k := 51) h51 (l' := [(47, o47 a47_0 a47_1), (48, o48 A48), (49, o49 a49_0), (50, o50 A50), (51, o51 A51)]) rfl ?_
    refine r_mat (k := 52) h52 (l' := [(47, o47 a47_0 a47_1), (48, o48 A48), (49, o49 a49_0), (50, o50 A50), (51, o51 A51), (52, o52 A52)]) rfl ?_
    obtain rfl := Option.some.inj hf
    exact r_iret F hq dX11_ahead_28 rfl rfl (Nat.le_refl _) (Nat.le_refl _) ⟨rfl, rfl⟩
  · have hf := e_f hc hf
    refine r_iload_n F dX11_ahead_7 rfl ?_
    refine r_if_lt F dX11_ahead_8 (tgt := 26) (by decide) (fun hc => ?_) (fun hc => ?_)
    · have hf := e_t hc hf
      refine r_ldc F dX11_ahead_26 kcX11_140 ?_
      refine r_mat (k := 47) h47 (l' := [(47, o47 a47_0 a47_1)]) rfl ?_
      refine r_mat (k := 48) h48 (l' := [(47, o47 a47_0 a47_1), (48, o48 A48)]) rfl ?_
      refine r_mat (k := 49) h49 (l' := [(47, o47 a47_0 a47_1), (48, o48 A48), (49, o49 a49_0)]) rfl ?_
      refine r_mat (k := 50) h50 (l' := [(47, o47 a47_0 a47_1), (48, o48 A48), (49, o49 a49_0), (50, o50 A50)]) rfl ?_
      refine r_mat (k := 51) h51 (l' := [(47, o47 a47_0 a47_1), (48, o48 A48), (49, o49 a49_0), (50, o50 A50), (51, o51 A51)]) rfl ?_
      refine r_mat (k := 52) h52 (l' := [(47, o47 a47_0 a47_1), (48, o48 A48), (49, o49 a49_0), (50, o50 A50), (51, o51 A51), (52, o52 A52)]) rfl ?_
      obtain rfl := Option.some.inj hf
      exact r_iret F hq dX11_ahead_28 rfl rfl (Nat.le_refl _) (Nat.le_refl _) ⟨rfl, rfl⟩
    · have hf := e_f hc hf
      refine r_iload_n F dX11_ahead_11 rfl ?_
      refine r_bipush F dX11_ahead_12 (v := 40) (by decide) ?_
      refine r_icmp_gt F dX11_ahead_14 (tgt := 26) (by decide) (fun hc => ?_) (fun hc => ?_)
      · have hf := e_t hc hf
        refine r_ldc F dX11_ahead_26 kcX11_140 ?_
        refine r_mat (k := 47) h47 (l' := [(47, o47 a47_0 a47_1)]) rfl ?_
        refine r_mat (k := 48) h48 (l' := [(47, o47 a47_0 a47_1), (48, o48 A48)]) rfl ?_
        refine r_mat (k := 49) h49 (l' := [(47, o47 a47_0 a47_1), (48, o48 A48), (49, o49 a49_0)]) rfl ?_
        refine r_mat (k := 50) h50 (l' := [(47, o47 a47_0 a47_1), (48, o48 A48), (49, o49 a49_0), (50, o50 A50)]) rfl ?_
        refine r_mat (k := 51) h51 (l' := [(47, o47 a47_0 a47_1), (48, o48 A48), (49, o49 a49_0), (50, o50 A50), (51, o51 A51)]) rfl ?_
        refine r_mat (k := 52) h52 (l' := [(47, o47 a47_0 a47_1), (48, o48 A48), (49, o49 a49_0), (50, o50 A50), (51, o51 A51), (52, o52 A52)]) rfl ?_
        obtain rfl := Option.some.inj hf
        exact r_iret F hq dX11_ahead_28 rfl rfl (Nat.le_refl _) (Nat.le_refl _) ⟨rfl, rfl⟩
      · have hf := e_f hc hf
        refine r_iload_n F dX11_ahead_17 rfl ?_
        refine r_if_lt F dX11_ahead_18 (tgt := 26) (by decide) (fun hc => ?_) (fun hc => ?_)
        · have hf := e_t hc hf
          refine r_ldc F dX11_ahead_26 kcX11_140 ?_
          refine r_mat (k := 47) h47 (l' := [(47, o47 a47_0 a47_1)]) rfl ?_
          refine r_mat (k := 48) h48 (l' := [(47, o47 a47_0 a47_1), (48, o48 A48)]) rfl ?_
          refine r_mat (k := 49) h49 (l' := [(47, o47 a47_0 a47_1), (48, o48 A48), (49, o49 a49_0)]) rfl ?_
          refine r_mat (k := 50) h50 (l' := [(47, o47 a47_0 a47_1), (48, o48 A48), (49, o49 a49_0), (50, o50 A50)]) rfl ?_
          refine r_mat (k := 51) h51 (l' := [(47, o47 a47_0 a47_1), (48, o48 A48), (49, o49 a49_0), (50, o50 A50), (51, o51 A51)]) rfl ?_
          refine r_mat (k := 52) h52 (l' := [(47, o47 a47_0 a47_1), (48, o48 A48), (49, o49 a49_0), (50, o50 A50), (51, o51 A51), (52, o52 A52)]) rfl ?_
          obtain rfl := Option.some.inj hf
          exact r_iret F hq dX11_ahead_28 rfl rfl (Nat.le_refl _) (Nat.le_refl _) ⟨rfl, rfl⟩
        · have hf := e_f hc hf
          refine r_iload_n F dX11_ahead_21 rfl ?_
          refine r_iconst F dX11_ahead_22 (v := 5) (by decide) ?_
          refine r_icmp_le F dX11_ahead_23 (tgt := 29) (by decide) (fun hc => ?_) (fun hc => ?_)
          · have hf := e_t hc hf
            refine r_aload_n F dX11_ahead_29 rfl ?_
            refine r_get F dX11_ahead_30 flX11_32 h32 rfl (e_le rfl) (e_lt hnx rfl) ?_
            refine r_aload_n F dX11_ahead_33 rfl ?_
            refine r_get F dX11_ahead_34 flX11_28 h32 rfl (e_le rfl) (e_lt hnx rfl) ?_
            obtain ⟨q3, hq4, hf⟩ := e_bd hf
            refine r_callV F dX11_ahead_37 (b := 46) (dc := 0) (ds := 0) (As := [.ref 39]) (S0 := []) lkX11_325 mX1_copy (tX1_copy_46_39 hG (la := x_l X) (h := e_up h []) hnx h39 h40 h41 h46 h47 h48 h49 h50 h51 hq4) rfl rfl rfl (e_le rfl) (e_le rfl) (e_le rfl) h46 (ci := 1) e_cl1.1 rfl (e_le rfl) (e_lt hnx rfl) (Nat.zero_le _) (Nat.zero_le _) (e_k ?_)
            refine r_wr (l' := [(47, o47 q3.1 q3.2.1), (48, o48 q3.2.2.2.1), (49, o49 q3.2.2.1), (50, o50 q3.2.2.2.2.1), (51, o51 q3.2.2.2.2.2)]) rfl rfl ?_
            refine r_aload_n F dX11_ahead_40 rfl ?_
            refine r_get F dX11_ahead_41 flX11_32 h32 rfl (e_le rfl) (e_lt hnx rfl) ?_
            obtain ⟨q5, hq6, hf⟩ := e_bd hf
            refine r_callV F dX11_ahead_44 (b := 46) (dc := 0) (ds := 0) (As := []) (S0 := []) lkX11_261 mX1_clearTally (tX1_clearTally_46 hG (la := x_l X) (h := e_up h [(47, o47 q3.1 q3.2.1), (48, o48 q3.2.2.2.1), (49, o49 q3.2.2.1), (50, o50 q3.2.2.2.2.1), (51, o51 q3.2.2.2.2.2)]) hnx h46 h52 hq6) rfl rfl rfl (e_le rfl) (e_le rfl) (e_le rfl) h46 (ci := 1) e_cl1.1 rfl (e_le rfl) (e_lt hnx rfl) (Nat.zero_le _) (Nat.zero_le _) (e_k ?_)
            refine r_wr (l' := [(47, o47 q3.1 q3.2.1), (48, o48 q3.2.2.2.1), (49, o49 q3.2.2.1), (50, o50 q3.2.2.2.2.1), (51, o51 q3.2.2.2.2.2), (52, o52 q5)]) rfl rfl ?_
            refine r_iconst F dX11_ahead_47 (v := 0) (by decide) ?_
            refine r_istore_n F dX11_ahead_48 (e_le rfl) (L' := [some (.ref 32), some (.int p0), some (.int p1), some (.int 0)]) rfl ?_
            obtain ⟨x10, hx11, hf⟩ := e_bd hf
            refine (e_loop_ok (P := fun (v9 : Int32 × Int32 × (Nat → Int32) × (Nat → Int32) × (Nat → Int32) × (Nat → Int32)) => eRun G X 49 [some (.ref 32), some (.int p0), some (.int p1), some (.int v9.1)] [] h [(47, o47 q3.1 q3.2.1), (48, o48 v9.2.2.1), (49, o49 v9.2.1), (50, o50 v9.2.2.2.1), (51, o51 v9.2.2.2.2.1), (52, o52 v9.2.2.2.2.2)] nx 0 0) (K := fun (x10 : Int32 × (Nat → Int32) × (Nat → Int32) × (Nat → Int32) × (Nat → Int32)) => eRun G X 71 [some (.ref 32), none, some (.int p1), none] [] h [(47, o47 q3.1 q3.2.1), (48, o48 x10.2.1), (49, o49 x10.1), (50, o50 x10.2.2.1), (51, o51 x10.2.2.2.1), (52, o52 x10.2.2.2.2)] nx 0 0) ?_ e_fuel (0, q3.2.2.1, q3.2.2.2.1, q3.2.2.2.2.1, q3.2.2.2.2.2, q5) x10 hx11 ?_ : _)
            · intro v9 z hz ih hx
              refine r_iload_n F dX11_ahead_49 rfl ?_
              refine r_iload_n F dX11_ahead_50 rfl ?_
              refine r_icmp_ge F dX11_ahead_51 (tgt := 71) (by decide) (fun hc => ?_) (fun hc => ?_)
              · have hz := e_t hc hz
                refine r_drop 1 (L' := [some (.ref 32), none, some (.int p1), some (.int v9.1)]) rfl ?_
                refine r_drop 3 (L' := [some (.ref 32), none, some (.int p1), none]) rfl ?_
                obtain rfl := Option.some.inj hz
                exact hx (v9.2.1, v9.2.2.1, v9.2.2.2.1, v9.2.2.2.2.1, v9.2.2.2.2.2) rfl
              · have hz := e_f hc hz
                refine r_aload_n F dX11_ahead_54 rfl ?_
                refine r_get F dX11_ahead_55 flX11_32 h32 rfl (e_le rfl) (e_lt hnx rfl) ?_
                refine r_aload_n F dX11_ahead_58 rfl ?_
                refine r_get F dX11_ahead_59 flX11_35 h32 rfl (e_le rfl) (e_lt hnx rfl) ?_
                obtain ⟨q12, hq13, hz⟩ := e_bd hz
                refine r_callV F dX11_ahead_62 (b := 46) (dc := 0) (ds := 0) (As := [.ref 53]) (S0 := []) lkX11_264 mX1_playRound (tX1_playRound_46_53 hG (la := x_l X) (h := e_up h [(47, o47 q3.1 q3.2.1), (48, o48 v9.2.2.1), (49, o49 v9.2.1), (50, o50 v9.2.2.2.1), (51, o51 v9.2.2.2.2.1), (52, o52 v9.2.2.2.2.2)]) hnx h46 rfl rfl rfl rfl rfl rfl h53 hq13) rfl rfl rfl (e_le rfl) (e_le rfl) (e_le rfl) h46 (ci := 1) e_cl1.1 rfl (e_le rfl) (e_lt hnx rfl) (Nat.zero_le _) (Nat.zero_le _) (e_k ?_)
                refine r_wr (l' := [(47, o47 q3.1 q3.2.1), (48, o48 q12.2.1), (49, o49 q12.1), (50, o50 q12.2.2.1), (51, o51 q12.2.2.2.1), (52, o52 q12.2.2.2.2)]) rfl rfl ?_
                refine r_inc F dX11_ahead_65 (k9 := 1) (by decide) rfl (L' := [some (.ref 32), some (.int p0), some (.int p1), some (.int (v9.1 + 1))]) rfl ?_
                refine r_goto F dX11_ahead_68 (tgt := 49) (by decide) ?_
                obtain rfl := Option.some.inj hz
                exact ih (v9.1 + 1, q12.1, q12.2.1, q12.2.2.1, q12.2.2.2.1, q12.2.2.2.2) rfl
            · show eRun G X 71 [some (.ref 32), none, some (.int p1), none] [] h [(47, o47 q3.1 q3.2.1), (48, o48 x10.2.1), (49, o49 x10.1), (50, o50 x10.2.2.1), (51, o51 x10.2.2.2.1), (52, o52 x10.2.2.2.2)] nx 0 0
              refine r_iload_n F dX11_ahead_71 rfl ?_
              refine Classical.byCases (p := p1 = 0) (fun hc => ?_) (fun hk0 => ?_)
              · have hf := e_t hc hf
                refine r_ls F dX11_ahead_72 (by decide) (off := 36) (by rw [hc]; decide) (tgt := 108) (by decide) ?_
                refine r_aload_n F dX11_ahead_108 rfl ?_
                refine r_get F dX11_ahead_109 flX11_32 h32 rfl (e_le rfl) (e_lt hnx rfl) ?_
                refine r_get F dX11_ahead_112 flX11_127 h46 rfl (e_le rfl) (e_lt hnx rfl) ?_
                refine r_get F dX11_ahead_115 flX11_131 rfl rfl (e_le rfl) (e_lt hnx rfl) ?_
                obtain rfl := Option.some.inj hf
                exact r_iret F hq dX11_ahead_118 rfl rfl (Nat.le_refl _) (Nat.le_refl _) ⟨rfl, rfl⟩
              have hf := e_f hk0 hf
              refine Classical.byCases (p := p1 = 4) (fun hc => ?_) (fun hk1 => ?_)
              · have hf := e_t hc hf
                refine r_ls F dX11_ahead_72 (by decide) (off := 47) (by rw [hc]; decide) (tgt := 119) (by decide) ?_
                refine r_aload_n F dX11_ahead_119 rfl ?_
                refine r_get F dX11_ahead_120 flX11_32 h32 rfl (e_le rfl) (e_lt hnx rfl) ?_
                refine r_get F dX11_ahead_123 flX11_127 h46 rfl (e_le rfl) (e_lt hnx rfl) ?_
                obtain ⟨q14, hq15, hf⟩ := e_bd hf
                refine r_callV F dX11_ahead_126 (b := 49) (dc := 0) (ds := 0) (As := []) (S0 := []) lkX11_159 mX0_energy (tX0_energy_49 hG (la := x_l X) (h := e_up h [(47, o47 q3.1 q3.2.1), (48, o48 x10.2.1), (49, o49 x10.1), (50, o50 x10.2.2.1), (51, o51 x10.2.2.2.1), (52, o52 x10.2.2.2.2)]) hnx rfl rfl rfl hq15) rfl rfl rfl (e_le rfl) (e_le rfl) (e_le rfl) rfl (ci := 0) e_cl0.1 rfl (e_le rfl) (e_lt hnx rfl) (Nat.zero_le _) (Nat.zero_le _) (e_k ?_)
                refine r_wr0 ?_
                obtain rfl := Option.some.inj hf
                exact r_iret F hq dX11_ahead_129 rfl rfl (Nat.le_refl _) (Nat.le_refl _) ⟨rfl, rfl⟩
              have hf := e_f hk1 hf
              refine Classical.byCases (p := p1 = 5) (fun hc => ?_) (fun hk2 => ?_)
              · have hf := e_t hc hf
                refine r_ls F dX11_ahead_72 (by decide) (off := 58) (by rw [hc]; decide) (tgt := 130) (by decide) ?_
                refine r_aload_n F dX11_ahead_130 rfl ?_
                refine r_get F dX11_ahead_131 flX11_32 h32 rfl (e_le rfl) (e_lt hnx rfl) ?_
                refine r_get F dX11_ahead_134 flX11_141 h46 rfl (e_le rfl) (e_lt hnx rfl) ?_
                obtain ⟨q16, hq17, hf⟩ := e_bd hf
                refine r_callV F dX11_ahead_137 (b := 47) (dc := 0) (ds := 0) (As := []) (S0 := []) lkX11_153 mX7_slippedLinks (tX7_slippedLinks_47 hG (la := x_l X) (h := e_up h [(47, o47 q3.1 q3.2.1), (48, o48 x10.2.1), (49, o49 x10.1), (50, o50 x10.2.2.1), (51, o51 x10.2.2.2.1), (52, o52 x10.2.2.2.2)]) hnx rfl rfl hq17) rfl rfl rfl (e_le rfl) (e_le rfl) (e_le rfl) rfl (ci := 7) e_cl7.1 rfl (e_le rfl) (e_lt hnx rfl) (Nat.zero_le _) (Nat.zero_le _) (e_k ?_)
                refine r_wr0 ?_
                obtain rfl := Option.some.inj hf
                exact r_iret F hq dX11_ahead_140 rfl rfl (Nat.le_refl _) (Nat.le_refl _) ⟨rfl, rfl⟩
              have hf := e_f hk2 hf
              refine r_ls F dX11_ahead_72 (by decide) (off := 69) (e_ls0_4_5 hk0 hk1 hk2) (tgt := 141) (by decide) ?_
              refine r_aload_n F dX11_ahead_141 rfl ?_
              refine r_get F dX11_ahead_142 flX11_32 h32 rfl (e_le rfl) (e_lt hnx rfl) ?_
              refine r_get F dX11_ahead_145 flX11_268 h46 rfl (e_le rfl) (e_lt hnx rfl) ?_
              refine r_iload_n F dX11_ahead_148 rfl ?_
              refine r_iconst F dX11_ahead_149 (v := 1) (by decide) ?_
              refine r_isub F dX11_ahead_150 ?_
              obtain ⟨hg, hf⟩ := e_gd hf
              refine r_iald F dX11_ahead_151 (i := (p1 - 1)) rfl (e_le rfl) (e_lt hnx rfl) (e_vp hg) ?_
              obtain rfl := Option.some.inj hf
              exact r_iret F hq dX11_ahead_152 rfl rfl (Nat.le_refl _) (Nat.le_refl _) ⟨rfl, rfl⟩
          · have hf := e_f hc hf
            refine r_ldc F dX11_ahead_26 kcX11_140 ?_
            refine r_mat (k := 47) h47 (l' := [(47, o47 a47_0 a47_1)]) rfl ?_
            refine r_mat (k := 48) h48 (l' := [(47, o47 a47_0 a47_1), (48, o48 A48)]) rfl ?_
            refine r_mat (k := 49) h49 (l' := [(47, o47 a47_0 a47_1), (48, o48 A48), (49, o49 a49_0)]) rfl ?_
            refine r_mat (k := 50) h50 (l' := [(47, o47 a47_0 a47_1), (48, o48 A48), (49, o49 a49_0), (50, o50 A50)]) rfl ?_
            refine r_mat (k := 51) h51 (l' := [(47, o47 a47_0 a47_1), (48, o48 A48), (49, o49 a49_0), (50, o50 A50), (51, o51 A51)]) rfl ?_
            refine r_mat (k := 52) h52 (l' := [(47, o47 a47_0 a47_1), (48, o48 A48), (49, o49 a49_0), (50, o50 A50), (51, o51 A51), (52, o52 A52)]) rfl ?_
            obtain rfl := Option.some.inj hf
            exact r_iret F hq dX11_ahead_28 rfl rfl (Nat.le_refl _) (Nat.le_refl _) ⟨rfl, rfl⟩

def fX8_give (a54_1 : Int32) (a58_2 : Int32) (A41 : Nat → Int32) (A55 : Nat → Int32) (A59 : Nat → Int32) (A60 : Nat → Int32)  : Option (Int32 × (Nat → Int32) × (Nat → Int32)) :=
  some (a58_2, va_cpy A59 A41 (tn 0) (tn 0) (tn 324), va_cpy A60 A55 (tn 0) (tn 0) (tn 160))
set_option maxRecDepth 100000 in
theorem tX8_give_58_40_54 {G : eG} (hG : e_GS G) {la : Launch} {h : Nat → eO} {nx : Nat} (hnx : 99 ≤ nx) {a40_0 : Int32} {a40_1 : Int32} {A41 : Nat → Int32} {a54_1 : Int32} {A55 : Nat → Int32} {a58_2 : Int32} {A59 : Nat → Int32} {A60 : Nat → Int32}  (h40 : h 40 = o40 a40_0 a40_1) (h41 : h 41 = o41 A41) (h54 : h 54 = o54 a54_1) (h55 : h 55 = o55 A55) (h58 : h 58 = o58 a58_2) (h59 : h 59 = o59 A59) (h60 : h 60 = o60 A60) {R9 : Int32 × (Nat → Int32) × (Nat → Int32)} (hf : fX8_give a54_1 a58_2 A41 A55 A59 A60  = some R9) :
    eSem G la MX8_give [.ref 58, .ref 40, .ref 54] h nx 0 0 (fun r9 h9 => r9 = none ∧ h9 = e_up h [(41, o41 R9.2.1), (54, o54 R9.1), (55, o55 R9.2.2)]) := by
  refine eSem.of (k := 0) (L := [some (.ref 58), some (.ref 40), some (.ref 54)]) (by decide +kernel) rfl rfl (fun X F hxl hq hcR hsR => ?_)
  subst hxl
  unfold fX8_give at hf
  refine r_aload_n F dX8_give_0 rfl ?_
  refine r_get F dX8_give_1 flX8_9 h58 rfl (e_le rfl) (e_lt hnx rfl) ?_
  refine r_iconst F dX8_give_4 (v := 0) (by decide) ?_
  refine r_aload_n F dX8_give_5 rfl ?_
  refine r_get F dX8_give_6 flX8_20 h40 rfl (e_le rfl) (e_lt hnx rfl) ?_
  refine r_iconst F dX8_give_9 (v := 0) (by decide) ?_
  refine r_aload_n F dX8_give_10 rfl ?_
  refine r_get F dX8_give_11 flX8_9 h58 rfl (e_le rfl) (e_lt hnx rfl) ?_
  refine r_alen F dX8_give_14 h59 (e_le rfl) (e_lt hnx rfl) (v := 324) rfl ?_
  refine r_copy F dX8_give_15 lnX8_21 k_an k_as k_ai h59 (e_le rfl) (e_lt hnx rfl) h41 (e_le rfl) (e_lt hnx rfl) (by decide) (by decide) (by decide) (by decide) (by decide) rfl (e_le rfl) (e_le rfl) (by decide) (l' := [(41, o41 (va_cpy A59 A41 (tn 0) (tn 0) (tn 324)))]) rfl ?_
  refine r_aload_n F dX8_give_18 rfl ?_
  refine r_get F dX8_give_19 flX8_17 h58 rfl (e_le rfl) (e_lt hnx rfl) ?_
  refine r_iconst F dX8_give_22 (v := 0) (by decide) ?_
  refine r_aload_n F dX8_give_23 rfl ?_
  refine r_get F dX8_give_24 flX8_27 h54 rfl (e_le rfl) (e_lt hnx rfl) ?_
  refine r_iconst F dX8_give_27 (v := 0) (by decide) ?_
  refine r_aload_n F dX8_give_28 rfl ?_
  refine r_get F dX8_give_29 flX8_17 h58 rfl (e_le rfl) (e_lt hnx rfl) ?_
  refine r_alen F dX8_give_32 h60 (e_le rfl) (e_lt hnx rfl) (v := 160) rfl ?_
  refine r_copy F dX8_give_33 lnX8_21 k_an k_as k_ai h60 (e_le rfl) (e_lt hnx rfl) h55 (e_le rfl) (e_lt hnx rfl) (by decide) (by decide) (by decide) (by decide) (by decide) rfl (e_le rfl) (e_le rfl) (by decide) (l' := [(41, o41 (va_cpy A59 A41 (tn 0) (tn 0) (tn 324))), (55, o55 (va_cpy A60 A55 (tn 0) (tn 0) (tn 160)))]) rfl ?_
  refine r_aload_n F dX8_give_36 rfl ?_
  refine r_aload_n F dX8_give_37 rfl ?_
  refine r_get F dX8_give_38 flX8_32 h58 rfl (e_le rfl) (e_lt hnx rfl) ?_
  refine r_put F dX8_give_41 flX8_28 rfl rfl rfl h54 (e_le rfl) (e_le rfl) (e_lt hnx rfl) (l' := [(41, o41 (va_cpy A59 A41 (tn 0) (tn 0) (tn 324))), (54, o54 a58_2), (55, o55 (va_cpy A60 A55 (tn 0) (tn 0) (tn 160)))]) rfl ?_
  obtain rfl := Option.some.inj hf
  exact r_vret F hq dX8_give_44 rfl rfl (Nat.le_refl _) (Nat.le_refl _) ⟨rfl, rfl⟩

def fX4_forget (a56_2 : Int32)  : Option (Int32) :=
  some 0
set_option maxRecDepth 100000 in
theorem tX4_forget_56 {G : eG} (hG : e_GS G) {la : Launch} {h : Nat → eO} {nx : Nat} (hnx : 99 ≤ nx) {a56_1 : Int32} {a56_2 : Int32}  (h56 : h 56 = o56 a56_1 a56_2) {R9 : Int32} (hf : fX4_forget a56_2  = some R9) :
    eSem G la MX4_forget [.ref 56] h nx 0 0 (fun r9 h9 => r9 = none ∧ h9 = e_up h [(56, o56 a56_1 R9)]) := by
  refine eSem.of (k := 0) (L := [some (.ref 56)]) (by decide +kernel) rfl rfl (fun X F hxl hq hcR hsR => ?_)
  subst hxl
  unfold fX4_forget at hf
  refine r_aload_n F dX4_forget_0 rfl ?_
  refine r_iconst F dX4_forget_1 (v := 0) (by decide) ?_
  refine r_put F dX4_forget_2 flX4_15 rfl rfl rfl h56 (e_le rfl) (e_le rfl) (e_lt hnx rfl) (l' := [(56, o56 a56_1 0)]) rfl ?_
  obtain rfl := Option.some.inj hf
  exact r_vret F hq dX4_forget_5 rfl rfl (Nat.le_refl _) (Nat.le_refl _) ⟨rfl, rfl⟩

def fX11_back (a32_8 : Bool) (a40_0 : Int32) (a40_1 : Int32) (a42_0 : Int32) (a54_1 : Int32) (a56_2 : Int32) (a58_2 : Int32) (A41 : Nat → Int32) (A43 : Nat → Int32) (A44 : Nat → Int32) (A55 : Nat → Int32) (A59 : Nat → Int32) (A60 : Nat → Int32)  : Option (Int32 × Int32 × Int32 × Int32 × (Nat → Int32) × (Nat → Int32) × (Nat → Int32) × (Nat → Int32)) :=
  if a32_8 = true then
    (fX8_give a54_1 a58_2 A41 A55 A59 A60).bind (fun q1 =>
    (fX4_forget a56_2).bind (fun q3 =>
    (fX11_afterReturn a40_0 a40_1 a42_0 q1.2.1 A43 A44 q1.1).bind (fun q5 =>
    some (q5.1, q5.2.1, q1.1, q3, q1.2.1, q5.2.2.1, q5.2.2.2, q1.2.2))))
  else
    some ((-1), a42_0, a54_1, a56_2, A41, A43, A44, A55)
set_option maxRecDepth 100000 in
theorem tX11_back_32 {G : eG} (hG : e_GS G) {la : Launch} {h : Nat → eO} {nx : Nat} (hnx : 99 ≤ nx) {a32_8 : Bool} {a32_10 : Bool} {a40_0 : Int32} {a40_1 : Int32} {A41 : Nat → Int32} {a42_0 : Int32} {A43 : Nat → Int32} {A44 : Nat → Int32} {a54_1 : Int32} {A55 : Nat → Int32} {a56_1 : Int32} {a56_2 : Int32} {a58_2 : Int32} {A59 : Nat → Int32} {A60 : Nat → Int32}  (h32 : h 32 = o32 a32_8 a32_10) (h39 : h 39 = o39) (h40 : h 40 = o40 a40_0 a40_1) (h41 : h 41 = o41 A41) (h42 : h 42 = o42 a42_0) (h43 : h 43 = o43 A43) (h44 : h 44 = o44 A44) (h54 : h 54 = o54 a54_1) (h55 : h 55 = o55 A55) (h56 : h 56 = o56 a56_1 a56_2) (h58 : h 58 = o58 a58_2) (h59 : h 59 = o59 A59) (h60 : h 60 = o60 A60) {R9 : Int32 × Int32 × Int32 × Int32 × (Nat → Int32) × (Nat → Int32) × (Nat → Int32) × (Nat → Int32)} (hf : fX11_back a32_8 a40_0 a40_1 a42_0 a54_1 a56_2 a58_2 A41 A43 A44 A55 A59 A60  = some R9) :
    eSem G la MX11_back [.ref 32] h nx 0 0 (fun r9 h9 => r9 = some (.int R9.1) ∧ h9 = e_up h [(41, o41 R9.2.2.2.2.1), (42, o42 R9.2.1), (43, o43 R9.2.2.2.2.2.1), (44, o44 R9.2.2.2.2.2.2.1), (54, o54 R9.2.2.1), (55, o55 R9.2.2.2.2.2.2.2), (56, o56 a56_1 R9.2.2.2.1)]) := by
  refine eSem.of (k := 0) (L := [some (.ref 32)]) (by decide +kernel) rfl rfl (fun X F hxl hq hcR hsR => ?_)
  subst hxl
  unfold fX11_back at hf
  refine r_aload_n F dX11_back_0 rfl ?_
  refine r_get F dX11_back_1 flX11_120 h32 rfl (e_le rfl) (e_lt hnx rfl) ?_
  refine r_z_ne F dX11_back_4 (tgt := 9) (by decide) (fun hc => ?_) (fun hc => ?_)
  · have hf := e_t hc hf
    refine r_aload_n F dX11_back_9 rfl ?_
    refine r_get F dX11_back_10 flX11_56 h32 rfl (e_le rfl) (e_lt hnx rfl) ?_
    refine r_aload_n F dX11_back_13 rfl ?_
    refine r_get F dX11_back_14 flX11_28 h32 rfl (e_le rfl) (e_lt hnx rfl) ?_
    refine r_get F dX11_back_17 flX11_141 h39 rfl (e_le rfl) (e_lt hnx rfl) ?_
    refine r_aload_n F dX11_back_20 rfl ?_
    refine r_get F dX11_back_21 flX11_42 h32 rfl (e_le rfl) (e_lt hnx rfl) ?_
    obtain ⟨q1, hq2, hf⟩ := e_bd hf
    refine r_callV F dX11_back_24 (b := 58) (dc := 0) (ds := 0) (As := [.ref 40, .ref 54]) (S0 := []) lkX11_358 mX8_give (tX8_give_58_40_54 hG (la := x_l X) (h := e_up h []) hnx h40 h41 h54 h55 h58 h59 h60 hq2) rfl rfl rfl (e_le rfl) (e_le rfl) (e_le rfl) h58 (ci := 8) e_cl8.1 rfl (e_le rfl) (e_lt hnx rfl) (Nat.zero_le _) (Nat.zero_le _) (e_k ?_)
    refine r_wr (l' := [(41, o41 q1.2.1), (54, o54 q1.1), (55, o55 q1.2.2)]) rfl rfl ?_
    refine r_aload_n F dX11_back_27 rfl ?_
    refine r_get F dX11_back_28 flX11_49 h32 rfl (e_le rfl) (e_lt hnx rfl) ?_
    obtain ⟨q3, hq4, hf⟩ := e_bd hf
    refine r_callV F dX11_back_31 (b := 56) (dc := 0) (ds := 0) (As := []) (S0 := []) lkX11_117 mX4_forget (tX4_forget_56 hG (la := x_l X) (h := e_up h [(41, o41 q1.2.1), (54, o54 q1.1), (55, o55 q1.2.2)]) hnx h56 hq4) rfl rfl rfl (e_le rfl) (e_le rfl) (e_le rfl) h56 (ci := 4) e_cl4.1 rfl (e_le rfl) (e_lt hnx rfl) (Nat.zero_le _) (Nat.zero_le _) (e_k ?_)
    refine r_wr (l' := [(41, o41 q1.2.1), (54, o54 q1.1), (55, o55 q1.2.2), (56, o56 a56_1 q3)]) rfl rfl ?_
    refine r_aload_n F dX11_back_34 rfl ?_
    refine r_aload_n F dX11_back_35 rfl ?_
    refine r_get F dX11_back_36 flX11_42 h32 rfl (e_le rfl) (e_lt hnx rfl) ?_
    refine r_get F dX11_back_39 flX11_114 rfl rfl (e_le rfl) (e_lt hnx rfl) ?_
    obtain ⟨q5, hq6, hf⟩ := e_bd hf
    refine r_callV F dX11_back_42 (b := 32) (dc := 0) (ds := 0) (As := [.int q1.1]) (S0 := []) lkX11_352 mX11_afterReturn (tX11_afterReturn_32 hG (la := x_l X) (h := e_up h [(41, o41 q1.2.1), (54, o54 q1.1), (55, o55 q1.2.2), (56, o56 a56_1 q3)]) hnx h32 h39 h40 rfl h42 h43 h44 hq6) rfl rfl rfl (e_le rfl) (e_le rfl) (e_le rfl) h32 (ci := 11) e_cl11.1 rfl (e_le rfl) (e_lt hnx rfl) (Nat.zero_le _) (Nat.zero_le _) (e_k ?_)
    refine r_wr (l' := [(41, o41 q1.2.1), (42, o42 q5.2.1), (43, o43 q5.2.2.1), (44, o44 q5.2.2.2), (54, o54 q1.1), (55, o55 q1.2.2), (56, o56 a56_1 q3)]) rfl rfl ?_
    obtain rfl := Option.some.inj hf
    exact r_iret F hq dX11_back_45 rfl rfl (Nat.le_refl _) (Nat.le_refl _) ⟨rfl, rfl⟩
  · have hf := e_f hc hf
    refine r_iconst F dX11_back_7 (v := (-1)) (by decide) ?_
    refine r_mat (k := 41) h41 (l' := [(41, o41 A41)]) rfl ?_
    refine r_mat (k := 42) h42 (l' := [(41, o41 A41), (42, o42 a42_0)]) rfl ?_
    refine r_mat (k := 43) h43 (l' := [(41, o41 A41), (42, o42 a42_0), (43, o43 A43)]) rfl ?_
    refine r_mat (k := 44) h44 (l' := [(41, o41 A41), (42, o42 a42_0), (43, o43 A43), (44, o44 A44)]) rfl ?_
    refine r_mat (k := 54) h54 (l' := [(41, o41 A41), (42, o42 a42_0), (43, o43 A43), (44, o44 A44), (54, o54 a54_1)]) rfl ?_
    refine r_mat (k := 55) h55 (l' := [(41, o41 A41), (42, o42 a42_0), (43, o43 A43), (44, o44 A44), (54, o54 a54_1), (55, o55 A55)]) rfl ?_
    refine r_mat (k := 56) h56 (l' := [(41, o41 A41), (42, o42 a42_0), (43, o43 A43), (44, o44 A44), (54, o54 a54_1), (55, o55 A55), (56, o56 a56_1 a56_2)]) rfl ?_
    obtain rfl := Option.some.inj hf
    exact r_iret F hq dX11_back_8 rfl rfl (Nat.le_refl _) (Nat.le_refl _) ⟨rfl, rfl⟩

def fX7_hasSite (a40_0 : Int32) (a40_1 : Int32) (p0 : Int32) (p1 : Int32) : Option (Bool) :=
  if p0 < 0 then
    some false
  else
    if a40_0 ≤ p0 then
      some false
    else
      if 9 ≤ p0 then
        some false
      else
        if p1 < 0 then
          some false
        else
          if a40_1 ≤ p1 then
            some false
          else
            if 9 ≤ p1 then
              some false
            else
              some true
set_option maxRecDepth 100000 in
theorem tX7_hasSite_40 {G : eG} (hG : e_GS G) {la : Launch} {h : Nat → eO} {nx : Nat} (hnx : 99 ≤ nx) {a40_0 : Int32} {a40_1 : Int32} {p0 : Int32} {p1 : Int32} (h40 : h 40 = o40 a40_0 a40_1) {R9 : Bool} (hf : fX7_hasSite a40_0 a40_1 p0 p1 = some R9) :
    eSem G la MX7_hasSite [.ref 40, .int p0, .int p1] h nx 0 0 (fun r9 h9 => r9 = some (.int (e_b R9)) ∧ h9 = h) := by
  refine eSem.of (k := 0) (L := [some (.ref 40), some (.int p0), some (.int p1)]) (by decide +kernel) rfl rfl (fun X F hxl hq hcR hsR => ?_)
  subst hxl
  unfold fX7_hasSite at hf
  refine r_iload_n F dX7_hasSite_0 rfl ?_
  refine r_if_lt F dX7_hasSite_1 (tgt := 40) (by decide) (fun hc => ?_) (fun hc => ?_)
  · have hf := e_t hc hf
    refine r_iconst F dX7_hasSite_40 (v := 0) (by decide) ?_
    obtain rfl := Option.some.inj hf
    exact r_zret F hq (v := false) dX7_hasSite_41 rfl rfl (Nat.le_refl _) (Nat.le_refl _) ⟨rfl, rfl⟩
  · have hf := e_f hc hf
    refine r_iload_n F dX7_hasSite_4 rfl ?_
    refine r_aload_n F dX7_hasSite_5 rfl ?_
    refine r_get F dX7_hasSite_6 flX7_15 h40 rfl (e_le rfl) (e_lt hnx rfl) ?_
    refine r_icmp_ge F dX7_hasSite_9 (tgt := 40) (by decide) (fun hc => ?_) (fun hc => ?_)
    · have hf := e_t hc hf
      refine r_iconst F dX7_hasSite_40 (v := 0) (by decide) ?_
      obtain rfl := Option.some.inj hf
      exact r_zret F hq (v := false) dX7_hasSite_41 rfl rfl (Nat.le_refl _) (Nat.le_refl _) ⟨rfl, rfl⟩
    · have hf := e_f hc hf
      refine r_iload_n F dX7_hasSite_12 rfl ?_
      refine r_bipush F dX7_hasSite_13 (v := 9) (by decide) ?_
      refine r_icmp_ge F dX7_hasSite_15 (tgt := 40) (by decide) (fun hc => ?_) (fun hc => ?_)
      · have hf := e_t hc hf
        refine r_iconst F dX7_hasSite_40 (v := 0) (by decide) ?_
        obtain rfl := Option.some.inj hf
        exact r_zret F hq (v := false) dX7_hasSite_41 rfl rfl (Nat.le_refl _) (Nat.le_refl _) ⟨rfl, rfl⟩
      · have hf := e_f hc hf
        refine r_iload_n F dX7_hasSite_18 rfl ?_
        refine r_if_lt F dX7_hasSite_19 (tgt := 40) (by decide) (fun hc => ?_) (fun hc => ?_)
        · have hf := e_t hc hf
          refine r_iconst F dX7_hasSite_40 (v := 0) (by decide) ?_
          obtain rfl := Option.some.inj hf
          exact r_zret F hq (v := false) dX7_hasSite_41 rfl rfl (Nat.le_refl _) (Nat.le_refl _) ⟨rfl, rfl⟩
        · have hf := e_f hc hf
          refine r_iload_n F dX7_hasSite_22 rfl ?_
          refine r_aload_n F dX7_hasSite_23 rfl ?_
          refine r_get F dX7_hasSite_24 flX7_19 h40 rfl (e_le rfl) (e_lt hnx rfl) ?_
          refine r_icmp_ge F dX7_hasSite_27 (tgt := 40) (by decide) (fun hc => ?_) (fun hc => ?_)
          · have hf := e_t hc hf
            refine r_iconst F dX7_hasSite_40 (v := 0) (by decide) ?_
            obtain rfl := Option.some.inj hf
            exact r_zret F hq (v := false) dX7_hasSite_41 rfl rfl (Nat.le_refl _) (Nat.le_refl _) ⟨rfl, rfl⟩
          · have hf := e_f hc hf
            refine r_iload_n F dX7_hasSite_30 rfl ?_
            refine r_bipush F dX7_hasSite_31 (v := 9) (by decide) ?_
            refine r_icmp_ge F dX7_hasSite_33 (tgt := 40) (by decide) (fun hc => ?_) (fun hc => ?_)
            · have hf := e_t hc hf
              refine r_iconst F dX7_hasSite_40 (v := 0) (by decide) ?_
              obtain rfl := Option.some.inj hf
              exact r_zret F hq (v := false) dX7_hasSite_41 rfl rfl (Nat.le_refl _) (Nat.le_refl _) ⟨rfl, rfl⟩
            · have hf := e_f hc hf
              refine r_iconst F dX7_hasSite_36 (v := 1) (by decide) ?_
              refine r_goto F dX7_hasSite_37 (tgt := 41) (by decide) ?_
              obtain rfl := Option.some.inj hf
              exact r_zret F hq (v := true) dX7_hasSite_41 rfl rfl (Nat.le_refl _) (Nat.le_refl _) ⟨rfl, rfl⟩

set_option maxRecDepth 100000 in
theorem tX7_hasLink_40 {G : eG} (hG : e_GS G) {la : Launch} {h : Nat → eO} {nx : Nat} (hnx : 99 ≤ nx) {a40_0 : Int32} {a40_1 : Int32} {p0 : Int32} {p1 : Int32} {p2 : Int32} (h40 : h 40 = o40 a40_0 a40_1) {R9 : Bool} (hf : fX7_hasLink a40_0 a40_1 p0 p1 p2 = some R9) :
    eSem G la MX7_hasLink [.ref 40, .int p0, .int p1, .int p2] h nx 0 0 (fun r9 h9 => r9 = some (.int (e_b R9)) ∧ h9 = h) := by
  refine eSem.of (k := 0) (L := [some (.ref 40), some (.int p0), some (.int p1), some (.int p2)]) (by decide +kernel) rfl rfl (fun X F hxl hq hcR hsR => ?_)
  subst hxl
  unfold fX7_hasLink at hf
  refine r_iload_n F dX7_hasLink_0 rfl ?_
  refine r_if_eq F dX7_hasLink_1 (tgt := 9) (by decide) (fun hc => ?_) (fun hc => ?_)
  · have hf := e_t hc hf
    refine r_iload_n F dX7_hasLink_9 rfl ?_
    refine r_if_lt F dX7_hasLink_10 (tgt := 55) (by decide) (fun hc => ?_) (fun hc => ?_)
    · have hf := e_t hc hf
      refine r_iconst F dX7_hasLink_55 (v := 0) (by decide) ?_
      obtain rfl := Option.some.inj hf
      exact r_zret F hq (v := false) dX7_hasLink_56 rfl rfl (Nat.le_refl _) (Nat.le_refl _) ⟨rfl, rfl⟩
    · have hf := e_f hc hf
      refine r_iload_n F dX7_hasLink_13 rfl ?_
      refine r_aload_n F dX7_hasLink_14 rfl ?_
      refine r_get F dX7_hasLink_15 flX7_15 h40 rfl (e_le rfl) (e_lt hnx rfl) ?_
      refine r_iconst F dX7_hasLink_18 (v := 1) (by decide) ?_
      refine r_isub F dX7_hasLink_19 ?_
      refine r_iload_n F dX7_hasLink_20 rfl ?_
      refine r_iadd F dX7_hasLink_21 ?_
      refine r_icmp_ge F dX7_hasLink_22 (tgt := 55) (by decide) (fun hc => ?_) (fun hc => ?_)
      · have hf := e_t hc hf
        refine r_iconst F dX7_hasLink_55 (v := 0) (by decide) ?_
        obtain rfl := Option.some.inj hf
        exact r_zret F hq (v := false) dX7_hasLink_56 rfl rfl (Nat.le_refl _) (Nat.le_refl _) ⟨rfl, rfl⟩
      · have hf := e_f hc hf
        refine r_iload_n F dX7_hasLink_25 rfl ?_
        refine r_bipush F dX7_hasLink_26 (v := 9) (by decide) ?_
        refine r_icmp_ge F dX7_hasLink_28 (tgt := 55) (by decide) (fun hc => ?_) (fun hc => ?_)
        · have hf := e_t hc hf
          refine r_iconst F dX7_hasLink_55 (v := 0) (by decide) ?_
          obtain rfl := Option.some.inj hf
          exact r_zret F hq (v := false) dX7_hasLink_56 rfl rfl (Nat.le_refl _) (Nat.le_refl _) ⟨rfl, rfl⟩
        · have hf := e_f hc hf
          refine r_iload_n F dX7_hasLink_31 rfl ?_
          refine r_if_lt F dX7_hasLink_32 (tgt := 55) (by decide) (fun hc => ?_) (fun hc => ?_)
          · have hf := e_t hc hf
            refine r_iconst F dX7_hasLink_55 (v := 0) (by decide) ?_
            obtain rfl := Option.some.inj hf
            exact r_zret F hq (v := false) dX7_hasLink_56 rfl rfl (Nat.le_refl _) (Nat.le_refl _) ⟨rfl, rfl⟩
          · have hf := e_f hc hf
            refine r_iload_n F dX7_hasLink_35 rfl ?_
            refine r_aload_n F dX7_hasLink_36 rfl ?_
            refine r_get F dX7_hasLink_37 flX7_19 h40 rfl (e_le rfl) (e_lt hnx rfl) ?_
            refine r_iload_n F dX7_hasLink_40 rfl ?_
            refine r_isub F dX7_hasLink_41 ?_
            refine r_icmp_ge F dX7_hasLink_42 (tgt := 55) (by decide) (fun hc => ?_) (fun hc => ?_)
            · have hf := e_t hc hf
              refine r_iconst F dX7_hasLink_55 (v := 0) (by decide) ?_
              obtain rfl := Option.some.inj hf
              exact r_zret F hq (v := false) dX7_hasLink_56 rfl rfl (Nat.le_refl _) (Nat.le_refl _) ⟨rfl, rfl⟩
            · have hf := e_f hc hf
              refine r_iload_n F dX7_hasLink_45 rfl ?_
              refine r_bipush F dX7_hasLink_46 (v := 9) (by decide) ?_
              refine r_icmp_ge F dX7_hasLink_48 (tgt := 55) (by decide) (fun hc => ?_) (fun hc => ?_)
              · have hf := e_t hc hf
                refine r_iconst F dX7_hasLink_55 (v := 0) (by decide) ?_
                obtain rfl := Option.some.inj hf
                exact r_zret F hq (v := false) dX7_hasLink_56 rfl rfl (Nat.le_refl _) (Nat.le_refl _) ⟨rfl, rfl⟩
              · have hf := e_f hc hf
                refine r_iconst F dX7_hasLink_51 (v := 1) (by decide) ?_
                refine r_goto F dX7_hasLink_52 (tgt := 56) (by decide) ?_
                obtain rfl := Option.some.inj hf
                exact r_zret F hq (v := true) dX7_hasLink_56 rfl rfl (Nat.le_refl _) (Nat.le_refl _) ⟨rfl, rfl⟩
  · have hf := e_f hc hf
    refine r_iload_n F dX7_hasLink_4 rfl ?_
    refine r_iconst F dX7_hasLink_5 (v := 1) (by decide) ?_
    refine r_icmp_ne F dX7_hasLink_6 (tgt := 55) (by decide) (fun hc => ?_) (fun hc => ?_)
    · have hf := e_f hc hf
      refine r_iconst F dX7_hasLink_55 (v := 0) (by decide) ?_
      obtain rfl := Option.some.inj hf
      exact r_zret F hq (v := false) dX7_hasLink_56 rfl rfl (Nat.le_refl _) (Nat.le_refl _) ⟨rfl, rfl⟩
    · have hf := e_t hc hf
      refine r_iload_n F dX7_hasLink_9 rfl ?_
      refine r_if_lt F dX7_hasLink_10 (tgt := 55) (by decide) (fun hc => ?_) (fun hc => ?_)
      · have hf := e_t hc hf
        refine r_iconst F dX7_hasLink_55 (v := 0) (by decide) ?_
        obtain rfl := Option.some.inj hf
        exact r_zret F hq (v := false) dX7_hasLink_56 rfl rfl (Nat.le_refl _) (Nat.le_refl _) ⟨rfl, rfl⟩
      · have hf := e_f hc hf
        refine r_iload_n F dX7_hasLink_13 rfl ?_
        refine r_aload_n F dX7_hasLink_14 rfl ?_
        refine r_get F dX7_hasLink_15 flX7_15 h40 rfl (e_le rfl) (e_lt hnx rfl) ?_
        refine r_iconst F dX7_hasLink_18 (v := 1) (by decide) ?_
        refine r_isub F dX7_hasLink_19 ?_
        refine r_iload_n F dX7_hasLink_20 rfl ?_
        refine r_iadd F dX7_hasLink_21 ?_
        refine r_icmp_ge F dX7_hasLink_22 (tgt := 55) (by decide) (fun hc => ?_) (fun hc => ?_)
        · have hf := e_t hc hf
          refine r_iconst F dX7_hasLink_55 (v := 0) (by decide) ?_
          obtain rfl := Option.some.inj hf
          exact r_zret F hq (v := false) dX7_hasLink_56 rfl rfl (Nat.le_refl _) (Nat.le_refl _) ⟨rfl, rfl⟩
        · have hf := e_f hc hf
          refine r_iload_n F dX7_hasLink_25 rfl ?_
          refine r_bipush F dX7_hasLink_26 (v := 9) (by decide) ?_
          refine r_icmp_ge F dX7_hasLink_28 (tgt := 55) (by decide) (fun hc => ?_) (fun hc => ?_)
          · have hf := e_t hc hf
            refine r_iconst F dX7_hasLink_55 (v := 0) (by decide) ?_
            obtain rfl := Option.some.inj hf
            exact r_zret F hq (v := false) dX7_hasLink_56 rfl rfl (Nat.le_refl _) (Nat.le_refl _) ⟨rfl, rfl⟩
          · have hf := e_f hc hf
            refine r_iload_n F dX7_hasLink_31 rfl ?_
            refine r_if_lt F dX7_hasLink_32 (tgt := 55) (by decide) (fun hc => ?_) (fun hc => ?_)
            · have hf := e_t hc hf
              refine r_iconst F dX7_hasLink_55 (v := 0) (by decide) ?_
              obtain rfl := Option.some.inj hf
              exact r_zret F hq (v := false) dX7_hasLink_56 rfl rfl (Nat.le_refl _) (Nat.le_refl _) ⟨rfl, rfl⟩
            · have hf := e_f hc hf
              refine r_iload_n F dX7_hasLink_35 rfl ?_
              refine r_aload_n F dX7_hasLink_36 rfl ?_
              refine r_get F dX7_hasLink_37 flX7_19 h40 rfl (e_le rfl) (e_lt hnx rfl) ?_
              refine r_iload_n F dX7_hasLink_40 rfl ?_
              refine r_isub F dX7_hasLink_41 ?_
              refine r_icmp_ge F dX7_hasLink_42 (tgt := 55) (by decide) (fun hc => ?_) (fun hc => ?_)
              · have hf := e_t hc hf
                refine r_iconst F dX7_hasLink_55 (v := 0) (by decide) ?_
                obtain rfl := Option.some.inj hf
                exact r_zret F hq (v := false) dX7_hasLink_56 rfl rfl (Nat.le_refl _) (Nat.le_refl _) ⟨rfl, rfl⟩
              · have hf := e_f hc hf
                refine r_iload_n F dX7_hasLink_45 rfl ?_
                refine r_bipush F dX7_hasLink_46 (v := 9) (by decide) ?_
                refine r_icmp_ge F dX7_hasLink_48 (tgt := 55) (by decide) (fun hc => ?_) (fun hc => ?_)
                · have hf := e_t hc hf
                  refine r_iconst F dX7_hasLink_55 (v := 0) (by decide) ?_
                  obtain rfl := Option.some.inj hf
                  exact r_zret F hq (v := false) dX7_hasLink_56 rfl rfl (Nat.le_refl _) (Nat.le_refl _) ⟨rfl, rfl⟩
                · have hf := e_f hc hf
                  refine r_iconst F dX7_hasLink_51 (v := 1) (by decide) ?_
                  refine r_goto F dX7_hasLink_52 (tgt := 56) (by decide) ?_
                  obtain rfl := Option.some.inj hf
                  exact r_zret F hq (v := true) dX7_hasLink_56 rfl rfl (Nat.le_refl _) (Nat.le_refl _) ⟨rfl, rfl⟩

set_option maxRecDepth 100000 in
theorem tX7_stepOf_40 {G : eG} (hG : e_GS G) {la : Launch} {h : Nat → eO} {nx : Nat} (hnx : 99 ≤ nx) {a40_0 : Int32} {a40_1 : Int32} {A41 : Nat → Int32} {p0 : Int32} {p1 : Int32} {p2 : Int32} {p3 : Int32} (h40 : h 40 = o40 a40_0 a40_1) (h41 : h 41 = o41 A41) {R9 : Int32} (hf : fX7_stepOf a40_0 a40_1 A41 p0 p1 p2 p3 = some R9) :
    eSem G la MX7_stepOf [.ref 40, .int p0, .int p1, .int p2, .int p3] h nx 0 0 (fun r9 h9 => r9 = some (.int R9) ∧ h9 = h) := by
  refine eSem.of (k := 0) (L := [some (.ref 40), some (.int p0), some (.int p1), some (.int p2), some (.int p3)]) (by decide +kernel) rfl rfl (fun X F hxl hq hcR hsR => ?_)
  subst hxl
  unfold fX7_stepOf at hf
  refine r_aload_n F dX7_stepOf_0 rfl ?_
  refine r_iload_n F dX7_stepOf_1 rfl ?_
  refine r_iload_n F dX7_stepOf_2 rfl ?_
  refine r_iload_n F dX7_stepOf_3 rfl ?_
  obtain ⟨q1, hq2, hf⟩ := e_bd hf
  refine r_callV F dX7_stepOf_4 (b := 40) (dc := 0) (ds := 0) (As := [.int p0, .int p1, .int p2]) (S0 := []) lkX7_28 mX7_hasLink (tX7_hasLink_40 hG (la := x_l X) (h := e_up h []) hnx h40 hq2) rfl rfl rfl (e_le rfl) (e_le rfl) (e_le rfl) h40 (ci := 7) e_cl7.1 rfl (e_le rfl) (e_lt hnx rfl) (Nat.zero_le _) (Nat.zero_le _) (e_k ?_)
  refine r_wr0 ?_
  refine r_z_eq F dX7_stepOf_7 (tgt := 38) (by decide) (fun hc => ?_) (fun hc => ?_)
  · have hf := e_t hc hf
    refine r_iload F dX7_stepOf_10 rfl ?_
    refine r_if_eq F dX7_stepOf_12 (tgt := 21) (by decide) (fun hc => ?_) (fun hc => ?_)
    · have hf := e_t hc hf
      refine r_aload_n F dX7_stepOf_21 rfl ?_
      refine r_get F dX7_stepOf_22 flX7_11 h40 rfl (e_le rfl) (e_lt hnx rfl) ?_
      refine r_iload_n F dX7_stepOf_25 rfl ?_
      refine r_iload_n F dX7_stepOf_26 rfl ?_
      refine r_iload_n F dX7_stepOf_27 rfl ?_
      obtain ⟨q3, hq4, hf⟩ := e_bd hf
      refine r_callS F dX7_stepOf_28 (dc := 0) (ds := 0) (As := [.int p0, .int p1, .int p2]) (S0 := [.ref 41]) lkX7_32 mX7_placeOf (tX7_placeOf hG (la := x_l X) (h := e_up h []) hnx  hq4) rfl rfl rfl (e_le rfl) (e_le rfl) (e_le rfl) (Nat.zero_le _) (Nat.zero_le _) (e_k ?_)
      refine r_wr0 ?_
      refine r_iload F dX7_stepOf_31 rfl ?_
      refine r_iadd F dX7_stepOf_33 ?_
      obtain ⟨hg, hf⟩ := e_gd hf
      refine r_iald F dX7_stepOf_34 (i := (q3 + p3)) h41 (e_le rfl) (e_lt hnx rfl) (e_vp hg) ?_
      refine r_goto F dX7_stepOf_35 (tgt := 39) (by decide) ?_
      obtain rfl := Option.some.inj hf
      exact r_iret F hq dX7_stepOf_39 rfl rfl (Nat.le_refl _) (Nat.le_refl _) ⟨rfl, rfl⟩
    · have hf := e_f hc hf
      refine r_iload F dX7_stepOf_15 rfl ?_
      refine r_iconst F dX7_stepOf_17 (v := 1) (by decide) ?_
      refine r_icmp_ne F dX7_stepOf_18 (tgt := 38) (by decide) (fun hc => ?_) (fun hc => ?_)
      · have hf := e_f hc hf
        refine r_iconst F dX7_stepOf_38 (v := 0) (by decide) ?_
        obtain rfl := Option.some.inj hf
        exact r_iret F hq dX7_stepOf_39 rfl rfl (Nat.le_refl _) (Nat.le_refl _) ⟨rfl, rfl⟩
      · have hf := e_t hc hf
        refine r_aload_n F dX7_stepOf_21 rfl ?_
        refine r_get F dX7_stepOf_22 flX7_11 h40 rfl (e_le rfl) (e_lt hnx rfl) ?_
        refine r_iload_n F dX7_stepOf_25 rfl ?_
        refine r_iload_n F dX7_stepOf_26 rfl ?_
        refine r_iload_n F dX7_stepOf_27 rfl ?_
        obtain ⟨q5, hq6, hf⟩ := e_bd hf
        refine r_callS F dX7_stepOf_28 (dc := 0) (ds := 0) (As := [.int p0, .int p1, .int p2]) (S0 := [.ref 41]) lkX7_32 mX7_placeOf (tX7_placeOf hG (la := x_l X) (h := e_up h []) hnx  hq6) rfl rfl rfl (e_le rfl) (e_le rfl) (e_le rfl) (Nat.zero_le _) (Nat.zero_le _) (e_k ?_)
        refine r_wr0 ?_
        refine r_iload F dX7_stepOf_31 rfl ?_
        refine r_iadd F dX7_stepOf_33 ?_
        obtain ⟨hg, hf⟩ := e_gd hf
        refine r_iald F dX7_stepOf_34 (i := (q5 + p3)) h41 (e_le rfl) (e_lt hnx rfl) (e_vp hg) ?_
        refine r_goto F dX7_stepOf_35 (tgt := 39) (by decide) ?_
        obtain rfl := Option.some.inj hf
        exact r_iret F hq dX7_stepOf_39 rfl rfl (Nat.le_refl _) (Nat.le_refl _) ⟨rfl, rfl⟩
  · have hf := e_f hc hf
    refine r_iconst F dX7_stepOf_38 (v := 0) (by decide) ?_
    obtain rfl := Option.some.inj hf
    exact r_iret F hq dX7_stepOf_39 rfl rfl (Nat.le_refl _) (Nat.le_refl _) ⟨rfl, rfl⟩

def fX7_sumRound (a40_0 : Int32) (a40_1 : Int32) (A41 : Nat → Int32) (p0 : Int32) (p1 : Int32) (p2 : Int32) (p3 : Int32) (p4 : Int32) : Option (Int32) :=
  (e_loop (fun (v3 : Int32 × Int32) => (
      if p2 ≤ v3.2 then
        some (.inr v3.1)
      else
        (fX7_stepOf a40_0 a40_1 A41 v3.2 p1 0 p4).bind (fun q6 =>
        (fX7_stepOf a40_0 a40_1 A41 v3.2 p3 0 p4).bind (fun q8 =>
        some (.inl (v3.1 + (q6 - q8), v3.2 + 1)))) : Option ((Int32 × Int32) ⊕ (Int32)))) e_fuel (0, p0)).bind (fun x4 =>
  (e_loop (fun (v11 : Int32 × Int32) => (
      if p3 ≤ v11.2 then
        some (.inr v11.1)
      else
        (fX7_stepOf a40_0 a40_1 A41 p2 v11.2 1 p4).bind (fun q14 =>
        (fX7_stepOf a40_0 a40_1 A41 p0 v11.2 1 p4).bind (fun q16 =>
        some (.inl (v11.1 + (q14 - q16), v11.2 + 1)))) : Option ((Int32 × Int32) ⊕ (Int32)))) e_fuel (x4, p1)).bind (fun x12 =>
  some x12))
set_option maxRecDepth 100000 in
theorem tX7_sumRound_40 {G : eG} (hG : e_GS G) {la : Launch} {h : Nat → eO} {nx : Nat} (hnx : 99 ≤ nx) {a40_0 : Int32} {a40_1 : Int32} {A41 : Nat → Int32} {p0 : Int32} {p1 : Int32} {p2 : Int32} {p3 : Int32} {p4 : Int32} (h40 : h 40 = o40 a40_0 a40_1) (h41 : h 41 = o41 A41) {R9 : Int32} (hf : fX7_sumRound a40_0 a40_1 A41 p0 p1 p2 p3 p4 = some R9) :
    eSem G la MX7_sumRound [.ref 40, .int p0, .int p1, .int p2, .int p3, .int p4] h nx 0 0 (fun r9 h9 => r9 = some (.int R9) ∧ h9 = h) := by
  refine eSem.of (k := 2) (L := [some (.ref 40), some (.int p0), some (.int p1), some (.int p2), some (.int p3), some (.int p4), none, none]) (by decide +kernel) rfl rfl (fun X F hxl hq hcR hsR => ?_)
  subst hxl
  unfold fX7_sumRound at hf
  refine r_iconst F dX7_sumRound_0 (v := 0) (by decide) ?_
  refine r_istore F dX7_sumRound_1 (e_le rfl) (L' := [some (.ref 40), some (.int p0), some (.int p1), some (.int p2), some (.int p3), some (.int p4), some (.int 0), none]) rfl ?_
  refine r_iload_n F dX7_sumRound_3 rfl ?_
  refine r_istore F dX7_sumRound_4 (e_le rfl) (L' := [some (.ref 40), some (.int p0), some (.int p1), some (.int p2), some (.int p3), some (.int p4), some (.int 0), some (.int p0)]) rfl ?_
  obtain ⟨x4, hx5, hf⟩ := e_bd hf
  refine (e_loop_ok (P := fun (v3 : Int32 × Int32) => eRun G X 6 [some (.ref 40), some (.int p0), some (.int p1), some (.int p2), some (.int p3), some (.int p4), some (.int v3.1), some (.int v3.2)] [] h [] nx 0 0) (K := fun (x4 : Int32) => eRun G X 45 [some (.ref 40), some (.int p0), some (.int p1), some (.int p2), some (.int p3), some (.int p4), some (.int x4), none] [] h [] nx 0 0) ?_ e_fuel (0, p0) x4 hx5 ?_ : _)
  · intro v3 z hz ih hx
    refine r_iload F dX7_sumRound_6 rfl ?_
    refine r_iload_n F dX7_sumRound_8 rfl ?_
    refine r_icmp_ge F dX7_sumRound_9 (tgt := 45) (by decide) (fun hc => ?_) (fun hc => ?_)
    · have hz := e_t hc hz
      refine r_drop 7 (L' := [some (.ref 40), some (.int p0), some (.int p1), some (.int p2), some (.int p3), some (.int p4), some (.int v3.1), none]) rfl ?_
      obtain rfl := Option.some.inj hz
      exact hx v3.1 rfl
    · have hz := e_f hc hz
      refine r_iload F dX7_sumRound_12 rfl ?_
      refine r_aload_n F dX7_sumRound_14 rfl ?_
      refine r_iload F dX7_sumRound_15 rfl ?_
      refine r_iload_n F dX7_sumRound_17 rfl ?_
      refine r_iconst F dX7_sumRound_18 (v := 0) (by decide) ?_
      refine r_iload F dX7_sumRound_19 rfl ?_
      obtain ⟨q6, hq7, hz⟩ := e_bd hz
      refine r_callV F dX7_sumRound_21 (b := 40) (dc := 0) (ds := 0) (As := [.int v3.2, .int p1, .int 0, .int p4]) (S0 := [.int v3.1]) lkX7_36 mX7_stepOf (tX7_stepOf_40 hG (la := x_l X) (h := e_up h []) hnx h40 h41 hq7) rfl rfl rfl (e_le rfl) (e_le rfl) (e_le rfl) h40 (ci := 7) e_cl7.1 rfl (e_le rfl) (e_lt hnx rfl) (Nat.zero_le _) (Nat.zero_le _) (e_k ?_)
      refine r_wr0 ?_
      refine r_aload_n F dX7_sumRound_24 rfl ?_
      refine r_iload F dX7_sumRound_25 rfl ?_
      refine r_iload F dX7_sumRound_27 rfl ?_
      refine r_iconst F dX7_sumRound_29 (v := 0) (by decide) ?_
      refine r_iload F dX7_sumRound_30 rfl ?_
      obtain ⟨q8, hq9, hz⟩ := e_bd hz
      refine r_callV F dX7_sumRound_32 (b := 40) (dc := 0) (ds := 0) (As := [.int v3.2, .int p3, .int 0, .int p4]) (S0 := [.int q6, .int v3.1]) lkX7_36 mX7_stepOf (tX7_stepOf_40 hG (la := x_l X) (h := e_up h []) hnx h40 h41 hq9) rfl rfl rfl (e_le rfl) (e_le rfl) (e_le rfl) h40 (ci := 7) e_cl7.1 rfl (e_le rfl) (e_lt hnx rfl) (Nat.zero_le _) (Nat.zero_le _) (e_k ?_)
      refine r_wr0 ?_
      refine r_isub F dX7_sumRound_35 ?_
      refine r_iadd F dX7_sumRound_36 ?_
      refine r_istore F dX7_sumRound_37 (e_le rfl) (L' := [some (.ref 40), some (.int p0), some (.int p1), some (.int p2), some (.int p3), some (.int p4), some (.int (v3.1 + (q6 - q8))), some (.int v3.2)]) rfl ?_
      refine r_inc F dX7_sumRound_39 (k9 := 1) (by decide) rfl (L' := [some (.ref 40), some (.int p0), some (.int p1), some (.int p2), some (.int p3), some (.int p4), some (.int (v3.1 + (q6 - q8))), some (.int (v3.2 + 1))]) rfl ?_
      refine r_goto F dX7_sumRound_42 (tgt := 6) (by decide) ?_
      obtain rfl := Option.some.inj hz
      exact ih (v3.1 + (q6 - q8), v3.2 + 1) rfl
  · show eRun G X 45 [some (.ref 40), some (.int p0), some (.int p1), some (.int p2), some (.int p3), some (.int p4), some (.int x4), none] [] h [] nx 0 0
    refine r_iload_n F dX7_sumRound_45 rfl ?_
    refine r_istore F dX7_sumRound_46 (e_le rfl) (L' := [some (.ref 40), some (.int p0), some (.int p1), some (.int p2), some (.int p3), some (.int p4), some (.int x4), some (.int p1)]) rfl ?_
    refine r_drop 2 (L' := [some (.ref 40), some (.int p0), none, some (.int p2), some (.int p3), some (.int p4), some (.int x4), some (.int p1)]) rfl ?_
    obtain ⟨x12, hx13, hf⟩ := e_bd hf
    refine (e_loop_ok (P := fun (v11 : Int32 × Int32) => eRun G X 48 [some (.ref 40), some (.int p0), none, some (.int p2), some (.int p3), some (.int p4), some (.int v11.1), some (.int v11.2)] [] h [] nx 0 0) (K := fun (x12 : Int32) => eRun G X 87 [none, none, none, none, none, none, some (.int x12), none] [] h [] nx 0 0) ?_ e_fuel (x4, p1) x12 hx13 ?_ : _)
    · intro v11 z hz ih hx
      refine r_iload F dX7_sumRound_48 rfl ?_
      refine r_iload F dX7_sumRound_50 rfl ?_
      refine r_icmp_ge F dX7_sumRound_52 (tgt := 87) (by decide) (fun hc => ?_) (fun hc => ?_)
      · have hz := e_t hc hz
        refine r_drop 0 (L' := [none, some (.int p0), none, some (.int p2), some (.int p3), some (.int p4), some (.int v11.1), some (.int v11.2)]) rfl ?_
        refine r_drop 1 (L' := [none, none, none, some (.int p2), some (.int p3), some (.int p4), some (.int v11.1), some (.int v11.2)]) rfl ?_
        refine r_drop 3 (L' := [none, none, none, none, some (.int p3), some (.int p4), some (.int v11.1), some (.int v11.2)]) rfl ?_
        refine r_drop 4 (L' := [none, none, none, none, none, some (.int p4), some (.int v11.1), some (.int v11.2)]) rfl ?_
        refine r_drop 5 (L' := [none, none, none, none, none, none, some (.int v11.1), some (.int v11.2)]) rfl ?_
        refine r_drop 7 (L' := [none, none, none, none, none, none, some (.int v11.1), none]) rfl ?_
        obtain rfl := Option.some.inj hz
        exact hx v11.1 rfl
      · have hz := e_f hc hz
        refine r_iload F dX7_sumRound_55 rfl ?_
        refine r_aload_n F dX7_sumRound_57 rfl ?_
        refine r_iload_n F dX7_sumRound_58 rfl ?_
        refine r_iload F dX7_sumRound_59 rfl ?_
        refine r_iconst F dX7_sumRound_61 (v := 1) (by decide) ?_
        refine r_iload F dX7_sumRound_62 rfl ?_
        obtain ⟨q14, hq15, hz⟩ := e_bd hz
        refine r_callV F dX7_sumRound_64 (b := 40) (dc := 0) (ds := 0) (As := [.int p2, .int v11.2, .int 1, .int p4]) (S0 := [.int v11.1]) lkX7_36 mX7_stepOf (tX7_stepOf_40 hG (la := x_l X) (h := e_up h []) hnx h40 h41 hq15) rfl rfl rfl (e_le rfl) (e_le rfl) (e_le rfl) h40 (ci := 7) e_cl7.1 rfl (e_le rfl) (e_lt hnx rfl) (Nat.zero_le _) (Nat.zero_le _) (e_k ?_)
        refine r_wr0 ?_
        refine r_aload_n F dX7_sumRound_67 rfl ?_
        refine r_iload_n F dX7_sumRound_68 rfl ?_
        refine r_iload F dX7_sumRound_69 rfl ?_
        refine r_iconst F dX7_sumRound_71 (v := 1) (by decide) ?_
        refine r_iload F dX7_sumRound_72 rfl ?_
        obtain ⟨q16, hq17, hz⟩ := e_bd hz
        refine r_callV F dX7_sumRound_74 (b := 40) (dc := 0) (ds := 0) (As := [.int p0, .int v11.2, .int 1, .int p4]) (S0 := [.int q14, .int v11.1]) lkX7_36 mX7_stepOf (tX7_stepOf_40 hG (la := x_l X) (h := e_up h []) hnx h40 h41 hq17) rfl rfl rfl (e_le rfl) (e_le rfl) (e_le rfl) h40 (ci := 7) e_cl7.1 rfl (e_le rfl) (e_lt hnx rfl) (Nat.zero_le _) (Nat.zero_le _) (e_k ?_)
        refine r_wr0 ?_
        refine r_isub F dX7_sumRound_77 ?_
        refine r_iadd F dX7_sumRound_78 ?_
        refine r_istore F dX7_sumRound_79 (e_le rfl) (L' := [some (.ref 40), some (.int p0), none, some (.int p2), some (.int p3), some (.int p4), some (.int (v11.1 + (q14 - q16))), some (.int v11.2)]) rfl ?_
        refine r_inc F dX7_sumRound_81 (k9 := 1) (by decide) rfl (L' := [some (.ref 40), some (.int p0), none, some (.int p2), some (.int p3), some (.int p4), some (.int (v11.1 + (q14 - q16))), some (.int (v11.2 + 1))]) rfl ?_
        refine r_goto F dX7_sumRound_84 (tgt := 48) (by decide) ?_
        obtain rfl := Option.some.inj hz
        exact ih (v11.1 + (q14 - q16), v11.2 + 1) rfl
    · show eRun G X 87 [none, none, none, none, none, none, some (.int x12), none] [] h [] nx 0 0
      refine r_iload F dX7_sumRound_87 rfl ?_
      obtain rfl := Option.some.inj hf
      exact r_iret F hq dX7_sumRound_89 rfl rfl (Nat.le_refl _) (Nat.le_refl _) ⟨rfl, rfl⟩

set_option maxRecDepth 100000 in
theorem tX0_has_42 {G : eG} (hG : e_GS G) {la : Launch} {h : Nat → eO} {nx : Nat} (hnx : 99 ≤ nx) {a42_0 : Int32} {p0 : Int32} {p1 : Int32} (h42 : h 42 = o42 a42_0) {R9 : Bool} (hf : fX0_has a42_0 p0 p1 = some R9) :
    eSem G la MX0_has [.ref 42, .int p0, .int p1] h nx 0 0 (fun r9 h9 => r9 = some (.int (e_b R9)) ∧ h9 = h) := by
  refine eSem.of (k := 0) (L := [some (.ref 42), some (.int p0), some (.int p1)]) (by decide +kernel) rfl rfl (fun X F hxl hq hcR hsR => ?_)
  subst hxl
  unfold fX0_has at hf
  refine r_iload_n F dX0_has_0 rfl ?_
  refine r_if_lt F dX0_has_1 (tgt := 31) (by decide) (fun hc => ?_) (fun hc => ?_)
  · have hf := e_t hc hf
    refine r_iconst F dX0_has_31 (v := 0) (by decide) ?_
    obtain rfl := Option.some.inj hf
    exact r_zret F hq (v := false) dX0_has_32 rfl rfl (Nat.le_refl _) (Nat.le_refl _) ⟨rfl, rfl⟩
  · have hf := e_f hc hf
    refine r_iload_n F dX0_has_4 rfl ?_
    refine r_aload_n F dX0_has_5 rfl ?_
    refine r_get F dX0_has_6 flX0_18 h42 rfl (e_le rfl) (e_lt hnx rfl) ?_
    refine r_icmp_ge F dX0_has_9 (tgt := 31) (by decide) (fun hc => ?_) (fun hc => ?_)
    · have hf := e_t hc hf
      refine r_iconst F dX0_has_31 (v := 0) (by decide) ?_
      obtain rfl := Option.some.inj hf
      exact r_zret F hq (v := false) dX0_has_32 rfl rfl (Nat.le_refl _) (Nat.le_refl _) ⟨rfl, rfl⟩
    · have hf := e_f hc hf
      refine r_iload_n F dX0_has_12 rfl ?_
      refine r_bipush F dX0_has_13 (v := 12) (by decide) ?_
      refine r_icmp_ge F dX0_has_15 (tgt := 31) (by decide) (fun hc => ?_) (fun hc => ?_)
      · have hf := e_t hc hf
        refine r_iconst F dX0_has_31 (v := 0) (by decide) ?_
        obtain rfl := Option.some.inj hf
        exact r_zret F hq (v := false) dX0_has_32 rfl rfl (Nat.le_refl _) (Nat.le_refl _) ⟨rfl, rfl⟩
      · have hf := e_f hc hf
        refine r_iload_n F dX0_has_18 rfl ?_
        refine r_if_eq F dX0_has_19 (tgt := 27) (by decide) (fun hc => ?_) (fun hc => ?_)
        · have hf := e_t hc hf
          refine r_iconst F dX0_has_27 (v := 1) (by decide) ?_
          refine r_goto F dX0_has_28 (tgt := 32) (by decide) ?_
          obtain rfl := Option.some.inj hf
          exact r_zret F hq (v := true) dX0_has_32 rfl rfl (Nat.le_refl _) (Nat.le_refl _) ⟨rfl, rfl⟩
        · have hf := e_f hc hf
          refine r_iload_n F dX0_has_22 rfl ?_
          refine r_iconst F dX0_has_23 (v := 1) (by decide) ?_
          refine r_icmp_ne F dX0_has_24 (tgt := 31) (by decide) (fun hc => ?_) (fun hc => ?_)
          · have hf := e_f hc hf
            refine r_iconst F dX0_has_31 (v := 0) (by decide) ?_
            obtain rfl := Option.some.inj hf
            exact r_zret F hq (v := false) dX0_has_32 rfl rfl (Nat.le_refl _) (Nat.le_refl _) ⟨rfl, rfl⟩
          · have hf := e_t hc hf
            refine r_iconst F dX0_has_27 (v := 1) (by decide) ?_
            refine r_goto F dX0_has_28 (tgt := 32) (by decide) ?_
            obtain rfl := Option.some.inj hf
            exact r_zret F hq (v := true) dX0_has_32 rfl rfl (Nat.le_refl _) (Nat.le_refl _) ⟨rfl, rfl⟩

set_option maxRecDepth 100000 in
theorem tX0_placeOf_42 {G : eG} (hG : e_GS G) {la : Launch} {h : Nat → eO} {nx : Nat} (hnx : 99 ≤ nx) {a42_0 : Int32} {A43 : Nat → Int32} {p0 : Int32} {p1 : Int32} (h42 : h 42 = o42 a42_0) (h43 : h 43 = o43 A43) {R9 : Int32} (hf : fX0_placeOf a42_0 A43 p0 p1 = some R9) :
    eSem G la MX0_placeOf [.ref 42, .int p0, .int p1] h nx 0 0 (fun r9 h9 => r9 = some (.int R9) ∧ h9 = h) := by
  refine eSem.of (k := 0) (L := [some (.ref 42), some (.int p0), some (.int p1)]) (by decide +kernel) rfl rfl (fun X F hxl hq hcR hsR => ?_)
  subst hxl
  unfold fX0_placeOf at hf
  refine r_aload_n F dX0_placeOf_0 rfl ?_
  refine r_iload_n F dX0_placeOf_1 rfl ?_
  refine r_iload_n F dX0_placeOf_2 rfl ?_
  obtain ⟨q1, hq2, hf⟩ := e_bd hf
  refine r_callV F dX0_placeOf_3 (b := 42) (dc := 0) (ds := 0) (As := [.int p0, .int p1]) (S0 := []) lkX0_34 mX0_has (tX0_has_42 hG (la := x_l X) (h := e_up h []) hnx h42 hq2) rfl rfl rfl (e_le rfl) (e_le rfl) (e_le rfl) h42 (ci := 0) e_cl0.1 rfl (e_le rfl) (e_lt hnx rfl) (Nat.zero_le _) (Nat.zero_le _) (e_k ?_)
  refine r_wr0 ?_
  refine r_z_eq F dX0_placeOf_6 (tgt := 22) (by decide) (fun hc => ?_) (fun hc => ?_)
  · have hf := e_t hc hf
    refine r_aload_n F dX0_placeOf_9 rfl ?_
    refine r_get F dX0_placeOf_10 flX0_9 h42 rfl (e_le rfl) (e_lt hnx rfl) ?_
    refine r_iconst F dX0_placeOf_13 (v := 2) (by decide) ?_
    refine r_iload_n F dX0_placeOf_14 rfl ?_
    refine r_imul F dX0_placeOf_15 ?_
    refine r_iload_n F dX0_placeOf_16 rfl ?_
    refine r_iadd F dX0_placeOf_17 ?_
    obtain ⟨hg, hf⟩ := e_gd hf
    refine r_iald F dX0_placeOf_18 (i := (((2 : Int32) * p0) + p1)) h43 (e_le rfl) (e_lt hnx rfl) (e_vp hg) ?_
    refine r_goto F dX0_placeOf_19 (tgt := 23) (by decide) ?_
    obtain rfl := Option.some.inj hf
    exact r_iret F hq dX0_placeOf_23 rfl rfl (Nat.le_refl _) (Nat.le_refl _) ⟨rfl, rfl⟩
  · have hf := e_f hc hf
    refine r_iconst F dX0_placeOf_22 (v := 0) (by decide) ?_
    obtain rfl := Option.some.inj hf
    exact r_iret F hq dX0_placeOf_23 rfl rfl (Nat.le_refl _) (Nat.le_refl _) ⟨rfl, rfl⟩

def fX0_inBox (a42_0 : Int32) (A43 : Nat → Int32) (p0 : Int32) (p1 : Int32) (p2 : Int32) (p3 : Int32) : Option (Int32) :=
  (e_loop (fun (v3 : Int32 × Int32) => (
      if a42_0 ≤ v3.2 then
        some (.inr v3.1)
      else
        (fX0_placeOf a42_0 A43 v3.2 0).bind (fun q6 =>
        (fX0_placeOf a42_0 A43 v3.2 1).bind (fun q8 =>
        Option.bind (α := Int32) (
          if q6 < p0 then
            some v3.1
          else
            if p2 ≤ q6 then
              some v3.1
            else
              if q8 < p1 then
                some v3.1
              else
                if p3 ≤ q8 then
                  some v3.1
                else
                  some (v3.1 + 1)) (fun q10 =>
        some (.inl (q10, v3.2 + 1))))) : Option ((Int32 × Int32) ⊕ (Int32)))) e_fuel (0, 0)).bind (fun x4 =>
  some x4)
set_option maxRecDepth 100000 in
theorem tX0_inBox_42 {G : eG} (hG : e_GS G) {la : Launch} {h : Nat → eO} {nx : Nat} (hnx : 99 ≤ nx) {a42_0 : Int32} {A43 : Nat → Int32} {p0 : Int32} {p1 : Int32} {p2 : Int32} {p3 : Int32} (h42 : h 42 = o42 a42_0) (h43 : h 43 = o43 A43) {R9 : Int32} (hf : fX0_inBox a42_0 A43 p0 p1 p2 p3 = some R9) :
    eSem G la MX0_inBox [.ref 42, .int p0, .int p1, .int p2, .int p3] h nx 0 0 (fun r9 h9 => r9 = some (.int R9) ∧ h9 = h) := by
  refine eSem.of (k := 4) (L := [some (.ref 42), some (.int p0), some (.int p1), some (.int p2), some (.int p3), none, none, none, none]) (by decide +kernel) rfl rfl (fun X F hxl hq hcR hsR => ?_)
  subst hxl
  unfold fX0_inBox at hf
  refine r_iconst F dX0_inBox_0 (v := 0) (by decide) ?_
  refine r_istore F dX0_inBox_1 (e_le rfl) (L' := [some (.ref 42), some (.int p0), some (.int p1), some (.int p2), some (.int p3), some (.int 0), none, none, none]) rfl ?_
  refine r_iconst F dX0_inBox_3 (v := 0) (by decide) ?_
  refine r_istore F dX0_inBox_4 (e_le rfl) (L' := [some (.ref 42), some (.int p0), some (.int p1), some (.int p2), some (.int p3), some (.int 0), some (.int 0), none, none]) rfl ?_
  obtain ⟨x4, hx5, hf⟩ := e_bd hf
  refine (e_loop_ok (P := fun (v3 : Int32 × Int32) => eRun G X 6 [some (.ref 42), some (.int p0), some (.int p1), some (.int p2), some (.int p3), some (.int v3.1), some (.int v3.2), none, none] [] h [] nx 0 0) (K := fun (x4 : Int32) => eRun G X 67 [none, none, none, none, none, some (.int x4), none, none, none] [] h [] nx 0 0) ?_ e_fuel (0, 0) x4 hx5 ?_ : _)
  · intro v3 z hz ih hx
    refine r_iload F dX0_inBox_6 rfl ?_
    refine r_aload_n F dX0_inBox_8 rfl ?_
    refine r_get F dX0_inBox_9 flX0_18 h42 rfl (e_le rfl) (e_lt hnx rfl) ?_
    refine r_icmp_ge F dX0_inBox_12 (tgt := 67) (by decide) (fun hc => ?_) (fun hc => ?_)
    · have hz := e_t hc hz
      refine r_drop 0 (L' := [none, some (.int p0), some (.int p1), some (.int p2), some (.int p3), some (.int v3.1), some (.int v3.2), none, none]) rfl ?_
      refine r_drop 1 (L' := [none, none, some (.int p1), some (.int p2), some (.int p3), some (.int v3.1), some (.int v3.2), none, none]) rfl ?_
      refine r_drop 2 (L' := [none, none, none, some (.int p2), some (.int p3), some (.int v3.1), some (.int v3.2), none, none]) rfl ?_
      refine r_drop 3 (L' := [none, none, none, none, some (.int p3), some (.int v3.1), some (.int v3.2), none, none]) rfl ?_
      refine r_drop 4 (L' := [none, none, none, none, none, some (.int v3.1), some (.int v3.2), none, none]) rfl ?_
      refine r_drop 6 (L' := [none, none, none, none, none, some (.int v3.1), none, none, none]) rfl ?_
      obtain rfl := Option.some.inj hz
      exact hx v3.1 rfl
    · have hz := e_f hc hz
      refine r_aload_n F dX0_inBox_15 rfl ?_
      refine r_iload F dX0_inBox_16 rfl ?_
      refine r_iconst F dX0_inBox_18 (v := 0) (by decide) ?_
      obtain ⟨q6, hq7, hz⟩ := e_bd hz
      refine r_callV F dX0_inBox_19 (b := 42) (dc := 0) (ds := 0) (As := [.int v3.2, .int 0]) (S0 := []) lkX0_45 mX0_placeOf (tX0_placeOf_42 hG (la := x_l X) (h := e_up h []) hnx h42 h43 hq7) rfl rfl rfl (e_le rfl) (e_le rfl) (e_le rfl) h42 (ci := 0) e_cl0.1 rfl (e_le rfl) (e_lt hnx rfl) (Nat.zero_le _) (Nat.zero_le _) (e_k ?_)
      refine r_wr0 ?_
      refine r_istore F dX0_inBox_22 (e_le rfl) (L' := [some (.ref 42), some (.int p0), some (.int p1), some (.int p2), some (.int p3), some (.int v3.1), some (.int v3.2), some (.int q6), none]) rfl ?_
      refine r_aload_n F dX0_inBox_24 rfl ?_
      refine r_iload F dX0_inBox_25 rfl ?_
      refine r_iconst F dX0_inBox_27 (v := 1) (by decide) ?_
      obtain ⟨q8, hq9, hz⟩ := e_bd hz
      refine r_callV F dX0_inBox_28 (b := 42) (dc := 0) (ds := 0) (As := [.int v3.2, .int 1]) (S0 := []) lkX0_45 mX0_placeOf (tX0_placeOf_42 hG (la := x_l X) (h := e_up h []) hnx h42 h43 hq9) rfl rfl rfl (e_le rfl) (e_le rfl) (e_le rfl) h42 (ci := 0) e_cl0.1 rfl (e_le rfl) (e_lt hnx rfl) (Nat.zero_le _) (Nat.zero_le _) (e_k ?_)
      refine r_wr0 ?_
      refine r_istore F dX0_inBox_31 (e_le rfl) (L' := [some (.ref 42), some (.int p0), some (.int p1), some (.int p2), some (.int p3), some (.int v3.1), some (.int v3.2), some (.int q6), some (.int q8)]) rfl ?_
      refine r_iload F dX0_inBox_33 rfl ?_
      refine r_iload_n F dX0_inBox_35 rfl ?_
      obtain ⟨q10, hq11, hz⟩ := e_bd hz
      have Jq10 : eRun G X 61 [some (.ref 42), some (.int p0), some (.int p1), some (.int p2), some (.int p3), some (.int q10), some (.int v3.2), none, none] [] h [] nx 0 0 := by
        refine r_inc F dX0_inBox_61 (k9 := 1) (by decide) rfl (L' := [some (.ref 42), some (.int p0), some (.int p1), some (.int p2), some (.int p3), some (.int q10), some (.int (v3.2 + 1)), none, none]) rfl ?_
        refine r_goto F dX0_inBox_64 (tgt := 6) (by decide) ?_
        obtain rfl := Option.some.inj hz
        exact ih (q10, v3.2 + 1) rfl
      refine r_icmp_lt F dX0_inBox_36 (tgt := 61) (by decide) (fun hc => ?_) (fun hc => ?_)
      · have hq11 := e_t hc hq11
        refine r_drop 7 (L' := [some (.ref 42), some (.int p0), some (.int p1), some (.int p2), some (.int p3), some (.int v3.1), some (.int v3.2), none, some (.int q8)]) rfl ?_
        refine r_drop 8 (L' := [some (.ref 42), some (.int p0), some (.int p1), some (.int p2), some (.int p3), some (.int v3.1), some (.int v3.2), none, none]) rfl ?_
        obtain rfl := Option.some.inj hq11
        exact Jq10
      · have hq11 := e_f hc hq11
        refine r_iload F dX0_inBox_39 rfl ?_
        refine r_iload_n F dX0_inBox_41 rfl ?_
        refine r_icmp_ge F dX0_inBox_42 (tgt := 61) (by decide) (fun hc => ?_) (fun hc => ?_)
        · have hq11 := e_t hc hq11
          refine r_drop 7 (L' := [some (.ref 42), some (.int p0), some (.int p1), some (.int p2), some (.int p3), some (.int v3.1), some (.int v3.2), none, some (.int q8)]) rfl ?_
          refine r_drop 8 (L' := [some (.ref 42), some (.int p0), some (.int p1), some (.int p2), some (.int p3), some (.int v3.1), some (.int v3.2), none, none]) rfl ?_
          obtain rfl := Option.some.inj hq11
          exact Jq10
        · have hq11 := e_f hc hq11
          refine r_iload F dX0_inBox_45 rfl ?_
          refine r_iload_n F dX0_inBox_47 rfl ?_
          refine r_icmp_lt F dX0_inBox_48 (tgt := 61) (by decide) (fun hc => ?_) (fun hc => ?_)
          · have hq11 := e_t hc hq11
            refine r_drop 7 (L' := [some (.ref 42), some (.int p0), some (.int p1), some (.int p2), some (.int p3), some (.int v3.1), some (.int v3.2), none, some (.int q8)]) rfl ?_
            refine r_drop 8 (L' := [some (.ref 42), some (.int p0), some (.int p1), some (.int p2), some (.int p3), some (.int v3.1), some (.int v3.2), none, none]) rfl ?_
            obtain rfl := Option.some.inj hq11
            exact Jq10
          · have hq11 := e_f hc hq11
            refine r_iload F dX0_inBox_51 rfl ?_
            refine r_iload F dX0_inBox_53 rfl ?_
            refine r_icmp_ge F dX0_inBox_55 (tgt := 61) (by decide) (fun hc => ?_) (fun hc => ?_)
            · have hq11 := e_t hc hq11
              refine r_drop 7 (L' := [some (.ref 42), some (.int p0), some (.int p1), some (.int p2), some (.int p3), some (.int v3.1), some (.int v3.2), none, some (.int q8)]) rfl ?_
              refine r_drop 8 (L' := [some (.ref 42), some (.int p0), some (.int p1), some (.int p2), some (.int p3), some (.int v3.1), some (.int v3.2), none, none]) rfl ?_
              obtain rfl := Option.some.inj hq11
              exact Jq10
            · have hq11 := e_f hc hq11
              refine r_inc F dX0_inBox_58 (k9 := 1) (by decide) rfl (L' := [some (.ref 42), some (.int p0), some (.int p1), some (.int p2), some (.int p3), some (.int (v3.1 + 1)), some (.int v3.2), some (.int q6), some (.int q8)]) rfl ?_
              refine r_drop 7 (L' := [some (.ref 42), some (.int p0), some (.int p1), some (.int p2), some (.int p3), some (.int (v3.1 + 1)), some (.int v3.2), none, some (.int q8)]) rfl ?_
              refine r_drop 8 (L' := [some (.ref 42), some (.int p0), some (.int p1), some (.int p2), some (.int p3), some (.int (v3.1 + 1)), some (.int v3.2), none, none]) rfl ?_
              obtain rfl := Option.some.inj hq11
              exact Jq10
  · show eRun G X 67 [none, none, none, none, none, some (.int x4), none, none, none] [] h [] nx 0 0
    refine r_iload F dX0_inBox_67 rfl ?_
    obtain rfl := Option.some.inj hf
    exact r_iret F hq dX0_inBox_69 rfl rfl (Nat.le_refl _) (Nat.le_refl _) ⟨rfl, rfl⟩

def fX11_box (a40_0 : Int32) (a40_1 : Int32) (a42_0 : Int32) (A41 : Nat → Int32) (A43 : Nat → Int32) (p0 : Int32) (p1 : Int32) (p2 : Int32) (p3 : Int32) (p4 : Int32) : Option (Int32) :=
  (fX7_hasSite a40_0 a40_1 p0 p1).bind (fun q1 =>
  if q1 = true then
    (fX7_hasSite a40_0 a40_1 p2 p3).bind (fun q3 =>
    if q3 = true then
      if p2 ≤ p0 then
        some (-1000000)
      else
        if p3 ≤ p1 then
          some (-1000000)
        else
          if p4 < 0 then
            some (-1000000)
          else
            if p4 ≤ 3 then
              if p4 = 2 then
                (fX0_inBox a42_0 A43 p0 p1 p2 p3).bind (fun q7 =>
                some q7)
              else
                if p4 = 3 then
                  some ((2 : Int32) * (((p2 - p0) + p3) - p1))
                else
                  (fX7_sumRound a40_0 a40_1 A41 p0 p1 p2 p3 p4).bind (fun q5 =>
                  some q5)
            else
              some (-1000000)
    else
      some (-1000000))
  else
    some (-1000000))
set_option maxRecDepth 100000 in
theorem tX11_box_32 {G : eG} (hG : e_GS G) {la : Launch} {h : Nat → eO} {nx : Nat} (hnx : 99 ≤ nx) {a32_8 : Bool} {a32_10 : Bool} {a40_0 : Int32} {a40_1 : Int32} {A41 : Nat → Int32} {a42_0 : Int32} {A43 : Nat → Int32} {p0 : Int32} {p1 : Int32} {p2 : Int32} {p3 : Int32} {p4 : Int32} (h32 : h 32 = o32 a32_8 a32_10) (h39 : h 39 = o39) (h40 : h 40 = o40 a40_0 a40_1) (h41 : h 41 = o41 A41) (h42 : h 42 = o42 a42_0) (h43 : h 43 = o43 A43) {R9 : Int32} (hf : fX11_box a40_0 a40_1 a42_0 A41 A43 p0 p1 p2 p3 p4 = some R9) :
    eSem G la MX11_box [.ref 32, .int p0, .int p1, .int p2, .int p3, .int p4] h nx 0 0 (fun r9 h9 => r9 = some (.int R9) ∧ h9 = h) := by
  refine eSem.of (k := 1) (L := [some (.ref 32), some (.int p0), some (.int p1), some (.int p2), some (.int p3), some (.int p4), none]) (by decide +kernel) rfl rfl (fun X F hxl hq hcR hsR => ?_)
  subst hxl
  unfold fX11_box at hf
  refine r_aload_n F dX11_box_0 rfl ?_
  refine r_get F dX11_box_1 flX11_28 h32 rfl (e_le rfl) (e_lt hnx rfl) ?_
  refine r_get F dX11_box_4 flX11_141 h39 rfl (e_le rfl) (e_lt hnx rfl) ?_
  refine r_astore F dX11_box_7 (e_le rfl) (L' := [some (.ref 32), some (.int p0), some (.int p1), some (.int p2), some (.int p3), some (.int p4), some (.ref 40)]) rfl ?_
  refine r_aload F dX11_box_9 rfl ?_
  refine r_iload_n F dX11_box_11 rfl ?_
  refine r_iload_n F dX11_box_12 rfl ?_
  obtain ⟨q1, hq2, hf⟩ := e_bd hf
  refine r_callV F dX11_box_13 (b := 40) (dc := 0) (ds := 0) (As := [.int p0, .int p1]) (S0 := []) lkX11_207 mX7_hasSite (tX7_hasSite_40 hG (la := x_l X) (h := e_up h []) hnx h40 hq2) rfl rfl rfl (e_le rfl) (e_le rfl) (e_le rfl) h40 (ci := 7) e_cl7.1 rfl (e_le rfl) (e_lt hnx rfl) (Nat.zero_le _) (Nat.zero_le _) (e_k ?_)
  refine r_wr0 ?_
  refine r_z_eq F dX11_box_16 (tgt := 52) (by decide) (fun hc => ?_) (fun hc => ?_)
  · have hf := e_t hc hf
    refine r_aload F dX11_box_19 rfl ?_
    refine r_iload_n F dX11_box_21 rfl ?_
    refine r_iload F dX11_box_22 rfl ?_
    obtain ⟨q3, hq4, hf⟩ := e_bd hf
    refine r_callV F dX11_box_24 (b := 40) (dc := 0) (ds := 0) (As := [.int p2, .int p3]) (S0 := []) lkX11_207 mX7_hasSite (tX7_hasSite_40 hG (la := x_l X) (h := e_up h []) hnx h40 hq4) rfl rfl rfl (e_le rfl) (e_le rfl) (e_le rfl) h40 (ci := 7) e_cl7.1 rfl (e_le rfl) (e_lt hnx rfl) (Nat.zero_le _) (Nat.zero_le _) (e_k ?_)
    refine r_wr0 ?_
    refine r_z_eq F dX11_box_27 (tgt := 52) (by decide) (fun hc => ?_) (fun hc => ?_)
    · have hf := e_t hc hf
      refine r_iload_n F dX11_box_30 rfl ?_
      refine r_iload_n F dX11_box_31 rfl ?_
      refine r_icmp_ge F dX11_box_32 (tgt := 52) (by decide) (fun hc => ?_) (fun hc => ?_)
      · have hf := e_t hc hf
        refine r_ldc F dX11_box_52 kcX11_140 ?_
        obtain rfl := Option.some.inj hf
        exact r_iret F hq dX11_box_54 rfl rfl (Nat.le_refl _) (Nat.le_refl _) ⟨rfl, rfl⟩
      · have hf := e_f hc hf
        refine r_iload_n F dX11_box_35 rfl ?_
        refine r_iload F dX11_box_36 rfl ?_
        refine r_icmp_ge F dX11_box_38 (tgt := 52) (by decide) (fun hc => ?_) (fun hc => ?_)
        · have hf := e_t hc hf
          refine r_ldc F dX11_box_52 kcX11_140 ?_
          obtain rfl := Option.some.inj hf
          exact r_iret F hq dX11_box_54 rfl rfl (Nat.le_refl _) (Nat.le_refl _) ⟨rfl, rfl⟩
        · have hf := e_f hc hf
          refine r_iload F dX11_box_41 rfl ?_
          refine r_if_lt F dX11_box_43 (tgt := 52) (by decide) (fun hc => ?_) (fun hc => ?_)
          · have hf := e_t hc hf
            refine r_ldc F dX11_box_52 kcX11_140 ?_
            obtain rfl := Option.some.inj hf
            exact r_iret F hq dX11_box_54 rfl rfl (Nat.le_refl _) (Nat.le_refl _) ⟨rfl, rfl⟩
          · have hf := e_f hc hf
            refine r_iload F dX11_box_46 rfl ?_
            refine r_iconst F dX11_box_48 (v := 3) (by decide) ?_
            refine r_icmp_le F dX11_box_49 (tgt := 55) (by decide) (fun hc => ?_) (fun hc => ?_)
            · have hf := e_t hc hf
              refine r_iload F dX11_box_55 rfl ?_
              refine r_iconst F dX11_box_57 (v := 2) (by decide) ?_
              refine r_icmp_ne F dX11_box_58 (tgt := 77) (by decide) (fun hc => ?_) (fun hc => ?_)
              · have hf := e_f hc hf
                refine r_iload F dX11_box_77 rfl ?_
                refine r_iconst F dX11_box_79 (v := 3) (by decide) ?_
                refine r_icmp_ne F dX11_box_80 (tgt := 94) (by decide) (fun hc => ?_) (fun hc => ?_)
                · have hf := e_f hc hf
                  refine r_aload F dX11_box_94 rfl ?_
                  refine r_iload_n F dX11_box_96 rfl ?_
                  refine r_iload_n F dX11_box_97 rfl ?_
                  refine r_iload_n F dX11_box_98 rfl ?_
                  refine r_iload F dX11_box_99 rfl ?_
                  refine r_iload F dX11_box_101 rfl ?_
                  obtain ⟨q5, hq6, hf⟩ := e_bd hf
                  refine r_callV F dX11_box_103 (b := 40) (dc := 0) (ds := 0) (As := [.int p0, .int p1, .int p2, .int p3, .int p4]) (S0 := []) lkX11_213 mX7_sumRound (tX7_sumRound_40 hG (la := x_l X) (h := e_up h []) hnx h40 h41 hq6) rfl rfl rfl (e_le rfl) (e_le rfl) (e_le rfl) h40 (ci := 7) e_cl7.1 rfl (e_le rfl) (e_lt hnx rfl) (Nat.zero_le _) (Nat.zero_le _) (e_k ?_)
                  refine r_wr0 ?_
                  obtain rfl := Option.some.inj hf
                  exact r_iret F hq dX11_box_106 rfl rfl (Nat.le_refl _) (Nat.le_refl _) ⟨rfl, rfl⟩
                · have hf := e_t hc hf
                  refine r_iconst F dX11_box_83 (v := 2) (by decide) ?_
                  refine r_iload_n F dX11_box_84 rfl ?_
                  refine r_iload_n F dX11_box_85 rfl ?_
                  refine r_isub F dX11_box_86 ?_
                  refine r_iload F dX11_box_87 rfl ?_
                  refine r_iadd F dX11_box_89 ?_
                  refine r_iload_n F dX11_box_90 rfl ?_
                  refine r_isub F dX11_box_91 ?_
                  refine r_imul F dX11_box_92 ?_
                  obtain rfl := Option.some.inj hf
                  exact r_iret F hq dX11_box_93 rfl rfl (Nat.le_refl _) (Nat.le_refl _) ⟨rfl, rfl⟩
              · have hf := e_t hc hf
                refine r_aload_n F dX11_box_61 rfl ?_
                refine r_get F dX11_box_62 flX11_28 h32 rfl (e_le rfl) (e_lt hnx rfl) ?_
                refine r_get F dX11_box_65 flX11_127 h39 rfl (e_le rfl) (e_lt hnx rfl) ?_
                refine r_iload_n F dX11_box_68 rfl ?_
                refine r_iload_n F dX11_box_69 rfl ?_
                refine r_iload_n F dX11_box_70 rfl ?_
                refine r_iload F dX11_box_71 rfl ?_
                obtain ⟨q7, hq8, hf⟩ := e_bd hf
                refine r_callV F dX11_box_73 (b := 42) (dc := 0) (ds := 0) (As := [.int p0, .int p1, .int p2, .int p3]) (S0 := []) lkX11_210 mX0_inBox (tX0_inBox_42 hG (la := x_l X) (h := e_up h []) hnx h42 h43 hq8) rfl rfl rfl (e_le rfl) (e_le rfl) (e_le rfl) h42 (ci := 0) e_cl0.1 rfl (e_le rfl) (e_lt hnx rfl) (Nat.zero_le _) (Nat.zero_le _) (e_k ?_)
                refine r_wr0 ?_
                obtain rfl := Option.some.inj hf
                exact r_iret F hq dX11_box_76 rfl rfl (Nat.le_refl _) (Nat.le_refl _) ⟨rfl, rfl⟩
            · have hf := e_f hc hf
              refine r_ldc F dX11_box_52 kcX11_140 ?_
              obtain rfl := Option.some.inj hf
              exact r_iret F hq dX11_box_54 rfl rfl (Nat.le_refl _) (Nat.le_refl _) ⟨rfl, rfl⟩
    · have hf := e_f hc hf
      refine r_ldc F dX11_box_52 kcX11_140 ?_
      obtain rfl := Option.some.inj hf
      exact r_iret F hq dX11_box_54 rfl rfl (Nat.le_refl _) (Nat.le_refl _) ⟨rfl, rfl⟩
  · have hf := e_f hc hf
    refine r_ldc F dX11_box_52 kcX11_140 ?_
    obtain rfl := Option.some.inj hf
    exact r_iret F hq dX11_box_54 rfl rfl (Nat.le_refl _) (Nat.le_refl _) ⟨rfl, rfl⟩

def fJ9_min_7cf53  (p0 : Int32) (p1 : Int32) : Option (Int32) :=
  if p1 < p0 then
    some p1
  else
    some p0
set_option maxRecDepth 100000 in
theorem tJ9_min_7cf53 {G : eG} (hG : e_GS G) {la : Launch} {h : Nat → eO} {nx : Nat} (hnx : 99 ≤ nx)  {p0 : Int32} {p1 : Int32}  {R9 : Int32} (hf : fJ9_min_7cf53  p0 p1 = some R9) :
    eSem G la MJ9_min_7cf53 [.int p0, .int p1] h nx 0 0 (fun r9 h9 => r9 = some (.int R9) ∧ h9 = h) := by
  refine eSem.of (k := 0) (L := [some (.int p0), some (.int p1)]) (by decide +kernel) rfl rfl (fun X F hxl hq hcR hsR => ?_)
  subst hxl
  unfold fJ9_min_7cf53 at hf
  refine r_iload_n F dJ9_min_7cf53_0 rfl ?_
  refine r_iload_n F dJ9_min_7cf53_1 rfl ?_
  refine r_icmp_gt F dJ9_min_7cf53_2 (tgt := 9) (by decide) (fun hc => ?_) (fun hc => ?_)
  · have hf := e_t hc hf
    refine r_iload_n F dJ9_min_7cf53_9 rfl ?_
    obtain rfl := Option.some.inj hf
    exact r_iret F hq dJ9_min_7cf53_10 rfl rfl (Nat.le_refl _) (Nat.le_refl _) ⟨rfl, rfl⟩
  · have hf := e_f hc hf
    refine r_iload_n F dJ9_min_7cf53_5 rfl ?_
    refine r_goto F dJ9_min_7cf53_6 (tgt := 10) (by decide) ?_
    obtain rfl := Option.some.inj hf
    exact r_iret F hq dJ9_min_7cf53_10 rfl rfl (Nat.le_refl _) (Nat.le_refl _) ⟨rfl, rfl⟩

def fX3_size (a54_1 : Int32)  : Option (Int32) :=
  (fJ9_min_7cf53 a54_1 40).bind (fun q1 =>
  some q1)
set_option maxRecDepth 100000 in
theorem tX3_size_54 {G : eG} (hG : e_GS G) {la : Launch} {h : Nat → eO} {nx : Nat} (hnx : 99 ≤ nx) {a54_1 : Int32}  (h54 : h 54 = o54 a54_1) {R9 : Int32} (hf : fX3_size a54_1  = some R9) :
    eSem G la MX3_size [.ref 54] h nx 0 0 (fun r9 h9 => r9 = some (.int R9) ∧ h9 = h) := by
  refine eSem.of (k := 0) (L := [some (.ref 54)]) (by decide +kernel) rfl rfl (fun X F hxl hq hcR hsR => ?_)
  subst hxl
  unfold fX3_size at hf
  refine r_aload_n F dX3_size_0 rfl ?_
  refine r_get F dX3_size_1 flX3_15 h54 rfl (e_le rfl) (e_lt hnx rfl) ?_
  refine r_bipush F dX3_size_4 (v := 40) (by decide) ?_
  obtain ⟨q1, hq2, hf⟩ := e_bd hf
  refine r_callS F dX3_size_6 (dc := 0) (ds := 0) (As := [.int a54_1, .int 40]) (S0 := []) lkX3_19 mJ9_min_7cf53 (tJ9_min_7cf53 hG (la := x_l X) (h := e_up h []) hnx  hq2) rfl rfl rfl (e_le rfl) (e_le rfl) (e_le rfl) (Nat.zero_le _) (Nat.zero_le _) (e_k ?_)
  refine r_wr0 ?_
  obtain rfl := Option.some.inj hf
  exact r_iret F hq dX3_size_9 rfl rfl (Nat.le_refl _) (Nat.le_refl _) ⟨rfl, rfl⟩
