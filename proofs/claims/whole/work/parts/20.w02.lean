def fX11_count (a33_1 : Int32) (a54_1 : Int32) (a56_2 : Int32) (p0 : Int32) : Option (Int32) :=
  if p0 = 0 then
    some a33_1
  else
    if p0 = 1 then
      some a56_2
    else
      if p0 = 2 then
        (fX3_size a54_1).bind (fun q1 =>
        some q1)
      else
        some (-1)
set_option maxRecDepth 100000 in
theorem tX11_count_32 {G : eG} (hG : e_GS G) {la : Launch} {h : Nat → eO} {nx : Nat} (hnx : 99 ≤ nx) {a32_8 : Bool} {a32_10 : Bool} {a33_1 : Int32} {a54_1 : Int32} {a56_1 : Int32} {a56_2 : Int32} {p0 : Int32} (h32 : h 32 = o32 a32_8 a32_10) (h33 : h 33 = o33 a33_1) (h54 : h 54 = o54 a54_1) (h56 : h 56 = o56 a56_1 a56_2) {R9 : Int32} (hf : fX11_count a33_1 a54_1 a56_2 p0 = some R9) :
    eSem G la MX11_count [.ref 32, .int p0] h nx 0 0 (fun r9 h9 => r9 = some (.int R9) ∧ h9 = h) := by
  refine eSem.of (k := 0) (L := [some (.ref 32), some (.int p0)]) (by decide +kernel) rfl rfl (fun X F hxl hq hcR hsR => ?_)
  subst hxl
  unfold fX11_count at hf
  refine r_iload_n F dX11_count_0 rfl ?_
  refine Classical.byCases (p := p0 = 0) (fun hc => ?_) (fun hk0 => ?_)
  · have hf := e_t hc hf
    refine r_tsIn F dX11_count_1 (by rw [hc]; decide) (by rw [hc]; decide) (off := 27) (by rw [hc]; decide) (tgt := 28) (by decide) ?_
    refine r_aload_n F dX11_count_28 rfl ?_
    refine r_get F dX11_count_29 flX11_10 h32 rfl (e_le rfl) (e_lt hnx rfl) ?_
    refine r_get F dX11_count_32 flX11_91 h33 rfl (e_le rfl) (e_lt hnx rfl) ?_
    obtain rfl := Option.some.inj hf
    exact r_iret F hq dX11_count_35 rfl rfl (Nat.le_refl _) (Nat.le_refl _) ⟨rfl, rfl⟩
  have hf := e_f hk0 hf
  refine Classical.byCases (p := p0 = 1) (fun hc => ?_) (fun hk1 => ?_)
  · have hf := e_t hc hf
    refine r_tsIn F dX11_count_1 (by rw [hc]; decide) (by rw [hc]; decide) (off := 35) (by rw [hc]; decide) (tgt := 36) (by decide) ?_
    refine r_aload_n F dX11_count_36 rfl ?_
    refine r_get F dX11_count_37 flX11_49 h32 rfl (e_le rfl) (e_lt hnx rfl) ?_
    refine r_get F dX11_count_40 flX11_351 h56 rfl (e_le rfl) (e_lt hnx rfl) ?_
    obtain rfl := Option.some.inj hf
    exact r_iret F hq dX11_count_43 rfl rfl (Nat.le_refl _) (Nat.le_refl _) ⟨rfl, rfl⟩
  have hf := e_f hk1 hf
  refine Classical.byCases (p := p0 = 2) (fun hc => ?_) (fun hk2 => ?_)
  · have hf := e_t hc hf
    refine r_tsIn F dX11_count_1 (by rw [hc]; decide) (by rw [hc]; decide) (off := 43) (by rw [hc]; decide) (tgt := 44) (by decide) ?_
    refine r_aload_n F dX11_count_44 rfl ?_
    refine r_get F dX11_count_45 flX11_42 h32 rfl (e_le rfl) (e_lt hnx rfl) ?_
    obtain ⟨q1, hq2, hf⟩ := e_bd hf
    refine r_callV F dX11_count_48 (b := 54) (dc := 0) (ds := 0) (As := []) (S0 := []) lkX11_275 mX3_size (tX3_size_54 hG (la := x_l X) (h := e_up h []) hnx h54 hq2) rfl rfl rfl (e_le rfl) (e_le rfl) (e_le rfl) h54 (ci := 3) e_cl3.1 rfl (e_le rfl) (e_lt hnx rfl) (Nat.zero_le _) (Nat.zero_le _) (e_k ?_)
    refine r_wr0 ?_
    obtain rfl := Option.some.inj hf
    exact r_iret F hq dX11_count_51 rfl rfl (Nat.le_refl _) (Nat.le_refl _) ⟨rfl, rfl⟩
  have hf := e_f hk2 hf
  refine r_tsOut F dX11_count_1 (e_out3 hk0 hk1 hk2) (tgt := 52) (by decide) ?_
  refine r_iconst F dX11_count_52 (v := (-1)) (by decide) ?_
  obtain rfl := Option.some.inj hf
  exact r_iret F hq dX11_count_53 rfl rfl (Nat.le_refl _) (Nat.le_refl _) ⟨rfl, rfl⟩

def fX11_directionOf  (p0 : Int32) : Option (Int32) :=
  if p0 = 100 then
    some 3
  else
    if p0 = 108 then
      some 2
    else
      if p0 = 114 then
        some 0
      else
        if p0 = 117 then
          some 1
        else
          some (-1)
set_option maxRecDepth 100000 in
theorem tX11_directionOf {G : eG} (hG : e_GS G) {la : Launch} {h : Nat → eO} {nx : Nat} (hnx : 99 ≤ nx)  {p0 : Int32}  {R9 : Int32} (hf : fX11_directionOf  p0 = some R9) :
    eSem G la MX11_directionOf [.int p0] h nx 0 0 (fun r9 h9 => r9 = some (.int R9) ∧ h9 = h) := by
  refine eSem.of (k := 0) (L := [some (.int p0)]) (by decide +kernel) rfl rfl (fun X F hxl hq hcR hsR => ?_)
  subst hxl
  unfold fX11_directionOf at hf
  refine r_iload_n F dX11_directionOf_0 rfl ?_
  refine Classical.byCases (p := p0 = 100) (fun hc => ?_) (fun hk0 => ?_)
  · have hf := e_t hc hf
    refine r_ls F dX11_directionOf_1 (by decide) (off := 49) (by rw [hc]; decide) (tgt := 50) (by decide) ?_
    refine r_iconst F dX11_directionOf_50 (v := 3) (by decide) ?_
    obtain rfl := Option.some.inj hf
    exact r_iret F hq dX11_directionOf_51 rfl rfl (Nat.le_refl _) (Nat.le_refl _) ⟨rfl, rfl⟩
  have hf := e_f hk0 hf
  refine Classical.byCases (p := p0 = 108) (fun hc => ?_) (fun hk1 => ?_)
  · have hf := e_t hc hf
    refine r_ls F dX11_directionOf_1 (by decide) (off := 47) (by rw [hc]; decide) (tgt := 48) (by decide) ?_
    refine r_iconst F dX11_directionOf_48 (v := 2) (by decide) ?_
    obtain rfl := Option.some.inj hf
    exact r_iret F hq dX11_directionOf_49 rfl rfl (Nat.le_refl _) (Nat.le_refl _) ⟨rfl, rfl⟩
  have hf := e_f hk1 hf
  refine Classical.byCases (p := p0 = 114) (fun hc => ?_) (fun hk2 => ?_)
  · have hf := e_t hc hf
    refine r_ls F dX11_directionOf_1 (by decide) (off := 43) (by rw [hc]; decide) (tgt := 44) (by decide) ?_
    refine r_iconst F dX11_directionOf_44 (v := 0) (by decide) ?_
    obtain rfl := Option.some.inj hf
    exact r_iret F hq dX11_directionOf_45 rfl rfl (Nat.le_refl _) (Nat.le_refl _) ⟨rfl, rfl⟩
  have hf := e_f hk2 hf
  refine Classical.byCases (p := p0 = 117) (fun hc => ?_) (fun hk3 => ?_)
  · have hf := e_t hc hf
    refine r_ls F dX11_directionOf_1 (by decide) (off := 45) (by rw [hc]; decide) (tgt := 46) (by decide) ?_
    refine r_iconst F dX11_directionOf_46 (v := 1) (by decide) ?_
    obtain rfl := Option.some.inj hf
    exact r_iret F hq dX11_directionOf_47 rfl rfl (Nat.le_refl _) (Nat.le_refl _) ⟨rfl, rfl⟩
  have hf := e_f hk3 hf
  refine r_ls F dX11_directionOf_1 (by decide) (off := 51) (e_ls100_108_114_117 hk0 hk1 hk2 hk3) (tgt := 52) (by decide) ?_
  refine r_iconst F dX11_directionOf_52 (v := (-1)) (by decide) ?_
  obtain rfl := Option.some.inj hf
  exact r_iret F hq dX11_directionOf_53 rfl rfl (Nat.le_refl _) (Nat.le_refl _) ⟨rfl, rfl⟩

def fX11_drawOf  (p0 : Int64) (p1 : Int32) : Option (Int32) :=
  if p1 ≤ 0 then
    some 0
  else
    e_g (e_nzl (Int32.toInt64 p1)) (
    some (Int64.toInt32 (((Int64.toUInt64 p0 >>> ((Int32.toInt64 33).toUInt64 &&& Int64.toUInt64 63)).toInt64) - ((Int64.toUInt64 p0 >>> ((Int32.toInt64 33).toUInt64 &&& Int64.toUInt64 63)).toInt64) / (Int32.toInt64 p1) * (Int32.toInt64 p1))))
set_option maxRecDepth 100000 in
theorem tX11_drawOf {G : eG} (hG : e_GS G) {la : Launch} {h : Nat → eO} {nx : Nat} (hnx : 99 ≤ nx)  {p0 : Int64} {p1 : Int32}  {R9 : Int32} (hf : fX11_drawOf  p0 p1 = some R9) :
    eSem G la MX11_drawOf [.long p0, .int p1] h nx 0 0 (fun r9 h9 => r9 = some (.int R9) ∧ h9 = h) := by
  refine eSem.of (k := 0) (L := [some (.long p0), none, some (.int p1)]) (by decide +kernel) rfl rfl (fun X F hxl hq hcR hsR => ?_)
  subst hxl
  unfold fX11_drawOf at hf
  refine r_iload_n F dX11_drawOf_0 rfl ?_
  refine r_if_le F dX11_drawOf_1 (tgt := 15) (by decide) (fun hc => ?_) (fun hc => ?_)
  · have hf := e_t hc hf
    refine r_iconst F dX11_drawOf_15 (v := 0) (by decide) ?_
    obtain rfl := Option.some.inj hf
    exact r_iret F hq dX11_drawOf_16 rfl rfl (Nat.le_refl _) (Nat.le_refl _) ⟨rfl, rfl⟩
  · have hf := e_f hc hf
    refine r_lload_n F dX11_drawOf_4 rfl ?_
    refine r_bipush F dX11_drawOf_5 (v := 33) (by decide) ?_
    refine r_lushr F dX11_drawOf_7 ?_
    refine r_iload_n F dX11_drawOf_8 rfl ?_
    refine r_i2l F dX11_drawOf_9 ?_
    obtain ⟨hg, hf⟩ := e_gd hf
    refine r_lrem F dX11_drawOf_10 (e_nzl_ne hg) ?_
    refine r_l2i F dX11_drawOf_11 ?_
    refine r_goto F dX11_drawOf_12 (tgt := 16) (by decide) ?_
    obtain rfl := Option.some.inj hf
    exact r_iret F hq dX11_drawOf_16 rfl rfl (Nat.le_refl _) (Nat.le_refl _) ⟨rfl, rfl⟩

def fX11_end (a33_1 : Int32) (p0 : Int32) : Option (Bool × Int32) :=
  if p0 < 0 then
    some (false, a33_1)
  else
    if p0 ≤ a33_1 then
      some (true, p0)
    else
      some (false, a33_1)
set_option maxRecDepth 100000 in
theorem tX11_end_32 {G : eG} (hG : e_GS G) {la : Launch} {h : Nat → eO} {nx : Nat} (hnx : 99 ≤ nx) {a32_8 : Bool} {a32_10 : Bool} {a33_1 : Int32} {p0 : Int32} (h32 : h 32 = o32 a32_8 a32_10) (h33 : h 33 = o33 a33_1) {R9 : Bool × Int32} (hf : fX11_end a33_1 p0 = some R9) :
    eSem G la MX11_end [.ref 32, .int p0] h nx 0 0 (fun r9 h9 => r9 = some (.int (e_b R9.1)) ∧ h9 = e_up h [(33, o33 R9.2)]) := by
  refine eSem.of (k := 0) (L := [some (.ref 32), some (.int p0)]) (by decide +kernel) rfl rfl (fun X F hxl hq hcR hsR => ?_)
  subst hxl
  unfold fX11_end at hf
  refine r_iload_n F dX11_end_0 rfl ?_
  refine r_if_lt F dX11_end_1 (tgt := 15) (by decide) (fun hc => ?_) (fun hc => ?_)
  · have hf := e_t hc hf
    refine r_iconst F dX11_end_15 (v := 0) (by decide) ?_
    refine r_mat (k := 33) h33 (l' := [(33, o33 a33_1)]) rfl ?_
    obtain rfl := Option.some.inj hf
    exact r_zret F hq (v := false) dX11_end_16 rfl rfl (Nat.le_refl _) (Nat.le_refl _) ⟨rfl, rfl⟩
  · have hf := e_f hc hf
    refine r_iload_n F dX11_end_4 rfl ?_
    refine r_aload_n F dX11_end_5 rfl ?_
    refine r_get F dX11_end_6 flX11_10 h32 rfl (e_le rfl) (e_lt hnx rfl) ?_
    refine r_get F dX11_end_9 flX11_91 h33 rfl (e_le rfl) (e_lt hnx rfl) ?_
    refine r_icmp_le F dX11_end_12 (tgt := 17) (by decide) (fun hc => ?_) (fun hc => ?_)
    · have hf := e_t hc hf
      refine r_aload_n F dX11_end_17 rfl ?_
      refine r_get F dX11_end_18 flX11_10 h32 rfl (e_le rfl) (e_lt hnx rfl) ?_
      refine r_iload_n F dX11_end_21 rfl ?_
      refine r_put F dX11_end_22 flX11_91 rfl rfl rfl h33 (e_le rfl) (e_le rfl) (e_lt hnx rfl) (l' := [(33, o33 p0)]) rfl ?_
      refine r_iconst F dX11_end_25 (v := 1) (by decide) ?_
      obtain rfl := Option.some.inj hf
      exact r_zret F hq (v := true) dX11_end_26 rfl rfl (Nat.le_refl _) (Nat.le_refl _) ⟨rfl, rfl⟩
    · have hf := e_f hc hf
      refine r_iconst F dX11_end_15 (v := 0) (by decide) ?_
      refine r_mat (k := 33) h33 (l' := [(33, o33 a33_1)]) rfl ?_
      obtain rfl := Option.some.inj hf
      exact r_zret F hq (v := false) dX11_end_16 rfl rfl (Nat.le_refl _) (Nat.le_refl _) ⟨rfl, rfl⟩

def fX0_indexAt (a42_0 : Int32) (A43 : Nat → Int32) (p0 : Int32) (p1 : Int32) : Option (Int32) :=
  (e_loop (fun (v3 : Int32) => (
      if a42_0 ≤ v3 then
        some (.inr (.inl ()))
      else
        (fX0_placeOf a42_0 A43 v3 0).bind (fun q6 =>
        if q6 = p0 then
          (fX0_placeOf a42_0 A43 v3 1).bind (fun q8 =>
          if q8 = p1 then
            some (.inr (.inr v3))
          else
            some (.inl (v3 + 1)))
        else
          some (.inl (v3 + 1))) : Option ((Int32) ⊕ ((Unit) ⊕ (Int32))))) e_fuel 0).bind (fun x4 => Sum.elim (fun x4e =>
    some (-1)) (fun r9 => some r9) x4)
set_option maxRecDepth 100000 in
theorem tX0_indexAt_42 {G : eG} (hG : e_GS G) {la : Launch} {h : Nat → eO} {nx : Nat} (hnx : 99 ≤ nx) {a42_0 : Int32} {A43 : Nat → Int32} {p0 : Int32} {p1 : Int32} (h42 : h 42 = o42 a42_0) (h43 : h 43 = o43 A43) {R9 : Int32} (hf : fX0_indexAt a42_0 A43 p0 p1 = some R9) :
    eSem G la MX0_indexAt [.ref 42, .int p0, .int p1] h nx 0 0 (fun r9 h9 => r9 = some (.int R9) ∧ h9 = h) := by
  refine eSem.of (k := 1) (L := [some (.ref 42), some (.int p0), some (.int p1), none]) (by decide +kernel) rfl rfl (fun X F hxl hq hcR hsR => ?_)
  subst hxl
  unfold fX0_indexAt at hf
  refine r_iconst F dX0_indexAt_0 (v := 0) (by decide) ?_
  refine r_istore_n F dX0_indexAt_1 (e_le rfl) (L' := [some (.ref 42), some (.int p0), some (.int p1), some (.int 0)]) rfl ?_
  obtain ⟨x4, hx5, hf⟩ := e_bd hf
  refine (e_loop_ok (P := fun (v3 : Int32) => eRun G X 2 [some (.ref 42), some (.int p0), some (.int p1), some (.int v3)] [] h [] nx 0 0) (K := fun (x4 : (Unit) ⊕ (Int32)) => Sum.elim (fun x4e => eRun G X 38 [none, none, none, none] [] h [] nx 0 0) (fun r9 => r9 = R9) x4) ?_ e_fuel 0 x4 hx5 ?_ : _)
  · intro v3 z hz ih hx
    refine r_iload_n F dX0_indexAt_2 rfl ?_
    refine r_aload_n F dX0_indexAt_3 rfl ?_
    refine r_get F dX0_indexAt_4 flX0_18 h42 rfl (e_le rfl) (e_lt hnx rfl) ?_
    refine r_icmp_ge F dX0_indexAt_7 (tgt := 38) (by decide) (fun hc => ?_) (fun hc => ?_)
    · have hz := e_t hc hz
      refine r_drop 0 (L' := [none, some (.int p0), some (.int p1), some (.int v3)]) rfl ?_
      refine r_drop 1 (L' := [none, none, some (.int p1), some (.int v3)]) rfl ?_
      refine r_drop 2 (L' := [none, none, none, some (.int v3)]) rfl ?_
      refine r_drop 3 (L' := [none, none, none, none]) rfl ?_
      obtain rfl := Option.some.inj hz
      exact hx (.inl ()) rfl
    · have hz := e_f hc hz
      refine r_aload_n F dX0_indexAt_10 rfl ?_
      refine r_iload_n F dX0_indexAt_11 rfl ?_
      refine r_iconst F dX0_indexAt_12 (v := 0) (by decide) ?_
      obtain ⟨q6, hq7, hz⟩ := e_bd hz
      refine r_callV F dX0_indexAt_13 (b := 42) (dc := 0) (ds := 0) (As := [.int v3, .int 0]) (S0 := []) lkX0_45 mX0_placeOf (tX0_placeOf_42 hG (la := x_l X) (h := e_up h []) hnx h42 h43 hq7) rfl rfl rfl (e_le rfl) (e_le rfl) (e_le rfl) h42 (ci := 0) e_cl0.1 rfl (e_le rfl) (e_lt hnx rfl) (Nat.zero_le _) (Nat.zero_le _) (e_k ?_)
      refine r_wr0 ?_
      refine r_iload_n F dX0_indexAt_16 rfl ?_
      refine r_icmp_ne F dX0_indexAt_17 (tgt := 32) (by decide) (fun hc => ?_) (fun hc => ?_)
      · have hz := e_f hc hz
        refine r_inc F dX0_indexAt_32 (k9 := 1) (by decide) rfl (L' := [some (.ref 42), some (.int p0), some (.int p1), some (.int (v3 + 1))]) rfl ?_
        refine r_goto F dX0_indexAt_35 (tgt := 2) (by decide) ?_
        obtain rfl := Option.some.inj hz
        exact ih (v3 + 1) rfl
      · have hz := e_t hc hz
        refine r_aload_n F dX0_indexAt_20 rfl ?_
        refine r_iload_n F dX0_indexAt_21 rfl ?_
        refine r_iconst F dX0_indexAt_22 (v := 1) (by decide) ?_
        obtain ⟨q8, hq9, hz⟩ := e_bd hz
        refine r_callV F dX0_indexAt_23 (b := 42) (dc := 0) (ds := 0) (As := [.int v3, .int 1]) (S0 := []) lkX0_45 mX0_placeOf (tX0_placeOf_42 hG (la := x_l X) (h := e_up h []) hnx h42 h43 hq9) rfl rfl rfl (e_le rfl) (e_le rfl) (e_le rfl) h42 (ci := 0) e_cl0.1 rfl (e_le rfl) (e_lt hnx rfl) (Nat.zero_le _) (Nat.zero_le _) (e_k ?_)
        refine r_wr0 ?_
        refine r_iload_n F dX0_indexAt_26 rfl ?_
        refine r_icmp_ne F dX0_indexAt_27 (tgt := 32) (by decide) (fun hc => ?_) (fun hc => ?_)
        · have hz := e_f hc hz
          refine r_inc F dX0_indexAt_32 (k9 := 1) (by decide) rfl (L' := [some (.ref 42), some (.int p0), some (.int p1), some (.int (v3 + 1))]) rfl ?_
          refine r_goto F dX0_indexAt_35 (tgt := 2) (by decide) ?_
          obtain rfl := Option.some.inj hz
          exact ih (v3 + 1) rfl
        · have hz := e_t hc hz
          refine r_iload_n F dX0_indexAt_30 rfl ?_
          obtain rfl := Option.some.inj hz
          have e9 := hx (.inr v3) rfl
          subst e9
          exact r_iret F hq dX0_indexAt_31 rfl rfl (Nat.le_refl _) (Nat.le_refl _) ⟨rfl, rfl⟩
  · cases x4 with
    | inr r9 => exact Option.some.inj hf
    | inl x4e =>
      simp only [Sum.elim_inl] at hf
      show eRun G X 38 [none, none, none, none] [] h [] nx 0 0
      refine r_iconst F dX0_indexAt_38 (v := (-1)) (by decide) ?_
      obtain rfl := Option.some.inj hf
      exact r_iret F hq dX0_indexAt_39 rfl rfl (Nat.le_refl _) (Nat.le_refl _) ⟨rfl, rfl⟩

def fX11_face (a40_0 : Int32) (a40_1 : Int32) (a42_0 : Int32) (A41 : Nat → Int32) (A43 : Nat → Int32) (p0 : Int32) (p1 : Int32) (p2 : Int32) : Option (Int32) :=
  (fX7_hasFace a40_0 a40_1 p0 p1).bind (fun q1 =>
  if q1 = true then
    if p2 < 0 then
      some (-1000000)
    else
      if p2 ≤ 2 then
        if p2 = 2 then
          (fX0_indexAt a42_0 A43 p0 p1).bind (fun q5 =>
          some q5)
        else
          (fX7_vectorOf a40_0 a40_1 A41 p0 p1 p2).bind (fun q3 =>
          some q3)
      else
        some (-1000000)
  else
    some (-1000000))
set_option maxRecDepth 100000 in
theorem tX11_face_32 {G : eG} (hG : e_GS G) {la : Launch} {h : Nat → eO} {nx : Nat} (hnx : 99 ≤ nx) {a32_8 : Bool} {a32_10 : Bool} {a40_0 : Int32} {a40_1 : Int32} {A41 : Nat → Int32} {a42_0 : Int32} {A43 : Nat → Int32} {p0 : Int32} {p1 : Int32} {p2 : Int32} (h32 : h 32 = o32 a32_8 a32_10) (h39 : h 39 = o39) (h40 : h 40 = o40 a40_0 a40_1) (h41 : h 41 = o41 A41) (h42 : h 42 = o42 a42_0) (h43 : h 43 = o43 A43) {R9 : Int32} (hf : fX11_face a40_0 a40_1 a42_0 A41 A43 p0 p1 p2 = some R9) :
    eSem G la MX11_face [.ref 32, .int p0, .int p1, .int p2] h nx 0 0 (fun r9 h9 => r9 = some (.int R9) ∧ h9 = h) := by
  refine eSem.of (k := 0) (L := [some (.ref 32), some (.int p0), some (.int p1), some (.int p2)]) (by decide +kernel) rfl rfl (fun X F hxl hq hcR hsR => ?_)
  subst hxl
  unfold fX11_face at hf
  refine r_aload_n F dX11_face_0 rfl ?_
  refine r_get F dX11_face_1 flX11_28 h32 rfl (e_le rfl) (e_lt hnx rfl) ?_
  refine r_get F dX11_face_4 flX11_141 h39 rfl (e_le rfl) (e_lt hnx rfl) ?_
  refine r_iload_n F dX11_face_7 rfl ?_
  refine r_iload_n F dX11_face_8 rfl ?_
  obtain ⟨q1, hq2, hf⟩ := e_bd hf
  refine r_callV F dX11_face_9 (b := 40) (dc := 0) (ds := 0) (As := [.int p0, .int p1]) (S0 := []) lkX11_188 mX7_hasFace (tX7_hasFace_40 hG (la := x_l X) (h := e_up h []) hnx h40 hq2) rfl rfl rfl (e_le rfl) (e_le rfl) (e_le rfl) h40 (ci := 7) e_cl7.1 rfl (e_le rfl) (e_lt hnx rfl) (Nat.zero_le _) (Nat.zero_le _) (e_k ?_)
  refine r_wr0 ?_
  refine r_z_eq F dX11_face_12 (tgt := 24) (by decide) (fun hc => ?_) (fun hc => ?_)
  · have hf := e_t hc hf
    refine r_iload_n F dX11_face_15 rfl ?_
    refine r_if_lt F dX11_face_16 (tgt := 24) (by decide) (fun hc => ?_) (fun hc => ?_)
    · have hf := e_t hc hf
      refine r_ldc F dX11_face_24 kcX11_140 ?_
      obtain rfl := Option.some.inj hf
      exact r_iret F hq dX11_face_26 rfl rfl (Nat.le_refl _) (Nat.le_refl _) ⟨rfl, rfl⟩
    · have hf := e_f hc hf
      refine r_iload_n F dX11_face_19 rfl ?_
      refine r_iconst F dX11_face_20 (v := 2) (by decide) ?_
      refine r_icmp_le F dX11_face_21 (tgt := 27) (by decide) (fun hc => ?_) (fun hc => ?_)
      · have hf := e_t hc hf
        refine r_iload_n F dX11_face_27 rfl ?_
        refine r_iconst F dX11_face_28 (v := 2) (by decide) ?_
        refine r_icmp_ne F dX11_face_29 (tgt := 47) (by decide) (fun hc => ?_) (fun hc => ?_)
        · have hf := e_f hc hf
          refine r_aload_n F dX11_face_47 rfl ?_
          refine r_get F dX11_face_48 flX11_28 h32 rfl (e_le rfl) (e_lt hnx rfl) ?_
          refine r_get F dX11_face_51 flX11_141 h39 rfl (e_le rfl) (e_lt hnx rfl) ?_
          refine r_iload_n F dX11_face_54 rfl ?_
          refine r_iload_n F dX11_face_55 rfl ?_
          refine r_iload_n F dX11_face_56 rfl ?_
          obtain ⟨q3, hq4, hf⟩ := e_bd hf
          refine r_callV F dX11_face_57 (b := 40) (dc := 0) (ds := 0) (As := [.int p0, .int p1, .int p2]) (S0 := []) lkX11_195 mX7_vectorOf (tX7_vectorOf_40 hG (la := x_l X) (h := e_up h []) hnx h40 h41 hq4) rfl rfl rfl (e_le rfl) (e_le rfl) (e_le rfl) h40 (ci := 7) e_cl7.1 rfl (e_le rfl) (e_lt hnx rfl) (Nat.zero_le _) (Nat.zero_le _) (e_k ?_)
          refine r_wr0 ?_
          obtain rfl := Option.some.inj hf
          exact r_iret F hq dX11_face_60 rfl rfl (Nat.le_refl _) (Nat.le_refl _) ⟨rfl, rfl⟩
        · have hf := e_t hc hf
          refine r_aload_n F dX11_face_32 rfl ?_
          refine r_get F dX11_face_33 flX11_28 h32 rfl (e_le rfl) (e_lt hnx rfl) ?_
          refine r_get F dX11_face_36 flX11_127 h39 rfl (e_le rfl) (e_lt hnx rfl) ?_
          refine r_iload_n F dX11_face_39 rfl ?_
          refine r_iload_n F dX11_face_40 rfl ?_
          obtain ⟨q5, hq6, hf⟩ := e_bd hf
          refine r_callV F dX11_face_41 (b := 42) (dc := 0) (ds := 0) (As := [.int p0, .int p1]) (S0 := []) lkX11_192 mX0_indexAt (tX0_indexAt_42 hG (la := x_l X) (h := e_up h []) hnx h42 h43 hq6) rfl rfl rfl (e_le rfl) (e_le rfl) (e_le rfl) h42 (ci := 0) e_cl0.1 rfl (e_le rfl) (e_lt hnx rfl) (Nat.zero_le _) (Nat.zero_le _) (e_k ?_)
          refine r_wr0 ?_
          refine r_goto F dX11_face_44 (tgt := 60) (by decide) ?_
          obtain rfl := Option.some.inj hf
          exact r_iret F hq dX11_face_60 rfl rfl (Nat.le_refl _) (Nat.le_refl _) ⟨rfl, rfl⟩
      · have hf := e_f hc hf
        refine r_ldc F dX11_face_24 kcX11_140 ?_
        obtain rfl := Option.some.inj hf
        exact r_iret F hq dX11_face_26 rfl rfl (Nat.le_refl _) (Nat.le_refl _) ⟨rfl, rfl⟩
  · have hf := e_f hc hf
    refine r_ldc F dX11_face_24 kcX11_140 ?_
    obtain rfl := Option.some.inj hf
    exact r_iret F hq dX11_face_26 rfl rfl (Nat.le_refl _) (Nat.le_refl _) ⟨rfl, rfl⟩

def fX9_byteAt (a33_1 : Int32) (A34 : Nat → Int32) (p0 : Int32) : Option (Int32) :=
  if p0 < 0 then
    some 0
  else
    if a33_1 ≤ p0 then
      some 0
    else
      if 300 ≤ p0 then
        some 0
      else
        e_g (e_in p0 300) (
        some (A34 (tn p0)))
set_option maxRecDepth 100000 in
theorem tX9_byteAt_33 {G : eG} (hG : e_GS G) {la : Launch} {h : Nat → eO} {nx : Nat} (hnx : 99 ≤ nx) {a33_1 : Int32} {A34 : Nat → Int32} {p0 : Int32} (h33 : h 33 = o33 a33_1) (h34 : h 34 = o34 A34) {R9 : Int32} (hf : fX9_byteAt a33_1 A34 p0 = some R9) :
    eSem G la MX9_byteAt [.ref 33, .int p0] h nx 0 0 (fun r9 h9 => r9 = some (.int R9) ∧ h9 = h) := by
  refine eSem.of (k := 0) (L := [some (.ref 33), some (.int p0)]) (by decide +kernel) rfl rfl (fun X F hxl hq hcR hsR => ?_)
  subst hxl
  unfold fX9_byteAt at hf
  refine r_iload_n F dX9_byteAt_0 rfl ?_
  refine r_if_lt F dX9_byteAt_1 (tgt := 28) (by decide) (fun hc => ?_) (fun hc => ?_)
  · have hf := e_t hc hf
    refine r_iconst F dX9_byteAt_28 (v := 0) (by decide) ?_
    obtain rfl := Option.some.inj hf
    exact r_iret F hq dX9_byteAt_29 rfl rfl (Nat.le_refl _) (Nat.le_refl _) ⟨rfl, rfl⟩
  · have hf := e_f hc hf
    refine r_iload_n F dX9_byteAt_4 rfl ?_
    refine r_aload_n F dX9_byteAt_5 rfl ?_
    refine r_get F dX9_byteAt_6 flX9_13 h33 rfl (e_le rfl) (e_lt hnx rfl) ?_
    refine r_icmp_ge F dX9_byteAt_9 (tgt := 28) (by decide) (fun hc => ?_) (fun hc => ?_)
    · have hf := e_t hc hf
      refine r_iconst F dX9_byteAt_28 (v := 0) (by decide) ?_
      obtain rfl := Option.some.inj hf
      exact r_iret F hq dX9_byteAt_29 rfl rfl (Nat.le_refl _) (Nat.le_refl _) ⟨rfl, rfl⟩
    · have hf := e_f hc hf
      refine r_iload_n F dX9_byteAt_12 rfl ?_
      refine r_sipush F dX9_byteAt_13 (v := 300) (by decide) ?_
      refine r_icmp_ge F dX9_byteAt_16 (tgt := 28) (by decide) (fun hc => ?_) (fun hc => ?_)
      · have hf := e_t hc hf
        refine r_iconst F dX9_byteAt_28 (v := 0) (by decide) ?_
        obtain rfl := Option.some.inj hf
        exact r_iret F hq dX9_byteAt_29 rfl rfl (Nat.le_refl _) (Nat.le_refl _) ⟨rfl, rfl⟩
      · have hf := e_f hc hf
        refine r_aload_n F dX9_byteAt_19 rfl ?_
        refine r_get F dX9_byteAt_20 flX9_9 h33 rfl (e_le rfl) (e_lt hnx rfl) ?_
        refine r_iload_n F dX9_byteAt_23 rfl ?_
        obtain ⟨hg, hf⟩ := e_gd hf
        refine r_iald F dX9_byteAt_24 (i := p0) h34 (e_le rfl) (e_lt hnx rfl) (e_vp hg) ?_
        refine r_goto F dX9_byteAt_25 (tgt := 29) (by decide) ?_
        obtain rfl := Option.some.inj hf
        exact r_iret F hq dX9_byteAt_29 rfl rfl (Nat.le_refl _) (Nat.le_refl _) ⟨rfl, rfl⟩

def fX5_nextByte (a33_1 : Int32) (a35_1 : Int32) (A34 : Nat → Int32)  : Option (Int32 × Int32) :=
  (e_loop (fun (v3 : Int32) => (
      if a33_1 ≤ v3 then
        some (.inr v3)
      else
        (fX9_byteAt a33_1 A34 v3).bind (fun q6 =>
        if q6 = 32 then
          some (.inl (v3 + 1))
        else
          some (.inr v3)) : Option ((Int32) ⊕ (Int32)))) e_fuel a35_1).bind (fun x4 =>
  (fX9_byteAt a33_1 A34 x4).bind (fun q8 =>
  some (q8, x4)))
set_option maxRecDepth 100000 in
theorem tX5_nextByte_35 {G : eG} (hG : e_GS G) {la : Launch} {h : Nat → eO} {nx : Nat} (hnx : 99 ≤ nx) {a33_1 : Int32} {A34 : Nat → Int32} {a35_1 : Int32} {a35_2 : Int32} {a35_3 : Int32} {a35_4 : Int32} {a35_5 : Int32} {a35_7 : Bool} {a35_8 : Bool} {a35_9 : Bool} {a35_10 : Int32}  (h33 : h 33 = o33 a33_1) (h34 : h 34 = o34 A34) (h35 : h 35 = o35 a35_1 a35_2 a35_3 a35_4 a35_5 a35_7 a35_8 a35_9 a35_10) {R9 : Int32 × Int32} (hf : fX5_nextByte a33_1 a35_1 A34  = some R9) :
    eSem G la MX5_nextByte [.ref 35] h nx 0 0 (fun r9 h9 => r9 = some (.int R9.1) ∧ h9 = e_up h [(35, o35 R9.2 a35_2 a35_3 a35_4 a35_5 a35_7 a35_8 a35_9 a35_10)]) := by
  refine eSem.of (k := 0) (L := [some (.ref 35)]) (by decide +kernel) rfl rfl (fun X F hxl hq hcR hsR => ?_)
  subst hxl
  unfold fX5_nextByte at hf
  refine r_mat (k := 35) h35 (l' := [(35, o35 a35_1 a35_2 a35_3 a35_4 a35_5 a35_7 a35_8 a35_9 a35_10)]) rfl ?_
  obtain ⟨x4, hx5, hf⟩ := e_bd hf
  refine (e_loop_ok (P := fun (v3 : Int32) => eRun G X 0 [some (.ref 35)] [] h [(35, o35 v3 a35_2 a35_3 a35_4 a35_5 a35_7 a35_8 a35_9 a35_10)] nx 0 0) (K := fun (x4 : Int32) => eRun G X 43 [some (.ref 35)] [] h [(35, o35 x4 a35_2 a35_3 a35_4 a35_5 a35_7 a35_8 a35_9 a35_10)] nx 0 0) ?_ e_fuel a35_1 x4 hx5 ?_ : _)
  · intro v3 z hz ih hx
    refine r_aload_n F dX5_nextByte_0 rfl ?_
    refine r_get F dX5_nextByte_1 flX5_25 rfl rfl (e_le rfl) (e_lt hnx rfl) ?_
    refine r_aload_n F dX5_nextByte_4 rfl ?_
    refine r_get F dX5_nextByte_5 flX5_21 rfl rfl (e_le rfl) (e_lt hnx rfl) ?_
    refine r_get F dX5_nextByte_8 flX5_118 h33 rfl (e_le rfl) (e_lt hnx rfl) ?_
    refine r_icmp_ge F dX5_nextByte_11 (tgt := 43) (by decide) (fun hc => ?_) (fun hc => ?_)
    · have hz := e_t hc hz
      obtain rfl := Option.some.inj hz
      exact hx v3 rfl
    · have hz := e_f hc hz
      refine r_aload_n F dX5_nextByte_14 rfl ?_
      refine r_get F dX5_nextByte_15 flX5_21 rfl rfl (e_le rfl) (e_lt hnx rfl) ?_
      refine r_aload_n F dX5_nextByte_18 rfl ?_
      refine r_get F dX5_nextByte_19 flX5_25 rfl rfl (e_le rfl) (e_lt hnx rfl) ?_
      obtain ⟨q6, hq7, hz⟩ := e_bd hz
      refine r_callV F dX5_nextByte_22 (b := 33) (dc := 0) (ds := 0) (As := [.int v3]) (S0 := []) lkX5_121 mX9_byteAt (tX9_byteAt_33 hG (la := x_l X) (h := e_up h [(35, o35 v3 a35_2 a35_3 a35_4 a35_5 a35_7 a35_8 a35_9 a35_10)]) hnx h33 h34 hq7) rfl rfl rfl (e_le rfl) (e_le rfl) (e_le rfl) h33 (ci := 9) e_cl9.1 rfl (e_le rfl) (e_lt hnx rfl) (Nat.zero_le _) (Nat.zero_le _) (e_k ?_)
      refine r_wr0 ?_
      refine r_bipush F dX5_nextByte_25 (v := 32) (by decide) ?_
      refine r_icmp_ne F dX5_nextByte_27 (tgt := 43) (by decide) (fun hc => ?_) (fun hc => ?_)
      · have hz := e_f hc hz
        obtain rfl := Option.some.inj hz
        exact hx v3 rfl
      · have hz := e_t hc hz
        refine r_aload_n F dX5_nextByte_30 rfl ?_
        refine r_dup F dX5_nextByte_31 rfl ?_
        refine r_get F dX5_nextByte_32 flX5_25 rfl rfl (e_le rfl) (e_lt hnx rfl) ?_
        refine r_iconst F dX5_nextByte_35 (v := 1) (by decide) ?_
        refine r_iadd F dX5_nextByte_36 ?_
        refine r_put F dX5_nextByte_37 flX5_25 rfl rfl rfl rfl (e_le rfl) (e_le rfl) (e_lt hnx rfl) (l' := [(35, o35 (v3 + 1) a35_2 a35_3 a35_4 a35_5 a35_7 a35_8 a35_9 a35_10)]) rfl ?_
        refine r_goto F dX5_nextByte_40 (tgt := 0) (by decide) ?_
        obtain rfl := Option.some.inj hz
        exact ih (v3 + 1) rfl
  · show eRun G X 43 [some (.ref 35)] [] h [(35, o35 x4 a35_2 a35_3 a35_4 a35_5 a35_7 a35_8 a35_9 a35_10)] nx 0 0
    refine r_aload_n F dX5_nextByte_43 rfl ?_
    refine r_get F dX5_nextByte_44 flX5_21 rfl rfl (e_le rfl) (e_lt hnx rfl) ?_
    refine r_aload_n F dX5_nextByte_47 rfl ?_
    refine r_get F dX5_nextByte_48 flX5_25 rfl rfl (e_le rfl) (e_lt hnx rfl) ?_
    obtain ⟨q8, hq9, hf⟩ := e_bd hf
    refine r_callV F dX5_nextByte_51 (b := 33) (dc := 0) (ds := 0) (As := [.int x4]) (S0 := []) lkX5_121 mX9_byteAt (tX9_byteAt_33 hG (la := x_l X) (h := e_up h [(35, o35 x4 a35_2 a35_3 a35_4 a35_5 a35_7 a35_8 a35_9 a35_10)]) hnx h33 h34 hq9) rfl rfl rfl (e_le rfl) (e_le rfl) (e_le rfl) h33 (ci := 9) e_cl9.1 rfl (e_le rfl) (e_lt hnx rfl) (Nat.zero_le _) (Nat.zero_le _) (e_k ?_)
    refine r_wr0 ?_
    obtain rfl := Option.some.inj hf
    exact r_iret F hq dX5_nextByte_54 rfl rfl (Nat.le_refl _) (Nat.le_refl _) ⟨rfl, rfl⟩

def fX5_readWord (a33_1 : Int32) (a35_1 : Int32) (a35_2 : Int32) (A34 : Nat → Int32)  : Option (Int32 × Int32) :=
  (fX5_nextByte a33_1 a35_1 A34).bind (fun q1 =>
  (e_loop (fun (v5 : Int32) => (
      if a33_1 ≤ v5 then
        some (.inr v5)
      else
        (fX9_byteAt a33_1 A34 v5).bind (fun q8 =>
        if q8 < 97 then
          some (.inr v5)
        else
          (fX9_byteAt a33_1 A34 v5).bind (fun q10 =>
          if 122 < q10 then
            some (.inr v5)
          else
            some (.inl (v5 + 1)))) : Option ((Int32) ⊕ (Int32)))) e_fuel q1.2).bind (fun x6 =>
  some (x6, q1.2)))
set_option maxRecDepth 100000 in
theorem tX5_readWord_35 {G : eG} (hG : e_GS G) {la : Launch} {h : Nat → eO} {nx : Nat} (hnx : 99 ≤ nx) {a33_1 : Int32} {A34 : Nat → Int32} {a35_1 : Int32} {a35_2 : Int32} {a35_3 : Int32} {a35_4 : Int32} {a35_5 : Int32} {a35_7 : Bool} {a35_8 : Bool} {a35_9 : Bool} {a35_10 : Int32}  (h33 : h 33 = o33 a33_1) (h34 : h 34 = o34 A34) (h35 : h 35 = o35 a35_1 a35_2 a35_3 a35_4 a35_5 a35_7 a35_8 a35_9 a35_10) {R9 : Int32 × Int32} (hf : fX5_readWord a33_1 a35_1 a35_2 A34  = some R9) :
    eSem G la MX5_readWord [.ref 35] h nx 0 0 (fun r9 h9 => r9 = none ∧ h9 = e_up h [(35, o35 R9.1 R9.2 a35_3 a35_4 a35_5 a35_7 a35_8 a35_9 a35_10)]) := by
  refine eSem.of (k := 0) (L := [some (.ref 35)]) (by decide +kernel) rfl rfl (fun X F hxl hq hcR hsR => ?_)
  subst hxl
  unfold fX5_readWord at hf
  refine r_aload_n F dX5_readWord_0 rfl ?_
  obtain ⟨q1, hq2, hf⟩ := e_bd hf
  refine r_callV F dX5_readWord_1 (b := 35) (dc := 0) (ds := 0) (As := []) (S0 := []) lkX5_59 mX5_nextByte (tX5_nextByte_35 hG (la := x_l X) (h := e_up h []) hnx h33 h34 h35 hq2) rfl rfl rfl (e_le rfl) (e_le rfl) (e_le rfl) h35 (ci := 5) e_cl5.1 rfl (e_le rfl) (e_lt hnx rfl) (Nat.zero_le _) (Nat.zero_le _) (e_k ?_)
  refine r_wr (l' := [(35, o35 q1.2 a35_2 a35_3 a35_4 a35_5 a35_7 a35_8 a35_9 a35_10)]) rfl rfl ?_
  refine r_pop F dX5_readWord_4 rfl ?_
  refine r_aload_n F dX5_readWord_5 rfl ?_
  refine r_aload_n F dX5_readWord_6 rfl ?_
  refine r_get F dX5_readWord_7 flX5_25 rfl rfl (e_le rfl) (e_lt hnx rfl) ?_
  refine r_put F dX5_readWord_10 flX5_78 rfl rfl rfl rfl (e_le rfl) (e_le rfl) (e_lt hnx rfl) (l' := [(35, o35 q1.2 q1.2 a35_3 a35_4 a35_5 a35_7 a35_8 a35_9 a35_10)]) rfl ?_
  obtain ⟨x6, hx7, hf⟩ := e_bd hf
  refine (e_loop_ok (P := fun (v5 : Int32) => eRun G X 13 [some (.ref 35)] [] h [(35, o35 v5 q1.2 a35_3 a35_4 a35_5 a35_7 a35_8 a35_9 a35_10)] nx 0 0) (K := fun (x6 : Int32) => eRun G X 72 [none] [] h [(35, o35 x6 q1.2 a35_3 a35_4 a35_5 a35_7 a35_8 a35_9 a35_10)] nx 0 0) ?_ e_fuel q1.2 x6 hx7 ?_ : _)
  · intro v5 z hz ih hx
    refine r_aload_n F dX5_readWord_13 rfl ?_
    refine r_get F dX5_readWord_14 flX5_25 rfl rfl (e_le rfl) (e_lt hnx rfl) ?_
    refine r_aload_n F dX5_readWord_17 rfl ?_
    refine r_get F dX5_readWord_18 flX5_21 rfl rfl (e_le rfl) (e_lt hnx rfl) ?_
    refine r_get F dX5_readWord_21 flX5_118 h33 rfl (e_le rfl) (e_lt hnx rfl) ?_
    refine r_icmp_ge F dX5_readWord_24 (tgt := 72) (by decide) (fun hc => ?_) (fun hc => ?_)
    · have hz := e_t hc hz
      refine r_drop 0 (L' := [none]) rfl ?_
      obtain rfl := Option.some.inj hz
      exact hx v5 rfl
    · have hz := e_f hc hz
      refine r_aload_n F dX5_readWord_27 rfl ?_
      refine r_get F dX5_readWord_28 flX5_21 rfl rfl (e_le rfl) (e_lt hnx rfl) ?_
      refine r_aload_n F dX5_readWord_31 rfl ?_
      refine r_get F dX5_readWord_32 flX5_25 rfl rfl (e_le rfl) (e_lt hnx rfl) ?_
      obtain ⟨q8, hq9, hz⟩ := e_bd hz
      refine r_callV F dX5_readWord_35 (b := 33) (dc := 0) (ds := 0) (As := [.int v5]) (S0 := []) lkX5_121 mX9_byteAt (tX9_byteAt_33 hG (la := x_l X) (h := e_up h [(35, o35 v5 q1.2 a35_3 a35_4 a35_5 a35_7 a35_8 a35_9 a35_10)]) hnx h33 h34 hq9) rfl rfl rfl (e_le rfl) (e_le rfl) (e_le rfl) h33 (ci := 9) e_cl9.1 rfl (e_le rfl) (e_lt hnx rfl) (Nat.zero_le _) (Nat.zero_le _) (e_k ?_)
      refine r_wr0 ?_
      refine r_bipush F dX5_readWord_38 (v := 97) (by decide) ?_
      refine r_icmp_lt F dX5_readWord_40 (tgt := 72) (by decide) (fun hc => ?_) (fun hc => ?_)
      · have hz := e_t hc hz
        refine r_drop 0 (L' := [none]) rfl ?_
        obtain rfl := Option.some.inj hz
        exact hx v5 rfl
      · have hz := e_f hc hz
        refine r_aload_n F dX5_readWord_43 rfl ?_
        refine r_get F dX5_readWord_44 flX5_21 rfl rfl (e_le rfl) (e_lt hnx rfl) ?_
        refine r_aload_n F dX5_readWord_47 rfl ?_
        refine r_get F dX5_readWord_48 flX5_25 rfl rfl (e_le rfl) (e_lt hnx rfl) ?_
        obtain ⟨q10, hq11, hz⟩ := e_bd hz
        refine r_callV F dX5_readWord_51 (b := 33) (dc := 0) (ds := 0) (As := [.int v5]) (S0 := []) lkX5_121 mX9_byteAt (tX9_byteAt_33 hG (la := x_l X) (h := e_up h [(35, o35 v5 q1.2 a35_3 a35_4 a35_5 a35_7 a35_8 a35_9 a35_10)]) hnx h33 h34 hq11) rfl rfl rfl (e_le rfl) (e_le rfl) (e_le rfl) h33 (ci := 9) e_cl9.1 rfl (e_le rfl) (e_lt hnx rfl) (Nat.zero_le _) (Nat.zero_le _) (e_k ?_)
        refine r_wr0 ?_
        refine r_bipush F dX5_readWord_54 (v := 122) (by decide) ?_
        refine r_icmp_gt F dX5_readWord_56 (tgt := 72) (by decide) (fun hc => ?_) (fun hc => ?_)
        · have hz := e_t hc hz
          refine r_drop 0 (L' := [none]) rfl ?_
          obtain rfl := Option.some.inj hz
          exact hx v5 rfl
        · have hz := e_f hc hz
          refine r_aload_n F dX5_readWord_59 rfl ?_
          refine r_dup F dX5_readWord_60 rfl ?_
          refine r_get F dX5_readWord_61 flX5_25 rfl rfl (e_le rfl) (e_lt hnx rfl) ?_
          refine r_iconst F dX5_readWord_64 (v := 1) (by decide) ?_
          refine r_iadd F dX5_readWord_65 ?_
          refine r_put F dX5_readWord_66 flX5_25 rfl rfl rfl rfl (e_le rfl) (e_le rfl) (e_lt hnx rfl) (l' := [(35, o35 (v5 + 1) q1.2 a35_3 a35_4 a35_5 a35_7 a35_8 a35_9 a35_10)]) rfl ?_
          refine r_goto F dX5_readWord_69 (tgt := 13) (by decide) ?_
          obtain rfl := Option.some.inj hz
          exact ih (v5 + 1) rfl
  · show eRun G X 72 [none] [] h [(35, o35 x6 q1.2 a35_3 a35_4 a35_5 a35_7 a35_8 a35_9 a35_10)] nx 0 0
    obtain rfl := Option.some.inj hf
    exact r_vret F hq dX5_readWord_72 rfl rfl (Nat.le_refl _) (Nat.le_refl _) ⟨rfl, rfl⟩

def fJ0_coder_7d493_s8   : Option (Int32) :=
  some 0
set_option maxRecDepth 100000 in
theorem tJ0_coder_7d493_8 {G : eG} (hG : e_GS G) {la : Launch} {h : Nat → eO} {nx : Nat} (hnx : 99 ≤ nx)    {R9 : Int32} (hf : fJ0_coder_7d493_s8   = some R9) :
    eSem G la MJ0_coder_7d493 [.ref 8] h nx 0 0 (fun r9 h9 => r9 = some (.int R9) ∧ h9 = h) := by
  refine eSem.of (k := 0) (L := [some (.ref 8)]) (by decide +kernel) rfl rfl (fun X F hxl hq hcR hsR => ?_)
  subst hxl
  unfold fJ0_coder_7d493_s8 at hf
  refine r_gets F dJ0_coder_7d493_0 (C := "java/lang/String") (n := "COMPACT_STRINGS") (d := "Z") (v := .int 1) (by decide +kernel) fsJ0_38 ?_
  refine r_if_eq_f F dJ0_coder_7d493_3 (tgt := 13) (by decide) (by decide) ?_
  refine r_aload_n F dJ0_coder_7d493_6 rfl ?_
  refine r_getC F dJ0_coder_7d493_7 (i := 0) (by decide) fsJ0_15 ?_
  refine r_goto F dJ0_coder_7d493_10 (tgt := 14) (by decide) ?_
  obtain rfl := Option.some.inj hf
  exact r_nret F hq dJ0_coder_7d493_14 rfl (by decide) rfl (Nat.le_refl _) (Nat.le_refl _) ⟨rfl, rfl⟩

def fJ0_length_8abf5_s8   : Option (Int32) :=
  (fJ0_coder_7d493_s8 ).bind (fun q1 =>
  some ((4 : Int32) >>> (q1 &&& 31)))
set_option maxRecDepth 100000 in
theorem tJ0_length_8abf5_8 {G : eG} (hG : e_GS G) {la : Launch} {h : Nat → eO} {nx : Nat} (hnx : 99 ≤ nx)    {R9 : Int32} (hf : fJ0_length_8abf5_s8   = some R9) :
    eSem G la MJ0_length_8abf5 [.ref 8] h nx 0 0 (fun r9 h9 => r9 = some (.int R9) ∧ h9 = h) := by
  refine eSem.of (k := 0) (L := [some (.ref 8)]) (by decide +kernel) rfl rfl (fun X F hxl hq hcR hsR => ?_)
  subst hxl
  unfold fJ0_length_8abf5_s8 at hf
  refine r_aload_n F dJ0_length_8abf5_0 rfl ?_
  refine r_getV F dJ0_length_8abf5_1 (i := 0) (by decide) fsJ0_9 ?_
  refine r_alenS F dJ0_length_8abf5_4 (hG.s16) (v := 4) rfl ?_
  refine r_aload_n F dJ0_length_8abf5_5 rfl ?_
  obtain ⟨q1, hq2, hf⟩ := e_bd hf
  refine r_callT F dJ0_length_8abf5_6 (i := 0) (dc := 0) (ds := 0) (As := []) (S0 := [.int 4]) lkJ0_335 mJ0_coder_7d493 (tJ0_coder_7d493_8 hG (la := x_l X) (h := e_up h []) hnx  hq2) rfl rfl rfl (e_le rfl) (e_le rfl) (e_le rfl) rfl (by decide) (Nat.zero_le _) (Nat.zero_le _) (e_k ?_)
  refine r_wr0 ?_
  refine r_ishr F dJ0_length_8abf5_9 ?_
  obtain rfl := Option.some.inj hf
  exact r_iret F hq dJ0_length_8abf5_10 rfl rfl (Nat.le_refl _) (Nat.le_refl _) ⟨rfl, rfl⟩

def fJ0_isLatin1_aae02_s8   : Option (Bool) :=
  some true
set_option maxRecDepth 100000 in
theorem tJ0_isLatin1_aae02_8 {G : eG} (hG : e_GS G) {la : Launch} {h : Nat → eO} {nx : Nat} (hnx : 99 ≤ nx)    {R9 : Bool} (hf : fJ0_isLatin1_aae02_s8   = some R9) :
    eSem G la MJ0_isLatin1_aae02 [.ref 8] h nx 0 0 (fun r9 h9 => r9 = some (.int (e_b R9)) ∧ h9 = h) := by
  refine eSem.of (k := 0) (L := [some (.ref 8)]) (by decide +kernel) rfl rfl (fun X F hxl hq hcR hsR => ?_)
  subst hxl
  unfold fJ0_isLatin1_aae02_s8 at hf
  refine r_gets F dJ0_isLatin1_aae02_0 (C := "java/lang/String") (n := "COMPACT_STRINGS") (d := "Z") (v := .int 1) (by decide +kernel) fsJ0_38 ?_
  refine r_if_eq_f F dJ0_isLatin1_aae02_3 (tgt := 17) (by decide) (by decide) ?_
  refine r_aload_n F dJ0_isLatin1_aae02_6 rfl ?_
  refine r_getC F dJ0_isLatin1_aae02_7 (i := 0) (by decide) fsJ0_15 ?_
  refine r_if_ne_f F dJ0_isLatin1_aae02_10 (tgt := 17) (by decide) (by decide) ?_
  refine r_iconst F dJ0_isLatin1_aae02_13 (v := 1) (by decide) ?_
  refine r_goto F dJ0_isLatin1_aae02_14 (tgt := 18) (by decide) ?_
  obtain rfl := Option.some.inj hf
  exact r_zret F hq (v := true) dJ0_isLatin1_aae02_18 rfl rfl (Nat.le_refl _) (Nat.le_refl _) ⟨rfl, rfl⟩

def fJ3_checkIndex_8e157  (p0 : Int32) (p1 : Int32) : Option (Int32) :=
  if p0 < 0 then
    none
  else
    if p0 < p1 then
      some p0
    else
      none
set_option maxRecDepth 100000 in
theorem tJ3_checkIndex_8e157 {G : eG} (hG : e_GS G) {la : Launch} {h : Nat → eO} {nx : Nat} (hnx : 99 ≤ nx)  {p0 : Int32} {p1 : Int32} {v6 : Value} (hv6 : v6 = .null ∨ v6 = .ref 6) {R9 : Int32} (hf : fJ3_checkIndex_8e157  p0 p1 = some R9) :
    eSem G la MJ3_checkIndex_8e157 [.int p0, .int p1, v6] h nx 0 0 (fun r9 h9 => r9 = some (.int R9) ∧ h9 = h) := by
  have he : e_en [.int p0, .int p1, v6] = [some (.int p0), some (.int p1), some v6] := by rcases hv6 with rfl | rfl <;> rfl
  refine eSem.of (k := 0) (L := [some (.int p0), some (.int p1), some v6]) (by decide +kernel) (by rw [he]; rfl) rfl (fun X F hxl hq hcR hsR => ?_)
  subst hxl
  unfold fJ3_checkIndex_8e157 at hf
  refine r_iload_n F dJ3_checkIndex_8e157_0 rfl ?_
  refine r_if_lt F dJ3_checkIndex_8e157_1 (tgt := 9) (by decide) (fun hc => ?_) (fun hc => ?_)
  · have hf := e_t hc hf
    cases hf
  · have hf := e_f hc hf
    refine r_iload_n F dJ3_checkIndex_8e157_4 rfl ?_
    refine r_iload_n F dJ3_checkIndex_8e157_5 rfl ?_
    refine r_icmp_lt F dJ3_checkIndex_8e157_6 (tgt := 16) (by decide) (fun hc => ?_) (fun hc => ?_)
    · have hf := e_t hc hf
      refine r_iload_n F dJ3_checkIndex_8e157_16 rfl ?_
      obtain rfl := Option.some.inj hf
      exact r_iret F hq dJ3_checkIndex_8e157_17 rfl rfl (Nat.le_refl _) (Nat.le_refl _) ⟨rfl, rfl⟩
    · have hf := e_f hc hf
      cases hf

def fJ0_checkIndex_df160  (p0 : Int32) (p1 : Int32) : Option (Unit) :=
  (fJ3_checkIndex_8e157 p0 p1).bind (fun q1 =>
  some ())
set_option maxRecDepth 100000 in
theorem tJ0_checkIndex_df160 {G : eG} (hG : e_GS G) {la : Launch} {h : Nat → eO} {nx : Nat} (hnx : 99 ≤ nx)  {p0 : Int32} {p1 : Int32}  {R9 : Unit} (hf : fJ0_checkIndex_df160  p0 p1 = some R9) :
    eSem G la MJ0_checkIndex_df160 [.int p0, .int p1] h nx 0 0 (fun r9 h9 => r9 = none ∧ h9 = h) := by
  refine eSem.of (k := 0) (L := [some (.int p0), some (.int p1)]) (by decide +kernel) rfl rfl (fun X F hxl hq hcR hsR => ?_)
  subst hxl
  unfold fJ0_checkIndex_df160 at hf
  refine r_iload_n F dJ0_checkIndex_df160_0 rfl ?_
  refine r_iload_n F dJ0_checkIndex_df160_1 rfl ?_
  refine r_getsQ F dJ0_checkIndex_df160_2 fsJ0_1053 (fun v6 hv6 => ?_)
  obtain ⟨q1, hq2, hf⟩ := e_bd hf
  refine r_callS F dJ0_checkIndex_df160_5 (dc := 0) (ds := 0) (As := [.int p0, .int p1, v6]) (S0 := []) lkJ0_1059 mJ3_checkIndex_8e157 (tJ3_checkIndex_8e157 hG (la := x_l X) (h := e_up h []) hnx hv6 hq2) rfl rfl rfl (e_le rfl) (e_le rfl) (e_le rfl) (Nat.zero_le _) (Nat.zero_le _) (e_k ?_)
  refine r_wr0 ?_
  refine r_pop F dJ0_checkIndex_df160_8 rfl ?_
  obtain rfl := Option.some.inj hf
  exact r_vret F hq dJ0_checkIndex_df160_9 rfl rfl (Nat.le_refl _) (Nat.le_refl _) ⟨rfl, rfl⟩

def fJ1_charAt_3b067_s16  (p1 : Int32) : Option (Int32) :=
  (fJ0_checkIndex_df160 p1 4).bind (fun q1 =>
  e_g (e_in p1 4) (
  e_g (e_nar .char ((Int32.toUInt32 ((sB0 (tn p1)) &&& 255) % 65536).toInt32)) (
  some ((Int32.toUInt32 ((sB0 (tn p1)) &&& 255) % 65536).toInt32))))
set_option maxRecDepth 100000 in
theorem tJ1_charAt_3b067_16 {G : eG} (hG : e_GS G) {la : Launch} {h : Nat → eO} {nx : Nat} (hnx : 99 ≤ nx)  {p1 : Int32}  {R9 : Int32} (hf : fJ1_charAt_3b067_s16  p1 = some R9) :
    eSem G la MJ1_charAt_3b067 [.ref 16, .int p1] h nx 0 0 (fun r9 h9 => r9 = some (.int R9) ∧ h9 = h) := by
  refine eSem.of (k := 0) (L := [some (.ref 16), some (.int p1)]) (by decide +kernel) rfl rfl (fun X F hxl hq hcR hsR => ?_)
  subst hxl
  unfold fJ1_charAt_3b067_s16 at hf
  refine r_iload_n F dJ1_charAt_3b067_0 rfl ?_
  refine r_aload_n F dJ1_charAt_3b067_1 rfl ?_
  refine r_alenS F dJ1_charAt_3b067_2 (hG.s16) (v := 4) rfl ?_
  obtain ⟨q1, hq2, hf⟩ := e_bd hf
  refine r_callS F dJ1_charAt_3b067_3 (dc := 0) (ds := 0) (As := [.int p1, .int 4]) (S0 := []) lkJ1_9 mJ0_checkIndex_df160 (tJ0_checkIndex_df160 hG (la := x_l X) (h := e_up h []) hnx  hq2) rfl rfl rfl (e_le rfl) (e_le rfl) (e_le rfl) (Nat.zero_le _) (Nat.zero_le _) (e_k ?_)
  refine r_wr0 ?_
  refine r_aload_n F dJ1_charAt_3b067_6 rfl ?_
  refine r_iload_n F dJ1_charAt_3b067_7 rfl ?_
  obtain ⟨hg, hf⟩ := e_gd hf
  refine r_baldS F dJ1_charAt_3b067_8 (i := p1) (hG.s16) (e_vp hg) ?_
  refine r_sipush F dJ1_charAt_3b067_9 (v := 255) (by decide) ?_
  refine r_iand F dJ1_charAt_3b067_12 ?_
  refine r_i2c F dJ1_charAt_3b067_13 ?_
  obtain ⟨hg, hf⟩ := e_gd hf
  obtain rfl := Option.some.inj hf
  exact r_nret F hq dJ1_charAt_3b067_14 rfl (of_decide_eq_true hg) rfl (Nat.le_refl _) (Nat.le_refl _) ⟨rfl, rfl⟩

def fJ0_charAt_5068e_s8  (p0 : Int32) : Option (Int32) :=
  (fJ0_isLatin1_aae02_s8 ).bind (fun q1 =>
  if q1 = true then
    (fJ1_charAt_3b067_s16 p0).bind (fun q3 =>
    e_g (e_nar .char q3) (
    some q3))
  else
    none)
set_option maxRecDepth 100000 in
theorem tJ0_charAt_5068e_8 {G : eG} (hG : e_GS G) {la : Launch} {h : Nat → eO} {nx : Nat} (hnx : 99 ≤ nx)  {p0 : Int32}  {R9 : Int32} (hf : fJ0_charAt_5068e_s8  p0 = some R9) :
    eSem G la MJ0_charAt_5068e [.ref 8, .int p0] h nx 0 0 (fun r9 h9 => r9 = some (.int R9) ∧ h9 = h) := by
  refine eSem.of (k := 0) (L := [some (.ref 8), some (.int p0)]) (by decide +kernel) rfl rfl (fun X F hxl hq hcR hsR => ?_)
  subst hxl
  unfold fJ0_charAt_5068e_s8 at hf
  refine r_aload_n F dJ0_charAt_5068e_0 rfl ?_
  obtain ⟨q1, hq2, hf⟩ := e_bd hf
  refine r_callT F dJ0_charAt_5068e_1 (i := 0) (dc := 0) (ds := 0) (As := []) (S0 := []) lkJ0_492 mJ0_isLatin1_aae02 (tJ0_isLatin1_aae02_8 hG (la := x_l X) (h := e_up h []) hnx  hq2) rfl rfl rfl (e_le rfl) (e_le rfl) (e_le rfl) rfl (by decide) (Nat.zero_le _) (Nat.zero_le _) (e_k ?_)
  refine r_wr0 ?_
  refine r_z_eq F dJ0_charAt_5068e_4 (tgt := 16) (by decide) (fun hc => ?_) (fun hc => ?_)
  · have hf := e_t hc hf
    refine r_aload_n F dJ0_charAt_5068e_7 rfl ?_
    refine r_getV F dJ0_charAt_5068e_8 (i := 0) (by decide) fsJ0_9 ?_
    refine r_iload_n F dJ0_charAt_5068e_11 rfl ?_
    obtain ⟨q3, hq4, hf⟩ := e_bd hf
    refine r_callS F dJ0_charAt_5068e_12 (dc := 0) (ds := 0) (As := [.ref 16, .int p0]) (S0 := []) lkJ0_495 mJ1_charAt_3b067 (tJ1_charAt_3b067_16 hG (la := x_l X) (h := e_up h []) hnx  hq4) rfl rfl rfl (e_le rfl) (e_le rfl) (e_le rfl) (Nat.zero_le _) (Nat.zero_le _) (e_k ?_)
    refine r_wr0 ?_
    obtain ⟨hg, hf⟩ := e_gd hf
    obtain rfl := Option.some.inj hf
    exact r_nret F hq dJ0_charAt_5068e_15 rfl (of_decide_eq_true hg) rfl (Nat.le_refl _) (Nat.le_refl _) ⟨rfl, rfl⟩
  · have hf := e_f hc hf
    refine r_aload_n F dJ0_charAt_5068e_16 rfl ?_
    refine r_getV F dJ0_charAt_5068e_17 (i := 0) (by decide) fsJ0_9 ?_
    refine r_iload_n F dJ0_charAt_5068e_20 rfl ?_
    cases hf

def fX5_spells_s8 (a33_1 : Int32) (a35_1 : Int32) (a35_2 : Int32) (A34 : Nat → Int32)  : Option (Bool) :=
  (fJ0_length_8abf5_s8 ).bind (fun q1 =>
  if (a35_1 - a35_2) = q1 then
    (e_loop (fun (v5 : Int32) => (
        (fJ0_length_8abf5_s8 ).bind (fun q8 =>
        if q8 ≤ v5 then
          some (.inr (.inl ()))
        else
          (fX9_byteAt a33_1 A34 (a35_2 + v5)).bind (fun q10 =>
          (fJ0_charAt_5068e_s8 v5).bind (fun q12 =>
          if q10 = q12 then
            some (.inl (v5 + 1))
          else
            some (.inr (.inr false))))) : Option ((Int32) ⊕ ((Unit) ⊕ (Bool))))) e_fuel 0).bind (fun x6 => Sum.elim (fun x6e =>
      some true) (fun r9 => some r9) x6)
  else
    some false)
set_option maxRecDepth 100000 in
theorem tX5_spells_35_8 {G : eG} (hG : e_GS G) {la : Launch} {h : Nat → eO} {nx : Nat} (hnx : 99 ≤ nx) {a33_1 : Int32} {A34 : Nat → Int32} {a35_1 : Int32} {a35_2 : Int32} {a35_3 : Int32} {a35_4 : Int32} {a35_5 : Int32} {a35_7 : Bool} {a35_8 : Bool} {a35_9 : Bool} {a35_10 : Int32}  (h33 : h 33 = o33 a33_1) (h34 : h 34 = o34 A34) (h35 : h 35 = o35 a35_1 a35_2 a35_3 a35_4 a35_5 a35_7 a35_8 a35_9 a35_10) {R9 : Bool} (hf : fX5_spells_s8 a33_1 a35_1 a35_2 A34  = some R9) :
    eSem G la MX5_spells [.ref 35, .ref 8] h nx 0 0 (fun r9 h9 => r9 = some (.int (e_b R9)) ∧ h9 = h) := by
  refine eSem.of (k := 1) (L := [some (.ref 35), some (.ref 8), none]) (by decide +kernel) rfl rfl (fun X F hxl hq hcR hsR => ?_)
  subst hxl
  unfold fX5_spells_s8 at hf
  refine r_aload_n F dX5_spells_0 rfl ?_
  refine r_get F dX5_spells_1 flX5_25 h35 rfl (e_le rfl) (e_lt hnx rfl) ?_
  refine r_aload_n F dX5_spells_4 rfl ?_
  refine r_get F dX5_spells_5 flX5_78 h35 rfl (e_le rfl) (e_lt hnx rfl) ?_
  refine r_isub F dX5_spells_8 ?_
  refine r_aload_n F dX5_spells_9 rfl ?_
  obtain ⟨q1, hq2, hf⟩ := e_bd hf
  refine r_callT F dX5_spells_10 (i := 0) (dc := 0) (ds := 0) (As := []) (S0 := [.int (a35_1 - a35_2)]) lkX5_125 mJ0_length_8abf5 (tJ0_length_8abf5_8 hG (la := x_l X) (h := e_up h []) hnx  hq2) rfl rfl rfl (e_le rfl) (e_le rfl) (e_le rfl) rfl (by decide) (Nat.zero_le _) (Nat.zero_le _) (e_k ?_)
  refine r_wr0 ?_
  refine r_icmp_eq F dX5_spells_13 (tgt := 18) (by decide) (fun hc => ?_) (fun hc => ?_)
  · have hf := e_t hc hf
    refine r_iconst F dX5_spells_18 (v := 0) (by decide) ?_
    refine r_istore_n F dX5_spells_19 (e_le rfl) (L' := [some (.ref 35), some (.ref 8), some (.int 0)]) rfl ?_
    obtain ⟨x6, hx7, hf⟩ := e_bd hf
    refine (e_loop_ok (P := fun (v5 : Int32) => eRun G X 20 [some (.ref 35), some (.ref 8), some (.int v5)] [] h [] nx 0 0) (K := fun (x6 : (Unit) ⊕ (Bool)) => Sum.elim (fun x6e => eRun G X 57 [none, none, none] [] h [] nx 0 0) (fun r9 => r9 = R9) x6) ?_ e_fuel 0 x6 hx7 ?_ : _)
    · intro v5 z hz ih hx
      refine r_iload_n F dX5_spells_20 rfl ?_
      refine r_aload_n F dX5_spells_21 rfl ?_
      obtain ⟨q8, hq9, hz⟩ := e_bd hz
      refine r_callT F dX5_spells_22 (i := 0) (dc := 0) (ds := 0) (As := []) (S0 := [.int v5]) lkX5_125 mJ0_length_8abf5 (tJ0_length_8abf5_8 hG (la := x_l X) (h := e_up h []) hnx  hq9) rfl rfl rfl (e_le rfl) (e_le rfl) (e_le rfl) rfl (by decide) (Nat.zero_le _) (Nat.zero_le _) (e_k ?_)
      refine r_wr0 ?_
      refine r_icmp_ge F dX5_spells_25 (tgt := 57) (by decide) (fun hc => ?_) (fun hc => ?_)
      · have hz := e_t hc hz
        refine r_drop 0 (L' := [none, some (.ref 8), some (.int v5)]) rfl ?_
        refine r_drop 1 (L' := [none, none, some (.int v5)]) rfl ?_
        refine r_drop 2 (L' := [none, none, none]) rfl ?_
        obtain rfl := Option.some.inj hz
        exact hx (.inl ()) rfl
      · have hz := e_f hc hz
        refine r_aload_n F dX5_spells_28 rfl ?_
        refine r_get F dX5_spells_29 flX5_21 h35 rfl (e_le rfl) (e_lt hnx rfl) ?_
        refine r_aload_n F dX5_spells_32 rfl ?_
        refine r_get F dX5_spells_33 flX5_78 h35 rfl (e_le rfl) (e_lt hnx rfl) ?_
        refine r_iload_n F dX5_spells_36 rfl ?_
        refine r_iadd F dX5_spells_37 ?_
        obtain ⟨q10, hq11, hz⟩ := e_bd hz
        refine r_callV F dX5_spells_38 (b := 33) (dc := 0) (ds := 0) (As := [.int (a35_2 + v5)]) (S0 := []) lkX5_121 mX9_byteAt (tX9_byteAt_33 hG (la := x_l X) (h := e_up h []) hnx h33 h34 hq11) rfl rfl rfl (e_le rfl) (e_le rfl) (e_le rfl) h33 (ci := 9) e_cl9.1 rfl (e_le rfl) (e_lt hnx rfl) (Nat.zero_le _) (Nat.zero_le _) (e_k ?_)
        refine r_wr0 ?_
        refine r_aload_n F dX5_spells_41 rfl ?_
        refine r_iload_n F dX5_spells_42 rfl ?_
        obtain ⟨q12, hq13, hz⟩ := e_bd hz
        refine r_callT F dX5_spells_43 (i := 0) (dc := 0) (ds := 0) (As := [.int v5]) (S0 := [.int q10]) lkX5_129 mJ0_charAt_5068e (tJ0_charAt_5068e_8 hG (la := x_l X) (h := e_up h []) hnx  hq13) rfl rfl rfl (e_le rfl) (e_le rfl) (e_le rfl) rfl (by decide) (Nat.zero_le _) (Nat.zero_le _) (e_k ?_)
        refine r_wr0 ?_
        refine r_icmp_eq F dX5_spells_46 (tgt := 51) (by decide) (fun hc => ?_) (fun hc => ?_)
        · have hz := e_t hc hz
          refine r_inc F dX5_spells_51 (k9 := 1) (by decide) rfl (L' := [some (.ref 35), some (.ref 8), some (.int (v5 + 1))]) rfl ?_
          refine r_goto F dX5_spells_54 (tgt := 20) (by decide) ?_
          obtain rfl := Option.some.inj hz
          exact ih (v5 + 1) rfl
        · have hz := e_f hc hz
          refine r_iconst F dX5_spells_49 (v := 0) (by decide) ?_
          obtain rfl := Option.some.inj hz
          have e9 := hx (.inr false) rfl
          subst e9
          exact r_zret F hq (v := false) dX5_spells_50 rfl rfl (Nat.le_refl _) (Nat.le_refl _) ⟨rfl, rfl⟩
    · cases x6 with
      | inr r9 => exact Option.some.inj hf
      | inl x6e =>
        simp only [Sum.elim_inl] at hf
        show eRun G X 57 [none, none, none] [] h [] nx 0 0
        refine r_iconst F dX5_spells_57 (v := 1) (by decide) ?_
        obtain rfl := Option.some.inj hf
        exact r_zret F hq (v := true) dX5_spells_58 rfl rfl (Nat.le_refl _) (Nat.le_refl _) ⟨rfl, rfl⟩
  · have hf := e_f hc hf
    refine r_iconst F dX5_spells_16 (v := 0) (by decide) ?_
    obtain rfl := Option.some.inj hf
    exact r_zret F hq (v := false) dX5_spells_17 rfl rfl (Nat.le_refl _) (Nat.le_refl _) ⟨rfl, rfl⟩

def fX5_readNumber (a33_1 : Int32) (a35_1 : Int32) (a35_2 : Int32) (a35_3 : Int32) (A34 : Nat → Int32) (p0 : Int32) (p1 : Int32) : Option (Int32 × Int32 × Int32 × Int32) :=
  if a35_3 = (-1) then
    (fX5_nextByte a33_1 a35_1 A34).bind (fun q1 =>
    Option.bind (α := Bool) (
      if q1.1 = 45 then
        some true
      else
        some false) (fun q3 =>
    Option.bind (α := Int32) (
      if q3 = true then
        some (q1.2 + 1)
      else
        some q1.2) (fun q5 =>
    (e_loop (fun (v9 : Int32 × Int32 × Int32) => (
        if a33_1 ≤ v9.2.2 then
          some (.inr (v9.1, v9.2.1, v9.2.2))
        else
          (fX9_byteAt a33_1 A34 v9.2.2).bind (fun q12 =>
          if q12 < 48 then
            some (.inr (v9.1, v9.2.1, v9.2.2))
          else
            (fX9_byteAt a33_1 A34 v9.2.2).bind (fun q14 =>
            if 57 < q14 then
              some (.inr (v9.1, v9.2.1, v9.2.2))
            else
              Option.bind (α := Int32) (
                if 2 ≤ v9.2.1 then
                  some v9.1
                else
                  (fX9_byteAt a33_1 A34 v9.2.2).bind (fun q18 =>
                  some ((((10 : Int32) * v9.1) + q18) - 48))) (fun q16 =>
              some (.inl (q16, v9.2.1 + 1, v9.2.2 + 1))))) : Option ((Int32 × Int32 × Int32) ⊕ (Int32 × Int32 × Int32)))) e_fuel (0, 0, q5)).bind (fun x10 =>
    Option.bind (α := Int32) (
      if q3 = true then
        some ((0 : Int32) - x10.1)
      else
        some x10.1) (fun q20 =>
    if x10.2.1 < 1 then
      some (q20, x10.2.2, q1.2, q1.2)
    else
      if 2 < x10.2.1 then
        some (q20, x10.2.2, q1.2, q1.2)
      else
        if q20 < p0 then
          some (q20, x10.2.2, q1.2, q1.2)
        else
          if q20 ≤ p1 then
            some (q20, x10.2.2, q1.2, a35_3)
          else
            some (q20, x10.2.2, q1.2, q1.2))))))
  else
    some (0, a35_1, a35_2, a35_3)
set_option maxRecDepth 100000 in
theorem tX5_readNumber_35 {G : eG} (hG : e_GS G) {la : Launch} {h : Nat → eO} {nx : Nat} (hnx : 99 ≤ nx) {a33_1 : Int32} {A34 : Nat → Int32} {a35_1 : Int32} {a35_2 : Int32} {a35_3 : Int32} {a35_4 : Int32} {a35_5 : Int32} {a35_7 : Bool} {a35_8 : Bool} {a35_9 : Bool} {a35_10 : Int32} {p0 : Int32} {p1 : Int32} (h33 : h 33 = o33 a33_1) (h34 : h 34 = o34 A34) (h35 : h 35 = o35 a35_1 a35_2 a35_3 a35_4 a35_5 a35_7 a35_8 a35_9 a35_10) {R9 : Int32 × Int32 × Int32 × Int32} (hf : fX5_readNumber a33_1 a35_1 a35_2 a35_3 A34 p0 p1 = some R9) :
    eSem G la MX5_readNumber [.ref 35, .int p0, .int p1] h nx 0 0 (fun r9 h9 => r9 = some (.int R9.1) ∧ h9 = e_up h [(35, o35 R9.2.1 R9.2.2.1 R9.2.2.2 a35_4 a35_5 a35_7 a35_8 a35_9 a35_10)]) := by
  refine eSem.of (k := 3) (L := [some (.ref 35), some (.int p0), some (.int p1), none, none, none]) (by decide +kernel) rfl rfl (fun X F hxl hq hcR hsR => ?_)
  subst hxl
  unfold fX5_readNumber at hf
  refine r_aload_n F dX5_readNumber_0 rfl ?_
  refine r_get F dX5_readNumber_1 flX5_29 h35 rfl (e_le rfl) (e_lt hnx rfl) ?_
  refine r_iconst F dX5_readNumber_4 (v := (-1)) (by decide) ?_
  refine r_icmp_eq F dX5_readNumber_5 (tgt := 10) (by decide) (fun hc => ?_) (fun hc => ?_)
  · have hf := e_t hc hf
    refine r_aload_n F dX5_readNumber_10 rfl ?_
    obtain ⟨q1, hq2, hf⟩ := e_bd hf
    refine r_callV F dX5_readNumber_11 (b := 35) (dc := 0) (ds := 0) (As := []) (S0 := []) lkX5_59 mX5_nextByte (tX5_nextByte_35 hG (la := x_l X) (h := e_up h []) hnx h33 h34 h35 hq2) rfl rfl rfl (e_le rfl) (e_le rfl) (e_le rfl) h35 (ci := 5) e_cl5.1 rfl (e_le rfl) (e_lt hnx rfl) (Nat.zero_le _) (Nat.zero_le _) (e_k ?_)
    refine r_wr (l' := [(35, o35 q1.2 a35_2 a35_3 a35_4 a35_5 a35_7 a35_8 a35_9 a35_10)]) rfl rfl ?_
    refine r_bipush F dX5_readNumber_14 (v := 45) (by decide) ?_
    obtain ⟨q3, hq4, hf⟩ := e_bd hf
    have Jq3 : eRun G X 24 [some (.ref 35), some (.int p0), some (.int p1), none, none, none] [.int (e_b q3)] h [(35, o35 q1.2 a35_2 a35_3 a35_4 a35_5 a35_7 a35_8 a35_9 a35_10)] nx 0 0 := by
      refine r_istore_n F dX5_readNumber_24 (e_le rfl) (L' := [some (.ref 35), some (.int p0), some (.int p1), some (.int (e_b q3)), none, none]) rfl ?_
      refine r_aload_n F dX5_readNumber_25 rfl ?_
      refine r_aload_n F dX5_readNumber_26 rfl ?_
      refine r_get F dX5_readNumber_27 flX5_25 rfl rfl (e_le rfl) (e_lt hnx rfl) ?_
      refine r_put F dX5_readNumber_30 flX5_78 rfl rfl rfl rfl (e_le rfl) (e_le rfl) (e_lt hnx rfl) (l' := [(35, o35 q1.2 q1.2 a35_3 a35_4 a35_5 a35_7 a35_8 a35_9 a35_10)]) rfl ?_
      refine r_iload_n F dX5_readNumber_33 rfl ?_
      obtain ⟨q5, hq6, hf⟩ := e_bd hf
      have Jq5 : eRun G X 47 [some (.ref 35), some (.int p0), some (.int p1), some (.int (e_b q3)), none, none] [] h [(35, o35 q5 q1.2 a35_3 a35_4 a35_5 a35_7 a35_8 a35_9 a35_10)] nx 0 0 := by
        refine r_iconst F dX5_readNumber_47 (v := 0) (by decide) ?_
        refine r_istore F dX5_readNumber_48 (e_le rfl) (L' := [some (.ref 35), some (.int p0), some (.int p1), some (.int (e_b q3)), some (.int 0), none]) rfl ?_
        refine r_iconst F dX5_readNumber_50 (v := 0) (by decide) ?_
        refine r_istore F dX5_readNumber_51 (e_le rfl) (L' := [some (.ref 35), some (.int p0), some (.int p1), some (.int (e_b q3)), some (.int 0), some (.int 0)]) rfl ?_
        obtain ⟨x10, hx11, hf⟩ := e_bd hf
        refine (e_loop_ok (P := fun (v9 : Int32 × Int32 × Int32) => eRun G X 53 [some (.ref 35), some (.int p0), some (.int p1), some (.int (e_b q3)), some (.int v9.1), some (.int v9.2.1)] [] h [(35, o35 v9.2.2 q1.2 a35_3 a35_4 a35_5 a35_7 a35_8 a35_9 a35_10)] nx 0 0) (K := fun (x10 : Int32 × Int32 × Int32) => eRun G X 143 [some (.ref 35), some (.int p0), some (.int p1), some (.int (e_b q3)), some (.int x10.1), some (.int x10.2.1)] [] h [(35, o35 x10.2.2 q1.2 a35_3 a35_4 a35_5 a35_7 a35_8 a35_9 a35_10)] nx 0 0) ?_ e_fuel (0, 0, q5) x10 hx11 ?_ : _)
        · intro v9 z hz ih hx
          refine r_aload_n F dX5_readNumber_53 rfl ?_
          refine r_get F dX5_readNumber_54 flX5_25 rfl rfl (e_le rfl) (e_lt hnx rfl) ?_
          refine r_aload_n F dX5_readNumber_57 rfl ?_
          refine r_get F dX5_readNumber_58 flX5_21 rfl rfl (e_le rfl) (e_lt hnx rfl) ?_
          refine r_get F dX5_readNumber_61 flX5_118 h33 rfl (e_le rfl) (e_lt hnx rfl) ?_
          refine r_icmp_ge F dX5_readNumber_64 (tgt := 143) (by decide) (fun hc => ?_) (fun hc => ?_)
          · have hz := e_t hc hz
            obtain rfl := Option.some.inj hz
            exact hx (v9.1, v9.2.1, v9.2.2) rfl
          · have hz := e_f hc hz
            refine r_aload_n F dX5_readNumber_67 rfl ?_
            refine r_get F dX5_readNumber_68 flX5_21 rfl rfl (e_le rfl) (e_lt hnx rfl) ?_
            refine r_aload_n F dX5_readNumber_71 rfl ?_
            refine r_get F dX5_readNumber_72 flX5_25 rfl rfl (e_le rfl) (e_lt hnx rfl) ?_
            obtain ⟨q12, hq13, hz⟩ := e_bd hz
            refine r_callV F dX5_readNumber_75 (b := 33) (dc := 0) (ds := 0) (As := [.int v9.2.2]) (S0 := []) lkX5_121 mX9_byteAt (tX9_byteAt_33 hG (la := x_l X) (h := e_up h [(35, o35 v9.2.2 q1.2 a35_3 a35_4 a35_5 a35_7 a35_8 a35_9 a35_10)]) hnx h33 h34 hq13) rfl rfl rfl (e_le rfl) (e_le rfl) (e_le rfl) h33 (ci := 9) e_cl9.1 rfl (e_le rfl) (e_lt hnx rfl) (Nat.zero_le _) (Nat.zero_le _) (e_k ?_)
            refine r_wr0 ?_
            refine r_bipush F dX5_readNumber_78 (v := 48) (by decide) ?_
            refine r_icmp_lt F dX5_readNumber_80 (tgt := 143) (by decide) (fun hc => ?_) (fun hc => ?_)
            · have hz := e_t hc hz
              obtain rfl := Option.some.inj hz
              exact hx (v9.1, v9.2.1, v9.2.2) rfl
            · have hz := e_f hc hz
              refine r_aload_n F dX5_readNumber_83 rfl ?_
              refine r_get F dX5_readNumber_84 flX5_21 rfl rfl (e_le rfl) (e_lt hnx rfl) ?_
              refine r_aload_n F dX5_readNumber_87 rfl ?_
              refine r_get F dX5_readNumber_88 flX5_25 rfl rfl (e_le rfl) (e_lt hnx rfl) ?_
              obtain ⟨q14, hq15, hz⟩ := e_bd hz
              refine r_callV F dX5_readNumber_91 (b := 33) (dc := 0) (ds := 0) (As := [.int v9.2.2]) (S0 := []) lkX5_121 mX9_byteAt (tX9_byteAt_33 hG (la := x_l X) (h := e_up h [(35, o35 v9.2.2 q1.2 a35_3 a35_4 a35_5 a35_7 a35_8 a35_9 a35_10)]) hnx h33 h34 hq15) rfl rfl rfl (e_le rfl) (e_le rfl) (e_le rfl) h33 (ci := 9) e_cl9.1 rfl (e_le rfl) (e_lt hnx rfl) (Nat.zero_le _) (Nat.zero_le _) (e_k ?_)
              refine r_wr0 ?_
              refine r_bipush F dX5_readNumber_94 (v := 57) (by decide) ?_
              refine r_icmp_gt F dX5_readNumber_96 (tgt := 143) (by decide) (fun hc => ?_) (fun hc => ?_)
              · have hz := e_t hc hz
                obtain rfl := Option.some.inj hz
                exact hx (v9.1, v9.2.1, v9.2.2) rfl
              · have hz := e_f hc hz
                refine r_iload F dX5_readNumber_99 rfl ?_
                refine r_iconst F dX5_readNumber_101 (v := 2) (by decide) ?_
                obtain ⟨q16, hq17, hz⟩ := e_bd hz
                have Jq16 : eRun G X 127 [some (.ref 35), some (.int p0), some (.int p1), some (.int (e_b q3)), some (.int q16), some (.int v9.2.1)] [] h [(35, o35 v9.2.2 q1.2 a35_3 a35_4 a35_5 a35_7 a35_8 a35_9 a35_10)] nx 0 0 := by
                  refine r_inc F dX5_readNumber_127 (k9 := 1) (by decide) rfl (L' := [some (.ref 35), some (.int p0), some (.int p1), some (.int (e_b q3)), some (.int q16), some (.int (v9.2.1 + 1))]) rfl ?_
                  refine r_aload_n F dX5_readNumber_130 rfl ?_
                  refine r_dup F dX5_readNumber_131 rfl ?_
                  refine r_get F dX5_readNumber_132 flX5_25 rfl rfl (e_le rfl) (e_lt hnx rfl) ?_
                  refine r_iconst F dX5_readNumber_135 (v := 1) (by decide) ?_
                  refine r_iadd F dX5_readNumber_136 ?_
                  refine r_put F dX5_readNumber_137 flX5_25 rfl rfl rfl rfl (e_le rfl) (e_le rfl) (e_lt hnx rfl) (l' := [(35, o35 (v9.2.2 + 1) q1.2 a35_3 a35_4 a35_5 a35_7 a35_8 a35_9 a35_10)]) rfl ?_
                  refine r_goto F dX5_readNumber_140 (tgt := 53) (by decide) ?_
                  obtain rfl := Option.some.inj hz
                  exact ih (q16, v9.2.1 + 1, v9.2.2 + 1) rfl
                refine r_icmp_ge F dX5_readNumber_102 (tgt := 127) (by decide) (fun hc => ?_) (fun hc => ?_)
                · have hq17 := e_t hc hq17
                  obtain rfl := Option.some.inj hq17
                  exact Jq16
                · have hq17 := e_f hc hq17
                  refine r_bipush F dX5_readNumber_105 (v := 10) (by decide) ?_
                  refine r_iload F dX5_readNumber_107 rfl ?_
                  refine r_imul F dX5_readNumber_109 ?_
                  refine r_aload_n F dX5_readNumber_110 rfl ?_
                  refine r_get F dX5_readNumber_111 flX5_21 rfl rfl (e_le rfl) (e_lt hnx rfl) ?_
                  refine r_aload_n F dX5_readNumber_114 rfl ?_
                  refine r_get F dX5_readNumber_115 flX5_25 rfl rfl (e_le rfl) (e_lt hnx rfl) ?_
                  obtain ⟨q18, hq19, hq17⟩ := e_bd hq17
                  refine r_callV F dX5_readNumber_118 (b := 33) (dc := 0) (ds := 0) (As := [.int v9.2.2]) (S0 := [.int ((10 : Int32) * v9.1)]) lkX5_121 mX9_byteAt (tX9_byteAt_33 hG (la := x_l X) (h := e_up h [(35, o35 v9.2.2 q1.2 a35_3 a35_4 a35_5 a35_7 a35_8 a35_9 a35_10)]) hnx h33 h34 hq19) rfl rfl rfl (e_le rfl) (e_le rfl) (e_le rfl) h33 (ci := 9) e_cl9.1 rfl (e_le rfl) (e_lt hnx rfl) (Nat.zero_le _) (Nat.zero_le _) (e_k ?_)
                  refine r_wr0 ?_
                  refine r_iadd F dX5_readNumber_121 ?_
                  refine r_bipush F dX5_readNumber_122 (v := 48) (by decide) ?_
                  refine r_isub F dX5_readNumber_124 ?_
                  refine r_istore F dX5_readNumber_125 (e_le rfl) (L' := [some (.ref 35), some (.int p0), some (.int p1), some (.int (e_b q3)), some (.int ((((10 : Int32) * v9.1) + q18) - 48)), some (.int v9.2.1)]) rfl ?_
                  obtain rfl := Option.some.inj hq17
                  exact Jq16
        · show eRun G X 143 [some (.ref 35), some (.int p0), some (.int p1), some (.int (e_b q3)), some (.int x10.1), some (.int x10.2.1)] [] h [(35, o35 x10.2.2 q1.2 a35_3 a35_4 a35_5 a35_7 a35_8 a35_9 a35_10)] nx 0 0
          refine r_iload_n F dX5_readNumber_143 rfl ?_
          obtain ⟨q20, hq21, hf⟩ := e_bd hf
          have Jq20 : eRun G X 152 [some (.ref 35), some (.int p0), some (.int p1), none, some (.int q20), some (.int x10.2.1)] [] h [(35, o35 x10.2.2 q1.2 a35_3 a35_4 a35_5 a35_7 a35_8 a35_9 a35_10)] nx 0 0 := by
            refine r_iload F dX5_readNumber_152 rfl ?_
            refine r_iconst F dX5_readNumber_154 (v := 1) (by decide) ?_
            refine r_icmp_lt F dX5_readNumber_155 (tgt := 176) (by decide) (fun hc => ?_) (fun hc => ?_)
            · have hf := e_t hc hf
              refine r_aload_n F dX5_readNumber_176 rfl ?_
              refine r_aload_n F dX5_readNumber_177 rfl ?_
              refine r_get F dX5_readNumber_178 flX5_78 rfl rfl (e_le rfl) (e_lt hnx rfl) ?_
              refine r_put F dX5_readNumber_181 flX5_29 rfl rfl rfl rfl (e_le rfl) (e_le rfl) (e_lt hnx rfl) (l' := [(35, o35 x10.2.2 q1.2 q1.2 a35_4 a35_5 a35_7 a35_8 a35_9 a35_10)]) rfl ?_
              refine r_iload F dX5_readNumber_184 rfl ?_
              obtain rfl := Option.some.inj hf
              exact r_iret F hq dX5_readNumber_186 rfl rfl (Nat.le_refl _) (Nat.le_refl _) ⟨rfl, rfl⟩
            · have hf := e_f hc hf
              refine r_iload F dX5_readNumber_158 rfl ?_
              refine r_iconst F dX5_readNumber_160 (v := 2) (by decide) ?_
              refine r_icmp_gt F dX5_readNumber_161 (tgt := 176) (by decide) (fun hc => ?_) (fun hc => ?_)
              · have hf := e_t hc hf
                refine r_aload_n F dX5_readNumber_176 rfl ?_
                refine r_aload_n F dX5_readNumber_177 rfl ?_
                refine r_get F dX5_readNumber_178 flX5_78 rfl rfl (e_le rfl) (e_lt hnx rfl) ?_
                refine r_put F dX5_readNumber_181 flX5_29 rfl rfl rfl rfl (e_le rfl) (e_le rfl) (e_lt hnx rfl) (l' := [(35, o35 x10.2.2 q1.2 q1.2 a35_4 a35_5 a35_7 a35_8 a35_9 a35_10)]) rfl ?_
                refine r_iload F dX5_readNumber_184 rfl ?_
                obtain rfl := Option.some.inj hf
                exact r_iret F hq dX5_readNumber_186 rfl rfl (Nat.le_refl _) (Nat.le_refl _) ⟨rfl, rfl⟩
              · have hf := e_f hc hf
                refine r_iload F dX5_readNumber_164 rfl ?_
                refine r_iload_n F dX5_readNumber_166 rfl ?_
                refine r_icmp_lt F dX5_readNumber_167 (tgt := 176) (by decide) (fun hc => ?_) (fun hc => ?_)
                · have hf := e_t hc hf
                  refine r_aload_n F dX5_readNumber_176 rfl ?_
                  refine r_aload_n F dX5_readNumber_177 rfl ?_
                  refine r_get F dX5_readNumber_178 flX5_78 rfl rfl (e_le rfl) (e_lt hnx rfl) ?_
                  refine r_put F dX5_readNumber_181 flX5_29 rfl rfl rfl rfl (e_le rfl) (e_le rfl) (e_lt hnx rfl) (l' := [(35, o35 x10.2.2 q1.2 q1.2 a35_4 a35_5 a35_7 a35_8 a35_9 a35_10)]) rfl ?_
                  refine r_iload F dX5_readNumber_184 rfl ?_
                  obtain rfl := Option.some.inj hf
                  exact r_iret F hq dX5_readNumber_186 rfl rfl (Nat.le_refl _) (Nat.le_refl _) ⟨rfl, rfl⟩
                · have hf := e_f hc hf
                  refine r_iload F dX5_readNumber_170 rfl ?_
                  refine r_iload_n F dX5_readNumber_172 rfl ?_
                  refine r_icmp_le F dX5_readNumber_173 (tgt := 184) (by decide) (fun hc => ?_) (fun hc => ?_)
                  · have hf := e_t hc hf
                    refine r_iload F dX5_readNumber_184 rfl ?_
                    obtain rfl := Option.some.inj hf
                    exact r_iret F hq dX5_readNumber_186 rfl rfl (Nat.le_refl _) (Nat.le_refl _) ⟨rfl, rfl⟩
                  · have hf := e_f hc hf
                    refine r_aload_n F dX5_readNumber_176 rfl ?_
                    refine r_aload_n F dX5_readNumber_177 rfl ?_
                    refine r_get F dX5_readNumber_178 flX5_78 rfl rfl (e_le rfl) (e_lt hnx rfl) ?_
                    refine r_put F dX5_readNumber_181 flX5_29 rfl rfl rfl rfl (e_le rfl) (e_le rfl) (e_lt hnx rfl) (l' := [(35, o35 x10.2.2 q1.2 q1.2 a35_4 a35_5 a35_7 a35_8 a35_9 a35_10)]) rfl ?_
                    refine r_iload F dX5_readNumber_184 rfl ?_
                    obtain rfl := Option.some.inj hf
                    exact r_iret F hq dX5_readNumber_186 rfl rfl (Nat.le_refl _) (Nat.le_refl _) ⟨rfl, rfl⟩
          refine r_z_eq F dX5_readNumber_144 (tgt := 152) (by decide) (fun hc => ?_) (fun hc => ?_)
          · have hq21 := e_t hc hq21
            refine r_iload F dX5_readNumber_147 rfl ?_
            refine r_ineg F dX5_readNumber_149 ?_
            refine r_istore F dX5_readNumber_150 (e_le rfl) (L' := [some (.ref 35), some (.int p0), some (.int p1), some (.int (e_b q3)), some (.int ((0 : Int32) - x10.1)), some (.int x10.2.1)]) rfl ?_
            refine r_drop 3 (L' := [some (.ref 35), some (.int p0), some (.int p1), none, some (.int ((0 : Int32) - x10.1)), some (.int x10.2.1)]) rfl ?_
            obtain rfl := Option.some.inj hq21
            exact Jq20
          · have hq21 := e_f hc hq21
            refine r_drop 3 (L' := [some (.ref 35), some (.int p0), some (.int p1), none, some (.int x10.1), some (.int x10.2.1)]) rfl ?_
            obtain rfl := Option.some.inj hq21
            exact Jq20
      refine r_z_eq F dX5_readNumber_34 (tgt := 47) (by decide) (fun hc => ?_) (fun hc => ?_)
      · have hq6 := e_t hc hq6
        refine r_aload_n F dX5_readNumber_37 rfl ?_
        refine r_dup F dX5_readNumber_38 rfl ?_
        refine r_get F dX5_readNumber_39 flX5_25 rfl rfl (e_le rfl) (e_lt hnx rfl) ?_
        refine r_iconst F dX5_readNumber_42 (v := 1) (by decide) ?_
        refine r_iadd F dX5_readNumber_43 ?_
        refine r_put F dX5_readNumber_44 flX5_25 rfl rfl rfl rfl (e_le rfl) (e_le rfl) (e_lt hnx rfl) (l' := [(35, o35 (q1.2 + 1) q1.2 a35_3 a35_4 a35_5 a35_7 a35_8 a35_9 a35_10)]) rfl ?_
        obtain rfl := Option.some.inj hq6
        exact Jq5
      · have hq6 := e_f hc hq6
        obtain rfl := Option.some.inj hq6
        exact Jq5
    refine r_icmp_ne F dX5_readNumber_16 (tgt := 23) (by decide) (fun hc => ?_) (fun hc => ?_)
    · have hq4 := e_f hc hq4
      refine r_iconst F dX5_readNumber_23 (v := 0) (by decide) ?_
      obtain rfl := Option.some.inj hq4
      exact Jq3
    · have hq4 := e_t hc hq4
      refine r_iconst F dX5_readNumber_19 (v := 1) (by decide) ?_
      refine r_goto F dX5_readNumber_20 (tgt := 24) (by decide) ?_
      obtain rfl := Option.some.inj hq4
      exact Jq3
  · have hf := e_f hc hf
    refine r_iconst F dX5_readNumber_8 (v := 0) (by decide) ?_
    refine r_mat (k := 35) h35 (l' := [(35, o35 a35_1 a35_2 a35_3 a35_4 a35_5 a35_7 a35_8 a35_9 a35_10)]) rfl ?_
    obtain rfl := Option.some.inj hf
    exact r_iret F hq dX5_readNumber_9 rfl rfl (Nat.le_refl _) (Nat.le_refl _) ⟨rfl, rfl⟩

def fX5_readSize (a33_1 : Int32) (a35_1 : Int32) (a35_2 : Int32) (a35_3 : Int32) (a35_4 : Int32) (a35_5 : Int32) (A34 : Nat → Int32)  : Option (Int32 × Int32 × Int32 × Int32 × Int32) :=
  (fX5_readWord a33_1 a35_1 a35_2 A34).bind (fun q1 =>
  (fX5_spells_s8 a33_1 q1.1 q1.2 A34).bind (fun q3 =>
  Option.bind (α := Int32) (
    if q3 = true then
      some a35_3
    else
      some q1.2) (fun q5 =>
  (fX5_readNumber a33_1 q1.1 q1.2 q5 A34 2 9).bind (fun q7 =>
  (fX5_readNumber a33_1 q7.2.1 q7.2.2.1 q7.2.2.2 A34 2 9).bind (fun q9 =>
  some (q9.2.1, q9.2.2.1, q9.2.2.2, q7.1, q9.1))))))
set_option maxRecDepth 100000 in
theorem tX5_readSize_35 {G : eG} (hG : e_GS G) {la : Launch} {h : Nat → eO} {nx : Nat} (hnx : 99 ≤ nx) {a33_1 : Int32} {A34 : Nat → Int32} {a35_1 : Int32} {a35_2 : Int32} {a35_3 : Int32} {a35_4 : Int32} {a35_5 : Int32} {a35_7 : Bool} {a35_8 : Bool} {a35_9 : Bool} {a35_10 : Int32}  (h33 : h 33 = o33 a33_1) (h34 : h 34 = o34 A34) (h35 : h 35 = o35 a35_1 a35_2 a35_3 a35_4 a35_5 a35_7 a35_8 a35_9 a35_10) {R9 : Int32 × Int32 × Int32 × Int32 × Int32} (hf : fX5_readSize a33_1 a35_1 a35_2 a35_3 a35_4 a35_5 A34  = some R9) :
    eSem G la MX5_readSize [.ref 35] h nx 0 0 (fun r9 h9 => r9 = none ∧ h9 = e_up h [(35, o35 R9.1 R9.2.1 R9.2.2.1 R9.2.2.2.1 R9.2.2.2.2 a35_7 a35_8 a35_9 a35_10)]) := by
  refine eSem.of (k := 0) (L := [some (.ref 35)]) (by decide +kernel) rfl rfl (fun X F hxl hq hcR hsR => ?_)
  subst hxl
  unfold fX5_readSize at hf
  refine r_aload_n F dX5_readSize_0 rfl ?_
  obtain ⟨q1, hq2, hf⟩ := e_bd hf
  refine r_callV F dX5_readSize_1 (b := 35) (dc := 0) (ds := 0) (As := []) (S0 := []) lkX5_69 mX5_readWord (tX5_readWord_35 hG (la := x_l X) (h := e_up h []) hnx h33 h34 h35 hq2) rfl rfl rfl (e_le rfl) (e_le rfl) (e_le rfl) h35 (ci := 5) e_cl5.1 rfl (e_le rfl) (e_lt hnx rfl) (Nat.zero_le _) (Nat.zero_le _) (e_k ?_)
  refine r_wr (l' := [(35, o35 q1.1 q1.2 a35_3 a35_4 a35_5 a35_7 a35_8 a35_9 a35_10)]) rfl rfl ?_
  refine r_aload_n F dX5_readSize_4 rfl ?_
  refine r_ldcS F dX5_readSize_5 (tx := "size") (a := 8) (by decide +kernel) ?_
  obtain ⟨q3, hq4, hf⟩ := e_bd hf
  refine r_callV F dX5_readSize_7 (b := 35) (dc := 0) (ds := 0) (As := [.ref 8]) (S0 := []) lkX5_74 mX5_spells (tX5_spells_35_8 hG (la := x_l X) (h := e_up h [(35, o35 q1.1 q1.2 a35_3 a35_4 a35_5 a35_7 a35_8 a35_9 a35_10)]) hnx h33 h34 rfl hq4) rfl rfl rfl (e_le rfl) (e_le rfl) (e_le rfl) rfl (ci := 5) e_cl5.1 rfl (e_le rfl) (e_lt hnx rfl) (Nat.zero_le _) (Nat.zero_le _) (e_k ?_)
  refine r_wr0 ?_
  obtain ⟨q5, hq6, hf⟩ := e_bd hf
  have Jq5 : eRun G X 21 [some (.ref 35)] [] h [(35, o35 q1.1 q1.2 q5 a35_4 a35_5 a35_7 a35_8 a35_9 a35_10)] nx 0 0 := by
    refine r_aload_n F dX5_readSize_21 rfl ?_
    refine r_aload_n F dX5_readSize_22 rfl ?_
    refine r_iconst F dX5_readSize_23 (v := 2) (by decide) ?_
    refine r_bipush F dX5_readSize_24 (v := 9) (by decide) ?_
    obtain ⟨q7, hq8, hf⟩ := e_bd hf
    refine r_callV F dX5_readSize_26 (b := 35) (dc := 0) (ds := 0) (As := [.int 2, .int 9]) (S0 := [.ref 35]) lkX5_83 mX5_readNumber (tX5_readNumber_35 hG (la := x_l X) (h := e_up h [(35, o35 q1.1 q1.2 q5 a35_4 a35_5 a35_7 a35_8 a35_9 a35_10)]) hnx h33 h34 rfl hq8) rfl rfl rfl (e_le rfl) (e_le rfl) (e_le rfl) rfl (ci := 5) e_cl5.1 rfl (e_le rfl) (e_lt hnx rfl) (Nat.zero_le _) (Nat.zero_le _) (e_k ?_)
    refine r_wr (l' := [(35, o35 q7.2.1 q7.2.2.1 q7.2.2.2 a35_4 a35_5 a35_7 a35_8 a35_9 a35_10)]) rfl rfl ?_
    refine r_put F dX5_readSize_29 flX5_87 rfl rfl rfl rfl (e_le rfl) (e_le rfl) (e_lt hnx rfl) (l' := [(35, o35 q7.2.1 q7.2.2.1 q7.2.2.2 q7.1 a35_5 a35_7 a35_8 a35_9 a35_10)]) rfl ?_
    refine r_aload_n F dX5_readSize_32 rfl ?_
    refine r_aload_n F dX5_readSize_33 rfl ?_
    refine r_iconst F dX5_readSize_34 (v := 2) (by decide) ?_
    refine r_bipush F dX5_readSize_35 (v := 9) (by decide) ?_
    obtain ⟨q9, hq10, hf⟩ := e_bd hf
    refine r_callV F dX5_readSize_37 (b := 35) (dc := 0) (ds := 0) (As := [.int 2, .int 9]) (S0 := [.ref 35]) lkX5_83 mX5_readNumber (tX5_readNumber_35 hG (la := x_l X) (h := e_up h [(35, o35 q7.2.1 q7.2.2.1 q7.2.2.2 q7.1 a35_5 a35_7 a35_8 a35_9 a35_10)]) hnx h33 h34 rfl hq10) rfl rfl rfl (e_le rfl) (e_le rfl) (e_le rfl) rfl (ci := 5) e_cl5.1 rfl (e_le rfl) (e_lt hnx rfl) (Nat.zero_le _) (Nat.zero_le _) (e_k ?_)
    refine r_wr (l' := [(35, o35 q9.2.1 q9.2.2.1 q9.2.2.2 q7.1 a35_5 a35_7 a35_8 a35_9 a35_10)]) rfl rfl ?_
    refine r_put F dX5_readSize_40 flX5_90 rfl rfl rfl rfl (e_le rfl) (e_le rfl) (e_lt hnx rfl) (l' := [(35, o35 q9.2.1 q9.2.2.1 q9.2.2.2 q7.1 q9.1 a35_7 a35_8 a35_9 a35_10)]) rfl ?_
    obtain rfl := Option.some.inj hf
    exact r_vret F hq dX5_readSize_43 rfl rfl (Nat.le_refl _) (Nat.le_refl _) ⟨rfl, rfl⟩
  refine r_z_ne F dX5_readSize_10 (tgt := 21) (by decide) (fun hc => ?_) (fun hc => ?_)
  · have hq6 := e_t hc hq6
    obtain rfl := Option.some.inj hq6
    exact Jq5
  · have hq6 := e_f hc hq6
    refine r_aload_n F dX5_readSize_13 rfl ?_
    refine r_aload_n F dX5_readSize_14 rfl ?_
    refine r_get F dX5_readSize_15 flX5_78 rfl rfl (e_le rfl) (e_lt hnx rfl) ?_
    refine r_put F dX5_readSize_18 flX5_29 rfl rfl rfl rfl (e_le rfl) (e_le rfl) (e_lt hnx rfl) (l' := [(35, o35 q1.1 q1.2 q1.2 a35_4 a35_5 a35_7 a35_8 a35_9 a35_10)]) rfl ?_
    obtain rfl := Option.some.inj hq6
    exact Jq5

def fX5_readSemicolon (a33_1 : Int32) (a35_1 : Int32) (a35_3 : Int32) (A34 : Nat → Int32)  : Option (Int32 × Int32) :=
  (fX5_nextByte a33_1 a35_1 A34).bind (fun q1 =>
  if q1.1 = 59 then
    some (q1.2 + 1, a35_3)
  else
    some (q1.2, q1.2))
set_option maxRecDepth 100000 in
theorem tX5_readSemicolon_35 {G : eG} (hG : e_GS G) {la : Launch} {h : Nat → eO} {nx : Nat} (hnx : 99 ≤ nx) {a33_1 : Int32} {A34 : Nat → Int32} {a35_1 : Int32} {a35_2 : Int32} {a35_3 : Int32} {a35_4 : Int32} {a35_5 : Int32} {a35_7 : Bool} {a35_8 : Bool} {a35_9 : Bool} {a35_10 : Int32}  (h33 : h 33 = o33 a33_1) (h34 : h 34 = o34 A34) (h35 : h 35 = o35 a35_1 a35_2 a35_3 a35_4 a35_5 a35_7 a35_8 a35_9 a35_10) {R9 : Int32 × Int32} (hf : fX5_readSemicolon a33_1 a35_1 a35_3 A34  = some R9) :
    eSem G la MX5_readSemicolon [.ref 35] h nx 0 0 (fun r9 h9 => r9 = none ∧ h9 = e_up h [(35, o35 R9.1 a35_2 R9.2 a35_4 a35_5 a35_7 a35_8 a35_9 a35_10)]) := by
  refine eSem.of (k := 0) (L := [some (.ref 35)]) (by decide +kernel) rfl rfl (fun X F hxl hq hcR hsR => ?_)
  subst hxl
  unfold fX5_readSemicolon at hf
  refine r_aload_n F dX5_readSemicolon_0 rfl ?_
  obtain ⟨q1, hq2, hf⟩ := e_bd hf
  refine r_callV F dX5_readSemicolon_1 (b := 35) (dc := 0) (ds := 0) (As := []) (S0 := []) lkX5_59 mX5_nextByte (tX5_nextByte_35 hG (la := x_l X) (h := e_up h []) hnx h33 h34 h35 hq2) rfl rfl rfl (e_le rfl) (e_le rfl) (e_le rfl) h35 (ci := 5) e_cl5.1 rfl (e_le rfl) (e_lt hnx rfl) (Nat.zero_le _) (Nat.zero_le _) (e_k ?_)
  refine r_wr (l' := [(35, o35 q1.2 a35_2 a35_3 a35_4 a35_5 a35_7 a35_8 a35_9 a35_10)]) rfl rfl ?_
  refine r_bipush F dX5_readSemicolon_4 (v := 59) (by decide) ?_
  refine r_icmp_ne F dX5_readSemicolon_6 (tgt := 22) (by decide) (fun hc => ?_) (fun hc => ?_)
  · have hf := e_f hc hf
    refine r_aload_n F dX5_readSemicolon_22 rfl ?_
    refine r_aload_n F dX5_readSemicolon_23 rfl ?_
    refine r_get F dX5_readSemicolon_24 flX5_25 rfl rfl (e_le rfl) (e_lt hnx rfl) ?_
    refine r_put F dX5_readSemicolon_27 flX5_29 rfl rfl rfl rfl (e_le rfl) (e_le rfl) (e_lt hnx rfl) (l' := [(35, o35 q1.2 a35_2 q1.2 a35_4 a35_5 a35_7 a35_8 a35_9 a35_10)]) rfl ?_
    obtain rfl := Option.some.inj hf
    exact r_vret F hq dX5_readSemicolon_30 rfl rfl (Nat.le_refl _) (Nat.le_refl _) ⟨rfl, rfl⟩
  · have hf := e_t hc hf
    refine r_aload_n F dX5_readSemicolon_9 rfl ?_
    refine r_dup F dX5_readSemicolon_10 rfl ?_
    refine r_get F dX5_readSemicolon_11 flX5_25 rfl rfl (e_le rfl) (e_lt hnx rfl) ?_
    refine r_iconst F dX5_readSemicolon_14 (v := 1) (by decide) ?_
    refine r_iadd F dX5_readSemicolon_15 ?_
    refine r_put F dX5_readSemicolon_16 flX5_25 rfl rfl rfl rfl (e_le rfl) (e_le rfl) (e_lt hnx rfl) (l' := [(35, o35 (q1.2 + 1) a35_2 a35_3 a35_4 a35_5 a35_7 a35_8 a35_9 a35_10)]) rfl ?_
    refine r_goto F dX5_readSemicolon_19 (tgt := 30) (by decide) ?_
    obtain rfl := Option.some.inj hf
    exact r_vret F hq dX5_readSemicolon_30 rfl rfl (Nat.le_refl _) (Nat.le_refl _) ⟨rfl, rfl⟩

def fJ0_coder_7d493_s9   : Option (Int32) :=
  some 0
set_option maxRecDepth 100000 in
theorem tJ0_coder_7d493_9 {G : eG} (hG : e_GS G) {la : Launch} {h : Nat → eO} {nx : Nat} (hnx : 99 ≤ nx)    {R9 : Int32} (hf : fJ0_coder_7d493_s9   = some R9) :
    eSem G la MJ0_coder_7d493 [.ref 9] h nx 0 0 (fun r9 h9 => r9 = some (.int R9) ∧ h9 = h) := by
  refine eSem.of (k := 0) (L := [some (.ref 9)]) (by decide +kernel) rfl rfl (fun X F hxl hq hcR hsR => ?_)
  subst hxl
  unfold fJ0_coder_7d493_s9 at hf
  refine r_gets F dJ0_coder_7d493_0 (C := "java/lang/String") (n := "COMPACT_STRINGS") (d := "Z") (v := .int 1) (by decide +kernel) fsJ0_38 ?_
  refine r_if_eq_f F dJ0_coder_7d493_3 (tgt := 13) (by decide) (by decide) ?_
  refine r_aload_n F dJ0_coder_7d493_6 rfl ?_
  refine r_getC F dJ0_coder_7d493_7 (i := 1) (by decide) fsJ0_15 ?_
  refine r_goto F dJ0_coder_7d493_10 (tgt := 14) (by decide) ?_
  obtain rfl := Option.some.inj hf
  exact r_nret F hq dJ0_coder_7d493_14 rfl (by decide) rfl (Nat.le_refl _) (Nat.le_refl _) ⟨rfl, rfl⟩

def fJ0_length_8abf5_s9   : Option (Int32) :=
  (fJ0_coder_7d493_s9 ).bind (fun q1 =>
  some ((4 : Int32) >>> (q1 &&& 31)))
set_option maxRecDepth 100000 in
theorem tJ0_length_8abf5_9 {G : eG} (hG : e_GS G) {la : Launch} {h : Nat → eO} {nx : Nat} (hnx : 99 ≤ nx)    {R9 : Int32} (hf : fJ0_length_8abf5_s9   = some R9) :
    eSem G la MJ0_length_8abf5 [.ref 9] h nx 0 0 (fun r9 h9 => r9 = some (.int R9) ∧ h9 = h) := by
  refine eSem.of (k := 0) (L := [some (.ref 9)]) (by decide +kernel) rfl rfl (fun X F hxl hq hcR hsR => ?_)
  subst hxl
  unfold fJ0_length_8abf5_s9 at hf
  refine r_aload_n F dJ0_length_8abf5_0 rfl ?_
  refine r_getV F dJ0_length_8abf5_1 (i := 1) (by decide) fsJ0_9 ?_
  refine r_alenS F dJ0_length_8abf5_4 (hG.s17) (v := 4) rfl ?_
  refine r_aload_n F dJ0_length_8abf5_5 rfl ?_
  obtain ⟨q1, hq2, hf⟩ := e_bd hf
  refine r_callT F dJ0_length_8abf5_6 (i := 1) (dc := 0) (ds := 0) (As := []) (S0 := [.int 4]) lkJ0_335 mJ0_coder_7d493 (tJ0_coder_7d493_9 hG (la := x_l X) (h := e_up h []) hnx  hq2) rfl rfl rfl (e_le rfl) (e_le rfl) (e_le rfl) rfl (by decide) (Nat.zero_le _) (Nat.zero_le _) (e_k ?_)
  refine r_wr0 ?_
  refine r_ishr F dJ0_length_8abf5_9 ?_
  obtain rfl := Option.some.inj hf
  exact r_iret F hq dJ0_length_8abf5_10 rfl rfl (Nat.le_refl _) (Nat.le_refl _) ⟨rfl, rfl⟩

def fJ0_isLatin1_aae02_s9   : Option (Bool) :=
  some true
set_option maxRecDepth 100000 in
theorem tJ0_isLatin1_aae02_9 {G : eG} (hG : e_GS G) {la : Launch} {h : Nat → eO} {nx : Nat} (hnx : 99 ≤ nx)    {R9 : Bool} (hf : fJ0_isLatin1_aae02_s9   = some R9) :
    eSem G la MJ0_isLatin1_aae02 [.ref 9] h nx 0 0 (fun r9 h9 => r9 = some (.int (e_b R9)) ∧ h9 = h) := by
  refine eSem.of (k := 0) (L := [some (.ref 9)]) (by decide +kernel) rfl rfl (fun X F hxl hq hcR hsR => ?_)
  subst hxl
  unfold fJ0_isLatin1_aae02_s9 at hf
  refine r_gets F dJ0_isLatin1_aae02_0 (C := "java/lang/String") (n := "COMPACT_STRINGS") (d := "Z") (v := .int 1) (by decide +kernel) fsJ0_38 ?_
  refine r_if_eq_f F dJ0_isLatin1_aae02_3 (tgt := 17) (by decide) (by decide) ?_
  refine r_aload_n F dJ0_isLatin1_aae02_6 rfl ?_
  refine r_getC F dJ0_isLatin1_aae02_7 (i := 1) (by decide) fsJ0_15 ?_
  refine r_if_ne_f F dJ0_isLatin1_aae02_10 (tgt := 17) (by decide) (by decide) ?_
  refine r_iconst F dJ0_isLatin1_aae02_13 (v := 1) (by decide) ?_
  refine r_goto F dJ0_isLatin1_aae02_14 (tgt := 18) (by decide) ?_
  obtain rfl := Option.some.inj hf
  exact r_zret F hq (v := true) dJ0_isLatin1_aae02_18 rfl rfl (Nat.le_refl _) (Nat.le_refl _) ⟨rfl, rfl⟩

def fJ1_charAt_3b067_s17  (p1 : Int32) : Option (Int32) :=
  (fJ0_checkIndex_df160 p1 4).bind (fun q1 =>
  e_g (e_in p1 4) (
  e_g (e_nar .char ((Int32.toUInt32 ((sB1 (tn p1)) &&& 255) % 65536).toInt32)) (
  some ((Int32.toUInt32 ((sB1 (tn p1)) &&& 255) % 65536).toInt32))))
set_option maxRecDepth 100000 in
theorem tJ1_charAt_3b067_17 {G : eG} (hG : e_GS G) {la : Launch} {h : Nat → eO} {nx : Nat} (hnx : 99 ≤ nx)  {p1 : Int32}  {R9 : Int32} (hf : fJ1_charAt_3b067_s17  p1 = some R9) :
    eSem G la MJ1_charAt_3b067 [.ref 17, .int p1] h nx 0 0 (fun r9 h9 => r9 = some (.int R9) ∧ h9 = h) := by
  refine eSem.of (k := 0) (L := [some (.ref 17), some (.int p1)]) (by decide +kernel) rfl rfl (fun X F hxl hq hcR hsR => ?_)
  subst hxl
  unfold fJ1_charAt_3b067_s17 at hf
  refine r_iload_n F dJ1_charAt_3b067_0 rfl ?_
  refine r_aload_n F dJ1_charAt_3b067_1 rfl ?_
  refine r_alenS F dJ1_charAt_3b067_2 (hG.s17) (v := 4) rfl ?_
  obtain ⟨q1, hq2, hf⟩ := e_bd hf
  refine r_callS F dJ1_charAt_3b067_3 (dc := 0) (ds := 0) (As := [.int p1, .int 4]) (S0 := []) lkJ1_9 mJ0_checkIndex_df160 (tJ0_checkIndex_df160 hG (la := x_l X) (h := e_up h []) hnx  hq2) rfl rfl rfl (e_le rfl) (e_le rfl) (e_le rfl) (Nat.zero_le _) (Nat.zero_le _) (e_k ?_)
  refine r_wr0 ?_
  refine r_aload_n F dJ1_charAt_3b067_6 rfl ?_
  refine r_iload_n F dJ1_charAt_3b067_7 rfl ?_
  obtain ⟨hg, hf⟩ := e_gd hf
  refine r_baldS F dJ1_charAt_3b067_8 (i := p1) (hG.s17) (e_vp hg) ?_
  refine r_sipush F dJ1_charAt_3b067_9 (v := 255) (by decide) ?_
  refine r_iand F dJ1_charAt_3b067_12 ?_
  refine r_i2c F dJ1_charAt_3b067_13 ?_
  obtain ⟨hg, hf⟩ := e_gd hf
  obtain rfl := Option.some.inj hf
  exact r_nret F hq dJ1_charAt_3b067_14 rfl (of_decide_eq_true hg) rfl (Nat.le_refl _) (Nat.le_refl _) ⟨rfl, rfl⟩

def fJ0_charAt_5068e_s9  (p0 : Int32) : Option (Int32) :=
  (fJ0_isLatin1_aae02_s9 ).bind (fun q1 =>
  if q1 = true then
    (fJ1_charAt_3b067_s17 p0).bind (fun q3 =>
    e_g (e_nar .char q3) (
    some q3))
  else
    none)
set_option maxRecDepth 100000 in
theorem tJ0_charAt_5068e_9 {G : eG} (hG : e_GS G) {la : Launch} {h : Nat → eO} {nx : Nat} (hnx : 99 ≤ nx)  {p0 : Int32}  {R9 : Int32} (hf : fJ0_charAt_5068e_s9  p0 = some R9) :
    eSem G la MJ0_charAt_5068e [.ref 9, .int p0] h nx 0 0 (fun r9 h9 => r9 = some (.int R9) ∧ h9 = h) := by
  refine eSem.of (k := 0) (L := [some (.ref 9), some (.int p0)]) (by decide +kernel) rfl rfl (fun X F hxl hq hcR hsR => ?_)
  subst hxl
  unfold fJ0_charAt_5068e_s9 at hf
  refine r_aload_n F dJ0_charAt_5068e_0 rfl ?_
  obtain ⟨q1, hq2, hf⟩ := e_bd hf
  refine r_callT F dJ0_charAt_5068e_1 (i := 1) (dc := 0) (ds := 0) (As := []) (S0 := []) lkJ0_492 mJ0_isLatin1_aae02 (tJ0_isLatin1_aae02_9 hG (la := x_l X) (h := e_up h []) hnx  hq2) rfl rfl rfl (e_le rfl) (e_le rfl) (e_le rfl) rfl (by decide) (Nat.zero_le _) (Nat.zero_le _) (e_k ?_)
  refine r_wr0 ?_
  refine r_z_eq F dJ0_charAt_5068e_4 (tgt := 16) (by decide) (fun hc => ?_) (fun hc => ?_)
  · have hf := e_t hc hf
    refine r_aload_n F dJ0_charAt_5068e_7 rfl ?_
    refine r_getV F dJ0_charAt_5068e_8 (i := 1) (by decide) fsJ0_9 ?_
    refine r_iload_n F dJ0_charAt_5068e_11 rfl ?_
    obtain ⟨q3, hq4, hf⟩ := e_bd hf
    refine r_callS F dJ0_charAt_5068e_12 (dc := 0) (ds := 0) (As := [.ref 17, .int p0]) (S0 := []) lkJ0_495 mJ1_charAt_3b067 (tJ1_charAt_3b067_17 hG (la := x_l X) (h := e_up h []) hnx  hq4) rfl rfl rfl (e_le rfl) (e_le rfl) (e_le rfl) (Nat.zero_le _) (Nat.zero_le _) (e_k ?_)
    refine r_wr0 ?_
    obtain ⟨hg, hf⟩ := e_gd hf
    obtain rfl := Option.some.inj hf
    exact r_nret F hq dJ0_charAt_5068e_15 rfl (of_decide_eq_true hg) rfl (Nat.le_refl _) (Nat.le_refl _) ⟨rfl, rfl⟩
  · have hf := e_f hc hf
    refine r_aload_n F dJ0_charAt_5068e_16 rfl ?_
    refine r_getV F dJ0_charAt_5068e_17 (i := 1) (by decide) fsJ0_9 ?_
    refine r_iload_n F dJ0_charAt_5068e_20 rfl ?_
    cases hf

def fX5_spells_s9 (a33_1 : Int32) (a35_1 : Int32) (a35_2 : Int32) (A34 : Nat → Int32)  : Option (Bool) :=
  (fJ0_length_8abf5_s9 ).bind (fun q1 =>
  if (a35_1 - a35_2) = q1 then
    (e_loop (fun (v5 : Int32) => (
        (fJ0_length_8abf5_s9 ).bind (fun q8 =>
        if q8 ≤ v5 then
          some (.inr (.inl ()))
        else
          (fX9_byteAt a33_1 A34 (a35_2 + v5)).bind (fun q10 =>
          (fJ0_charAt_5068e_s9 v5).bind (fun q12 =>
          if q10 = q12 then
            some (.inl (v5 + 1))
          else
            some (.inr (.inr false))))) : Option ((Int32) ⊕ ((Unit) ⊕ (Bool))))) e_fuel 0).bind (fun x6 => Sum.elim (fun x6e =>
      some true) (fun r9 => some r9) x6)
  else
    some false)
set_option maxRecDepth 100000 in
theorem tX5_spells_35_9 {G : eG} (hG : e_GS G) {la : Launch} {h : Nat → eO} {nx : Nat} (hnx : 99 ≤ nx) {a33_1 : Int32} {A34 : Nat → Int32} {a35_1 : Int32} {a35_2 : Int32} {a35_3 : Int32} {a35_4 : Int32} {a35_5 : Int32} {a35_7 : Bool} {a35_8 : Bool} {a35_9 : Bool} {a35_10 : Int32}  (h33 : h 33 = o33 a33_1) (h34 : h 34 = o34 A34) (h35 : h 35 = o35 a35_1 a35_2 a35_3 a35_4 a35_5 a35_7 a35_8 a35_9 a35_10) {R9 : Bool} (hf : fX5_spells_s9 a33_1 a35_1 a35_2 A34  = some R9) :
    eSem G la MX5_spells [.ref 35, .ref 9] h nx 0 0 (fun r9 h9 => r9 = some (.int (e_b R9)) ∧ h9 = h) := by
  refine eSem.of (k := 1) (L := [some (.ref 35), some (.ref 9), none]) (by decide +kernel) rfl rfl (fun X F hxl hq hcR hsR => ?_)
  subst hxl
  unfold fX5_spells_s9 at hf
  refine r_aload_n F dX5_spells_0 rfl ?_
  refine r_get F dX5_spells_1 flX5_25 h35 rfl (e_le rfl) (e_lt hnx rfl) ?_
  refine r_aload_n F dX5_spells_4 rfl ?_
  refine r_get F dX5_spells_5 flX5_78 h35 rfl (e_le rfl) (e_lt hnx rfl) ?_
  refine r_isub F dX5_spells_8 ?_
  refine r_aload_n F dX5_spells_9 rfl ?_
  obtain ⟨q1, hq2, hf⟩ := e_bd hf
  refine r_callT F dX5_spells_10 (i := 1) (dc := 0) (ds := 0) (As := []) (S0 := [.int (a35_1 - a35_2)]) lkX5_125 mJ0_length_8abf5 (tJ0_length_8abf5_9 hG (la := x_l X) (h := e_up h []) hnx  hq2) rfl rfl rfl (e_le rfl) (e_le rfl) (e_le rfl) rfl (by decide) (Nat.zero_le _) (Nat.zero_le _) (e_k ?_)
  refine r_wr0 ?_
  refine r_icmp_eq F dX5_spells_13 (tgt := 18) (by decide) (fun hc => ?_) (fun hc => ?_)
  · have hf := e_t hc hf
    refine r_iconst F dX5_spells_18 (v := 0) (by decide) ?_
    refine r_istore_n F dX5_spells_19 (e_le rfl) (L' := [some (.ref 35), some (.ref 9), some (.int 0)]) rfl ?_
    obtain ⟨x6, hx7, hf⟩ := e_bd hf
    refine (e_loop_ok (P := fun (v5 : Int32) => eRun G X 20 [some (.ref 35), some (.ref 9), some (.int v5)] [] h [] nx 0 0) (K := fun (x6 : (Unit) ⊕ (Bool)) => Sum.elim (fun x6e => eRun G X 57 [none, none, none] [] h [] nx 0 0) (fun r9 => r9 = R9) x6) ?_ e_fuel 0 x6 hx7 ?_ : _)
    · intro v5 z hz ih hx
      refine r_iload_n F dX5_spells_20 rfl ?_
      refine r_aload_n F dX5_spells_21 rfl ?_
      obtain ⟨q8, hq9, hz⟩ := e_bd hz
      refine r_callT F dX5_spells_22 (i := 1) (dc := 0) (ds := 0) (As := []) (S0 := [.int v5]) lkX5_125 mJ0_length_8abf5 (tJ0_length_8abf5_9 hG (la := x_l X) (h := e_up h []) hnx  hq9) rfl rfl rfl (e_le rfl) (e_le rfl) (e_le rfl) rfl (by decide) (Nat.zero_le _) (Nat.zero_le _) (e_k ?_)
      refine r_wr0 ?_
      refine r_icmp_ge F dX5_spells_25 (tgt := 57) (by decide) (fun hc => ?_) (fun hc => ?_)
      · have hz := e_t hc hz
        refine r_drop 0 (L' := [none, some (.ref 9), some (.int v5)]) rfl ?_
        refine r_drop 1 (L' := [none, none, some (.int v5)]) rfl ?_
        refine r_drop 2 (L' := [none, none, none]) rfl ?_
        obtain rfl := Option.some.inj hz
        exact hx (.inl ()) rfl
      · have hz := e_f hc hz
        refine r_aload_n F dX5_spells_28 rfl ?_
        refine r_get F dX5_spells_29 flX5_21 h35 rfl (e_le rfl) (e_lt hnx rfl) ?_
        refine r_aload_n F dX5_spells_32 rfl ?_
        refine r_get F dX5_spells_33 flX5_78 h35 rfl (e_le rfl) (e_lt hnx rfl) ?_
        refine r_iload_n F dX5_spells_36 rfl ?_
        refine r_iadd F dX5_spells_37 ?_
        obtain ⟨q10, hq11, hz⟩ := e_bd hz
        refine r_callV F dX5_spells_38 (b := 33) (dc := 0) (ds := 0) (As := [.int (a35_2 + v5)]) (S0 := []) lkX5_121 mX9_byteAt (tX9_byteAt_33 hG (la := x_l X) (h := e_up h []) hnx h33 h34 hq11) rfl rfl rfl (e_le rfl) (e_le rfl) (e_le rfl) h33 (ci := 9) e_cl9.1 rfl (e_le rfl) (e_lt hnx rfl) (Nat.zero_le _) (Nat.zero_le _) (e_k ?_)
        refine r_wr0 ?_
        refine r_aload_n F dX5_spells_41 rfl ?_
        refine r_iload_n F dX5_spells_42 rfl ?_
        obtain ⟨q12, hq13, hz⟩ := e_bd hz
        refine r_callT F dX5_spells_43 (i := 1) (dc := 0) (ds := 0) (As := [.int v5]) (S0 := [.int q10]) lkX5_129 mJ0_charAt_5068e (tJ0_charAt_5068e_9 hG (la := x_l X) (h := e_up h []) hnx  hq13) rfl rfl rfl (e_le rfl) (e_le rfl) (e_le rfl) rfl (by decide) (Nat.zero_le _) (Nat.zero_le _) (e_k ?_)
        refine r_wr0 ?_
        refine r_icmp_eq F dX5_spells_46 (tgt := 51) (by decide) (fun hc => ?_) (fun hc => ?_)
        · have hz := e_t hc hz
          refine r_inc F dX5_spells_51 (k9 := 1) (by decide) rfl (L' := [some (.ref 35), some (.ref 9), some (.int (v5 + 1))]) rfl ?_
          refine r_goto F dX5_spells_54 (tgt := 20) (by decide) ?_
          obtain rfl := Option.some.inj hz
          exact ih (v5 + 1) rfl
        · have hz := e_f hc hz
          refine r_iconst F dX5_spells_49 (v := 0) (by decide) ?_
          obtain rfl := Option.some.inj hz
          have e9 := hx (.inr false) rfl
          subst e9
          exact r_zret F hq (v := false) dX5_spells_50 rfl rfl (Nat.le_refl _) (Nat.le_refl _) ⟨rfl, rfl⟩
    · cases x6 with
      | inr r9 => exact Option.some.inj hf
      | inl x6e =>
        simp only [Sum.elim_inl] at hf
        show eRun G X 57 [none, none, none] [] h [] nx 0 0
        refine r_iconst F dX5_spells_57 (v := 1) (by decide) ?_
        obtain rfl := Option.some.inj hf
        exact r_zret F hq (v := true) dX5_spells_58 rfl rfl (Nat.le_refl _) (Nat.le_refl _) ⟨rfl, rfl⟩
  · have hf := e_f hc hf
    refine r_iconst F dX5_spells_16 (v := 0) (by decide) ?_
    obtain rfl := Option.some.inj hf
    exact r_zret F hq (v := false) dX5_spells_17 rfl rfl (Nat.le_refl _) (Nat.le_refl _) ⟨rfl, rfl⟩

def fJ0_coder_7d493_s10   : Option (Int32) :=
  some 0
set_option maxRecDepth 100000 in
theorem tJ0_coder_7d493_10 {G : eG} (hG : e_GS G) {la : Launch} {h : Nat → eO} {nx : Nat} (hnx : 99 ≤ nx)    {R9 : Int32} (hf : fJ0_coder_7d493_s10   = some R9) :
    eSem G la MJ0_coder_7d493 [.ref 10] h nx 0 0 (fun r9 h9 => r9 = some (.int R9) ∧ h9 = h) := by
  refine eSem.of (k := 0) (L := [some (.ref 10)]) (by decide +kernel) rfl rfl (fun X F hxl hq hcR hsR => ?_)
  subst hxl
  unfold fJ0_coder_7d493_s10 at hf
  refine r_gets F dJ0_coder_7d493_0 (C := "java/lang/String") (n := "COMPACT_STRINGS") (d := "Z") (v := .int 1) (by decide +kernel) fsJ0_38 ?_
  refine r_if_eq_f F dJ0_coder_7d493_3 (tgt := 13) (by decide) (by decide) ?_
  refine r_aload_n F dJ0_coder_7d493_6 rfl ?_
  refine r_getC F dJ0_coder_7d493_7 (i := 2) (by decide) fsJ0_15 ?_
  refine r_goto F dJ0_coder_7d493_10 (tgt := 14) (by decide) ?_
  obtain rfl := Option.some.inj hf
  exact r_nret F hq dJ0_coder_7d493_14 rfl (by decide) rfl (Nat.le_refl _) (Nat.le_refl _) ⟨rfl, rfl⟩

def fJ0_length_8abf5_s10   : Option (Int32) :=
  (fJ0_coder_7d493_s10 ).bind (fun q1 =>
  some ((6 : Int32) >>> (q1 &&& 31)))
set_option maxRecDepth 100000 in
theorem tJ0_length_8abf5_10 {G : eG} (hG : e_GS G) {la : Launch} {h : Nat → eO} {nx : Nat} (hnx : 99 ≤ nx)    {R9 : Int32} (hf : fJ0_length_8abf5_s10   = some R9) :
    eSem G la MJ0_length_8abf5 [.ref 10] h nx 0 0 (fun r9 h9 => r9 = some (.int R9) ∧ h9 = h) := by
  refine eSem.of (k := 0) (L := [some (.ref 10)]) (by decide +kernel) rfl rfl (fun X F hxl hq hcR hsR => ?_)
  subst hxl
  unfold fJ0_length_8abf5_s10 at hf
  refine r_aload_n F dJ0_length_8abf5_0 rfl ?_
  refine r_getV F dJ0_length_8abf5_1 (i := 2) (by decide) fsJ0_9 ?_
  refine r_alenS F dJ0_length_8abf5_4 (hG.s18) (v := 6) rfl ?_
  refine r_aload_n F dJ0_length_8abf5_5 rfl ?_
  obtain ⟨q1, hq2, hf⟩ := e_bd hf
  refine r_callT F dJ0_length_8abf5_6 (i := 2) (dc := 0) (ds := 0) (As := []) (S0 := [.int 6]) lkJ0_335 mJ0_coder_7d493 (tJ0_coder_7d493_10 hG (la := x_l X) (h := e_up h []) hnx  hq2) rfl rfl rfl (e_le rfl) (e_le rfl) (e_le rfl) rfl (by decide) (Nat.zero_le _) (Nat.zero_le _) (e_k ?_)
  refine r_wr0 ?_
  refine r_ishr F dJ0_length_8abf5_9 ?_
  obtain rfl := Option.some.inj hf
  exact r_iret F hq dJ0_length_8abf5_10 rfl rfl (Nat.le_refl _) (Nat.le_refl _) ⟨rfl, rfl⟩

def fJ0_isLatin1_aae02_s10   : Option (Bool) :=
  some true
set_option maxRecDepth 100000 in
theorem tJ0_isLatin1_aae02_10 {G : eG} (hG : e_GS G) {la : Launch} {h : Nat → eO} {nx : Nat} (hnx : 99 ≤ nx)    {R9 : Bool} (hf : fJ0_isLatin1_aae02_s10   = some R9) :
    eSem G la MJ0_isLatin1_aae02 [.ref 10] h nx 0 0 (fun r9 h9 => r9 = some (.int (e_b R9)) ∧ h9 = h) := by
  refine eSem.of (k := 0) (L := [some (.ref 10)]) (by decide +kernel) rfl rfl (fun X F hxl hq hcR hsR => ?_)
  subst hxl
  unfold fJ0_isLatin1_aae02_s10 at hf
  refine r_gets F dJ0_isLatin1_aae02_0 (C := "java/lang/String") (n := "COMPACT_STRINGS") (d := "Z") (v := .int 1) (by decide +kernel) fsJ0_38 ?_
  refine r_if_eq_f F dJ0_isLatin1_aae02_3 (tgt := 17) (by decide) (by decide) ?_
  refine r_aload_n F dJ0_isLatin1_aae02_6 rfl ?_
  refine r_getC F dJ0_isLatin1_aae02_7 (i := 2) (by decide) fsJ0_15 ?_
  refine r_if_ne_f F dJ0_isLatin1_aae02_10 (tgt := 17) (by decide) (by decide) ?_
  refine r_iconst F dJ0_isLatin1_aae02_13 (v := 1) (by decide) ?_
  refine r_goto F dJ0_isLatin1_aae02_14 (tgt := 18) (by decide) ?_
  obtain rfl := Option.some.inj hf
  exact r_zret F hq (v := true) dJ0_isLatin1_aae02_18 rfl rfl (Nat.le_refl _) (Nat.le_refl _) ⟨rfl, rfl⟩

def fJ1_charAt_3b067_s18  (p1 : Int32) : Option (Int32) :=
  (fJ0_checkIndex_df160 p1 6).bind (fun q1 =>
  e_g (e_in p1 6) (
  e_g (e_nar .char ((Int32.toUInt32 ((sB2 (tn p1)) &&& 255) % 65536).toInt32)) (
  some ((Int32.toUInt32 ((sB2 (tn p1)) &&& 255) % 65536).toInt32))))
set_option maxRecDepth 100000 in
theorem tJ1_charAt_3b067_18 {G : eG} (hG : e_GS G) {la : Launch} {h : Nat → eO} {nx : Nat} (hnx : 99 ≤ nx)  {p1 : Int32}  {R9 : Int32} (hf : fJ1_charAt_3b067_s18  p1 = some R9) :
    eSem G la MJ1_charAt_3b067 [.ref 18, .int p1] h nx 0 0 (fun r9 h9 => r9 = some (.int R9) ∧ h9 = h) := by
  refine eSem.of (k := 0) (L := [some (.ref 18), some (.int p1)]) (by decide +kernel) rfl rfl (fun X F hxl hq hcR hsR => ?_)
  subst hxl
  unfold fJ1_charAt_3b067_s18 at hf
  refine r_iload_n F dJ1_charAt_3b067_0 rfl ?_
  refine r_aload_n F dJ1_charAt_3b067_1 rfl ?_
  refine r_alenS F dJ1_charAt_3b067_2 (hG.s18) (v := 6) rfl ?_
  obtain ⟨q1, hq2, hf⟩ := e_bd hf
  refine r_callS F dJ1_charAt_3b067_3 (dc := 0) (ds := 0) (As := [.int p1, .int 6]) (S0 := []) lkJ1_9 mJ0_checkIndex_df160 (tJ0_checkIndex_df160 hG (la := x_l X) (h := e_up h []) hnx  hq2) rfl rfl rfl (e_le rfl) (e_le rfl) (e_le rfl) (Nat.zero_le _) (Nat.zero_le _) (e_k ?_)
  refine r_wr0 ?_
  refine r_aload_n F dJ1_charAt_3b067_6 rfl ?_
  refine r_iload_n F dJ1_charAt_3b067_7 rfl ?_
  obtain ⟨hg, hf⟩ := e_gd hf
  refine r_baldS F dJ1_charAt_3b067_8 (i := p1) (hG.s18) (e_vp hg) ?_
  refine r_sipush F dJ1_charAt_3b067_9 (v := 255) (by decide) ?_
  refine r_iand F dJ1_charAt_3b067_12 ?_
  refine r_i2c F dJ1_charAt_3b067_13 ?_
  obtain ⟨hg, hf⟩ := e_gd hf
  obtain rfl := Option.some.inj hf
  exact r_nret F hq dJ1_charAt_3b067_14 rfl (of_decide_eq_true hg) rfl (Nat.le_refl _) (Nat.le_refl _) ⟨rfl, rfl⟩

def fJ0_charAt_5068e_s10  (p0 : Int32) : Option (Int32) :=
  (fJ0_isLatin1_aae02_s10 ).bind (fun q1 =>
  if q1 = true then
    (fJ1_charAt_3b067_s18 p0).bind (fun q3 =>
    e_g (e_nar .char q3) (
    some q3))
  else
    none)
set_option maxRecDepth 100000 in
theorem tJ0_charAt_5068e_10 {G : eG} (hG : e_GS G) {la : Launch} {h : Nat → eO} {nx : Nat} (hnx : 99 ≤ nx)  {p0 : Int32}  {R9 : Int32} (hf : fJ0_charAt_5068e_s10  p0 = some R9) :
    eSem G la MJ0_charAt_5068e [.ref 10, .int p0] h nx 0 0 (fun r9 h9 => r9 = some (.int R9) ∧ h9 = h) := by
  refine eSem.of (k := 0) (L := [some (.ref 10), some (.int p0)]) (by decide +kernel) rfl rfl (fun X F hxl hq hcR hsR => ?_)
  subst hxl
  unfold fJ0_charAt_5068e_s10 at hf
  refine r_aload_n F dJ0_charAt_5068e_0 rfl ?_
  obtain ⟨q1, hq2, hf⟩ := e_bd hf
  refine r_callT F dJ0_charAt_5068e_1 (i := 2) (dc := 0) (ds := 0) (As := []) (S0 := []) lkJ0_492 mJ0_isLatin1_aae02 (tJ0_isLatin1_aae02_10 hG (la := x_l X) (h := e_up h []) hnx  hq2) rfl rfl rfl (e_le rfl) (e_le rfl) (e_le rfl) rfl (by decide) (Nat.zero_le _) (Nat.zero_le _) (e_k ?_)
  refine r_wr0 ?_
  refine r_z_eq F dJ0_charAt_5068e_4 (tgt := 16) (by decide) (fun hc => ?_) (fun hc => ?_)
  · have hf := e_t hc hf
    refine r_aload_n F dJ0_charAt_5068e_7 rfl ?_
    refine r_getV F dJ0_charAt_5068e_8 (i := 2) (by decide) fsJ0_9 ?_
    refine r_iload_n F dJ0_charAt_5068e_11 rfl ?_
    obtain ⟨q3, hq4, hf⟩ := e_bd hf
    refine r_callS F dJ0_charAt_5068e_12 (dc := 0) (ds := 0) (As := [.ref 18, .int p0]) (S0 := []) lkJ0_495 mJ1_charAt_3b067 (tJ1_charAt_3b067_18 hG (la := x_l X) (h := e_up h []) hnx  hq4) rfl rfl rfl (e_le rfl) (e_le rfl) (e_le rfl) (Nat.zero_le _) (Nat.zero_le _) (e_k ?_)
    refine r_wr0 ?_
    obtain ⟨hg, hf⟩ := e_gd hf
    obtain rfl := Option.some.inj hf
    exact r_nret F hq dJ0_charAt_5068e_15 rfl (of_decide_eq_true hg) rfl (Nat.le_refl _) (Nat.le_refl _) ⟨rfl, rfl⟩
  · have hf := e_f hc hf
    refine r_aload_n F dJ0_charAt_5068e_16 rfl ?_
    refine r_getV F dJ0_charAt_5068e_17 (i := 2) (by decide) fsJ0_9 ?_
    refine r_iload_n F dJ0_charAt_5068e_20 rfl ?_
    cases hf

def fX5_spells_s10 (a33_1 : Int32) (a35_1 : Int32) (a35_2 : Int32) (A34 : Nat → Int32)  : Option (Bool) :=
  (fJ0_length_8abf5_s10 ).bind (fun q1 =>
  if (a35_1 - a35_2) = q1 then
    (e_loop (fun (v5 : Int32) => (
        (fJ0_length_8abf5_s10 ).bind (fun q8 =>
        if q8 ≤ v5 then
          some (.inr (.inl ()))
        else
          (fX9_byteAt a33_1 A34 (a35_2 + v5)).bind (fun q10 =>
          (fJ0_charAt_5068e_s10 v5).bind (fun q12 =>
          if q10 = q12 then
            some (.inl (v5 + 1))
          else
            some (.inr (.inr false))))) : Option ((Int32) ⊕ ((Unit) ⊕ (Bool))))) e_fuel 0).bind (fun x6 => Sum.elim (fun x6e =>
      some true) (fun r9 => some r9) x6)
  else
    some false)
set_option maxRecDepth 100000 in
theorem tX5_spells_35_10 {G : eG} (hG : e_GS G) {la : Launch} {h : Nat → eO} {nx : Nat} (hnx : 99 ≤ nx) {a33_1 : Int32} {A34 : Nat → Int32} {a35_1 : Int32} {a35_2 : Int32} {a35_3 : Int32} {a35_4 : Int32} {a35_5 : Int32} {a35_7 : Bool} {a35_8 : Bool} {a35_9 : Bool} {a35_10 : Int32}  (h33 : h 33 = o33 a33_1) (h34 : h 34 = o34 A34) (h35 : h 35 = o35 a35_1 a35_2 a35_3 a35_4 a35_5 a35_7 a35_8 a35_9 a35_10) {R9 : Bool} (hf : fX5_spells_s10 a33_1 a35_1 a35_2 A34  = some R9) :
    eSem G la MX5_spells [.ref 35, .ref 10] h nx 0 0 (fun r9 h9 => r9 = some (.int (e_b R9)) ∧ h9 = h) := by
  refine eSem.of (k := 1) (L := [some (.ref 35), some (.ref 10), none]) (by decide +kernel) rfl rfl (fun X F hxl hq hcR hsR => ?_)
  subst hxl
  unfold fX5_spells_s10 at hf
  refine r_aload_n F dX5_spells_0 rfl ?_
  refine r_get F dX5_spells_1 flX5_25 h35 rfl (e_le rfl) (e_lt hnx rfl) ?_
  refine r_aload_n F dX5_spells_4 rfl ?_
  refine r_get F dX5_spells_5 flX5_78 h35 rfl (e_le rfl) (e_lt hnx rfl) ?_
  refine r_isub F dX5_spells_8 ?_
  refine r_aload_n F dX5_spells_9 rfl ?_
  obtain ⟨q1, hq2, hf⟩ := e_bd hf
  refine r_callT F dX5_spells_10 (i := 2) (dc := 0) (ds := 0) (As := []) (S0 := [.int (a35_1 - a35_2)]) lkX5_125 mJ0_length_8abf5 (tJ0_length_8abf5_10 hG (la := x_l X) (h := e_up h []) hnx  hq2) rfl rfl rfl (e_le rfl) (e_le rfl) (e_le rfl) rfl (by decide) (Nat.zero_le _) (Nat.zero_le _) (e_k ?_)
  refine r_wr0 ?_
  refine r_icmp_eq F dX5_spells_13 (tgt := 18) (by decide) (fun hc => ?_) (fun hc => ?_)
  · have hf := e_t hc hf
    refine r_iconst F dX5_spells_18 (v := 0) (by decide) ?_
    refine r_istore_n F dX5_spells_19 (e_le rfl) (L' := [some (.ref 35), some (.ref 10), some (.int 0)]) rfl ?_
    obtain ⟨x6, hx7, hf⟩ := e_bd hf
    refine (e_loop_ok (P := fun (v5 : Int32) => eRun G X 20 [some (.ref 35), some (.ref 10), some (.int v5)] [] h [] nx 0 0) (K := fun (x6 : (Unit) ⊕ (Bool)) => Sum.elim (fun x6e => eRun G X 57 [none, none, none] [] h [] nx 0 0) (fun r9 => r9 = R9) x6) ?_ e_fuel 0 x6 hx7 ?_ : _)
    · intro v5 z hz ih hx
      refine r_iload_n F dX5_spells_20 rfl ?_
      refine r_aload_n F dX5_spells_21 rfl ?_
      obtain ⟨q8, hq9, hz⟩ := e_bd hz
      refine r_callT F dX5_spells_22 (i := 2) (dc := 0) (ds := 0) (As := []) (S0 := [.int v5]) lkX5_125 mJ0_length_8abf5 (tJ0_length_8abf5_10 hG (la := x_l X) (h := e_up h []) hnx  hq9) rfl rfl rfl (e_le rfl) (e_le rfl) (e_le rfl) rfl (by decide) (Nat.zero_le _) (Nat.zero_le _) (e_k ?_)
      refine r_wr0 ?_
      refine r_icmp_ge F dX5_spells_25 (tgt := 57) (by decide) (fun hc => ?_) (fun hc => ?_)
      · have hz := e_t hc hz
        refine r_drop 0 (L' := [none, some (.ref 10), some (.int v5)]) rfl ?_
        refine r_drop 1 (L' := [none, none, some (.int v5)]) rfl ?_
        refine r_drop 2 (L' := [none, none, none]) rfl ?_
        obtain rfl := Option.some.inj hz
        exact hx (.inl ()) rfl
      · have hz := e_f hc hz
        refine r_aload_n F dX5_spells_28 rfl ?_
        refine r_get F dX5_spells_29 flX5_21 h35 rfl (e_le rfl) (e_lt hnx rfl) ?_
        refine r_aload_n F dX5_spells_32 rfl ?_
        refine r_get F dX5_spells_33 flX5_78 h35 rfl (e_le rfl) (e_lt hnx rfl) ?_
        refine r_iload_n F dX5_spells_36 rfl ?_
        refine r_iadd F dX5_spells_37 ?_
        obtain ⟨q10, hq11, hz⟩ := e_bd hz
        refine r_callV F dX5_spells_38 (b := 33) (dc := 0) (ds := 0) (As := [.int (a35_2 + v5)]) (S0 := []) lkX5_121 mX9_byteAt (tX9_byteAt_33 hG (la := x_l X) (h := e_up h []) hnx h33 h34 hq11) rfl rfl rfl (e_le rfl) (e_le rfl) (e_le rfl) h33 (ci := 9) e_cl9.1 rfl (e_le rfl) (e_lt hnx rfl) (Nat.zero_le _) (Nat.zero_le _) (e_k ?_)
        refine r_wr0 ?_
        refine r_aload_n F dX5_spells_41 rfl ?_
        refine r_iload_n F dX5_spells_42 rfl ?_
        obtain ⟨q12, hq13, hz⟩ := e_bd hz
        refine r_callT F dX5_spells_43 (i := 2) (dc := 0) (ds := 0) (As := [.int v5]) (S0 := [.int q10]) lkX5_129 mJ0_charAt_5068e (tJ0_charAt_5068e_10 hG (la := x_l X) (h := e_up h []) hnx  hq13) rfl rfl rfl (e_le rfl) (e_le rfl) (e_le rfl) rfl (by decide) (Nat.zero_le _) (Nat.zero_le _) (e_k ?_)
        refine r_wr0 ?_
        refine r_icmp_eq F dX5_spells_46 (tgt := 51) (by decide) (fun hc => ?_) (fun hc => ?_)
        · have hz := e_t hc hz
          refine r_inc F dX5_spells_51 (k9 := 1) (by decide) rfl (L' := [some (.ref 35), some (.ref 10), some (.int (v5 + 1))]) rfl ?_
          refine r_goto F dX5_spells_54 (tgt := 20) (by decide) ?_
          obtain rfl := Option.some.inj hz
          exact ih (v5 + 1) rfl
        · have hz := e_f hc hz
          refine r_iconst F dX5_spells_49 (v := 0) (by decide) ?_
          obtain rfl := Option.some.inj hz
          have e9 := hx (.inr false) rfl
          subst e9
          exact r_zret F hq (v := false) dX5_spells_50 rfl rfl (Nat.le_refl _) (Nat.le_refl _) ⟨rfl, rfl⟩
    · cases x6 with
      | inr r9 => exact Option.some.inj hf
      | inl x6e =>
        simp only [Sum.elim_inl] at hf
        show eRun G X 57 [none, none, none] [] h [] nx 0 0
        refine r_iconst F dX5_spells_57 (v := 1) (by decide) ?_
        obtain rfl := Option.some.inj hf
        exact r_zret F hq (v := true) dX5_spells_58 rfl rfl (Nat.le_refl _) (Nat.le_refl _) ⟨rfl, rfl⟩
  · have hf := e_f hc hf
    refine r_iconst F dX5_spells_16 (v := 0) (by decide) ?_
    obtain rfl := Option.some.inj hf
    exact r_zret F hq (v := false) dX5_spells_17 rfl rfl (Nat.le_refl _) (Nat.le_refl _) ⟨rfl, rfl⟩

def fJ0_coder_7d493_s11   : Option (Int32) :=
  some 0
set_option maxRecDepth 100000 in
theorem tJ0_coder_7d493_11 {G : eG} (hG : e_GS G) {la : Launch} {h : Nat → eO} {nx : Nat} (hnx : 99 ≤ nx)    {R9 : Int32} (hf : fJ0_coder_7d493_s11   = some R9) :
    eSem G la MJ0_coder_7d493 [.ref 11] h nx 0 0 (fun r9 h9 => r9 = some (.int R9) ∧ h9 = h) := by
  refine eSem.of (k := 0) (L := [some (.ref 11)]) (by decide +kernel) rfl rfl (fun X F hxl hq hcR hsR => ?_)
  subst hxl
  unfold fJ0_coder_7d493_s11 at hf
  refine r_gets F dJ0_coder_7d493_0 (C := "java/lang/String") (n := "COMPACT_STRINGS") (d := "Z") (v := .int 1) (by decide +kernel) fsJ0_38 ?_
  refine r_if_eq_f F dJ0_coder_7d493_3 (tgt := 13) (by decide) (by decide) ?_
  refine r_aload_n F dJ0_coder_7d493_6 rfl ?_
  refine r_getC F dJ0_coder_7d493_7 (i := 3) (by decide) fsJ0_15 ?_
  refine r_goto F dJ0_coder_7d493_10 (tgt := 14) (by decide) ?_
  obtain rfl := Option.some.inj hf
  exact r_nret F hq dJ0_coder_7d493_14 rfl (by decide) rfl (Nat.le_refl _) (Nat.le_refl _) ⟨rfl, rfl⟩

def fJ0_length_8abf5_s11   : Option (Int32) :=
  (fJ0_coder_7d493_s11 ).bind (fun q1 =>
  some ((4 : Int32) >>> (q1 &&& 31)))
set_option maxRecDepth 100000 in
theorem tJ0_length_8abf5_11 {G : eG} (hG : e_GS G) {la : Launch} {h : Nat → eO} {nx : Nat} (hnx : 99 ≤ nx)    {R9 : Int32} (hf : fJ0_length_8abf5_s11   = some R9) :
    eSem G la MJ0_length_8abf5 [.ref 11] h nx 0 0 (fun r9 h9 => r9 = some (.int R9) ∧ h9 = h) := by
  refine eSem.of (k := 0) (L := [some (.ref 11)]) (by decide +kernel) rfl rfl (fun X F hxl hq hcR hsR => ?_)
  subst hxl
  unfold fJ0_length_8abf5_s11 at hf
  refine r_aload_n F dJ0_length_8abf5_0 rfl ?_
  refine r_getV F dJ0_length_8abf5_1 (i := 3) (by decide) fsJ0_9 ?_
  refine r_alenS F dJ0_length_8abf5_4 (hG.s19) (v := 4) rfl ?_
  refine r_aload_n F dJ0_length_8abf5_5 rfl ?_
  obtain ⟨q1, hq2, hf⟩ := e_bd hf
  refine r_callT F dJ0_length_8abf5_6 (i := 3) (dc := 0) (ds := 0) (As := []) (S0 := [.int 4]) lkJ0_335 mJ0_coder_7d493 (tJ0_coder_7d493_11 hG (la := x_l X) (h := e_up h []) hnx  hq2) rfl rfl rfl (e_le rfl) (e_le rfl) (e_le rfl) rfl (by decide) (Nat.zero_le _) (Nat.zero_le _) (e_k ?_)
  refine r_wr0 ?_
  refine r_ishr F dJ0_length_8abf5_9 ?_
  obtain rfl := Option.some.inj hf
  exact r_iret F hq dJ0_length_8abf5_10 rfl rfl (Nat.le_refl _) (Nat.le_refl _) ⟨rfl, rfl⟩

def fJ0_isLatin1_aae02_s11   : Option (Bool) :=
  some true
set_option maxRecDepth 100000 in
theorem tJ0_isLatin1_aae02_11 {G : eG} (hG : e_GS G) {la : Launch} {h : Nat → eO} {nx : Nat} (hnx : 99 ≤ nx)    {R9 : Bool} (hf : fJ0_isLatin1_aae02_s11   = some R9) :
    eSem G la MJ0_isLatin1_aae02 [.ref 11] h nx 0 0 (fun r9 h9 => r9 = some (.int (e_b R9)) ∧ h9 = h) := by
  refine eSem.of (k := 0) (L := [some (.ref 11)]) (by decide +kernel) rfl rfl (fun X F hxl hq hcR hsR => ?_)
  subst hxl
  unfold fJ0_isLatin1_aae02_s11 at hf
  refine r_gets F dJ0_isLatin1_aae02_0 (C := "java/lang/String") (n := "COMPACT_STRINGS") (d := "Z") (v := .int 1) (by decide +kernel) fsJ0_38 ?_
  refine r_if_eq_f F dJ0_isLatin1_aae02_3 (tgt := 17) (by decide) (by decide) ?_
  refine r_aload_n F dJ0_isLatin1_aae02_6 rfl ?_
  refine r_getC F dJ0_isLatin1_aae02_7 (i := 3) (by decide) fsJ0_15 ?_
  refine r_if_ne_f F dJ0_isLatin1_aae02_10 (tgt := 17) (by decide) (by decide) ?_
  refine r_iconst F dJ0_isLatin1_aae02_13 (v := 1) (by decide) ?_
  refine r_goto F dJ0_isLatin1_aae02_14 (tgt := 18) (by decide) ?_
  obtain rfl := Option.some.inj hf
  exact r_zret F hq (v := true) dJ0_isLatin1_aae02_18 rfl rfl (Nat.le_refl _) (Nat.le_refl _) ⟨rfl, rfl⟩

def fJ1_charAt_3b067_s19  (p1 : Int32) : Option (Int32) :=
  (fJ0_checkIndex_df160 p1 4).bind (fun q1 =>
  e_g (e_in p1 4) (
  e_g (e_nar .char ((Int32.toUInt32 ((sB3 (tn p1)) &&& 255) % 65536).toInt32)) (
  some ((Int32.toUInt32 ((sB3 (tn p1)) &&& 255) % 65536).toInt32))))
set_option maxRecDepth 100000 in
theorem tJ1_charAt_3b067_19 {G : eG} (hG : e_GS G) {la : Launch} {h : Nat → eO} {nx : Nat} (hnx : 99 ≤ nx)  {p1 : Int32}  {R9 : Int32} (hf : fJ1_charAt_3b067_s19  p1 = some R9) :
    eSem G la MJ1_charAt_3b067 [.ref 19, .int p1] h nx 0 0 (fun r9 h9 => r9 = some (.int R9) ∧ h9 = h) := by
  refine eSem.of (k := 0) (L := [some (.ref 19), some (.int p1)]) (by decide +kernel) rfl rfl (fun X F hxl hq hcR hsR => ?_)
  subst hxl
  unfold fJ1_charAt_3b067_s19 at hf
  refine r_iload_n F dJ1_charAt_3b067_0 rfl ?_
  refine r_aload_n F dJ1_charAt_3b067_1 rfl ?_
  refine r_alenS F dJ1_charAt_3b067_2 (hG.s19) (v := 4) rfl ?_
  obtain ⟨q1, hq2, hf⟩ := e_bd hf
  refine r_callS F dJ1_charAt_3b067_3 (dc := 0) (ds := 0) (As := [.int p1, .int 4]) (S0 := []) lkJ1_9 mJ0_checkIndex_df160 (tJ0_checkIndex_df160 hG (la := x_l X) (h := e_up h []) hnx  hq2) rfl rfl rfl (e_le rfl) (e_le rfl) (e_le rfl) (Nat.zero_le _) (Nat.zero_le _) (e_k ?_)
  refine r_wr0 ?_
  refine r_aload_n F dJ1_charAt_3b067_6 rfl ?_
  refine r_iload_n F dJ1_charAt_3b067_7 rfl ?_
  obtain ⟨hg, hf⟩ := e_gd hf
  refine r_baldS F dJ1_charAt_3b067_8 (i := p1) (hG.s19) (e_vp hg) ?_
  refine r_sipush F dJ1_charAt_3b067_9 (v := 255) (by decide) ?_
  refine r_iand F dJ1_charAt_3b067_12 ?_
  refine r_i2c F dJ1_charAt_3b067_13 ?_
  obtain ⟨hg, hf⟩ := e_gd hf
  obtain rfl := Option.some.inj hf
  exact r_nret F hq dJ1_charAt_3b067_14 rfl (of_decide_eq_true hg) rfl (Nat.le_refl _) (Nat.le_refl _) ⟨rfl, rfl⟩

def fJ0_charAt_5068e_s11  (p0 : Int32) : Option (Int32) :=
  (fJ0_isLatin1_aae02_s11 ).bind (fun q1 =>
  if q1 = true then
    (fJ1_charAt_3b067_s19 p0).bind (fun q3 =>
    e_g (e_nar .char q3) (
    some q3))
  else
    none)
set_option maxRecDepth 100000 in
theorem tJ0_charAt_5068e_11 {G : eG} (hG : e_GS G) {la : Launch} {h : Nat → eO} {nx : Nat} (hnx : 99 ≤ nx)  {p0 : Int32}  {R9 : Int32} (hf : fJ0_charAt_5068e_s11  p0 = some R9) :
    eSem G la MJ0_charAt_5068e [.ref 11, .int p0] h nx 0 0 (fun r9 h9 => r9 = some (.int R9) ∧ h9 = h) := by
  refine eSem.of (k := 0) (L := [some (.ref 11), some (.int p0)]) (by decide +kernel) rfl rfl (fun X F hxl hq hcR hsR => ?_)
  subst hxl
  unfold fJ0_charAt_5068e_s11 at hf
  refine r_aload_n F dJ0_charAt_5068e_0 rfl ?_
  obtain ⟨q1, hq2, hf⟩ := e_bd hf
  refine r_callT F dJ0_charAt_5068e_1 (i := 3) (dc := 0) (ds := 0) (As := []) (S0 := []) lkJ0_492 mJ0_isLatin1_aae02 (tJ0_isLatin1_aae02_11 hG (la := x_l X) (h := e_up h []) hnx  hq2) rfl rfl rfl (e_le rfl) (e_le rfl) (e_le rfl) rfl (by decide) (Nat.zero_le _) (Nat.zero_le _) (e_k ?_)
  refine r_wr0 ?_
  refine r_z_eq F dJ0_charAt_5068e_4 (tgt := 16) (by decide) (fun hc => ?_) (fun hc => ?_)
  · have hf := e_t hc hf
    refine r_aload_n F dJ0_charAt_5068e_7 rfl ?_
    refine r_getV F dJ0_charAt_5068e_8 (i := 3) (by decide) fsJ0_9 ?_
    refine r_iload_n F dJ0_charAt_5068e_11 rfl ?_
    obtain ⟨q3, hq4, hf⟩ := e_bd hf
    refine r_callS F dJ0_charAt_5068e_12 (dc := 0) (ds := 0) (As := [.ref 19, .int p0]) (S0 := []) lkJ0_495 mJ1_charAt_3b067 (tJ1_charAt_3b067_19 hG (la := x_l X) (h := e_up h []) hnx  hq4) rfl rfl rfl (e_le rfl) (e_le rfl) (e_le rfl) (Nat.zero_le _) (Nat.zero_le _) (e_k ?_)
    refine r_wr0 ?_
    obtain ⟨hg, hf⟩ := e_gd hf
    obtain rfl := Option.some.inj hf
    exact r_nret F hq dJ0_charAt_5068e_15 rfl (of_decide_eq_true hg) rfl (Nat.le_refl _) (Nat.le_refl _) ⟨rfl, rfl⟩
  · have hf := e_f hc hf
    refine r_aload_n F dJ0_charAt_5068e_16 rfl ?_
    refine r_getV F dJ0_charAt_5068e_17 (i := 3) (by decide) fsJ0_9 ?_
    refine r_iload_n F dJ0_charAt_5068e_20 rfl ?_
    cases hf

def fX5_spells_s11 (a33_1 : Int32) (a35_1 : Int32) (a35_2 : Int32) (A34 : Nat → Int32)  : Option (Bool) :=
  (fJ0_length_8abf5_s11 ).bind (fun q1 =>
  if (a35_1 - a35_2) = q1 then
    (e_loop (fun (v5 : Int32) => (
        (fJ0_length_8abf5_s11 ).bind (fun q8 =>
        if q8 ≤ v5 then
          some (.inr (.inl ()))
        else
          (fX9_byteAt a33_1 A34 (a35_2 + v5)).bind (fun q10 =>
          (fJ0_charAt_5068e_s11 v5).bind (fun q12 =>
          if q10 = q12 then
            some (.inl (v5 + 1))
          else
            some (.inr (.inr false))))) : Option ((Int32) ⊕ ((Unit) ⊕ (Bool))))) e_fuel 0).bind (fun x6 => Sum.elim (fun x6e =>
      some true) (fun r9 => some r9) x6)
  else
    some false)
set_option maxRecDepth 100000 in
theorem tX5_spells_35_11 {G : eG} (hG : e_GS G) {la : Launch} {h : Nat → eO} {nx : Nat} (hnx : 99 ≤ nx) {a33_1 : Int32} {A34 : Nat → Int32} {a35_1 : Int32} {a35_2 : Int32} {a35_3 : Int32} {a35_4 : Int32} {a35_5 : Int32} {a35_7 : Bool} {a35_8 : Bool} {a35_9 : Bool} {a35_10 : Int32}  (h33 : h 33 = o33 a33_1) (h34 : h 34 = o34 A34) (h35 : h 35 = o35 a35_1 a35_2 a35_3 a35_4 a35_5 a35_7 a35_8 a35_9 a35_10) {R9 : Bool} (hf : fX5_spells_s11 a33_1 a35_1 a35_2 A34  = some R9) :
    eSem G la MX5_spells [.ref 35, .ref 11] h nx 0 0 (fun r9 h9 => r9 = some (.int (e_b R9)) ∧ h9 = h) := by
  refine eSem.of (k := 1) (L := [some (.ref 35), some (.ref 11), none]) (by decide +kernel) rfl rfl (fun X F hxl hq hcR hsR => ?_)
  subst hxl
  unfold fX5_spells_s11 at hf
  refine r_aload_n F dX5_spells_0 rfl ?_
  refine r_get F dX5_spells_1 flX5_25 h35 rfl (e_le rfl) (e_lt hnx rfl) ?_
  refine r_aload_n F dX5_spells_4 rfl ?_
  refine r_get F dX5_spells_5 flX5_78 h35 rfl (e_le rfl) (e_lt hnx rfl) ?_
  refine r_isub F dX5_spells_8 ?_
  refine r_aload_n F dX5_spells_9 rfl ?_
  obtain ⟨q1, hq2, hf⟩ := e_bd hf
  refine r_callT F dX5_spells_10 (i := 3) (dc := 0) (ds := 0) (As := []) (S0 := [.int (a35_1 - a35_2)]) lkX5_125 mJ0_length_8abf5 (tJ0_length_8abf5_11 hG (la := x_l X) (h := e_up h []) hnx  hq2) rfl rfl rfl (e_le rfl) (e_le rfl) (e_le rfl) rfl (by decide) (Nat.zero_le _) (Nat.zero_le _) (e_k ?_)
  refine r_wr0 ?_
  refine r_icmp_eq F dX5_spells_13 (tgt := 18) (by decide) (fun hc => ?_) (fun hc => ?_)
  · have hf := e_t hc hf
    refine r_iconst F dX5_spells_18 (v := 0) (by decide) ?_
    refine r_istore_n F dX5_spells_19 (e_le rfl) (L' := [some (.ref 35), some (.ref 11), some (.int 0)]) rfl ?_
    obtain ⟨x6, hx7, hf⟩ := e_bd hf
    refine (e_loop_ok (P := fun (v5 : Int32) => eRun G X 20 [some (.ref 35), some (.ref 11), some (.int v5)] [] h [] nx 0 0) (K := fun (x6 : (Unit) ⊕ (Bool)) => Sum.elim (fun x6e => eRun G X 57 [none, none, none] [] h [] nx 0 0) (fun r9 => r9 = R9) x6) ?_ e_fuel 0 x6 hx7 ?_ : _)
    · intro v5 z hz ih hx
      refine r_iload_n F dX5_spells_20 rfl ?_
      refine r_aload_n F dX5_spells_21 rfl ?_
      obtain ⟨q8, hq9, hz⟩ := e_bd hz
      refine r_callT F dX5_spells_22 (i := 3) (dc := 0) (ds := 0) (As := []) (S0 := [.int v5]) lkX5_125 mJ0_length_8abf5 (tJ0_length_8abf5_11 hG (la := x_l X) (h := e_up h []) hnx  hq9) rfl rfl rfl (e_le rfl) (e_le rfl) (e_le rfl) rfl (by decide) (Nat.zero_le _) (Nat.zero_le _) (e_k ?_)
      refine r_wr0 ?_
      refine r_icmp_ge F dX5_spells_25 (tgt := 57) (by decide) (fun hc => ?_) (fun hc => ?_)
      · have hz := e_t hc hz
        refine r_drop 0 (L' := [none, some (.ref 11), some (.int v5)]) rfl ?_
        refine r_drop 1 (L' := [none, none, some (.int v5)]) rfl ?_
        refine r_drop 2 (L' := [none, none, none]) rfl ?_
        obtain rfl := Option.some.inj hz
        exact hx (.inl ()) rfl
      · have hz := e_f hc hz
        refine r_aload_n F dX5_spells_28 rfl ?_
        refine r_get F dX5_spells_29 flX5_21 h35 rfl (e_le rfl) (e_lt hnx rfl) ?_
        refine r_aload_n F dX5_spells_32 rfl ?_
        refine r_get F dX5_spells_33 flX5_78 h35 rfl (e_le rfl) (e_lt hnx rfl) ?_
        refine r_iload_n F dX5_spells_36 rfl ?_
        refine r_iadd F dX5_spells_37 ?_
        obtain ⟨q10, hq11, hz⟩ := e_bd hz
        refine r_callV F dX5_spells_38 (b := 33) (dc := 0) (ds := 0) (As := [.int (a35_2 + v5)]) (S0 := []) lkX5_121 mX9_byteAt (tX9_byteAt_33 hG (la := x_l X) (h := e_up h []) hnx h33 h34 hq11) rfl rfl rfl (e_le rfl) (e_le rfl) (e_le rfl) h33 (ci := 9) e_cl9.1 rfl (e_le rfl) (e_lt hnx rfl) (Nat.zero_le _) (Nat.zero_le _) (e_k ?_)
        refine r_wr0 ?_
        refine r_aload_n F dX5_spells_41 rfl ?_
        refine r_iload_n F dX5_spells_42 rfl ?_
        obtain ⟨q12, hq13, hz⟩ := e_bd hz
        refine r_callT F dX5_spells_43 (i := 3) (dc := 0) (ds := 0) (As := [.int v5]) (S0 := [.int q10]) lkX5_129 mJ0_charAt_5068e (tJ0_charAt_5068e_11 hG (la := x_l X) (h := e_up h []) hnx  hq13) rfl rfl rfl (e_le rfl) (e_le rfl) (e_le rfl) rfl (by decide) (Nat.zero_le _) (Nat.zero_le _) (e_k ?_)
        refine r_wr0 ?_
        refine r_icmp_eq F dX5_spells_46 (tgt := 51) (by decide) (fun hc => ?_) (fun hc => ?_)
        · have hz := e_t hc hz
          refine r_inc F dX5_spells_51 (k9 := 1) (by decide) rfl (L' := [some (.ref 35), some (.ref 11), some (.int (v5 + 1))]) rfl ?_
          refine r_goto F dX5_spells_54 (tgt := 20) (by decide) ?_
          obtain rfl := Option.some.inj hz
          exact ih (v5 + 1) rfl
        · have hz := e_f hc hz
          refine r_iconst F dX5_spells_49 (v := 0) (by decide) ?_
          obtain rfl := Option.some.inj hz
          have e9 := hx (.inr false) rfl
          subst e9
          exact r_zret F hq (v := false) dX5_spells_50 rfl rfl (Nat.le_refl _) (Nat.le_refl _) ⟨rfl, rfl⟩
    · cases x6 with
      | inr r9 => exact Option.some.inj hf
      | inl x6e =>
        simp only [Sum.elim_inl] at hf
        show eRun G X 57 [none, none, none] [] h [] nx 0 0
        refine r_iconst F dX5_spells_57 (v := 1) (by decide) ?_
        obtain rfl := Option.some.inj hf
        exact r_zret F hq (v := true) dX5_spells_58 rfl rfl (Nat.le_refl _) (Nat.le_refl _) ⟨rfl, rfl⟩
  · have hf := e_f hc hf
    refine r_iconst F dX5_spells_16 (v := 0) (by decide) ?_
    obtain rfl := Option.some.inj hf
    exact r_zret F hq (v := false) dX5_spells_17 rfl rfl (Nat.le_refl _) (Nat.le_refl _) ⟨rfl, rfl⟩

def fJ0_coder_7d493_s12   : Option (Int32) :=
  some 0
set_option maxRecDepth 100000 in
theorem tJ0_coder_7d493_12 {G : eG} (hG : e_GS G) {la : Launch} {h : Nat → eO} {nx : Nat} (hnx : 99 ≤ nx)    {R9 : Int32} (hf : fJ0_coder_7d493_s12   = some R9) :
    eSem G la MJ0_coder_7d493 [.ref 12] h nx 0 0 (fun r9 h9 => r9 = some (.int R9) ∧ h9 = h) := by
  refine eSem.of (k := 0) (L := [some (.ref 12)]) (by decide +kernel) rfl rfl (fun X F hxl hq hcR hsR => ?_)
  subst hxl
  unfold fJ0_coder_7d493_s12 at hf
  refine r_gets F dJ0_coder_7d493_0 (C := "java/lang/String") (n := "COMPACT_STRINGS") (d := "Z") (v := .int 1) (by decide +kernel) fsJ0_38 ?_
  refine r_if_eq_f F dJ0_coder_7d493_3 (tgt := 13) (by decide) (by decide) ?_
  refine r_aload_n F dJ0_coder_7d493_6 rfl ?_
  refine r_getC F dJ0_coder_7d493_7 (i := 4) (by decide) fsJ0_15 ?_
  refine r_goto F dJ0_coder_7d493_10 (tgt := 14) (by decide) ?_
  obtain rfl := Option.some.inj hf
  exact r_nret F hq dJ0_coder_7d493_14 rfl (by decide) rfl (Nat.le_refl _) (Nat.le_refl _) ⟨rfl, rfl⟩

def fJ0_length_8abf5_s12   : Option (Int32) :=
  (fJ0_coder_7d493_s12 ).bind (fun q1 =>
  some ((4 : Int32) >>> (q1 &&& 31)))
set_option maxRecDepth 100000 in
theorem tJ0_length_8abf5_12 {G : eG} (hG : e_GS G) {la : Launch} {h : Nat → eO} {nx : Nat} (hnx : 99 ≤ nx)    {R9 : Int32} (hf : fJ0_length_8abf5_s12   = some R9) :
    eSem G la MJ0_length_8abf5 [.ref 12] h nx 0 0 (fun r9 h9 => r9 = some (.int R9) ∧ h9 = h) := by
  refine eSem.of (k := 0) (L := [some (.ref 12)]) (by decide +kernel) rfl rfl (fun X F hxl hq hcR hsR => ?_)
  subst hxl
  unfold fJ0_length_8abf5_s12 at hf
  refine r_aload_n F dJ0_length_8abf5_0 rfl ?_
  refine r_getV F dJ0_length_8abf5_1 (i := 4) (by decide) fsJ0_9 ?_
  refine r_alenS F dJ0_length_8abf5_4 (hG.s20) (v := 4) rfl ?_
  refine r_aload_n F dJ0_length_8abf5_5 rfl ?_
  obtain ⟨q1, hq2, hf⟩ := e_bd hf
  refine r_callT F dJ0_length_8abf5_6 (i := 4) (dc := 0) (ds := 0) (As := []) (S0 := [.int 4]) lkJ0_335 mJ0_coder_7d493 (tJ0_coder_7d493_12 hG (la := x_l X) (h := e_up h []) hnx  hq2) rfl rfl rfl (e_le rfl) (e_le rfl) (e_le rfl) rfl (by decide) (Nat.zero_le _) (Nat.zero_le _) (e_k ?_)
  refine r_wr0 ?_
  refine r_ishr F dJ0_length_8abf5_9 ?_
  obtain rfl := Option.some.inj hf
  exact r_iret F hq dJ0_length_8abf5_10 rfl rfl (Nat.le_refl _) (Nat.le_refl _) ⟨rfl, rfl⟩

def fJ0_isLatin1_aae02_s12   : Option (Bool) :=
  some true
set_option maxRecDepth 100000 in
theorem tJ0_isLatin1_aae02_12 {G : eG} (hG : e_GS G) {la : Launch} {h : Nat → eO} {nx : Nat} (hnx : 99 ≤ nx)    {R9 : Bool} (hf : fJ0_isLatin1_aae02_s12   = some R9) :
    eSem G la MJ0_isLatin1_aae02 [.ref 12] h nx 0 0 (fun r9 h9 => r9 = some (.int (e_b R9)) ∧ h9 = h) := by
  refine eSem.of (k := 0) (L := [some (.ref 12)]) (by decide +kernel) rfl rfl (fun X F hxl hq hcR hsR => ?_)
  subst hxl
  unfold fJ0_isLatin1_aae02_s12 at hf
  refine r_gets F dJ0_isLatin1_aae02_0 (C := "java/lang/String") (n := "COMPACT_STRINGS") (d := "Z") (v := .int 1) (by decide +kernel) fsJ0_38 ?_
  refine r_if_eq_f F dJ0_isLatin1_aae02_3 (tgt := 17) (by decide) (by decide) ?_
  refine r_aload_n F dJ0_isLatin1_aae02_6 rfl ?_
  refine r_getC F dJ0_isLatin1_aae02_7 (i := 4) (by decide) fsJ0_15 ?_
  refine r_if_ne_f F dJ0_isLatin1_aae02_10 (tgt := 17) (by decide) (by decide) ?_
  refine r_iconst F dJ0_isLatin1_aae02_13 (v := 1) (by decide) ?_
  refine r_goto F dJ0_isLatin1_aae02_14 (tgt := 18) (by decide) ?_
  obtain rfl := Option.some.inj hf
  exact r_zret F hq (v := true) dJ0_isLatin1_aae02_18 rfl rfl (Nat.le_refl _) (Nat.le_refl _) ⟨rfl, rfl⟩

def fJ1_charAt_3b067_s20  (p1 : Int32) : Option (Int32) :=
  (fJ0_checkIndex_df160 p1 4).bind (fun q1 =>
  e_g (e_in p1 4) (
  e_g (e_nar .char ((Int32.toUInt32 ((sB4 (tn p1)) &&& 255) % 65536).toInt32)) (
  some ((Int32.toUInt32 ((sB4 (tn p1)) &&& 255) % 65536).toInt32))))
set_option maxRecDepth 100000 in
theorem tJ1_charAt_3b067_20 {G : eG} (hG : e_GS G) {la : Launch} {h : Nat → eO} {nx : Nat} (hnx : 99 ≤ nx)  {p1 : Int32}  {R9 : Int32} (hf : fJ1_charAt_3b067_s20  p1 = some R9) :
    eSem G la MJ1_charAt_3b067 [.ref 20, .int p1] h nx 0 0 (fun r9 h9 => r9 = some (.int R9) ∧ h9 = h) := by
  refine eSem.of (k := 0) (L := [some (.ref 20), some (.int p1)]) (by decide +kernel) rfl rfl (fun X F hxl hq hcR hsR => ?_)
  subst hxl
  unfold fJ1_charAt_3b067_s20 at hf
  refine r_iload_n F dJ1_charAt_3b067_0 rfl ?_
  refine r_aload_n F dJ1_charAt_3b067_1 rfl ?_
  refine r_alenS F dJ1_charAt_3b067_2 (hG.s20) (v := 4) rfl ?_
  obtain ⟨q1, hq2, hf⟩ := e_bd hf
  refine r_callS F dJ1_charAt_3b067_3 (dc := 0) (ds := 0) (As := [.int p1, .int 4]) (S0 := []) lkJ1_9 mJ0_checkIndex_df160 (tJ0_checkIndex_df160 hG (la := x_l X) (h := e_up h []) hnx  hq2) rfl rfl rfl (e_le rfl) (e_le rfl) (e_le rfl) (Nat.zero_le _) (Nat.zero_le _) (e_k ?_)
  refine r_wr0 ?_
  refine r_aload_n F dJ1_charAt_3b067_6 rfl ?_
  refine r_iload_n F dJ1_charAt_3b067_7 rfl ?_
  obtain ⟨hg, hf⟩ := e_gd hf
  refine r_baldS F dJ1_charAt_3b067_8 (i := p1) (hG.s20) (e_vp hg) ?_
  refine r_sipush F dJ1_charAt_3b067_9 (v := 255) (by decide) ?_
  refine r_iand F dJ1_charAt_3b067_12 ?_
  refine r_i2c F dJ1_charAt_3b067_13 ?_
  obtain ⟨hg, hf⟩ := e_gd hf
  obtain rfl := Option.some.inj hf
  exact r_nret F hq dJ1_charAt_3b067_14 rfl (of_decide_eq_true hg) rfl (Nat.le_refl _) (Nat.le_refl _) ⟨rfl, rfl⟩

def fJ0_charAt_5068e_s12  (p0 : Int32) : Option (Int32) :=
  (fJ0_isLatin1_aae02_s12 ).bind (fun q1 =>
  if q1 = true then
    (fJ1_charAt_3b067_s20 p0).bind (fun q3 =>
    e_g (e_nar .char q3) (
    some q3))
  else
    none)
set_option maxRecDepth 100000 in
theorem tJ0_charAt_5068e_12 {G : eG} (hG : e_GS G) {la : Launch} {h : Nat → eO} {nx : Nat} (hnx : 99 ≤ nx)  {p0 : Int32}  {R9 : Int32} (hf : fJ0_charAt_5068e_s12  p0 = some R9) :
    eSem G la MJ0_charAt_5068e [.ref 12, .int p0] h nx 0 0 (fun r9 h9 => r9 = some (.int R9) ∧ h9 = h) := by
  refine eSem.of (k := 0) (L := [some (.ref 12), some (.int p0)]) (by decide +kernel) rfl rfl (fun X F hxl hq hcR hsR => ?_)
  subst hxl
  unfold fJ0_charAt_5068e_s12 at hf
  refine r_aload_n F dJ0_charAt_5068e_0 rfl ?_
  obtain ⟨q1, hq2, hf⟩ := e_bd hf
  refine r_callT F dJ0_charAt_5068e_1 (i := 4) (dc := 0) (ds := 0) (As := []) (S0 := []) lkJ0_492 mJ0_isLatin1_aae02 (tJ0_isLatin1_aae02_12 hG (la := x_l X) (h := e_up h []) hnx  hq2) rfl rfl rfl (e_le rfl) (e_le rfl) (e_le rfl) rfl (by decide) (Nat.zero_le _) (Nat.zero_le _) (e_k ?_)
  refine r_wr0 ?_
  refine r_z_eq F dJ0_charAt_5068e_4 (tgt := 16) (by decide) (fun hc => ?_) (fun hc => ?_)
  · have hf := e_t hc hf
    refine r_aload_n F dJ0_charAt_5068e_7 rfl ?_
    refine r_getV F dJ0_charAt_5068e_8 (i := 4) (by decide) fsJ0_9 ?_
    refine r_iload_n F dJ0_charAt_5068e_11 rfl ?_
    obtain ⟨q3, hq4, hf⟩ := e_bd hf
    refine r_callS F dJ0_charAt_5068e_12 (dc := 0) (ds := 0) (As := [.ref 20, .int p0]) (S0 := []) lkJ0_495 mJ1_charAt_3b067 (tJ1_charAt_3b067_20 hG (la := x_l X) (h := e_up h []) hnx  hq4) rfl rfl rfl (e_le rfl) (e_le rfl) (e_le rfl) (Nat.zero_le _) (Nat.zero_le _) (e_k ?_)
    refine r_wr0 ?_
    obtain ⟨hg, hf⟩ := e_gd hf
    obtain rfl := Option.some.inj hf
    exact r_nret F hq dJ0_charAt_5068e_15 rfl (of_decide_eq_true hg) rfl (Nat.le_refl _) (Nat.le_refl _) ⟨rfl, rfl⟩
  · have hf := e_f hc hf
    refine r_aload_n F dJ0_charAt_5068e_16 rfl ?_
    refine r_getV F dJ0_charAt_5068e_17 (i := 4) (by decide) fsJ0_9 ?_
    refine r_iload_n F dJ0_charAt_5068e_20 rfl ?_
    cases hf

def fX5_spells_s12 (a33_1 : Int32) (a35_1 : Int32) (a35_2 : Int32) (A34 : Nat → Int32)  : Option (Bool) :=
  (fJ0_length_8abf5_s12 ).bind (fun q1 =>
  if (a35_1 - a35_2) = q1 then
    (e_loop (fun (v5 : Int32) => (
        (fJ0_length_8abf5_s12 ).bind (fun q8 =>
        if q8 ≤ v5 then
          some (.inr (.inl ()))
        else
          (fX9_byteAt a33_1 A34 (a35_2 + v5)).bind (fun q10 =>
          (fJ0_charAt_5068e_s12 v5).bind (fun q12 =>
          if q10 = q12 then
            some (.inl (v5 + 1))
          else
            some (.inr (.inr false))))) : Option ((Int32) ⊕ ((Unit) ⊕ (Bool))))) e_fuel 0).bind (fun x6 => Sum.elim (fun x6e =>
      some true) (fun r9 => some r9) x6)
  else
    some false)
set_option maxRecDepth 100000 in
theorem tX5_spells_35_12 {G : eG} (hG : e_GS G) {la : Launch} {h : Nat → eO} {nx : Nat} (hnx : 99 ≤ nx) {a33_1 : Int32} {A34 : Nat → Int32} {a35_1 : Int32} {a35_2 : Int32} {a35_3 : Int32} {a35_4 : Int32} {a35_5 : Int32} {a35_7 : Bool} {a35_8 : Bool} {a35_9 : Bool} {a35_10 : Int32}  (h33 : h 33 = o33 a33_1) (h34 : h 34 = o34 A34) (h35 : h 35 = o35 a35_1 a35_2 a35_3 a35_4 a35_5 a35_7 a35_8 a35_9 a35_10) {R9 : Bool} (hf : fX5_spells_s12 a33_1 a35_1 a35_2 A34  = some R9) :
    eSem G la MX5_spells [.ref 35, .ref 12] h nx 0 0 (fun r9 h9 => r9 = some (.int (e_b R9)) ∧ h9 = h) := by
  refine eSem.of (k := 1) (L := [some (.ref 35), some (.ref 12), none]) (by decide +kernel) rfl rfl (fun X F hxl hq hcR hsR => ?_)
  subst hxl
  unfold fX5_spells_s12 at hf
  refine r_aload_n F dX5_spells_0 rfl ?_
  refine r_get F dX5_spells_1 flX5_25 h35 rfl (e_le rfl) (e_lt hnx rfl) ?_
  refine r_aload_n F dX5_spells_4 rfl ?_
  refine r_get F dX5_spells_5 flX5_78 h35 rfl (e_le rfl) (e_lt hnx rfl) ?_
  refine r_isub F dX5_spells_8 ?_
  refine r_aload_n F dX5_spells_9 rfl ?_
  obtain ⟨q1, hq2, hf⟩ := e_bd hf
  refine r_callT F dX5_spells_10 (i := 4) (dc := 0) (ds := 0) (As := []) (S0 := [.int (a35_1 - a35_2)]) lkX5_125 mJ0_length_8abf5 (tJ0_length_8abf5_12 hG (la := x_l X) (h := e_up h []) hnx  hq2) rfl rfl rfl (e_le rfl) (e_le rfl) (e_le rfl) rfl (by decide) (Nat.zero_le _) (Nat.zero_le _) (e_k ?_)
  refine r_wr0 ?_
  refine r_icmp_eq F dX5_spells_13 (tgt := 18) (by decide) (fun hc => ?_) (fun hc => ?_)
  · have hf := e_t hc hf
    refine r_iconst F dX5_spells_18 (v := 0) (by decide) ?_
    refine r_istore_n F dX5_spells_19 (e_le rfl) (L' := [some (.ref 35), some (.ref 12), some (.int 0)]) rfl ?_
    obtain ⟨x6, hx7, hf⟩ := e_bd hf
    refine (e_loop_ok (P := fun (v5 : Int32) => eRun G X 20 [some (.ref 35), some (.ref 12), some (.int v5)] [] h [] nx 0 0) (K := fun (x6 : (Unit) ⊕ (Bool)) => Sum.elim (fun x6e => eRun G X 57 [none, none, none] [] h [] nx 0 0) (fun r9 => r9 = R9) x6) ?_ e_fuel 0 x6 hx7 ?_ : _)
    · intro v5 z hz ih hx
      refine r_iload_n F dX5_spells_20 rfl ?_
      refine r_aload_n F dX5_spells_21 rfl ?_
      obtain ⟨q8, hq9, hz⟩ := e_bd hz
      refine r_callT F dX5_spells_22 (i := 4) (dc := 0) (ds := 0) (As := []) (S0 := [.int v5]) lkX5_125 mJ0_length_8abf5 (tJ0_length_8abf5_12 hG (la := x_l X) (h := e_up h []) hnx  hq9) rfl rfl rfl (e_le rfl) (e_le rfl) (e_le rfl) rfl (by decide) (Nat.zero_le _) (Nat.zero_le _) (e_k ?_)
      refine r_wr0 ?_
      refine r_icmp_ge F dX5_spells_25 (tgt := 57) (by decide) (fun hc => ?_) (fun hc => ?_)
      · have hz := e_t hc hz
        refine r_drop 0 (L' := [none, some (.ref 12), some (.int v5)]) rfl ?_
        refine r_drop 1 (L' := [none, none, some (.int v5)]) rfl ?_
        refine r_drop 2 (L' := [none, none, none]) rfl ?_
        obtain rfl := Option.some.inj hz
        exact hx (.inl ()) rfl
      · have hz := e_f hc hz
        refine r_aload_n F dX5_spells_28 rfl ?_
        refine r_get F dX5_spells_29 flX5_21 h35 rfl (e_le rfl) (e_lt hnx rfl) ?_
        refine r_aload_n F dX5_spells_32 rfl ?_
        refine r_get F dX5_spells_33 flX5_78 h35 rfl (e_le rfl) (e_lt hnx rfl) ?_
        refine r_iload_n F dX5_spells_36 rfl ?_
        refine r_iadd F dX5_spells_37 ?_
        obtain ⟨q10, hq11, hz⟩ := e_bd hz
        refine r_callV F dX5_spells_38 (b := 33) (dc := 0) (ds := 0) (As := [.int (a35_2 + v5)]) (S0 := []) lkX5_121 mX9_byteAt (tX9_byteAt_33 hG (la := x_l X) (h := e_up h []) hnx h33 h34 hq11) rfl rfl rfl (e_le rfl) (e_le rfl) (e_le rfl) h33 (ci := 9) e_cl9.1 rfl (e_le rfl) (e_lt hnx rfl) (Nat.zero_le _) (Nat.zero_le _) (e_k ?_)
        refine r_wr0 ?_
        refine r_aload_n F dX5_spells_41 rfl ?_
        refine r_iload_n F dX5_spells_42 rfl ?_
        obtain ⟨q12, hq13, hz⟩ := e_bd hz
        refine r_callT F dX5_spells_43 (i := 4) (dc := 0) (ds := 0) (As := [.int v5]) (S0 := [.int q10]) lkX5_129 mJ0_charAt_5068e (tJ0_charAt_5068e_12 hG (la := x_l X) (h := e_up h []) hnx  hq13) rfl rfl rfl (e_le rfl) (e_le rfl) (e_le rfl) rfl (by decide) (Nat.zero_le _) (Nat.zero_le _) (e_k ?_)
        refine r_wr0 ?_
        refine r_icmp_eq F dX5_spells_46 (tgt := 51) (by decide) (fun hc => ?_) (fun hc => ?_)
        · have hz := e_t hc hz
          refine r_inc F dX5_spells_51 (k9 := 1) (by decide) rfl (L' := [some (.ref 35), some (.ref 12), some (.int (v5 + 1))]) rfl ?_
          refine r_goto F dX5_spells_54 (tgt := 20) (by decide) ?_
          obtain rfl := Option.some.inj hz
          exact ih (v5 + 1) rfl
        · have hz := e_f hc hz
          refine r_iconst F dX5_spells_49 (v := 0) (by decide) ?_
          obtain rfl := Option.some.inj hz
          have e9 := hx (.inr false) rfl
          subst e9
          exact r_zret F hq (v := false) dX5_spells_50 rfl rfl (Nat.le_refl _) (Nat.le_refl _) ⟨rfl, rfl⟩
    · cases x6 with
      | inr r9 => exact Option.some.inj hf
      | inl x6e =>
        simp only [Sum.elim_inl] at hf
        show eRun G X 57 [none, none, none] [] h [] nx 0 0
        refine r_iconst F dX5_spells_57 (v := 1) (by decide) ?_
        obtain rfl := Option.some.inj hf
        exact r_zret F hq (v := true) dX5_spells_58 rfl rfl (Nat.le_refl _) (Nat.le_refl _) ⟨rfl, rfl⟩
  · have hf := e_f hc hf
    refine r_iconst F dX5_spells_16 (v := 0) (by decide) ?_
    obtain rfl := Option.some.inj hf
    exact r_zret F hq (v := false) dX5_spells_17 rfl rfl (Nat.le_refl _) (Nat.le_refl _) ⟨rfl, rfl⟩

def fX5_readSetting (a33_1 : Int32) (a35_1 : Int32) (a35_2 : Int32) (a35_3 : Int32) (A34 : Nat → Int32) (A36 : Nat → Int32) (p0 : Int32) : Option (Int32 × Int32 × Int32 × (Nat → Int32)) :=
  if p0 < 0 then
    some (a35_1, a35_2, a35_3, A36)
  else
    if 4 ≤ p0 then
      some (a35_1, a35_2, a35_3, A36)
    else
      e_g (e_in p0 4) (
      e_g (e_in p0 4) (
      (fX5_readNumber a33_1 a35_1 a35_2 a35_3 A34 (sA0 (tn p0)) (sA1 (tn p0))).bind (fun q1 =>
      e_g (e_in p0 4) (
      some (q1.2.1, q1.2.2.1, q1.2.2.2, upd A36 (tn p0) q1.1)))))
set_option maxRecDepth 100000 in
theorem tX5_readSetting_35 {G : eG} (hG : e_GS G) {la : Launch} {h : Nat → eO} {nx : Nat} (hnx : 99 ≤ nx) {a33_1 : Int32} {A34 : Nat → Int32} {a35_1 : Int32} {a35_2 : Int32} {a35_3 : Int32} {a35_4 : Int32} {a35_5 : Int32} {a35_7 : Bool} {a35_8 : Bool} {a35_9 : Bool} {a35_10 : Int32} {A36 : Nat → Int32} {p0 : Int32} (h33 : h 33 = o33 a33_1) (h34 : h 34 = o34 A34) (h35 : h 35 = o35 a35_1 a35_2 a35_3 a35_4 a35_5 a35_7 a35_8 a35_9 a35_10) (h36 : h 36 = o36 A36) {R9 : Int32 × Int32 × Int32 × (Nat → Int32)} (hf : fX5_readSetting a33_1 a35_1 a35_2 a35_3 A34 A36 p0 = some R9) :
    eSem G la MX5_readSetting [.ref 35, .int p0] h nx 0 0 (fun r9 h9 => r9 = none ∧ h9 = e_up h [(35, o35 R9.1 R9.2.1 R9.2.2.1 a35_4 a35_5 a35_7 a35_8 a35_9 a35_10), (36, o36 R9.2.2.2)]) := by
  refine eSem.of (k := 0) (L := [some (.ref 35), some (.int p0)]) (by decide +kernel) rfl rfl (fun X F hxl hq hcR hsR => ?_)
  subst hxl
  unfold fX5_readSetting at hf
  refine r_iload_n F dX5_readSetting_0 rfl ?_
  refine r_if_lt F dX5_readSetting_1 (tgt := 33) (by decide) (fun hc => ?_) (fun hc => ?_)
  · have hf := e_t hc hf
    refine r_mat (k := 35) h35 (l' := [(35, o35 a35_1 a35_2 a35_3 a35_4 a35_5 a35_7 a35_8 a35_9 a35_10)]) rfl ?_
    refine r_mat (k := 36) h36 (l' := [(35, o35 a35_1 a35_2 a35_3 a35_4 a35_5 a35_7 a35_8 a35_9 a35_10), (36, o36 A36)]) rfl ?_
    obtain rfl := Option.some.inj hf
    exact r_vret F hq dX5_readSetting_33 rfl rfl (Nat.le_refl _) (Nat.le_refl _) ⟨rfl, rfl⟩
  · have hf := e_f hc hf
    refine r_iload_n F dX5_readSetting_4 rfl ?_
    refine r_aload_n F dX5_readSetting_5 rfl ?_
    refine r_get F dX5_readSetting_6 flX5_9 h35 rfl (e_le rfl) (e_lt hnx rfl) ?_
    refine r_alen F dX5_readSetting_9 h36 (e_le rfl) (e_lt hnx rfl) (v := 4) rfl ?_
    refine r_icmp_ge F dX5_readSetting_10 (tgt := 33) (by decide) (fun hc => ?_) (fun hc => ?_)
    · have hf := e_t hc hf
      refine r_mat (k := 35) h35 (l' := [(35, o35 a35_1 a35_2 a35_3 a35_4 a35_5 a35_7 a35_8 a35_9 a35_10)]) rfl ?_
      refine r_mat (k := 36) h36 (l' := [(35, o35 a35_1 a35_2 a35_3 a35_4 a35_5 a35_7 a35_8 a35_9 a35_10), (36, o36 A36)]) rfl ?_
      obtain rfl := Option.some.inj hf
      exact r_vret F hq dX5_readSetting_33 rfl rfl (Nat.le_refl _) (Nat.le_refl _) ⟨rfl, rfl⟩
    · have hf := e_f hc hf
      refine r_aload_n F dX5_readSetting_13 rfl ?_
      refine r_get F dX5_readSetting_14 flX5_9 h35 rfl (e_le rfl) (e_lt hnx rfl) ?_
      refine r_iload_n F dX5_readSetting_17 rfl ?_
      refine r_aload_n F dX5_readSetting_18 rfl ?_
      refine r_getsN F dX5_readSetting_19 (C := "SlipLattice") (n := "LEAST_SETTING") (d := "[I") (host := "SlipLattice") (v := .ref 0) (by decide +kernel) (by decide +kernel) ?_
      refine r_iload_n F dX5_readSetting_22 rfl ?_
      obtain ⟨hg, hf⟩ := e_gd hf
      refine r_ialdS F dX5_readSetting_23 (i := p0) (hG.s0) (e_vp hg) ?_
      refine r_getsN F dX5_readSetting_24 (C := "SlipLattice") (n := "MOST_SETTING") (d := "[I") (host := "SlipLattice") (v := .ref 1) (by decide +kernel) (by decide +kernel) ?_
      refine r_iload_n F dX5_readSetting_27 rfl ?_
      obtain ⟨hg, hf⟩ := e_gd hf
      refine r_ialdS F dX5_readSetting_28 (i := p0) (hG.s1) (e_vp hg) ?_
      obtain ⟨q1, hq2, hf⟩ := e_bd hf
      refine r_callV F dX5_readSetting_29 (b := 35) (dc := 0) (ds := 0) (As := [.int (sA0 (tn p0)), .int (sA1 (tn p0))]) (S0 := [.int p0, .ref 36]) lkX5_83 mX5_readNumber (tX5_readNumber_35 hG (la := x_l X) (h := e_up h []) hnx h33 h34 h35 hq2) rfl rfl rfl (e_le rfl) (e_le rfl) (e_le rfl) h35 (ci := 5) e_cl5.1 rfl (e_le rfl) (e_lt hnx rfl) (Nat.zero_le _) (Nat.zero_le _) (e_k ?_)
      refine r_wr (l' := [(35, o35 q1.2.1 q1.2.2.1 q1.2.2.2 a35_4 a35_5 a35_7 a35_8 a35_9 a35_10)]) rfl rfl ?_
      obtain ⟨hg, hf⟩ := e_gd hf
      refine r_iast F dX5_readSetting_32 h36 (e_le rfl) (e_lt hnx rfl) (e_vp hg) (l' := [(35, o35 q1.2.1 q1.2.2.1 q1.2.2.2 a35_4 a35_5 a35_7 a35_8 a35_9 a35_10), (36, o36 (upd A36 (tn p0) q1.1))]) rfl ?_
      obtain rfl := Option.some.inj hf
      exact r_vret F hq dX5_readSetting_33 rfl rfl (Nat.le_refl _) (Nat.le_refl _) ⟨rfl, rfl⟩

def fX5_isTold (a35_10 : Int32) (A37 : Nat → Int32) (p0 : Int32) (p1 : Int32) : Option (Bool) :=
  (e_loop (fun (v3 : Int32) => (
      if a35_10 ≤ v3 then
        some (.inr (.inl ()))
      else
        if 10 ≤ v3 then
          some (.inr (.inl ()))
        else
          e_g (e_in ((2 : Int32) * v3) 20) (
          if (A37 (tn ((2 : Int32) * v3))) = p0 then
            e_g (e_in (((2 : Int32) * v3) + 1) 20) (
            if (A37 (tn (((2 : Int32) * v3) + 1))) = p1 then
              some (.inr (.inr true))
            else
              some (.inl (v3 + 1)))
          else
            some (.inl (v3 + 1))) : Option ((Int32) ⊕ ((Unit) ⊕ (Bool))))) e_fuel 0).bind (fun x4 => Sum.elim (fun x4e =>
    some false) (fun r9 => some r9) x4)
set_option maxRecDepth 100000 in
theorem tX5_isTold_35 {G : eG} (hG : e_GS G) {la : Launch} {h : Nat → eO} {nx : Nat} (hnx : 99 ≤ nx) {a35_1 : Int32} {a35_2 : Int32} {a35_3 : Int32} {a35_4 : Int32} {a35_5 : Int32} {a35_7 : Bool} {a35_8 : Bool} {a35_9 : Bool} {a35_10 : Int32} {A37 : Nat → Int32} {p0 : Int32} {p1 : Int32} (h35 : h 35 = o35 a35_1 a35_2 a35_3 a35_4 a35_5 a35_7 a35_8 a35_9 a35_10) (h37 : h 37 = o37 A37) {R9 : Bool} (hf : fX5_isTold a35_10 A37 p0 p1 = some R9) :
    eSem G la MX5_isTold [.ref 35, .int p0, .int p1] h nx 0 0 (fun r9 h9 => r9 = some (.int (e_b R9)) ∧ h9 = h) := by
  refine eSem.of (k := 1) (L := [some (.ref 35), some (.int p0), some (.int p1), none]) (by decide +kernel) rfl rfl (fun X F hxl hq hcR hsR => ?_)
  subst hxl
  unfold fX5_isTold at hf
  refine r_iconst F dX5_isTold_0 (v := 0) (by decide) ?_
  refine r_istore_n F dX5_isTold_1 (e_le rfl) (L' := [some (.ref 35), some (.int p0), some (.int p1), some (.int 0)]) rfl ?_
  obtain ⟨x4, hx5, hf⟩ := e_bd hf
  refine (e_loop_ok (P := fun (v3 : Int32) => eRun G X 2 [some (.ref 35), some (.int p0), some (.int p1), some (.int v3)] [] h [] nx 0 0) (K := fun (x4 : (Unit) ⊕ (Bool)) => Sum.elim (fun x4e => eRun G X 50 [none, none, none, none] [] h [] nx 0 0) (fun r9 => r9 = R9) x4) ?_ e_fuel 0 x4 hx5 ?_ : _)
  · intro v3 z hz ih hx
    refine r_iload_n F dX5_isTold_2 rfl ?_
    refine r_aload_n F dX5_isTold_3 rfl ?_
    refine r_get F dX5_isTold_4 flX5_32 h35 rfl (e_le rfl) (e_lt hnx rfl) ?_
    refine r_icmp_ge F dX5_isTold_7 (tgt := 50) (by decide) (fun hc => ?_) (fun hc => ?_)
    · have hz := e_t hc hz
      refine r_drop 0 (L' := [none, some (.int p0), some (.int p1), some (.int v3)]) rfl ?_
      refine r_drop 1 (L' := [none, none, some (.int p1), some (.int v3)]) rfl ?_
      refine r_drop 2 (L' := [none, none, none, some (.int v3)]) rfl ?_
      refine r_drop 3 (L' := [none, none, none, none]) rfl ?_
      obtain rfl := Option.some.inj hz
      exact hx (.inl ()) rfl
    · have hz := e_f hc hz
      refine r_iload_n F dX5_isTold_10 rfl ?_
      refine r_bipush F dX5_isTold_11 (v := 10) (by decide) ?_
      refine r_icmp_ge F dX5_isTold_13 (tgt := 50) (by decide) (fun hc => ?_) (fun hc => ?_)
      · have hz := e_t hc hz
        refine r_drop 0 (L' := [none, some (.int p0), some (.int p1), some (.int v3)]) rfl ?_
        refine r_drop 1 (L' := [none, none, some (.int p1), some (.int v3)]) rfl ?_
        refine r_drop 2 (L' := [none, none, none, some (.int v3)]) rfl ?_
        refine r_drop 3 (L' := [none, none, none, none]) rfl ?_
        obtain rfl := Option.some.inj hz
        exact hx (.inl ()) rfl
      · have hz := e_f hc hz
        refine r_aload_n F dX5_isTold_16 rfl ?_
        refine r_get F dX5_isTold_17 flX5_15 h35 rfl (e_le rfl) (e_lt hnx rfl) ?_
        refine r_iconst F dX5_isTold_20 (v := 2) (by decide) ?_
        refine r_iload_n F dX5_isTold_21 rfl ?_
        refine r_imul F dX5_isTold_22 ?_
        obtain ⟨hg, hz⟩ := e_gd hz
        refine r_iald F dX5_isTold_23 (i := ((2 : Int32) * v3)) h37 (e_le rfl) (e_lt hnx rfl) (e_vp hg) ?_
        refine r_iload_n F dX5_isTold_24 rfl ?_
        refine r_icmp_ne F dX5_isTold_25 (tgt := 44) (by decide) (fun hc => ?_) (fun hc => ?_)
        · have hz := e_f hc hz
          refine r_inc F dX5_isTold_44 (k9 := 1) (by decide) rfl (L' := [some (.ref 35), some (.int p0), some (.int p1), some (.int (v3 + 1))]) rfl ?_
          refine r_goto F dX5_isTold_47 (tgt := 2) (by decide) ?_
          obtain rfl := Option.some.inj hz
          exact ih (v3 + 1) rfl
        · have hz := e_t hc hz
          refine r_aload_n F dX5_isTold_28 rfl ?_
          refine r_get F dX5_isTold_29 flX5_15 h35 rfl (e_le rfl) (e_lt hnx rfl) ?_
          refine r_iconst F dX5_isTold_32 (v := 2) (by decide) ?_
          refine r_iload_n F dX5_isTold_33 rfl ?_
          refine r_imul F dX5_isTold_34 ?_
          refine r_iconst F dX5_isTold_35 (v := 1) (by decide) ?_
          refine r_iadd F dX5_isTold_36 ?_
          obtain ⟨hg, hz⟩ := e_gd hz
          refine r_iald F dX5_isTold_37 (i := (((2 : Int32) * v3) + 1)) h37 (e_le rfl) (e_lt hnx rfl) (e_vp hg) ?_
          refine r_iload_n F dX5_isTold_38 rfl ?_
          refine r_icmp_ne F dX5_isTold_39 (tgt := 44) (by decide) (fun hc => ?_) (fun hc => ?_)
          · have hz := e_f hc hz
            refine r_inc F dX5_isTold_44 (k9 := 1) (by decide) rfl (L' := [some (.ref 35), some (.int p0), some (.int p1), some (.int (v3 + 1))]) rfl ?_
            refine r_goto F dX5_isTold_47 (tgt := 2) (by decide) ?_
            obtain rfl := Option.some.inj hz
            exact ih (v3 + 1) rfl
          · have hz := e_t hc hz
            refine r_iconst F dX5_isTold_42 (v := 1) (by decide) ?_
            obtain rfl := Option.some.inj hz
            have e9 := hx (.inr true) rfl
            subst e9
            exact r_zret F hq (v := true) dX5_isTold_43 rfl rfl (Nat.le_refl _) (Nat.le_refl _) ⟨rfl, rfl⟩
  · cases x4 with
    | inr r9 => exact Option.some.inj hf
    | inl x4e =>
      simp only [Sum.elim_inl] at hf
      show eRun G X 50 [none, none, none, none] [] h [] nx 0 0
      refine r_iconst F dX5_isTold_50 (v := 0) (by decide) ?_
      obtain rfl := Option.some.inj hf
      exact r_zret F hq (v := false) dX5_isTold_51 rfl rfl (Nat.le_refl _) (Nat.le_refl _) ⟨rfl, rfl⟩

def fX5_readCore (a33_1 : Int32) (a35_1 : Int32) (a35_2 : Int32) (a35_3 : Int32) (a35_4 : Int32) (a35_5 : Int32) (a35_10 : Int32) (A34 : Nat → Int32) (A37 : Nat → Int32) (A38 : Nat → Int32)  : Option (Int32 × Int32 × Int32 × Int32 × (Nat → Int32) × (Nat → Int32)) :=
  (fX5_readNumber a33_1 a35_1 a35_2 a35_3 A34 0 (a35_4 - 2)).bind (fun q1 =>
  (fX5_readNumber a33_1 q1.2.1 q1.2.2.1 q1.2.2.2 A34 0 (a35_5 - 2)).bind (fun q3 =>
  Option.bind (α := Int32) (
    if q3.2.2.2 = (-1) then
      (fX5_isTold a35_10 A37 q1.1 q3.1).bind (fun q13 =>
      if q13 = true then
        some q3.2.2.1
      else
        some q3.2.2.2)
    else
      some q3.2.2.2) (fun q5 =>
  (fX5_readNumber a33_1 q3.2.1 q3.2.2.1 q5 A34 (-2) 2).bind (fun q7 =>
  (fX5_readNumber a33_1 q7.2.1 q7.2.2.1 q7.2.2.2 A34 (-2) 2).bind (fun q9 =>
  Option.bind (α := Int32) (
    if q9.2.2.2 = (-1) then
      if q7.1 = 0 then
        if q9.1 = 0 then
          some q9.2.2.1
        else
          some q9.2.2.2
      else
        some q9.2.2.2
    else
      some q9.2.2.2) (fun q11 =>
  if q11 = (-1) then
    if a35_10 < 0 then
      some (q9.2.1, q9.2.2.1, q11, a35_10, A37, A38)
    else
      if 10 ≤ a35_10 then
        some (q9.2.1, q9.2.2.1, q11, a35_10, A37, A38)
      else
        e_g (e_in ((2 : Int32) * a35_10) 20) (
        e_g (e_in (((2 : Int32) * a35_10) + 1) 20) (
        e_g (e_in ((2 : Int32) * a35_10) 20) (
        e_g (e_in (((2 : Int32) * a35_10) + 1) 20) (
        some (q9.2.1, q9.2.2.1, q11, a35_10 + 1, upd (upd A37 (tn ((2 : Int32) * a35_10)) q1.1) (tn (((2 : Int32) * a35_10) + 1)) q3.1, upd (upd A38 (tn ((2 : Int32) * a35_10)) q7.1) (tn (((2 : Int32) * a35_10) + 1)) q9.1)))))
  else
    some (q9.2.1, q9.2.2.1, q11, a35_10, A37, A38)))))))
set_option maxRecDepth 100000 in
theorem tX5_readCore_35 {G : eG} (hG : e_GS G) {la : Launch} {h : Nat → eO} {nx : Nat} (hnx : 99 ≤ nx) {a33_1 : Int32} {A34 : Nat → Int32} {a35_1 : Int32} {a35_2 : Int32} {a35_3 : Int32} {a35_4 : Int32} {a35_5 : Int32} {a35_7 : Bool} {a35_8 : Bool} {a35_9 : Bool} {a35_10 : Int32} {A37 : Nat → Int32} {A38 : Nat → Int32}  (h33 : h 33 = o33 a33_1) (h34 : h 34 = o34 A34) (h35 : h 35 = o35 a35_1 a35_2 a35_3 a35_4 a35_5 a35_7 a35_8 a35_9 a35_10) (h37 : h 37 = o37 A37) (h38 : h 38 = o38 A38) {R9 : Int32 × Int32 × Int32 × Int32 × (Nat → Int32) × (Nat → Int32)} (hf : fX5_readCore a33_1 a35_1 a35_2 a35_3 a35_4 a35_5 a35_10 A34 A37 A38  = some R9) :
    eSem G la MX5_readCore [.ref 35] h nx 0 0 (fun r9 h9 => r9 = none ∧ h9 = e_up h [(35, o35 R9.1 R9.2.1 R9.2.2.1 a35_4 a35_5 a35_7 a35_8 a35_9 R9.2.2.2.1), (37, o37 R9.2.2.2.2.1), (38, o38 R9.2.2.2.2.2)]) := by
  refine eSem.of (k := 4) (L := [some (.ref 35), none, none, none, none]) (by decide +kernel) rfl rfl (fun X F hxl hq hcR hsR => ?_)
  subst hxl
  unfold fX5_readCore at hf
  refine r_aload_n F dX5_readCore_0 rfl ?_
  refine r_iconst F dX5_readCore_1 (v := 0) (by decide) ?_
  refine r_aload_n F dX5_readCore_2 rfl ?_
  refine r_get F dX5_readCore_3 flX5_87 h35 rfl (e_le rfl) (e_lt hnx rfl) ?_
  refine r_iconst F dX5_readCore_6 (v := 2) (by decide) ?_
  refine r_isub F dX5_readCore_7 ?_
  obtain ⟨q1, hq2, hf⟩ := e_bd hf
  refine r_callV F dX5_readCore_8 (b := 35) (dc := 0) (ds := 0) (As := [.int 0, .int (a35_4 - 2)]) (S0 := []) lkX5_83 mX5_readNumber (tX5_readNumber_35 hG (la := x_l X) (h := e_up h []) hnx h33 h34 h35 hq2) rfl rfl rfl (e_le rfl) (e_le rfl) (e_le rfl) h35 (ci := 5) e_cl5.1 rfl (e_le rfl) (e_lt hnx rfl) (Nat.zero_le _) (Nat.zero_le _) (e_k ?_)
  refine r_wr (l' := [(35, o35 q1.2.1 q1.2.2.1 q1.2.2.2 a35_4 a35_5 a35_7 a35_8 a35_9 a35_10)]) rfl rfl ?_
  refine r_istore_n F dX5_readCore_11 (e_le rfl) (L' := [some (.ref 35), some (.int q1.1), none, none, none]) rfl ?_
  refine r_aload_n F dX5_readCore_12 rfl ?_
  refine r_iconst F dX5_readCore_13 (v := 0) (by decide) ?_
  refine r_aload_n F dX5_readCore_14 rfl ?_
  refine r_get F dX5_readCore_15 flX5_90 rfl rfl (e_le rfl) (e_lt hnx rfl) ?_
  refine r_iconst F dX5_readCore_18 (v := 2) (by decide) ?_
  refine r_isub F dX5_readCore_19 ?_
  obtain ⟨q3, hq4, hf⟩ := e_bd hf
  refine r_callV F dX5_readCore_20 (b := 35) (dc := 0) (ds := 0) (As := [.int 0, .int (a35_5 - 2)]) (S0 := []) lkX5_83 mX5_readNumber (tX5_readNumber_35 hG (la := x_l X) (h := e_up h [(35, o35 q1.2.1 q1.2.2.1 q1.2.2.2 a35_4 a35_5 a35_7 a35_8 a35_9 a35_10)]) hnx h33 h34 rfl hq4) rfl rfl rfl (e_le rfl) (e_le rfl) (e_le rfl) rfl (ci := 5) e_cl5.1 rfl (e_le rfl) (e_lt hnx rfl) (Nat.zero_le _) (Nat.zero_le _) (e_k ?_)
  refine r_wr (l' := [(35, o35 q3.2.1 q3.2.2.1 q3.2.2.2 a35_4 a35_5 a35_7 a35_8 a35_9 a35_10)]) rfl rfl ?_
  refine r_istore_n F dX5_readCore_23 (e_le rfl) (L' := [some (.ref 35), some (.int q1.1), some (.int q3.1), none, none]) rfl ?_
  refine r_aload_n F dX5_readCore_24 rfl ?_
  refine r_get F dX5_readCore_25 flX5_29 rfl rfl (e_le rfl) (e_lt hnx rfl) ?_
  refine r_iconst F dX5_readCore_28 (v := (-1)) (by decide) ?_
  obtain ⟨q5, hq6, hf⟩ := e_bd hf
  have Jq5 : eRun G X 49 [some (.ref 35), some (.int q1.1), some (.int q3.1), none, none] [] h [(35, o35 q3.2.1 q3.2.2.1 q5 a35_4 a35_5 a35_7 a35_8 a35_9 a35_10)] nx 0 0 := by
    refine r_aload_n F dX5_readCore_49 rfl ?_
    refine r_bipush F dX5_readCore_50 (v := (-2)) (by decide) ?_
    refine r_iconst F dX5_readCore_52 (v := 2) (by decide) ?_
    obtain ⟨q7, hq8, hf⟩ := e_bd hf
    refine r_callV F dX5_readCore_53 (b := 35) (dc := 0) (ds := 0) (As := [.int (-2), .int 2]) (S0 := []) lkX5_83 mX5_readNumber (tX5_readNumber_35 hG (la := x_l X) (h := e_up h [(35, o35 q3.2.1 q3.2.2.1 q5 a35_4 a35_5 a35_7 a35_8 a35_9 a35_10)]) hnx h33 h34 rfl hq8) rfl rfl rfl (e_le rfl) (e_le rfl) (e_le rfl) rfl (ci := 5) e_cl5.1 rfl (e_le rfl) (e_lt hnx rfl) (Nat.zero_le _) (Nat.zero_le _) (e_k ?_)
    refine r_wr (l' := [(35, o35 q7.2.1 q7.2.2.1 q7.2.2.2 a35_4 a35_5 a35_7 a35_8 a35_9 a35_10)]) rfl rfl ?_
    refine r_istore_n F dX5_readCore_56 (e_le rfl) (L' := [some (.ref 35), some (.int q1.1), some (.int q3.1), some (.int q7.1), none]) rfl ?_
    refine r_aload_n F dX5_readCore_57 rfl ?_
    refine r_bipush F dX5_readCore_58 (v := (-2)) (by decide) ?_
    refine r_iconst F dX5_readCore_60 (v := 2) (by decide) ?_
    obtain ⟨q9, hq10, hf⟩ := e_bd hf
    refine r_callV F dX5_readCore_61 (b := 35) (dc := 0) (ds := 0) (As := [.int (-2), .int 2]) (S0 := []) lkX5_83 mX5_readNumber (tX5_readNumber_35 hG (la := x_l X) (h := e_up h [(35, o35 q7.2.1 q7.2.2.1 q7.2.2.2 a35_4 a35_5 a35_7 a35_8 a35_9 a35_10)]) hnx h33 h34 rfl hq10) rfl rfl rfl (e_le rfl) (e_le rfl) (e_le rfl) rfl (ci := 5) e_cl5.1 rfl (e_le rfl) (e_lt hnx rfl) (Nat.zero_le _) (Nat.zero_le _) (e_k ?_)
    refine r_wr (l' := [(35, o35 q9.2.1 q9.2.2.1 q9.2.2.2 a35_4 a35_5 a35_7 a35_8 a35_9 a35_10)]) rfl rfl ?_
    refine r_istore F dX5_readCore_64 (e_le rfl) (L' := [some (.ref 35), some (.int q1.1), some (.int q3.1), some (.int q7.1), some (.int q9.1)]) rfl ?_
    refine r_aload_n F dX5_readCore_66 rfl ?_
    refine r_get F dX5_readCore_67 flX5_29 rfl rfl (e_le rfl) (e_lt hnx rfl) ?_
    refine r_iconst F dX5_readCore_70 (v := (-1)) (by decide) ?_
    obtain ⟨q11, hq12, hf⟩ := e_bd hf
    have Jq11 : eRun G X 91 [some (.ref 35), some (.int q1.1), some (.int q3.1), some (.int q7.1), some (.int q9.1)] [] h [(35, o35 q9.2.1 q9.2.2.1 q11 a35_4 a35_5 a35_7 a35_8 a35_9 a35_10)] nx 0 0 := by
      refine r_aload_n F dX5_readCore_91 rfl ?_
      refine r_get F dX5_readCore_92 flX5_29 rfl rfl (e_le rfl) (e_lt hnx rfl) ?_
      refine r_iconst F dX5_readCore_95 (v := (-1)) (by decide) ?_
      refine r_icmp_ne F dX5_readCore_96 (tgt := 178) (by decide) (fun hc => ?_) (fun hc => ?_)
      · have hf := e_f hc hf
        refine r_mat (k := 37) h37 (l' := [(35, o35 q9.2.1 q9.2.2.1 q11 a35_4 a35_5 a35_7 a35_8 a35_9 a35_10), (37, o37 A37)]) rfl ?_
        refine r_mat (k := 38) h38 (l' := [(35, o35 q9.2.1 q9.2.2.1 q11 a35_4 a35_5 a35_7 a35_8 a35_9 a35_10), (37, o37 A37), (38, o38 A38)]) rfl ?_
        obtain rfl := Option.some.inj hf
        exact r_vret F hq dX5_readCore_178 rfl rfl (Nat.le_refl _) (Nat.le_refl _) ⟨rfl, rfl⟩
      · have hf := e_t hc hf
        refine r_aload_n F dX5_readCore_99 rfl ?_
        refine r_get F dX5_readCore_100 flX5_32 rfl rfl (e_le rfl) (e_lt hnx rfl) ?_
        refine r_if_lt F dX5_readCore_103 (tgt := 178) (by decide) (fun hc => ?_) (fun hc => ?_)
        · have hf := e_t hc hf
          refine r_mat (k := 37) h37 (l' := [(35, o35 q9.2.1 q9.2.2.1 q11 a35_4 a35_5 a35_7 a35_8 a35_9 a35_10), (37, o37 A37)]) rfl ?_
          refine r_mat (k := 38) h38 (l' := [(35, o35 q9.2.1 q9.2.2.1 q11 a35_4 a35_5 a35_7 a35_8 a35_9 a35_10), (37, o37 A37), (38, o38 A38)]) rfl ?_
          obtain rfl := Option.some.inj hf
          exact r_vret F hq dX5_readCore_178 rfl rfl (Nat.le_refl _) (Nat.le_refl _) ⟨rfl, rfl⟩
        · have hf := e_f hc hf
          refine r_aload_n F dX5_readCore_106 rfl ?_
          refine r_get F dX5_readCore_107 flX5_32 rfl rfl (e_le rfl) (e_lt hnx rfl) ?_
          refine r_bipush F dX5_readCore_110 (v := 10) (by decide) ?_
          refine r_icmp_ge F dX5_readCore_112 (tgt := 178) (by decide) (fun hc => ?_) (fun hc => ?_)
          · have hf := e_t hc hf
            refine r_mat (k := 37) h37 (l' := [(35, o35 q9.2.1 q9.2.2.1 q11 a35_4 a35_5 a35_7 a35_8 a35_9 a35_10), (37, o37 A37)]) rfl ?_
            refine r_mat (k := 38) h38 (l' := [(35, o35 q9.2.1 q9.2.2.1 q11 a35_4 a35_5 a35_7 a35_8 a35_9 a35_10), (37, o37 A37), (38, o38 A38)]) rfl ?_
            obtain rfl := Option.some.inj hf
            exact r_vret F hq dX5_readCore_178 rfl rfl (Nat.le_refl _) (Nat.le_refl _) ⟨rfl, rfl⟩
          · have hf := e_f hc hf
            refine r_aload_n F dX5_readCore_115 rfl ?_
            refine r_get F dX5_readCore_116 flX5_15 rfl rfl (e_le rfl) (e_lt hnx rfl) ?_
            refine r_iconst F dX5_readCore_119 (v := 2) (by decide) ?_
            refine r_aload_n F dX5_readCore_120 rfl ?_
            refine r_get F dX5_readCore_121 flX5_32 rfl rfl (e_le rfl) (e_lt hnx rfl) ?_
            refine r_imul F dX5_readCore_124 ?_
            refine r_iload_n F dX5_readCore_125 rfl ?_
            obtain ⟨hg, hf⟩ := e_gd hf
            refine r_iast F dX5_readCore_126 h37 (e_le rfl) (e_lt hnx rfl) (e_vp hg) (l' := [(35, o35 q9.2.1 q9.2.2.1 q11 a35_4 a35_5 a35_7 a35_8 a35_9 a35_10), (37, o37 (upd A37 (tn ((2 : Int32) * a35_10)) q1.1))]) rfl ?_
            refine r_aload_n F dX5_readCore_127 rfl ?_
            refine r_get F dX5_readCore_128 flX5_15 rfl rfl (e_le rfl) (e_lt hnx rfl) ?_
            refine r_iconst F dX5_readCore_131 (v := 2) (by decide) ?_
            refine r_aload_n F dX5_readCore_132 rfl ?_
            refine r_get F dX5_readCore_133 flX5_32 rfl rfl (e_le rfl) (e_lt hnx rfl) ?_
            refine r_imul F dX5_readCore_136 ?_
            refine r_iconst F dX5_readCore_137 (v := 1) (by decide) ?_
            refine r_iadd F dX5_readCore_138 ?_
            refine r_iload_n F dX5_readCore_139 rfl ?_
            obtain ⟨hg, hf⟩ := e_gd hf
            refine r_iast F dX5_readCore_140 rfl (e_le rfl) (e_lt hnx rfl) (e_vp hg) (l' := [(35, o35 q9.2.1 q9.2.2.1 q11 a35_4 a35_5 a35_7 a35_8 a35_9 a35_10), (37, o37 (upd (upd A37 (tn ((2 : Int32) * a35_10)) q1.1) (tn (((2 : Int32) * a35_10) + 1)) q3.1))]) rfl ?_
            refine r_aload_n F dX5_readCore_141 rfl ?_
            refine r_get F dX5_readCore_142 flX5_18 rfl rfl (e_le rfl) (e_lt hnx rfl) ?_
            refine r_iconst F dX5_readCore_145 (v := 2) (by decide) ?_
            refine r_aload_n F dX5_readCore_146 rfl ?_
            refine r_get F dX5_readCore_147 flX5_32 rfl rfl (e_le rfl) (e_lt hnx rfl) ?_
            refine r_imul F dX5_readCore_150 ?_
            refine r_iload_n F dX5_readCore_151 rfl ?_
            obtain ⟨hg, hf⟩ := e_gd hf
            refine r_iast F dX5_readCore_152 h38 (e_le rfl) (e_lt hnx rfl) (e_vp hg) (l' := [(35, o35 q9.2.1 q9.2.2.1 q11 a35_4 a35_5 a35_7 a35_8 a35_9 a35_10), (37, o37 (upd (upd A37 (tn ((2 : Int32) * a35_10)) q1.1) (tn (((2 : Int32) * a35_10) + 1)) q3.1)), (38, o38 (upd A38 (tn ((2 : Int32) * a35_10)) q7.1))]) rfl ?_
            refine r_aload_n F dX5_readCore_153 rfl ?_
            refine r_get F dX5_readCore_154 flX5_18 rfl rfl (e_le rfl) (e_lt hnx rfl) ?_
            refine r_iconst F dX5_readCore_157 (v := 2) (by decide) ?_
            refine r_aload_n F dX5_readCore_158 rfl ?_
            refine r_get F dX5_readCore_159 flX5_32 rfl rfl (e_le rfl) (e_lt hnx rfl) ?_
            refine r_imul F dX5_readCore_162 ?_
            refine r_iconst F dX5_readCore_163 (v := 1) (by decide) ?_
            refine r_iadd F dX5_readCore_164 ?_
            refine r_iload F dX5_readCore_165 rfl ?_
            obtain ⟨hg, hf⟩ := e_gd hf
            refine r_iast F dX5_readCore_167 rfl (e_le rfl) (e_lt hnx rfl) (e_vp hg) (l' := [(35, o35 q9.2.1 q9.2.2.1 q11 a35_4 a35_5 a35_7 a35_8 a35_9 a35_10), (37, o37 (upd (upd A37 (tn ((2 : Int32) * a35_10)) q1.1) (tn (((2 : Int32) * a35_10) + 1)) q3.1)), (38, o38 (upd (upd A38 (tn ((2 : Int32) * a35_10)) q7.1) (tn (((2 : Int32) * a35_10) + 1)) q9.1))]) rfl ?_
            refine r_aload_n F dX5_readCore_168 rfl ?_
            refine r_dup F dX5_readCore_169 rfl ?_
            refine r_get F dX5_readCore_170 flX5_32 rfl rfl (e_le rfl) (e_lt hnx rfl) ?_
            refine r_iconst F dX5_readCore_173 (v := 1) (by decide) ?_
            refine r_iadd F dX5_readCore_174 ?_
            refine r_put F dX5_readCore_175 flX5_32 rfl rfl rfl rfl (e_le rfl) (e_le rfl) (e_lt hnx rfl) (l' := [(35, o35 q9.2.1 q9.2.2.1 q11 a35_4 a35_5 a35_7 a35_8 a35_9 (a35_10 + 1)), (37, o37 (upd (upd A37 (tn ((2 : Int32) * a35_10)) q1.1) (tn (((2 : Int32) * a35_10) + 1)) q3.1)), (38, o38 (upd (upd A38 (tn ((2 : Int32) * a35_10)) q7.1) (tn (((2 : Int32) * a35_10) + 1)) q9.1))]) rfl ?_
            obtain rfl := Option.some.inj hf
            exact r_vret F hq dX5_readCore_178 rfl rfl (Nat.le_refl _) (Nat.le_refl _) ⟨rfl, rfl⟩
    refine r_icmp_ne F dX5_readCore_71 (tgt := 91) (by decide) (fun hc => ?_) (fun hc => ?_)
    · have hq12 := e_f hc hq12
      obtain rfl := Option.some.inj hq12
      exact Jq11
    · have hq12 := e_t hc hq12
      refine r_iload_n F dX5_readCore_74 rfl ?_
      refine r_if_ne F dX5_readCore_75 (tgt := 91) (by decide) (fun hc => ?_) (fun hc => ?_)
      · have hq12 := e_f hc hq12
        obtain rfl := Option.some.inj hq12
        exact Jq11
      · have hq12 := e_t hc hq12
        refine r_iload F dX5_readCore_78 rfl ?_
        refine r_if_ne F dX5_readCore_80 (tgt := 91) (by decide) (fun hc => ?_) (fun hc => ?_)
        · have hq12 := e_f hc hq12
          obtain rfl := Option.some.inj hq12
          exact Jq11
        · have hq12 := e_t hc hq12
          refine r_aload_n F dX5_readCore_83 rfl ?_
          refine r_aload_n F dX5_readCore_84 rfl ?_
          refine r_get F dX5_readCore_85 flX5_78 rfl rfl (e_le rfl) (e_lt hnx rfl) ?_
          refine r_put F dX5_readCore_88 flX5_29 rfl rfl rfl rfl (e_le rfl) (e_le rfl) (e_lt hnx rfl) (l' := [(35, o35 q9.2.1 q9.2.2.1 q9.2.2.1 a35_4 a35_5 a35_7 a35_8 a35_9 a35_10)]) rfl ?_
          obtain rfl := Option.some.inj hq12
          exact Jq11
  refine r_icmp_ne F dX5_readCore_29 (tgt := 49) (by decide) (fun hc => ?_) (fun hc => ?_)
  · have hq6 := e_f hc hq6
    obtain rfl := Option.some.inj hq6
    exact Jq5
  · have hq6 := e_t hc hq6
    refine r_aload_n F dX5_readCore_32 rfl ?_
    refine r_iload_n F dX5_readCore_33 rfl ?_
    refine r_iload_n F dX5_readCore_34 rfl ?_
    obtain ⟨q13, hq14, hq6⟩ := e_bd hq6
    refine r_callV F dX5_readCore_35 (b := 35) (dc := 0) (ds := 0) (As := [.int q1.1, .int q3.1]) (S0 := []) lkX5_108 mX5_isTold (tX5_isTold_35 hG (la := x_l X) (h := e_up h [(35, o35 q3.2.1 q3.2.2.1 q3.2.2.2 a35_4 a35_5 a35_7 a35_8 a35_9 a35_10)]) hnx rfl h37 hq14) rfl rfl rfl (e_le rfl) (e_le rfl) (e_le rfl) rfl (ci := 5) e_cl5.1 rfl (e_le rfl) (e_lt hnx rfl) (Nat.zero_le _) (Nat.zero_le _) (e_k ?_)
    refine r_wr0 ?_
    refine r_z_eq F dX5_readCore_38 (tgt := 49) (by decide) (fun hc => ?_) (fun hc => ?_)
    · have hq6 := e_t hc hq6
      refine r_aload_n F dX5_readCore_41 rfl ?_
      refine r_aload_n F dX5_readCore_42 rfl ?_
      refine r_get F dX5_readCore_43 flX5_78 rfl rfl (e_le rfl) (e_lt hnx rfl) ?_
      refine r_put F dX5_readCore_46 flX5_29 rfl rfl rfl rfl (e_le rfl) (e_le rfl) (e_lt hnx rfl) (l' := [(35, o35 q3.2.1 q3.2.2.1 q3.2.2.1 a35_4 a35_5 a35_7 a35_8 a35_9 a35_10)]) rfl ?_
      obtain rfl := Option.some.inj hq6
      exact Jq5
    · have hq6 := e_f hc hq6
      obtain rfl := Option.some.inj hq6
      exact Jq5
