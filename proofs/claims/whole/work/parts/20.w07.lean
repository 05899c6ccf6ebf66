def fX12_vector (A79 : Nat → Int32) (p0 : Int32) (p1 : Int32) (p2 : Int32) : Option (Int32) :=
  (fX12_step A79 p0 p1 false p2).bind (fun q1 =>
  (fX12_step A79 (p0 + 1) p1 true p2).bind (fun q3 =>
  (fX12_step A79 p0 (p1 + 1) false p2).bind (fun q5 =>
  (fX12_step A79 p0 p1 true p2).bind (fun q7 =>
  some (((q1 + q3) - q5) - q7)))))
set_option maxRecDepth 100000 in
theorem tX12_vector_72 {G : eG} (hG : e_GS G) {la : Launch} {h : Nat → eO} {nx : Nat} (hnx : 99 ≤ nx) {a72_0 : Int32} {a72_2 : Int32} {a72_3 : Int32} {a72_4 : Int32} {a72_5 : Int32} {a72_6 : Int32} {a72_7 : Int32} {a72_8 : Bool} {a72_9 : Int32} {a72_10 : Int32} {a72_11 : Int32} {a72_17 : Bool} {a72_18 : Bool} {a72_19 : Bool} {a72_21 : Int32} {a72_22 : Int32} {a72_29 : Int32} {a72_31 : Int32} {a72_35 : Int32} {a72_37 : Bool} {a72_38 : Int32} {a72_39 : Int32} {a72_40 : Int32} {a72_41 : Int64} {a72_44 : Int32} {a72_50 : Bool} {A79 : Nat → Int32} {p0 : Int32} {p1 : Int32} {p2 : Int32} (h72 : h 72 = o72 a72_0 a72_2 a72_3 a72_4 a72_5 a72_6 a72_7 a72_8 a72_9 a72_10 a72_11 a72_17 a72_18 a72_19 a72_21 a72_22 a72_29 a72_31 a72_35 a72_37 a72_38 a72_39 a72_40 a72_41 a72_44 a72_50) (h79 : h 79 = o79 A79) {R9 : Int32} (hf : fX12_vector A79 p0 p1 p2 = some R9) :
    eSem G la MX12_vector [.ref 72, .int p0, .int p1, .int p2] h nx 0 0 (fun r9 h9 => r9 = some (.int R9) ∧ h9 = h) := by
  refine eSem.of (k := 0) (L := [some (.ref 72), some (.int p0), some (.int p1), some (.int p2)]) (by decide +kernel) rfl rfl (fun X F hxl hq hcR hsR => ?_)
  subst hxl
  unfold fX12_vector at hf
  refine r_aload_n F dX12_vector_0 rfl ?_
  refine r_iload_n F dX12_vector_1 rfl ?_
  refine r_iload_n F dX12_vector_2 rfl ?_
  refine r_iconst F dX12_vector_3 (v := 0) (by decide) ?_
  refine r_iload_n F dX12_vector_4 rfl ?_
  obtain ⟨q1, hq2, hf⟩ := e_bd hf
  refine r_callV F dX12_vector_5 (b := 72) (dc := 0) (ds := 0) (As := [.int p0, .int p1, .int 0, .int p2]) (S0 := []) lkX12_218 mX12_step (tX12_step_72 hG (la := x_l X) (h := e_up h []) hnx h72 h79 hq2) rfl rfl rfl (e_le rfl) (e_le rfl) (e_le rfl) h72 (ci := 12) e_cl12.1 rfl (e_le rfl) (e_lt hnx rfl) (Nat.zero_le _) (Nat.zero_le _) (e_k ?_)
  refine r_wr0 ?_
  refine r_aload_n F dX12_vector_8 rfl ?_
  refine r_iload_n F dX12_vector_9 rfl ?_
  refine r_iconst F dX12_vector_10 (v := 1) (by decide) ?_
  refine r_iadd F dX12_vector_11 ?_
  refine r_iload_n F dX12_vector_12 rfl ?_
  refine r_iconst F dX12_vector_13 (v := 1) (by decide) ?_
  refine r_iload_n F dX12_vector_14 rfl ?_
  obtain ⟨q3, hq4, hf⟩ := e_bd hf
  refine r_callV F dX12_vector_15 (b := 72) (dc := 0) (ds := 0) (As := [.int (p0 + 1), .int p1, .int 1, .int p2]) (S0 := [.int q1]) lkX12_218 mX12_step (tX12_step_72 hG (la := x_l X) (h := e_up h []) hnx h72 h79 hq4) rfl rfl rfl (e_le rfl) (e_le rfl) (e_le rfl) h72 (ci := 12) e_cl12.1 rfl (e_le rfl) (e_lt hnx rfl) (Nat.zero_le _) (Nat.zero_le _) (e_k ?_)
  refine r_wr0 ?_
  refine r_iadd F dX12_vector_18 ?_
  refine r_aload_n F dX12_vector_19 rfl ?_
  refine r_iload_n F dX12_vector_20 rfl ?_
  refine r_iload_n F dX12_vector_21 rfl ?_
  refine r_iconst F dX12_vector_22 (v := 1) (by decide) ?_
  refine r_iadd F dX12_vector_23 ?_
  refine r_iconst F dX12_vector_24 (v := 0) (by decide) ?_
  refine r_iload_n F dX12_vector_25 rfl ?_
  obtain ⟨q5, hq6, hf⟩ := e_bd hf
  refine r_callV F dX12_vector_26 (b := 72) (dc := 0) (ds := 0) (As := [.int p0, .int (p1 + 1), .int 0, .int p2]) (S0 := [.int (q1 + q3)]) lkX12_218 mX12_step (tX12_step_72 hG (la := x_l X) (h := e_up h []) hnx h72 h79 hq6) rfl rfl rfl (e_le rfl) (e_le rfl) (e_le rfl) h72 (ci := 12) e_cl12.1 rfl (e_le rfl) (e_lt hnx rfl) (Nat.zero_le _) (Nat.zero_le _) (e_k ?_)
  refine r_wr0 ?_
  refine r_isub F dX12_vector_29 ?_
  refine r_aload_n F dX12_vector_30 rfl ?_
  refine r_iload_n F dX12_vector_31 rfl ?_
  refine r_iload_n F dX12_vector_32 rfl ?_
  refine r_iconst F dX12_vector_33 (v := 1) (by decide) ?_
  refine r_iload_n F dX12_vector_34 rfl ?_
  obtain ⟨q7, hq8, hf⟩ := e_bd hf
  refine r_callV F dX12_vector_35 (b := 72) (dc := 0) (ds := 0) (As := [.int p0, .int p1, .int 1, .int p2]) (S0 := [.int ((q1 + q3) - q5)]) lkX12_218 mX12_step (tX12_step_72 hG (la := x_l X) (h := e_up h []) hnx h72 h79 hq8) rfl rfl rfl (e_le rfl) (e_le rfl) (e_le rfl) h72 (ci := 12) e_cl12.1 rfl (e_le rfl) (e_lt hnx rfl) (Nat.zero_le _) (Nat.zero_le _) (e_k ?_)
  refine r_wr0 ?_
  refine r_isub F dX12_vector_38 ?_
  obtain rfl := Option.some.inj hf
  exact r_iret F hq dX12_vector_39 rfl rfl (Nat.le_refl _) (Nat.le_refl _) ⟨rfl, rfl⟩

def fX12_isCore (A79 : Nat → Int32) (p0 : Int32) (p1 : Int32) : Option (Bool) :=
  (fX12_vector A79 p0 p1 0).bind (fun q1 =>
  if q1 = 0 then
    (fX12_vector A79 p0 p1 1).bind (fun q3 =>
    if q3 = 0 then
      some false
    else
      some true)
  else
    some true)
set_option maxRecDepth 100000 in
theorem tX12_isCore_72 {G : eG} (hG : e_GS G) {la : Launch} {h : Nat → eO} {nx : Nat} (hnx : 99 ≤ nx) {a72_0 : Int32} {a72_2 : Int32} {a72_3 : Int32} {a72_4 : Int32} {a72_5 : Int32} {a72_6 : Int32} {a72_7 : Int32} {a72_8 : Bool} {a72_9 : Int32} {a72_10 : Int32} {a72_11 : Int32} {a72_17 : Bool} {a72_18 : Bool} {a72_19 : Bool} {a72_21 : Int32} {a72_22 : Int32} {a72_29 : Int32} {a72_31 : Int32} {a72_35 : Int32} {a72_37 : Bool} {a72_38 : Int32} {a72_39 : Int32} {a72_40 : Int32} {a72_41 : Int64} {a72_44 : Int32} {a72_50 : Bool} {A79 : Nat → Int32} {p0 : Int32} {p1 : Int32} (h72 : h 72 = o72 a72_0 a72_2 a72_3 a72_4 a72_5 a72_6 a72_7 a72_8 a72_9 a72_10 a72_11 a72_17 a72_18 a72_19 a72_21 a72_22 a72_29 a72_31 a72_35 a72_37 a72_38 a72_39 a72_40 a72_41 a72_44 a72_50) (h79 : h 79 = o79 A79) {R9 : Bool} (hf : fX12_isCore A79 p0 p1 = some R9) :
    eSem G la MX12_isCore [.ref 72, .int p0, .int p1] h nx 0 0 (fun r9 h9 => r9 = some (.int (e_b R9)) ∧ h9 = h) := by
  refine eSem.of (k := 0) (L := [some (.ref 72), some (.int p0), some (.int p1)]) (by decide +kernel) rfl rfl (fun X F hxl hq hcR hsR => ?_)
  subst hxl
  unfold fX12_isCore at hf
  refine r_aload_n F dX12_isCore_0 rfl ?_
  refine r_iload_n F dX12_isCore_1 rfl ?_
  refine r_iload_n F dX12_isCore_2 rfl ?_
  refine r_iconst F dX12_isCore_3 (v := 0) (by decide) ?_
  obtain ⟨q1, hq2, hf⟩ := e_bd hf
  refine r_callV F dX12_isCore_4 (b := 72) (dc := 0) (ds := 0) (As := [.int p0, .int p1, .int 0]) (S0 := []) lkX12_221 mX12_vector (tX12_vector_72 hG (la := x_l X) (h := e_up h []) hnx h72 h79 hq2) rfl rfl rfl (e_le rfl) (e_le rfl) (e_le rfl) h72 (ci := 12) e_cl12.1 rfl (e_le rfl) (e_lt hnx rfl) (Nat.zero_le _) (Nat.zero_le _) (e_k ?_)
  refine r_wr0 ?_
  refine r_if_ne F dX12_isCore_7 (tgt := 20) (by decide) (fun hc => ?_) (fun hc => ?_)
  · have hf := e_f hc hf
    refine r_iconst F dX12_isCore_20 (v := 1) (by decide) ?_
    refine r_goto F dX12_isCore_21 (tgt := 25) (by decide) ?_
    obtain rfl := Option.some.inj hf
    exact r_zret F hq (v := true) dX12_isCore_25 rfl rfl (Nat.le_refl _) (Nat.le_refl _) ⟨rfl, rfl⟩
  · have hf := e_t hc hf
    refine r_aload_n F dX12_isCore_10 rfl ?_
    refine r_iload_n F dX12_isCore_11 rfl ?_
    refine r_iload_n F dX12_isCore_12 rfl ?_
    refine r_iconst F dX12_isCore_13 (v := 1) (by decide) ?_
    obtain ⟨q3, hq4, hf⟩ := e_bd hf
    refine r_callV F dX12_isCore_14 (b := 72) (dc := 0) (ds := 0) (As := [.int p0, .int p1, .int 1]) (S0 := []) lkX12_221 mX12_vector (tX12_vector_72 hG (la := x_l X) (h := e_up h []) hnx h72 h79 hq4) rfl rfl rfl (e_le rfl) (e_le rfl) (e_le rfl) h72 (ci := 12) e_cl12.1 rfl (e_le rfl) (e_lt hnx rfl) (Nat.zero_le _) (Nat.zero_le _) (e_k ?_)
    refine r_wr0 ?_
    refine r_if_eq F dX12_isCore_17 (tgt := 24) (by decide) (fun hc => ?_) (fun hc => ?_)
    · have hf := e_t hc hf
      refine r_iconst F dX12_isCore_24 (v := 0) (by decide) ?_
      obtain rfl := Option.some.inj hf
      exact r_zret F hq (v := false) dX12_isCore_25 rfl rfl (Nat.le_refl _) (Nat.le_refl _) ⟨rfl, rfl⟩
    · have hf := e_f hc hf
      refine r_iconst F dX12_isCore_20 (v := 1) (by decide) ?_
      refine r_goto F dX12_isCore_21 (tgt := 25) (by decide) ?_
      obtain rfl := Option.some.inj hf
      exact r_zret F hq (v := true) dX12_isCore_25 rfl rfl (Nat.le_refl _) (Nat.le_refl _) ⟨rfl, rfl⟩

def fX12_wayOf  (p0 : Int32) (p1 : Int32) : Option (Int32) :=
  if p1 = 0 then
    some 0
  else
    if p0 = 0 then
      some 1
    else
      some (-1)
set_option maxRecDepth 100000 in
theorem tX12_wayOf {G : eG} (hG : e_GS G) {la : Launch} {h : Nat → eO} {nx : Nat} (hnx : 99 ≤ nx)  {p0 : Int32} {p1 : Int32}  {R9 : Int32} (hf : fX12_wayOf  p0 p1 = some R9) :
    eSem G la MX12_wayOf [.int p0, .int p1] h nx 0 0 (fun r9 h9 => r9 = some (.int R9) ∧ h9 = h) := by
  refine eSem.of (k := 0) (L := [some (.int p0), some (.int p1)]) (by decide +kernel) rfl rfl (fun X F hxl hq hcR hsR => ?_)
  subst hxl
  unfold fX12_wayOf at hf
  refine r_iload_n F dX12_wayOf_0 rfl ?_
  refine r_if_ne F dX12_wayOf_1 (tgt := 8) (by decide) (fun hc => ?_) (fun hc => ?_)
  · have hf := e_f hc hf
    refine r_iload_n F dX12_wayOf_8 rfl ?_
    refine r_if_ne F dX12_wayOf_9 (tgt := 16) (by decide) (fun hc => ?_) (fun hc => ?_)
    · have hf := e_f hc hf
      refine r_iconst F dX12_wayOf_16 (v := (-1)) (by decide) ?_
      obtain rfl := Option.some.inj hf
      exact r_iret F hq dX12_wayOf_17 rfl rfl (Nat.le_refl _) (Nat.le_refl _) ⟨rfl, rfl⟩
    · have hf := e_t hc hf
      refine r_iconst F dX12_wayOf_12 (v := 1) (by decide) ?_
      refine r_goto F dX12_wayOf_13 (tgt := 17) (by decide) ?_
      obtain rfl := Option.some.inj hf
      exact r_iret F hq dX12_wayOf_17 rfl rfl (Nat.le_refl _) (Nat.le_refl _) ⟨rfl, rfl⟩
  · have hf := e_t hc hf
    refine r_iconst F dX12_wayOf_4 (v := 0) (by decide) ?_
    refine r_goto F dX12_wayOf_5 (tgt := 17) (by decide) ?_
    obtain rfl := Option.some.inj hf
    exact r_iret F hq dX12_wayOf_17 rfl rfl (Nat.le_refl _) (Nat.le_refl _) ⟨rfl, rfl⟩

def fX12_way (A83 : Nat → Int32) (A84 : Nat → Int32) (p0 : Int32) : Option (Int32) :=
  e_g (e_in p0 64) (
  e_g (e_in p0 64) (
  (fX12_wayOf (A83 (tn p0)) (A84 (tn p0))).bind (fun q1 =>
  some q1)))
set_option maxRecDepth 100000 in
theorem tX12_way_72 {G : eG} (hG : e_GS G) {la : Launch} {h : Nat → eO} {nx : Nat} (hnx : 99 ≤ nx) {a72_0 : Int32} {a72_2 : Int32} {a72_3 : Int32} {a72_4 : Int32} {a72_5 : Int32} {a72_6 : Int32} {a72_7 : Int32} {a72_8 : Bool} {a72_9 : Int32} {a72_10 : Int32} {a72_11 : Int32} {a72_17 : Bool} {a72_18 : Bool} {a72_19 : Bool} {a72_21 : Int32} {a72_22 : Int32} {a72_29 : Int32} {a72_31 : Int32} {a72_35 : Int32} {a72_37 : Bool} {a72_38 : Int32} {a72_39 : Int32} {a72_40 : Int32} {a72_41 : Int64} {a72_44 : Int32} {a72_50 : Bool} {A83 : Nat → Int32} {A84 : Nat → Int32} {p0 : Int32} (h72 : h 72 = o72 a72_0 a72_2 a72_3 a72_4 a72_5 a72_6 a72_7 a72_8 a72_9 a72_10 a72_11 a72_17 a72_18 a72_19 a72_21 a72_22 a72_29 a72_31 a72_35 a72_37 a72_38 a72_39 a72_40 a72_41 a72_44 a72_50) (h83 : h 83 = o83 A83) (h84 : h 84 = o84 A84) {R9 : Int32} (hf : fX12_way A83 A84 p0 = some R9) :
    eSem G la MX12_way [.ref 72, .int p0] h nx 0 0 (fun r9 h9 => r9 = some (.int R9) ∧ h9 = h) := by
  refine eSem.of (k := 0) (L := [some (.ref 72), some (.int p0)]) (by decide +kernel) rfl rfl (fun X F hxl hq hcR hsR => ?_)
  subst hxl
  unfold fX12_way at hf
  refine r_aload_n F dX12_way_0 rfl ?_
  refine r_get F dX12_way_1 flX12_40 h72 rfl (e_le rfl) (e_lt hnx rfl) ?_
  refine r_iload_n F dX12_way_4 rfl ?_
  obtain ⟨hg, hf⟩ := e_gd hf
  refine r_iald F dX12_way_5 (i := p0) h83 (e_le rfl) (e_lt hnx rfl) (e_vp hg) ?_
  refine r_aload_n F dX12_way_6 rfl ?_
  refine r_get F dX12_way_7 flX12_43 h72 rfl (e_le rfl) (e_lt hnx rfl) ?_
  refine r_iload_n F dX12_way_10 rfl ?_
  obtain ⟨hg, hf⟩ := e_gd hf
  refine r_iald F dX12_way_11 (i := p0) h84 (e_le rfl) (e_lt hnx rfl) (e_vp hg) ?_
  obtain ⟨q1, hq2, hf⟩ := e_bd hf
  refine r_callS F dX12_way_12 (dc := 0) (ds := 0) (As := [.int (A83 (tn p0)), .int (A84 (tn p0))]) (S0 := []) lkX12_250 mX12_wayOf (tX12_wayOf hG (la := x_l X) (h := e_up h []) hnx  hq2) rfl rfl rfl (e_le rfl) (e_le rfl) (e_le rfl) (Nat.zero_le _) (Nat.zero_le _) (e_k ?_)
  refine r_wr0 ?_
  obtain rfl := Option.some.inj hf
  exact r_iret F hq dX12_way_15 rfl rfl (Nat.le_refl _) (Nat.le_refl _) ⟨rfl, rfl⟩

def fX12_along (A83 : Nat → Int32) (A84 : Nat → Int32) (p0 : Int32) (p1 : Int32) : Option (Int32) :=
  if p1 = 0 then
    e_g (e_in p0 64) (
    some (A83 (tn p0)))
  else
    e_g (e_in p0 64) (
    some (A84 (tn p0)))
set_option maxRecDepth 100000 in
theorem tX12_along_72 {G : eG} (hG : e_GS G) {la : Launch} {h : Nat → eO} {nx : Nat} (hnx : 99 ≤ nx) {a72_0 : Int32} {a72_2 : Int32} {a72_3 : Int32} {a72_4 : Int32} {a72_5 : Int32} {a72_6 : Int32} {a72_7 : Int32} {a72_8 : Bool} {a72_9 : Int32} {a72_10 : Int32} {a72_11 : Int32} {a72_17 : Bool} {a72_18 : Bool} {a72_19 : Bool} {a72_21 : Int32} {a72_22 : Int32} {a72_29 : Int32} {a72_31 : Int32} {a72_35 : Int32} {a72_37 : Bool} {a72_38 : Int32} {a72_39 : Int32} {a72_40 : Int32} {a72_41 : Int64} {a72_44 : Int32} {a72_50 : Bool} {A83 : Nat → Int32} {A84 : Nat → Int32} {p0 : Int32} {p1 : Int32} (h72 : h 72 = o72 a72_0 a72_2 a72_3 a72_4 a72_5 a72_6 a72_7 a72_8 a72_9 a72_10 a72_11 a72_17 a72_18 a72_19 a72_21 a72_22 a72_29 a72_31 a72_35 a72_37 a72_38 a72_39 a72_40 a72_41 a72_44 a72_50) (h83 : h 83 = o83 A83) (h84 : h 84 = o84 A84) {R9 : Int32} (hf : fX12_along A83 A84 p0 p1 = some R9) :
    eSem G la MX12_along [.ref 72, .int p0, .int p1] h nx 0 0 (fun r9 h9 => r9 = some (.int R9) ∧ h9 = h) := by
  refine eSem.of (k := 0) (L := [some (.ref 72), some (.int p0), some (.int p1)]) (by decide +kernel) rfl rfl (fun X F hxl hq hcR hsR => ?_)
  subst hxl
  unfold fX12_along at hf
  refine r_iload_n F dX12_along_0 rfl ?_
  refine r_if_ne F dX12_along_1 (tgt := 13) (by decide) (fun hc => ?_) (fun hc => ?_)
  · have hf := e_f hc hf
    refine r_aload_n F dX12_along_13 rfl ?_
    refine r_get F dX12_along_14 flX12_43 h72 rfl (e_le rfl) (e_lt hnx rfl) ?_
    refine r_iload_n F dX12_along_17 rfl ?_
    obtain ⟨hg, hf⟩ := e_gd hf
    refine r_iald F dX12_along_18 (i := p0) h84 (e_le rfl) (e_lt hnx rfl) (e_vp hg) ?_
    obtain rfl := Option.some.inj hf
    exact r_iret F hq dX12_along_19 rfl rfl (Nat.le_refl _) (Nat.le_refl _) ⟨rfl, rfl⟩
  · have hf := e_t hc hf
    refine r_aload_n F dX12_along_4 rfl ?_
    refine r_get F dX12_along_5 flX12_40 h72 rfl (e_le rfl) (e_lt hnx rfl) ?_
    refine r_iload_n F dX12_along_8 rfl ?_
    obtain ⟨hg, hf⟩ := e_gd hf
    refine r_iald F dX12_along_9 (i := p0) h83 (e_le rfl) (e_lt hnx rfl) (e_vp hg) ?_
    refine r_goto F dX12_along_10 (tgt := 19) (by decide) ?_
    obtain rfl := Option.some.inj hf
    exact r_iret F hq dX12_along_19 rfl rfl (Nat.le_refl _) (Nat.le_refl _) ⟨rfl, rfl⟩

def fX12_placeAlong (A81 : Nat → Int32) (A82 : Nat → Int32) (p0 : Int32) (p1 : Int32) : Option (Int32) :=
  if p1 = 0 then
    e_g (e_in p0 64) (
    some (A81 (tn p0)))
  else
    e_g (e_in p0 64) (
    some (A82 (tn p0)))
set_option maxRecDepth 100000 in
theorem tX12_placeAlong_72 {G : eG} (hG : e_GS G) {la : Launch} {h : Nat → eO} {nx : Nat} (hnx : 99 ≤ nx) {a72_0 : Int32} {a72_2 : Int32} {a72_3 : Int32} {a72_4 : Int32} {a72_5 : Int32} {a72_6 : Int32} {a72_7 : Int32} {a72_8 : Bool} {a72_9 : Int32} {a72_10 : Int32} {a72_11 : Int32} {a72_17 : Bool} {a72_18 : Bool} {a72_19 : Bool} {a72_21 : Int32} {a72_22 : Int32} {a72_29 : Int32} {a72_31 : Int32} {a72_35 : Int32} {a72_37 : Bool} {a72_38 : Int32} {a72_39 : Int32} {a72_40 : Int32} {a72_41 : Int64} {a72_44 : Int32} {a72_50 : Bool} {A81 : Nat → Int32} {A82 : Nat → Int32} {p0 : Int32} {p1 : Int32} (h72 : h 72 = o72 a72_0 a72_2 a72_3 a72_4 a72_5 a72_6 a72_7 a72_8 a72_9 a72_10 a72_11 a72_17 a72_18 a72_19 a72_21 a72_22 a72_29 a72_31 a72_35 a72_37 a72_38 a72_39 a72_40 a72_41 a72_44 a72_50) (h81 : h 81 = o81 A81) (h82 : h 82 = o82 A82) {R9 : Int32} (hf : fX12_placeAlong A81 A82 p0 p1 = some R9) :
    eSem G la MX12_placeAlong [.ref 72, .int p0, .int p1] h nx 0 0 (fun r9 h9 => r9 = some (.int R9) ∧ h9 = h) := by
  refine eSem.of (k := 0) (L := [some (.ref 72), some (.int p0), some (.int p1)]) (by decide +kernel) rfl rfl (fun X F hxl hq hcR hsR => ?_)
  subst hxl
  unfold fX12_placeAlong at hf
  refine r_iload_n F dX12_placeAlong_0 rfl ?_
  refine r_if_ne F dX12_placeAlong_1 (tgt := 13) (by decide) (fun hc => ?_) (fun hc => ?_)
  · have hf := e_f hc hf
    refine r_aload_n F dX12_placeAlong_13 rfl ?_
    refine r_get F dX12_placeAlong_14 flX12_37 h72 rfl (e_le rfl) (e_lt hnx rfl) ?_
    refine r_iload_n F dX12_placeAlong_17 rfl ?_
    obtain ⟨hg, hf⟩ := e_gd hf
    refine r_iald F dX12_placeAlong_18 (i := p0) h82 (e_le rfl) (e_lt hnx rfl) (e_vp hg) ?_
    obtain rfl := Option.some.inj hf
    exact r_iret F hq dX12_placeAlong_19 rfl rfl (Nat.le_refl _) (Nat.le_refl _) ⟨rfl, rfl⟩
  · have hf := e_t hc hf
    refine r_aload_n F dX12_placeAlong_4 rfl ?_
    refine r_get F dX12_placeAlong_5 flX12_34 h72 rfl (e_le rfl) (e_lt hnx rfl) ?_
    refine r_iload_n F dX12_placeAlong_8 rfl ?_
    obtain ⟨hg, hf⟩ := e_gd hf
    refine r_iald F dX12_placeAlong_9 (i := p0) h81 (e_le rfl) (e_lt hnx rfl) (e_vp hg) ?_
    refine r_goto F dX12_placeAlong_10 (tgt := 19) (by decide) ?_
    obtain rfl := Option.some.inj hf
    exact r_iret F hq dX12_placeAlong_19 rfl rfl (Nat.le_refl _) (Nat.le_refl _) ⟨rfl, rfl⟩

def fJ13_signum_95d88  (p0 : Int64) : Option (Int32) :=
  some (Int64.toInt32 ((p0 >>> (Int32.toInt64 63 &&& 63)) ||| ((Int64.toUInt64 ((0 : Int64) - p0) >>> ((Int32.toInt64 63).toUInt64 &&& Int64.toUInt64 63)).toInt64)))
set_option maxRecDepth 100000 in
theorem tJ13_signum_95d88 {G : eG} (hG : e_GS G) {la : Launch} {h : Nat → eO} {nx : Nat} (hnx : 99 ≤ nx)  {p0 : Int64}  {R9 : Int32} (hf : fJ13_signum_95d88  p0 = some R9) :
    eSem G la MJ13_signum_95d88 [.long p0] h nx 0 0 (fun r9 h9 => r9 = some (.int R9) ∧ h9 = h) := by
  refine eSem.of (k := 0) (L := [some (.long p0), none]) (by decide +kernel) rfl rfl (fun X F hxl hq hcR hsR => ?_)
  subst hxl
  unfold fJ13_signum_95d88 at hf
  refine r_lload_n F dJ13_signum_95d88_0 rfl ?_
  refine r_bipush F dJ13_signum_95d88_1 (v := 63) (by decide) ?_
  refine r_lshr F dJ13_signum_95d88_3 ?_
  refine r_lload_n F dJ13_signum_95d88_4 rfl ?_
  refine r_lneg F dJ13_signum_95d88_5 ?_
  refine r_bipush F dJ13_signum_95d88_6 (v := 63) (by decide) ?_
  refine r_lushr F dJ13_signum_95d88_8 ?_
  refine r_lor F dJ13_signum_95d88_9 ?_
  refine r_l2i F dJ13_signum_95d88_10 ?_
  obtain rfl := Option.some.inj hf
  exact r_iret F hq dJ13_signum_95d88_11 rfl rfl (Nat.le_refl _) (Nat.le_refl _) ⟨rfl, rfl⟩

def fJ9_abs_067f4  (p0 : Int64) : Option (Int64) :=
  if 0 ≤ (lg_cmp p0 0) then
    some p0
  else
    some ((0 : Int64) - p0)
set_option maxRecDepth 100000 in
theorem tJ9_abs_067f4 {G : eG} (hG : e_GS G) {la : Launch} {h : Nat → eO} {nx : Nat} (hnx : 99 ≤ nx)  {p0 : Int64}  {R9 : Int64} (hf : fJ9_abs_067f4  p0 = some R9) :
    eSem G la MJ9_abs_067f4 [.long p0] h nx 0 0 (fun r9 h9 => r9 = some (.long R9) ∧ h9 = h) := by
  refine eSem.of (k := 0) (L := [some (.long p0), none]) (by decide +kernel) rfl rfl (fun X F hxl hq hcR hsR => ?_)
  subst hxl
  unfold fJ9_abs_067f4 at hf
  refine r_lload_n F dJ9_abs_067f4_0 rfl ?_
  refine r_lconst F dJ9_abs_067f4_1 (v := 0) (by decide) ?_
  refine r_lcmp F dJ9_abs_067f4_2 ?_
  refine r_if_ge F dJ9_abs_067f4_3 (tgt := 11) (by decide) (fun hc => ?_) (fun hc => ?_)
  · have hf := e_t hc hf
    refine r_lload_n F dJ9_abs_067f4_11 rfl ?_
    obtain rfl := Option.some.inj hf
    exact r_lret F hq dJ9_abs_067f4_12 rfl rfl (Nat.le_refl _) (Nat.le_refl _) ⟨rfl, rfl⟩
  · have hf := e_f hc hf
    refine r_lload_n F dJ9_abs_067f4_6 rfl ?_
    refine r_lneg F dJ9_abs_067f4_7 ?_
    refine r_goto F dJ9_abs_067f4_8 (tgt := 12) (by decide) ?_
    obtain rfl := Option.some.inj hf
    exact r_lret F hq dJ9_abs_067f4_12 rfl rfl (Nat.le_refl _) (Nat.le_refl _) ⟨rfl, rfl⟩

def fX12_forceBy (A80 : Nat → Int32) (p0 : Int64) (p1 : Int64) (p2 : Int64) : Option (Int32) :=
  if (A80 (tn 3)) = 0 then
    e_g (e_nzl (((p1 * p1) + (p2 * p2)) * ((p1 * p1) + (p2 * p2)))) (
    some (Int64.toInt32 ((((1000 * p0) * p1) * ((p1 * p1) - (p2 * p2))) / (((p1 * p1) + (p2 * p2)) * ((p1 * p1) + (p2 * p2))))))
  else
    if (A80 (tn 3)) = 1 then
      (fJ13_signum_95d88 p1).bind (fun q1 =>
      (fJ9_abs_067f4 p1).bind (fun q3 =>
      (fJ9_abs_067f4 p2).bind (fun q5 =>
      e_g (e_nzl (q3 + q5)) (
      some (Int64.toInt32 (((100 * p0) * (Int32.toInt64 q1)) / (q3 + q5)))))))
    else
      e_g (e_nzl ((p1 * p1) + (p2 * p2))) (
      some (Int64.toInt32 (((60 * p0) * p1) / ((p1 * p1) + (p2 * p2)))))
set_option maxRecDepth 100000 in
theorem tX12_forceBy_72 {G : eG} (hG : e_GS G) {la : Launch} {h : Nat → eO} {nx : Nat} (hnx : 99 ≤ nx) {a72_0 : Int32} {a72_2 : Int32} {a72_3 : Int32} {a72_4 : Int32} {a72_5 : Int32} {a72_6 : Int32} {a72_7 : Int32} {a72_8 : Bool} {a72_9 : Int32} {a72_10 : Int32} {a72_11 : Int32} {a72_17 : Bool} {a72_18 : Bool} {a72_19 : Bool} {a72_21 : Int32} {a72_22 : Int32} {a72_29 : Int32} {a72_31 : Int32} {a72_35 : Int32} {a72_37 : Bool} {a72_38 : Int32} {a72_39 : Int32} {a72_40 : Int32} {a72_41 : Int64} {a72_44 : Int32} {a72_50 : Bool} {A80 : Nat → Int32} {p0 : Int64} {p1 : Int64} {p2 : Int64} (h72 : h 72 = o72 a72_0 a72_2 a72_3 a72_4 a72_5 a72_6 a72_7 a72_8 a72_9 a72_10 a72_11 a72_17 a72_18 a72_19 a72_21 a72_22 a72_29 a72_31 a72_35 a72_37 a72_38 a72_39 a72_40 a72_41 a72_44 a72_50) (h80 : h 80 = o80 A80) {R9 : Int32} (hf : fX12_forceBy A80 p0 p1 p2 = some R9) :
    eSem G la MX12_forceBy [.ref 72, .long p0, .long p1, .long p2] h nx 0 0 (fun r9 h9 => r9 = some (.int R9) ∧ h9 = h) := by
  refine eSem.of (k := 0) (L := [some (.ref 72), some (.long p0), none, some (.long p1), none, some (.long p2), none]) (by decide +kernel) rfl rfl (fun X F hxl hq hcR hsR => ?_)
  subst hxl
  unfold fX12_forceBy at hf
  refine r_aload_n F dX12_forceBy_0 rfl ?_
  refine r_get F dX12_forceBy_1 flX12_31 h72 rfl (e_le rfl) (e_lt hnx rfl) ?_
  refine r_iconst F dX12_forceBy_4 (v := 3) (by decide) ?_
  refine r_iald F dX12_forceBy_5 (i := 3) h80 (e_le rfl) (e_lt hnx rfl) (e_vp (by decide)) ?_
  refine r_if_ne F dX12_forceBy_6 (tgt := 48) (by decide) (fun hc => ?_) (fun hc => ?_)
  · have hf := e_f hc hf
    refine r_aload_n F dX12_forceBy_48 rfl ?_
    refine r_get F dX12_forceBy_49 flX12_31 h72 rfl (e_le rfl) (e_lt hnx rfl) ?_
    refine r_iconst F dX12_forceBy_52 (v := 3) (by decide) ?_
    refine r_iald F dX12_forceBy_53 (i := 3) h80 (e_le rfl) (e_lt hnx rfl) (e_vp (by decide)) ?_
    refine r_iconst F dX12_forceBy_54 (v := 1) (by decide) ?_
    refine r_icmp_ne F dX12_forceBy_55 (tgt := 82) (by decide) (fun hc => ?_) (fun hc => ?_)
    · have hf := e_f hc hf
      refine r_ldc2 F dX12_forceBy_82 klX12_267 ?_
      refine r_lload_n F dX12_forceBy_85 rfl ?_
      refine r_lmul F dX12_forceBy_86 ?_
      refine r_lload_n F dX12_forceBy_87 rfl ?_
      refine r_lmul F dX12_forceBy_88 ?_
      refine r_lload_n F dX12_forceBy_89 rfl ?_
      refine r_lload_n F dX12_forceBy_90 rfl ?_
      refine r_lmul F dX12_forceBy_91 ?_
      refine r_lload F dX12_forceBy_92 rfl ?_
      refine r_lload F dX12_forceBy_94 rfl ?_
      refine r_lmul F dX12_forceBy_96 ?_
      refine r_ladd F dX12_forceBy_97 ?_
      obtain ⟨hg, hf⟩ := e_gd hf
      refine r_ldiv F dX12_forceBy_98 (e_nzl_ne hg) ?_
      refine r_l2i F dX12_forceBy_99 ?_
      obtain rfl := Option.some.inj hf
      exact r_iret F hq dX12_forceBy_100 rfl rfl (Nat.le_refl _) (Nat.le_refl _) ⟨rfl, rfl⟩
    · have hf := e_t hc hf
      refine r_ldc2 F dX12_forceBy_58 klX12_255 ?_
      refine r_lload_n F dX12_forceBy_61 rfl ?_
      refine r_lmul F dX12_forceBy_62 ?_
      refine r_lload_n F dX12_forceBy_63 rfl ?_
      obtain ⟨q1, hq2, hf⟩ := e_bd hf
      refine r_callS F dX12_forceBy_64 (dc := 0) (ds := 0) (As := [.long p1]) (S0 := [.long (100 * p0)]) lkX12_257 mJ13_signum_95d88 (tJ13_signum_95d88 hG (la := x_l X) (h := e_up h []) hnx  hq2) rfl rfl rfl (e_le rfl) (e_le rfl) (e_le rfl) (Nat.zero_le _) (Nat.zero_le _) (e_k ?_)
      refine r_wr0 ?_
      refine r_i2l F dX12_forceBy_67 ?_
      refine r_lmul F dX12_forceBy_68 ?_
      refine r_lload_n F dX12_forceBy_69 rfl ?_
      obtain ⟨q3, hq4, hf⟩ := e_bd hf
      refine r_callS F dX12_forceBy_70 (dc := 0) (ds := 0) (As := [.long p1]) (S0 := [.long ((100 * p0) * (Int32.toInt64 q1))]) lkX12_263 mJ9_abs_067f4 (tJ9_abs_067f4 hG (la := x_l X) (h := e_up h []) hnx  hq4) rfl rfl rfl (e_le rfl) (e_le rfl) (e_le rfl) (Nat.zero_le _) (Nat.zero_le _) (e_k ?_)
      refine r_wr0 ?_
      refine r_lload F dX12_forceBy_73 rfl ?_
      obtain ⟨q5, hq6, hf⟩ := e_bd hf
      refine r_callS F dX12_forceBy_75 (dc := 0) (ds := 0) (As := [.long p2]) (S0 := [.long q3, .long ((100 * p0) * (Int32.toInt64 q1))]) lkX12_263 mJ9_abs_067f4 (tJ9_abs_067f4 hG (la := x_l X) (h := e_up h []) hnx  hq6) rfl rfl rfl (e_le rfl) (e_le rfl) (e_le rfl) (Nat.zero_le _) (Nat.zero_le _) (e_k ?_)
      refine r_wr0 ?_
      refine r_ladd F dX12_forceBy_78 ?_
      obtain ⟨hg, hf⟩ := e_gd hf
      refine r_ldiv F dX12_forceBy_79 (e_nzl_ne hg) ?_
      refine r_l2i F dX12_forceBy_80 ?_
      obtain rfl := Option.some.inj hf
      exact r_iret F hq dX12_forceBy_81 rfl rfl (Nat.le_refl _) (Nat.le_refl _) ⟨rfl, rfl⟩
  · have hf := e_t hc hf
    refine r_ldc2 F dX12_forceBy_9 klX12_253 ?_
    refine r_lload_n F dX12_forceBy_12 rfl ?_
    refine r_lmul F dX12_forceBy_13 ?_
    refine r_lload_n F dX12_forceBy_14 rfl ?_
    refine r_lmul F dX12_forceBy_15 ?_
    refine r_lload_n F dX12_forceBy_16 rfl ?_
    refine r_lload_n F dX12_forceBy_17 rfl ?_
    refine r_lmul F dX12_forceBy_18 ?_
    refine r_lload F dX12_forceBy_19 rfl ?_
    refine r_lload F dX12_forceBy_21 rfl ?_
    refine r_lmul F dX12_forceBy_23 ?_
    refine r_lsub F dX12_forceBy_24 ?_
    refine r_lmul F dX12_forceBy_25 ?_
    refine r_lload_n F dX12_forceBy_26 rfl ?_
    refine r_lload_n F dX12_forceBy_27 rfl ?_
    refine r_lmul F dX12_forceBy_28 ?_
    refine r_lload F dX12_forceBy_29 rfl ?_
    refine r_lload F dX12_forceBy_31 rfl ?_
    refine r_lmul F dX12_forceBy_33 ?_
    refine r_ladd F dX12_forceBy_34 ?_
    refine r_lload_n F dX12_forceBy_35 rfl ?_
    refine r_lload_n F dX12_forceBy_36 rfl ?_
    refine r_lmul F dX12_forceBy_37 ?_
    refine r_lload F dX12_forceBy_38 rfl ?_
    refine r_lload F dX12_forceBy_40 rfl ?_
    refine r_lmul F dX12_forceBy_42 ?_
    refine r_ladd F dX12_forceBy_43 ?_
    refine r_lmul F dX12_forceBy_44 ?_
    obtain ⟨hg, hf⟩ := e_gd hf
    refine r_ldiv F dX12_forceBy_45 (e_nzl_ne hg) ?_
    refine r_l2i F dX12_forceBy_46 ?_
    obtain rfl := Option.some.inj hf
    exact r_iret F hq dX12_forceBy_47 rfl rfl (Nat.le_refl _) (Nat.le_refl _) ⟨rfl, rfl⟩

def fX12_forceOn (a72_29 : Int32) (A80 : Nat → Int32) (A81 : Nat → Int32) (A82 : Nat → Int32) (A83 : Nat → Int32) (A84 : Nat → Int32) (p0 : Int32) : Option (Int32) :=
  (fX12_way A83 A84 p0).bind (fun q1 =>
  if q1 = (-1) then
    some 0
  else
    Option.bind (α := Bool) (
      if q1 = 0 then
        some false
      else
        some true) (fun q3 =>
    e_g (e_in (e_b q3) 4) (
    (fX12_along A83 A84 p0 q1).bind (fun q5 =>
    (e_loop (fun (v9 : Int32 × Int32) => (
        if a72_29 ≤ v9.2 then
          some (.inr v9.1)
        else
          Option.bind (α := Int32) (
            if v9.2 = p0 then
              some v9.1
            else
              (fX12_placeAlong A81 A82 p0 q1).bind (fun q14 =>
              (fX12_placeAlong A81 A82 v9.2 q1).bind (fun q16 =>
              (fX12_placeAlong A81 A82 p0 ((1 : Int32) - q1)).bind (fun q18 =>
              (fX12_placeAlong A81 A82 v9.2 ((1 : Int32) - q1)).bind (fun q20 =>
              (fX12_along A83 A84 p0 q1).bind (fun q22 =>
              (fX12_along A83 A84 v9.2 q1).bind (fun q24 =>
              (fX12_forceBy A80 ((Int32.toInt64 q22) * (Int32.toInt64 q24)) (Int32.toInt64 (q14 - q16)) (Int32.toInt64 (q18 - q20))).bind (fun q26 =>
              some (v9.1 + q26))))))))) (fun q12 =>
          some (.inl (q12, v9.2 + 1))) : Option ((Int32 × Int32) ⊕ (Int32)))) e_fuel ((A80 (tn (e_b q3))) * q5, 0)).bind (fun x10 =>
    some x10)))))
set_option maxRecDepth 100000 in
theorem tX12_forceOn_72 {G : eG} (hG : e_GS G) {la : Launch} {h : Nat → eO} {nx : Nat} (hnx : 99 ≤ nx) {a72_0 : Int32} {a72_2 : Int32} {a72_3 : Int32} {a72_4 : Int32} {a72_5 : Int32} {a72_6 : Int32} {a72_7 : Int32} {a72_8 : Bool} {a72_9 : Int32} {a72_10 : Int32} {a72_11 : Int32} {a72_17 : Bool} {a72_18 : Bool} {a72_19 : Bool} {a72_21 : Int32} {a72_22 : Int32} {a72_29 : Int32} {a72_31 : Int32} {a72_35 : Int32} {a72_37 : Bool} {a72_38 : Int32} {a72_39 : Int32} {a72_40 : Int32} {a72_41 : Int64} {a72_44 : Int32} {a72_50 : Bool} {A80 : Nat → Int32} {A81 : Nat → Int32} {A82 : Nat → Int32} {A83 : Nat → Int32} {A84 : Nat → Int32} {p0 : Int32} (h72 : h 72 = o72 a72_0 a72_2 a72_3 a72_4 a72_5 a72_6 a72_7 a72_8 a72_9 a72_10 a72_11 a72_17 a72_18 a72_19 a72_21 a72_22 a72_29 a72_31 a72_35 a72_37 a72_38 a72_39 a72_40 a72_41 a72_44 a72_50) (h80 : h 80 = o80 A80) (h81 : h 81 = o81 A81) (h82 : h 82 = o82 A82) (h83 : h 83 = o83 A83) (h84 : h 84 = o84 A84) {R9 : Int32} (hf : fX12_forceOn a72_29 A80 A81 A82 A83 A84 p0 = some R9) :
    eSem G la MX12_forceOn [.ref 72, .int p0] h nx 0 0 (fun r9 h9 => r9 = some (.int R9) ∧ h9 = h) := by
  refine eSem.of (k := 5) (L := [some (.ref 72), some (.int p0), none, none, none, none, none]) (by decide +kernel) rfl rfl (fun X F hxl hq hcR hsR => ?_)
  subst hxl
  unfold fX12_forceOn at hf
  refine r_aload_n F dX12_forceOn_0 rfl ?_
  refine r_iload_n F dX12_forceOn_1 rfl ?_
  obtain ⟨q1, hq2, hf⟩ := e_bd hf
  refine r_callV F dX12_forceOn_2 (b := 72) (dc := 0) (ds := 0) (As := [.int p0]) (S0 := []) lkX12_269 mX12_way (tX12_way_72 hG (la := x_l X) (h := e_up h []) hnx h72 h83 h84 hq2) rfl rfl rfl (e_le rfl) (e_le rfl) (e_le rfl) h72 (ci := 12) e_cl12.1 rfl (e_le rfl) (e_lt hnx rfl) (Nat.zero_le _) (Nat.zero_le _) (e_k ?_)
  refine r_wr0 ?_
  refine r_istore_n F dX12_forceOn_5 (e_le rfl) (L' := [some (.ref 72), some (.int p0), some (.int q1), none, none, none, none]) rfl ?_
  refine r_iload_n F dX12_forceOn_6 rfl ?_
  refine r_iconst F dX12_forceOn_7 (v := (-1)) (by decide) ?_
  refine r_icmp_ne F dX12_forceOn_8 (tgt := 13) (by decide) (fun hc => ?_) (fun hc => ?_)
  · have hf := e_f hc hf
    refine r_aload_n F dX12_forceOn_13 rfl ?_
    refine r_get F dX12_forceOn_14 flX12_31 h72 rfl (e_le rfl) (e_lt hnx rfl) ?_
    refine r_iload_n F dX12_forceOn_17 rfl ?_
    obtain ⟨q3, hq4, hf⟩ := e_bd hf
    have Jq3 : eRun G X 26 [some (.ref 72), some (.int p0), some (.int q1), none, none, none, none] [.int (e_b q3), .ref 80] h [] nx 0 0 := by
      obtain ⟨hg, hf⟩ := e_gd hf
      refine r_iald F dX12_forceOn_26 (i := (e_b q3)) h80 (e_le rfl) (e_lt hnx rfl) (e_vp hg) ?_
      refine r_aload_n F dX12_forceOn_27 rfl ?_
      refine r_iload_n F dX12_forceOn_28 rfl ?_
      refine r_iload_n F dX12_forceOn_29 rfl ?_
      obtain ⟨q5, hq6, hf⟩ := e_bd hf
      refine r_callV F dX12_forceOn_30 (b := 72) (dc := 0) (ds := 0) (As := [.int p0, .int q1]) (S0 := [.int (A80 (tn (e_b q3)))]) lkX12_272 mX12_along (tX12_along_72 hG (la := x_l X) (h := e_up h []) hnx h72 h83 h84 hq6) rfl rfl rfl (e_le rfl) (e_le rfl) (e_le rfl) h72 (ci := 12) e_cl12.1 rfl (e_le rfl) (e_lt hnx rfl) (Nat.zero_le _) (Nat.zero_le _) (e_k ?_)
      refine r_wr0 ?_
      refine r_imul F dX12_forceOn_33 ?_
      refine r_istore_n F dX12_forceOn_34 (e_le rfl) (L' := [some (.ref 72), some (.int p0), some (.int q1), some (.int ((A80 (tn (e_b q3))) * q5)), none, none, none]) rfl ?_
      refine r_iconst F dX12_forceOn_35 (v := 0) (by decide) ?_
      refine r_istore F dX12_forceOn_36 (e_le rfl) (L' := [some (.ref 72), some (.int p0), some (.int q1), some (.int ((A80 (tn (e_b q3))) * q5)), some (.int 0), none, none]) rfl ?_
      obtain ⟨x10, hx11, hf⟩ := e_bd hf
      refine (e_loop_ok (P := fun (v9 : Int32 × Int32) => eRun G X 38 [some (.ref 72), some (.int p0), some (.int q1), some (.int v9.1), some (.int v9.2), none, none] [] h [] nx 0 0) (K := fun (x10 : Int32) => eRun G X 124 [none, none, none, some (.int x10), none, none, none] [] h [] nx 0 0) ?_ e_fuel ((A80 (tn (e_b q3))) * q5, 0) x10 hx11 ?_ : _)
      · intro v9 z hz ih hx
        refine r_iload F dX12_forceOn_38 rfl ?_
        refine r_aload_n F dX12_forceOn_40 rfl ?_
        refine r_get F dX12_forceOn_41 flX12_241 h72 rfl (e_le rfl) (e_lt hnx rfl) ?_
        refine r_icmp_ge F dX12_forceOn_44 (tgt := 124) (by decide) (fun hc => ?_) (fun hc => ?_)
        · have hz := e_t hc hz
          refine r_drop 0 (L' := [none, some (.int p0), some (.int q1), some (.int v9.1), some (.int v9.2), none, none]) rfl ?_
          refine r_drop 1 (L' := [none, none, some (.int q1), some (.int v9.1), some (.int v9.2), none, none]) rfl ?_
          refine r_drop 2 (L' := [none, none, none, some (.int v9.1), some (.int v9.2), none, none]) rfl ?_
          refine r_drop 4 (L' := [none, none, none, some (.int v9.1), none, none, none]) rfl ?_
          obtain rfl := Option.some.inj hz
          exact hx v9.1 rfl
        · have hz := e_f hc hz
          refine r_iload F dX12_forceOn_47 rfl ?_
          refine r_iload_n F dX12_forceOn_49 rfl ?_
          obtain ⟨q12, hq13, hz⟩ := e_bd hz
          have Jq12 : eRun G X 118 [some (.ref 72), some (.int p0), some (.int q1), some (.int q12), some (.int v9.2), none, none] [] h [] nx 0 0 := by
            refine r_inc F dX12_forceOn_118 (k9 := 1) (by decide) rfl (L' := [some (.ref 72), some (.int p0), some (.int q1), some (.int q12), some (.int (v9.2 + 1)), none, none]) rfl ?_
            refine r_goto F dX12_forceOn_121 (tgt := 38) (by decide) ?_
            obtain rfl := Option.some.inj hz
            exact ih (q12, v9.2 + 1) rfl
          refine r_icmp_eq F dX12_forceOn_50 (tgt := 118) (by decide) (fun hc => ?_) (fun hc => ?_)
          · have hq13 := e_t hc hq13
            obtain rfl := Option.some.inj hq13
            exact Jq12
          · have hq13 := e_f hc hq13
            refine r_aload_n F dX12_forceOn_53 rfl ?_
            refine r_iload_n F dX12_forceOn_54 rfl ?_
            refine r_iload_n F dX12_forceOn_55 rfl ?_
            obtain ⟨q14, hq15, hq13⟩ := e_bd hq13
            refine r_callV F dX12_forceOn_56 (b := 72) (dc := 0) (ds := 0) (As := [.int p0, .int q1]) (S0 := []) lkX12_275 mX12_placeAlong (tX12_placeAlong_72 hG (la := x_l X) (h := e_up h []) hnx h72 h81 h82 hq15) rfl rfl rfl (e_le rfl) (e_le rfl) (e_le rfl) h72 (ci := 12) e_cl12.1 rfl (e_le rfl) (e_lt hnx rfl) (Nat.zero_le _) (Nat.zero_le _) (e_k ?_)
            refine r_wr0 ?_
            refine r_aload_n F dX12_forceOn_59 rfl ?_
            refine r_iload F dX12_forceOn_60 rfl ?_
            refine r_iload_n F dX12_forceOn_62 rfl ?_
            obtain ⟨q16, hq17, hq13⟩ := e_bd hq13
            refine r_callV F dX12_forceOn_63 (b := 72) (dc := 0) (ds := 0) (As := [.int v9.2, .int q1]) (S0 := [.int q14]) lkX12_275 mX12_placeAlong (tX12_placeAlong_72 hG (la := x_l X) (h := e_up h []) hnx h72 h81 h82 hq17) rfl rfl rfl (e_le rfl) (e_le rfl) (e_le rfl) h72 (ci := 12) e_cl12.1 rfl (e_le rfl) (e_lt hnx rfl) (Nat.zero_le _) (Nat.zero_le _) (e_k ?_)
            refine r_wr0 ?_
            refine r_isub F dX12_forceOn_66 ?_
            refine r_istore F dX12_forceOn_67 (e_le rfl) (L' := [some (.ref 72), some (.int p0), some (.int q1), some (.int v9.1), some (.int v9.2), some (.int (q14 - q16)), none]) rfl ?_
            refine r_aload_n F dX12_forceOn_69 rfl ?_
            refine r_iload_n F dX12_forceOn_70 rfl ?_
            refine r_iconst F dX12_forceOn_71 (v := 1) (by decide) ?_
            refine r_iload_n F dX12_forceOn_72 rfl ?_
            refine r_isub F dX12_forceOn_73 ?_
            obtain ⟨q18, hq19, hq13⟩ := e_bd hq13
            refine r_callV F dX12_forceOn_74 (b := 72) (dc := 0) (ds := 0) (As := [.int p0, .int ((1 : Int32) - q1)]) (S0 := []) lkX12_275 mX12_placeAlong (tX12_placeAlong_72 hG (la := x_l X) (h := e_up h []) hnx h72 h81 h82 hq19) rfl rfl rfl (e_le rfl) (e_le rfl) (e_le rfl) h72 (ci := 12) e_cl12.1 rfl (e_le rfl) (e_lt hnx rfl) (Nat.zero_le _) (Nat.zero_le _) (e_k ?_)
            refine r_wr0 ?_
            refine r_aload_n F dX12_forceOn_77 rfl ?_
            refine r_iload F dX12_forceOn_78 rfl ?_
            refine r_iconst F dX12_forceOn_80 (v := 1) (by decide) ?_
            refine r_iload_n F dX12_forceOn_81 rfl ?_
            refine r_isub F dX12_forceOn_82 ?_
            obtain ⟨q20, hq21, hq13⟩ := e_bd hq13
            refine r_callV F dX12_forceOn_83 (b := 72) (dc := 0) (ds := 0) (As := [.int v9.2, .int ((1 : Int32) - q1)]) (S0 := [.int q18]) lkX12_275 mX12_placeAlong (tX12_placeAlong_72 hG (la := x_l X) (h := e_up h []) hnx h72 h81 h82 hq21) rfl rfl rfl (e_le rfl) (e_le rfl) (e_le rfl) h72 (ci := 12) e_cl12.1 rfl (e_le rfl) (e_lt hnx rfl) (Nat.zero_le _) (Nat.zero_le _) (e_k ?_)
            refine r_wr0 ?_
            refine r_isub F dX12_forceOn_86 ?_
            refine r_istore F dX12_forceOn_87 (e_le rfl) (L' := [some (.ref 72), some (.int p0), some (.int q1), some (.int v9.1), some (.int v9.2), some (.int (q14 - q16)), some (.int (q18 - q20))]) rfl ?_
            refine r_iload_n F dX12_forceOn_89 rfl ?_
            refine r_aload_n F dX12_forceOn_90 rfl ?_
            refine r_aload_n F dX12_forceOn_91 rfl ?_
            refine r_iload_n F dX12_forceOn_92 rfl ?_
            refine r_iload_n F dX12_forceOn_93 rfl ?_
            obtain ⟨q22, hq23, hq13⟩ := e_bd hq13
            refine r_callV F dX12_forceOn_94 (b := 72) (dc := 0) (ds := 0) (As := [.int p0, .int q1]) (S0 := [.ref 72, .int v9.1]) lkX12_272 mX12_along (tX12_along_72 hG (la := x_l X) (h := e_up h []) hnx h72 h83 h84 hq23) rfl rfl rfl (e_le rfl) (e_le rfl) (e_le rfl) h72 (ci := 12) e_cl12.1 rfl (e_le rfl) (e_lt hnx rfl) (Nat.zero_le _) (Nat.zero_le _) (e_k ?_)
            refine r_wr0 ?_
            refine r_i2l F dX12_forceOn_97 ?_
            refine r_aload_n F dX12_forceOn_98 rfl ?_
            refine r_iload F dX12_forceOn_99 rfl ?_
            refine r_iload_n F dX12_forceOn_101 rfl ?_
            obtain ⟨q24, hq25, hq13⟩ := e_bd hq13
            refine r_callV F dX12_forceOn_102 (b := 72) (dc := 0) (ds := 0) (As := [.int v9.2, .int q1]) (S0 := [.long (Int32.toInt64 q22), .ref 72, .int v9.1]) lkX12_272 mX12_along (tX12_along_72 hG (la := x_l X) (h := e_up h []) hnx h72 h83 h84 hq25) rfl rfl rfl (e_le rfl) (e_le rfl) (e_le rfl) h72 (ci := 12) e_cl12.1 rfl (e_le rfl) (e_lt hnx rfl) (Nat.zero_le _) (Nat.zero_le _) (e_k ?_)
            refine r_wr0 ?_
            refine r_i2l F dX12_forceOn_105 ?_
            refine r_lmul F dX12_forceOn_106 ?_
            refine r_iload F dX12_forceOn_107 rfl ?_
            refine r_i2l F dX12_forceOn_109 ?_
            refine r_iload F dX12_forceOn_110 rfl ?_
            refine r_i2l F dX12_forceOn_112 ?_
            obtain ⟨q26, hq27, hq13⟩ := e_bd hq13
            refine r_callV F dX12_forceOn_113 (b := 72) (dc := 0) (ds := 0) (As := [.long ((Int32.toInt64 q22) * (Int32.toInt64 q24)), .long (Int32.toInt64 (q14 - q16)), .long (Int32.toInt64 (q18 - q20))]) (S0 := [.int v9.1]) lkX12_278 mX12_forceBy (tX12_forceBy_72 hG (la := x_l X) (h := e_up h []) hnx h72 h80 hq27) rfl rfl rfl (e_le rfl) (e_le rfl) (e_le rfl) h72 (ci := 12) e_cl12.1 rfl (e_le rfl) (e_lt hnx rfl) (Nat.zero_le _) (Nat.zero_le _) (e_k ?_)
            refine r_wr0 ?_
            refine r_iadd F dX12_forceOn_116 ?_
            refine r_istore_n F dX12_forceOn_117 (e_le rfl) (L' := [some (.ref 72), some (.int p0), some (.int q1), some (.int (v9.1 + q26)), some (.int v9.2), some (.int (q14 - q16)), some (.int (q18 - q20))]) rfl ?_
            refine r_drop 5 (L' := [some (.ref 72), some (.int p0), some (.int q1), some (.int (v9.1 + q26)), some (.int v9.2), none, some (.int (q18 - q20))]) rfl ?_
            refine r_drop 6 (L' := [some (.ref 72), some (.int p0), some (.int q1), some (.int (v9.1 + q26)), some (.int v9.2), none, none]) rfl ?_
            obtain rfl := Option.some.inj hq13
            exact Jq12
      · show eRun G X 124 [none, none, none, some (.int x10), none, none, none] [] h [] nx 0 0
        refine r_iload_n F dX12_forceOn_124 rfl ?_
        obtain rfl := Option.some.inj hf
        exact r_iret F hq dX12_forceOn_125 rfl rfl (Nat.le_refl _) (Nat.le_refl _) ⟨rfl, rfl⟩
    refine r_if_ne F dX12_forceOn_18 (tgt := 25) (by decide) (fun hc => ?_) (fun hc => ?_)
    · have hq4 := e_f hc hq4
      refine r_iconst F dX12_forceOn_25 (v := 1) (by decide) ?_
      obtain rfl := Option.some.inj hq4
      exact Jq3
    · have hq4 := e_t hc hq4
      refine r_iconst F dX12_forceOn_21 (v := 0) (by decide) ?_
      refine r_goto F dX12_forceOn_22 (tgt := 26) (by decide) ?_
      obtain rfl := Option.some.inj hq4
      exact Jq3
  · have hf := e_t hc hf
    refine r_iconst F dX12_forceOn_11 (v := 0) (by decide) ?_
    obtain rfl := Option.some.inj hf
    exact r_iret F hq dX12_forceOn_12 rfl rfl (Nat.le_refl _) (Nat.le_refl _) ⟨rfl, rfl⟩

def fX12_laysCores (a72_21 : Int32) (a72_22 : Int32) (a72_29 : Int32) (A79 : Nat → Int32) (A80 : Nat → Int32) (A81 : Nat → Int32) (A82 : Nat → Int32) (A83 : Nat → Int32) (A84 : Nat → Int32) (A85 : Nat → Int32)  : Option (Int32 × Int32 × (Nat → Int32) × (Nat → Int32) × (Nat → Int32) × (Nat → Int32) × (Nat → Int32)) :=
  (e_loop (fun (v3 : Int32 × Int32 × (Nat → Int32) × (Nat → Int32) × (Nat → Int32) × (Nat → Int32)) => (
      if (a72_22 - 1) ≤ v3.1 then
        some (.inr (v3.2.1, v3.2.2.1, v3.2.2.2.1, v3.2.2.2.2.1, v3.2.2.2.2.2))
      else
        (e_loop (fun (v8 : Int32 × Int32 × (Nat → Int32) × (Nat → Int32) × (Nat → Int32) × (Nat → Int32)) => (
            if (a72_21 - 1) ≤ v8.1 then
              some (.inr (v8.2.1, v8.2.2.1, v8.2.2.2.1, v8.2.2.2.2.1, v8.2.2.2.2.2))
            else
              (fX12_isCore A79 v8.1 v3.1).bind (fun q11 =>
              Option.bind (α := Int32 × (Nat → Int32) × (Nat → Int32) × (Nat → Int32) × (Nat → Int32)) (
                if q11 = true then
                  e_g (e_in v8.2.1 64) (
                  e_g (e_in v8.2.1 64) (
                  (fX12_vector A79 v8.1 v3.1 0).bind (fun q15 =>
                  e_g (e_in v8.2.1 64) (
                  (fX12_vector A79 v8.1 v3.1 1).bind (fun q17 =>
                  e_g (e_in v8.2.1 64) (
                  some (v8.2.1 + 1, upd v8.2.2.1 (tn v8.2.1) v8.1, upd v8.2.2.2.1 (tn v8.2.1) v3.1, upd v8.2.2.2.2.1 (tn v8.2.1) q15, upd v8.2.2.2.2.2 (tn v8.2.1) q17)))))))
                else
                  some (v8.2.1, v8.2.2.1, v8.2.2.2.1, v8.2.2.2.2.1, v8.2.2.2.2.2)) (fun q13 =>
              some (.inl (v8.1 + 1, q13.1, q13.2.1, q13.2.2.1, q13.2.2.2.1, q13.2.2.2.2)))) : Option ((Int32 × Int32 × (Nat → Int32) × (Nat → Int32) × (Nat → Int32) × (Nat → Int32)) ⊕ (Int32 × (Nat → Int32) × (Nat → Int32) × (Nat → Int32) × (Nat → Int32))))) e_fuel (0, v3.2.1, v3.2.2.1, v3.2.2.2.1, v3.2.2.2.2.1, v3.2.2.2.2.2)).bind (fun x9 =>
        some (.inl (v3.1 + 1, x9.1, x9.2.1, x9.2.2.1, x9.2.2.2.1, x9.2.2.2.2))) : Option ((Int32 × Int32 × (Nat → Int32) × (Nat → Int32) × (Nat → Int32) × (Nat → Int32)) ⊕ (Int32 × (Nat → Int32) × (Nat → Int32) × (Nat → Int32) × (Nat → Int32))))) e_fuel (0, 0, A81, A82, A83, A84)).bind (fun x4 =>
  (e_loop (fun (v21 : Int32 × (Nat → Int32)) => (
      if x4.1 ≤ v21.1 then
        some (.inr v21.2)
      else
        (fX12_forceOn x4.1 A80 x4.2.1 x4.2.2.1 x4.2.2.2.1 x4.2.2.2.2 v21.1).bind (fun q24 =>
        e_g (e_in v21.1 64) (
        some (.inl (v21.1 + 1, upd v21.2 (tn v21.1) q24)))) : Option ((Int32 × (Nat → Int32)) ⊕ ((Nat → Int32))))) e_fuel (0, A85)).bind (fun x22 =>
  some (x4.1, x4.1, x4.2.1, x4.2.2.1, x4.2.2.2.1, x4.2.2.2.2, x22)))
set_option maxRecDepth 100000 in
theorem tX12_laysCores_72 {G : eG} (hG : e_GS G) {la : Launch} {h : Nat → eO} {nx : Nat} (hnx : 99 ≤ nx) {a72_0 : Int32} {a72_2 : Int32} {a72_3 : Int32} {a72_4 : Int32} {a72_5 : Int32} {a72_6 : Int32} {a72_7 : Int32} {a72_8 : Bool} {a72_9 : Int32} {a72_10 : Int32} {a72_11 : Int32} {a72_17 : Bool} {a72_18 : Bool} {a72_19 : Bool} {a72_21 : Int32} {a72_22 : Int32} {a72_29 : Int32} {a72_31 : Int32} {a72_35 : Int32} {a72_37 : Bool} {a72_38 : Int32} {a72_39 : Int32} {a72_40 : Int32} {a72_41 : Int64} {a72_44 : Int32} {a72_50 : Bool} {A79 : Nat → Int32} {A80 : Nat → Int32} {A81 : Nat → Int32} {A82 : Nat → Int32} {A83 : Nat → Int32} {A84 : Nat → Int32} {A85 : Nat → Int32}  (h72 : h 72 = o72 a72_0 a72_2 a72_3 a72_4 a72_5 a72_6 a72_7 a72_8 a72_9 a72_10 a72_11 a72_17 a72_18 a72_19 a72_21 a72_22 a72_29 a72_31 a72_35 a72_37 a72_38 a72_39 a72_40 a72_41 a72_44 a72_50) (h79 : h 79 = o79 A79) (h80 : h 80 = o80 A80) (h81 : h 81 = o81 A81) (h82 : h 82 = o82 A82) (h83 : h 83 = o83 A83) (h84 : h 84 = o84 A84) (h85 : h 85 = o85 A85) {R9 : Int32 × Int32 × (Nat → Int32) × (Nat → Int32) × (Nat → Int32) × (Nat → Int32) × (Nat → Int32)} (hf : fX12_laysCores a72_21 a72_22 a72_29 A79 A80 A81 A82 A83 A84 A85  = some R9) :
    eSem G la MX12_laysCores [.ref 72] h nx 0 0 (fun r9 h9 => r9 = some (.int R9.1) ∧ h9 = e_up h [(72, o72 a72_0 a72_2 a72_3 a72_4 a72_5 a72_6 a72_7 a72_8 a72_9 a72_10 a72_11 a72_17 a72_18 a72_19 a72_21 a72_22 R9.2.1 a72_31 a72_35 a72_37 a72_38 a72_39 a72_40 a72_41 a72_44 a72_50), (81, o81 R9.2.2.1), (82, o82 R9.2.2.2.1), (83, o83 R9.2.2.2.2.1), (84, o84 R9.2.2.2.2.2.1), (85, o85 R9.2.2.2.2.2.2)]) := by
  refine eSem.of (k := 2) (L := [some (.ref 72), none, none]) (by decide +kernel) rfl rfl (fun X F hxl hq hcR hsR => ?_)
  subst hxl
  unfold fX12_laysCores at hf
  refine r_aload_n F dX12_laysCores_0 rfl ?_
  refine r_iconst F dX12_laysCores_1 (v := 0) (by decide) ?_
  refine r_put F dX12_laysCores_2 flX12_241 rfl rfl rfl h72 (e_le rfl) (e_le rfl) (e_lt hnx rfl) (l' := [(72, o72 a72_0 a72_2 a72_3 a72_4 a72_5 a72_6 a72_7 a72_8 a72_9 a72_10 a72_11 a72_17 a72_18 a72_19 a72_21 a72_22 0 a72_31 a72_35 a72_37 a72_38 a72_39 a72_40 a72_41 a72_44 a72_50)]) rfl ?_
  refine r_iconst F dX12_laysCores_5 (v := 0) (by decide) ?_
  refine r_istore_n F dX12_laysCores_6 (e_le rfl) (L' := [some (.ref 72), some (.int 0), none]) rfl ?_
  refine r_mat (k := 81) h81 (l' := [(72, o72 a72_0 a72_2 a72_3 a72_4 a72_5 a72_6 a72_7 a72_8 a72_9 a72_10 a72_11 a72_17 a72_18 a72_19 a72_21 a72_22 0 a72_31 a72_35 a72_37 a72_38 a72_39 a72_40 a72_41 a72_44 a72_50), (81, o81 A81)]) rfl ?_
  refine r_mat (k := 82) h82 (l' := [(72, o72 a72_0 a72_2 a72_3 a72_4 a72_5 a72_6 a72_7 a72_8 a72_9 a72_10 a72_11 a72_17 a72_18 a72_19 a72_21 a72_22 0 a72_31 a72_35 a72_37 a72_38 a72_39 a72_40 a72_41 a72_44 a72_50), (81, o81 A81), (82, o82 A82)]) rfl ?_
  refine r_mat (k := 83) h83 (l' := [(72, o72 a72_0 a72_2 a72_3 a72_4 a72_5 a72_6 a72_7 a72_8 a72_9 a72_10 a72_11 a72_17 a72_18 a72_19 a72_21 a72_22 0 a72_31 a72_35 a72_37 a72_38 a72_39 a72_40 a72_41 a72_44 a72_50), (81, o81 A81), (82, o82 A82), (83, o83 A83)]) rfl ?_
  refine r_mat (k := 84) h84 (l' := [(72, o72 a72_0 a72_2 a72_3 a72_4 a72_5 a72_6 a72_7 a72_8 a72_9 a72_10 a72_11 a72_17 a72_18 a72_19 a72_21 a72_22 0 a72_31 a72_35 a72_37 a72_38 a72_39 a72_40 a72_41 a72_44 a72_50), (81, o81 A81), (82, o82 A82), (83, o83 A83), (84, o84 A84)]) rfl ?_
  obtain ⟨x4, hx5, hf⟩ := e_bd hf
  refine (e_loop_ok (P := fun (v3 : Int32 × Int32 × (Nat → Int32) × (Nat → Int32) × (Nat → Int32) × (Nat → Int32)) => eRun G X 7 [some (.ref 72), some (.int v3.1), none] [] h [(72, o72 a72_0 a72_2 a72_3 a72_4 a72_5 a72_6 a72_7 a72_8 a72_9 a72_10 a72_11 a72_17 a72_18 a72_19 a72_21 a72_22 v3.2.1 a72_31 a72_35 a72_37 a72_38 a72_39 a72_40 a72_41 a72_44 a72_50), (81, o81 v3.2.2.1), (82, o82 v3.2.2.2.1), (83, o83 v3.2.2.2.2.1), (84, o84 v3.2.2.2.2.2)] nx 0 0) (K := fun (x4 : Int32 × (Nat → Int32) × (Nat → Int32) × (Nat → Int32) × (Nat → Int32)) => eRun G X 112 [some (.ref 72), none, none] [] h [(72, o72 a72_0 a72_2 a72_3 a72_4 a72_5 a72_6 a72_7 a72_8 a72_9 a72_10 a72_11 a72_17 a72_18 a72_19 a72_21 a72_22 x4.1 a72_31 a72_35 a72_37 a72_38 a72_39 a72_40 a72_41 a72_44 a72_50), (81, o81 x4.2.1), (82, o82 x4.2.2.1), (83, o83 x4.2.2.2.1), (84, o84 x4.2.2.2.2)] nx 0 0) ?_ e_fuel (0, 0, A81, A82, A83, A84) x4 hx5 ?_ : _)
  · intro v3 z hz ih hx
    refine r_iload_n F dX12_laysCores_7 rfl ?_
    refine r_aload_n F dX12_laysCores_8 rfl ?_
    refine r_get F dX12_laysCores_9 flX12_208 rfl rfl (e_le rfl) (e_lt hnx rfl) ?_
    refine r_iconst F dX12_laysCores_12 (v := 1) (by decide) ?_
    refine r_isub F dX12_laysCores_13 ?_
    refine r_icmp_ge F dX12_laysCores_14 (tgt := 112) (by decide) (fun hc => ?_) (fun hc => ?_)
    · have hz := e_t hc hz
      refine r_drop 1 (L' := [some (.ref 72), none, none]) rfl ?_
      obtain rfl := Option.some.inj hz
      exact hx (v3.2.1, v3.2.2.1, v3.2.2.2.1, v3.2.2.2.2.1, v3.2.2.2.2.2) rfl
    · have hz := e_f hc hz
      refine r_iconst F dX12_laysCores_17 (v := 0) (by decide) ?_
      refine r_istore_n F dX12_laysCores_18 (e_le rfl) (L' := [some (.ref 72), some (.int v3.1), some (.int 0)]) rfl ?_
      obtain ⟨x9, hx10, hz⟩ := e_bd hz
      refine (e_loop_ok (P := fun (v8 : Int32 × Int32 × (Nat → Int32) × (Nat → Int32) × (Nat → Int32) × (Nat → Int32)) => eRun G X 19 [some (.ref 72), some (.int v3.1), some (.int v8.1)] [] h [(72, o72 a72_0 a72_2 a72_3 a72_4 a72_5 a72_6 a72_7 a72_8 a72_9 a72_10 a72_11 a72_17 a72_18 a72_19 a72_21 a72_22 v8.2.1 a72_31 a72_35 a72_37 a72_38 a72_39 a72_40 a72_41 a72_44 a72_50), (81, o81 v8.2.2.1), (82, o82 v8.2.2.2.1), (83, o83 v8.2.2.2.2.1), (84, o84 v8.2.2.2.2.2)] nx 0 0) (K := fun (x9 : Int32 × (Nat → Int32) × (Nat → Int32) × (Nat → Int32) × (Nat → Int32)) => eRun G X 106 [some (.ref 72), some (.int v3.1), none] [] h [(72, o72 a72_0 a72_2 a72_3 a72_4 a72_5 a72_6 a72_7 a72_8 a72_9 a72_10 a72_11 a72_17 a72_18 a72_19 a72_21 a72_22 x9.1 a72_31 a72_35 a72_37 a72_38 a72_39 a72_40 a72_41 a72_44 a72_50), (81, o81 x9.2.1), (82, o82 x9.2.2.1), (83, o83 x9.2.2.2.1), (84, o84 x9.2.2.2.2)] nx 0 0) ?_ e_fuel (0, v3.2.1, v3.2.2.1, v3.2.2.2.1, v3.2.2.2.2.1, v3.2.2.2.2.2) x9 hx10 ?_ : _)
      · intro v8 z hz ih hx
        refine r_iload_n F dX12_laysCores_19 rfl ?_
        refine r_aload_n F dX12_laysCores_20 rfl ?_
        refine r_get F dX12_laysCores_21 flX12_205 rfl rfl (e_le rfl) (e_lt hnx rfl) ?_
        refine r_iconst F dX12_laysCores_24 (v := 1) (by decide) ?_
        refine r_isub F dX12_laysCores_25 ?_
        refine r_icmp_ge F dX12_laysCores_26 (tgt := 106) (by decide) (fun hc => ?_) (fun hc => ?_)
        · have hz := e_t hc hz
          refine r_drop 2 (L' := [some (.ref 72), some (.int v3.1), none]) rfl ?_
          obtain rfl := Option.some.inj hz
          exact hx (v8.2.1, v8.2.2.1, v8.2.2.2.1, v8.2.2.2.2.1, v8.2.2.2.2.2) rfl
        · have hz := e_f hc hz
          refine r_aload_n F dX12_laysCores_29 rfl ?_
          refine r_iload_n F dX12_laysCores_30 rfl ?_
          refine r_iload_n F dX12_laysCores_31 rfl ?_
          obtain ⟨q11, hq12, hz⟩ := e_bd hz
          refine r_callV F dX12_laysCores_32 (b := 72) (dc := 0) (ds := 0) (As := [.int v8.1, .int v3.1]) (S0 := []) lkX12_244 mX12_isCore (tX12_isCore_72 hG (la := x_l X) (h := e_up h [(72, o72 a72_0 a72_2 a72_3 a72_4 a72_5 a72_6 a72_7 a72_8 a72_9 a72_10 a72_11 a72_17 a72_18 a72_19 a72_21 a72_22 v8.2.1 a72_31 a72_35 a72_37 a72_38 a72_39 a72_40 a72_41 a72_44 a72_50), (81, o81 v8.2.2.1), (82, o82 v8.2.2.2.1), (83, o83 v8.2.2.2.2.1), (84, o84 v8.2.2.2.2.2)]) hnx rfl h79 hq12) rfl rfl rfl (e_le rfl) (e_le rfl) (e_le rfl) rfl (ci := 12) e_cl12.1 rfl (e_le rfl) (e_lt hnx rfl) (Nat.zero_le _) (Nat.zero_le _) (e_k ?_)
          refine r_wr0 ?_
          obtain ⟨q13, hq14, hz⟩ := e_bd hz
          have Jq13 : eRun G X 100 [some (.ref 72), some (.int v3.1), some (.int v8.1)] [] h [(72, o72 a72_0 a72_2 a72_3 a72_4 a72_5 a72_6 a72_7 a72_8 a72_9 a72_10 a72_11 a72_17 a72_18 a72_19 a72_21 a72_22 q13.1 a72_31 a72_35 a72_37 a72_38 a72_39 a72_40 a72_41 a72_44 a72_50), (81, o81 q13.2.1), (82, o82 q13.2.2.1), (83, o83 q13.2.2.2.1), (84, o84 q13.2.2.2.2)] nx 0 0 := by
            refine r_inc F dX12_laysCores_100 (k9 := 1) (by decide) rfl (L' := [some (.ref 72), some (.int v3.1), some (.int (v8.1 + 1))]) rfl ?_
            refine r_goto F dX12_laysCores_103 (tgt := 19) (by decide) ?_
            obtain rfl := Option.some.inj hz
            exact ih (v8.1 + 1, q13.1, q13.2.1, q13.2.2.1, q13.2.2.2.1, q13.2.2.2.2) rfl
          refine r_z_eq F dX12_laysCores_35 (tgt := 100) (by decide) (fun hc => ?_) (fun hc => ?_)
          · have hq14 := e_t hc hq14
            refine r_aload_n F dX12_laysCores_38 rfl ?_
            refine r_get F dX12_laysCores_39 flX12_34 rfl rfl (e_le rfl) (e_lt hnx rfl) ?_
            refine r_aload_n F dX12_laysCores_42 rfl ?_
            refine r_get F dX12_laysCores_43 flX12_241 rfl rfl (e_le rfl) (e_lt hnx rfl) ?_
            refine r_iload_n F dX12_laysCores_46 rfl ?_
            obtain ⟨hg, hq14⟩ := e_gd hq14
            refine r_iast F dX12_laysCores_47 rfl (e_le rfl) (e_lt hnx rfl) (e_vp hg) (l' := [(72, o72 a72_0 a72_2 a72_3 a72_4 a72_5 a72_6 a72_7 a72_8 a72_9 a72_10 a72_11 a72_17 a72_18 a72_19 a72_21 a72_22 v8.2.1 a72_31 a72_35 a72_37 a72_38 a72_39 a72_40 a72_41 a72_44 a72_50), (81, o81 (upd v8.2.2.1 (tn v8.2.1) v8.1)), (82, o82 v8.2.2.2.1), (83, o83 v8.2.2.2.2.1), (84, o84 v8.2.2.2.2.2)]) rfl ?_
            refine r_aload_n F dX12_laysCores_48 rfl ?_
            refine r_get F dX12_laysCores_49 flX12_37 rfl rfl (e_le rfl) (e_lt hnx rfl) ?_
            refine r_aload_n F dX12_laysCores_52 rfl ?_
            refine r_get F dX12_laysCores_53 flX12_241 rfl rfl (e_le rfl) (e_lt hnx rfl) ?_
            refine r_iload_n F dX12_laysCores_56 rfl ?_
            obtain ⟨hg, hq14⟩ := e_gd hq14
            refine r_iast F dX12_laysCores_57 rfl (e_le rfl) (e_lt hnx rfl) (e_vp hg) (l' := [(72, o72 a72_0 a72_2 a72_3 a72_4 a72_5 a72_6 a72_7 a72_8 a72_9 a72_10 a72_11 a72_17 a72_18 a72_19 a72_21 a72_22 v8.2.1 a72_31 a72_35 a72_37 a72_38 a72_39 a72_40 a72_41 a72_44 a72_50), (81, o81 (upd v8.2.2.1 (tn v8.2.1) v8.1)), (82, o82 (upd v8.2.2.2.1 (tn v8.2.1) v3.1)), (83, o83 v8.2.2.2.2.1), (84, o84 v8.2.2.2.2.2)]) rfl ?_
            refine r_aload_n F dX12_laysCores_58 rfl ?_
            refine r_get F dX12_laysCores_59 flX12_40 rfl rfl (e_le rfl) (e_lt hnx rfl) ?_
            refine r_aload_n F dX12_laysCores_62 rfl ?_
            refine r_get F dX12_laysCores_63 flX12_241 rfl rfl (e_le rfl) (e_lt hnx rfl) ?_
            refine r_aload_n F dX12_laysCores_66 rfl ?_
            refine r_iload_n F dX12_laysCores_67 rfl ?_
            refine r_iload_n F dX12_laysCores_68 rfl ?_
            refine r_iconst F dX12_laysCores_69 (v := 0) (by decide) ?_
            obtain ⟨q15, hq16, hq14⟩ := e_bd hq14
            refine r_callV F dX12_laysCores_70 (b := 72) (dc := 0) (ds := 0) (As := [.int v8.1, .int v3.1, .int 0]) (S0 := [.int v8.2.1, .ref 83]) lkX12_221 mX12_vector (tX12_vector_72 hG (la := x_l X) (h := e_up h [(72, o72 a72_0 a72_2 a72_3 a72_4 a72_5 a72_6 a72_7 a72_8 a72_9 a72_10 a72_11 a72_17 a72_18 a72_19 a72_21 a72_22 v8.2.1 a72_31 a72_35 a72_37 a72_38 a72_39 a72_40 a72_41 a72_44 a72_50), (81, o81 (upd v8.2.2.1 (tn v8.2.1) v8.1)), (82, o82 (upd v8.2.2.2.1 (tn v8.2.1) v3.1)), (83, o83 v8.2.2.2.2.1), (84, o84 v8.2.2.2.2.2)]) hnx rfl h79 hq16) rfl rfl rfl (e_le rfl) (e_le rfl) (e_le rfl) rfl (ci := 12) e_cl12.1 rfl (e_le rfl) (e_lt hnx rfl) (Nat.zero_le _) (Nat.zero_le _) (e_k ?_)
            refine r_wr0 ?_
            obtain ⟨hg, hq14⟩ := e_gd hq14
            refine r_iast F dX12_laysCores_73 rfl (e_le rfl) (e_lt hnx rfl) (e_vp hg) (l' := [(72, o72 a72_0 a72_2 a72_3 a72_4 a72_5 a72_6 a72_7 a72_8 a72_9 a72_10 a72_11 a72_17 a72_18 a72_19 a72_21 a72_22 v8.2.1 a72_31 a72_35 a72_37 a72_38 a72_39 a72_40 a72_41 a72_44 a72_50), (81, o81 (upd v8.2.2.1 (tn v8.2.1) v8.1)), (82, o82 (upd v8.2.2.2.1 (tn v8.2.1) v3.1)), (83, o83 (upd v8.2.2.2.2.1 (tn v8.2.1) q15)), (84, o84 v8.2.2.2.2.2)]) rfl ?_
            refine r_aload_n F dX12_laysCores_74 rfl ?_
            refine r_get F dX12_laysCores_75 flX12_43 rfl rfl (e_le rfl) (e_lt hnx rfl) ?_
            refine r_aload_n F dX12_laysCores_78 rfl ?_
            refine r_get F dX12_laysCores_79 flX12_241 rfl rfl (e_le rfl) (e_lt hnx rfl) ?_
            refine r_aload_n F dX12_laysCores_82 rfl ?_
            refine r_iload_n F dX12_laysCores_83 rfl ?_
            refine r_iload_n F dX12_laysCores_84 rfl ?_
            refine r_iconst F dX12_laysCores_85 (v := 1) (by decide) ?_
            obtain ⟨q17, hq18, hq14⟩ := e_bd hq14
            refine r_callV F dX12_laysCores_86 (b := 72) (dc := 0) (ds := 0) (As := [.int v8.1, .int v3.1, .int 1]) (S0 := [.int v8.2.1, .ref 84]) lkX12_221 mX12_vector (tX12_vector_72 hG (la := x_l X) (h := e_up h [(72, o72 a72_0 a72_2 a72_3 a72_4 a72_5 a72_6 a72_7 a72_8 a72_9 a72_10 a72_11 a72_17 a72_18 a72_19 a72_21 a72_22 v8.2.1 a72_31 a72_35 a72_37 a72_38 a72_39 a72_40 a72_41 a72_44 a72_50), (81, o81 (upd v8.2.2.1 (tn v8.2.1) v8.1)), (82, o82 (upd v8.2.2.2.1 (tn v8.2.1) v3.1)), (83, o83 (upd v8.2.2.2.2.1 (tn v8.2.1) q15)), (84, o84 v8.2.2.2.2.2)]) hnx rfl h79 hq18) rfl rfl rfl (e_le rfl) (e_le rfl) (e_le rfl) rfl (ci := 12) e_cl12.1 rfl (e_le rfl) (e_lt hnx rfl) (Nat.zero_le _) (Nat.zero_le _) (e_k ?_)
            refine r_wr0 ?_
            obtain ⟨hg, hq14⟩ := e_gd hq14
            refine r_iast F dX12_laysCores_89 rfl (e_le rfl) (e_lt hnx rfl) (e_vp hg) (l' := [(72, o72 a72_0 a72_2 a72_3 a72_4 a72_5 a72_6 a72_7 a72_8 a72_9 a72_10 a72_11 a72_17 a72_18 a72_19 a72_21 a72_22 v8.2.1 a72_31 a72_35 a72_37 a72_38 a72_39 a72_40 a72_41 a72_44 a72_50), (81, o81 (upd v8.2.2.1 (tn v8.2.1) v8.1)), (82, o82 (upd v8.2.2.2.1 (tn v8.2.1) v3.1)), (83, o83 (upd v8.2.2.2.2.1 (tn v8.2.1) q15)), (84, o84 (upd v8.2.2.2.2.2 (tn v8.2.1) q17))]) rfl ?_
            refine r_aload_n F dX12_laysCores_90 rfl ?_
            refine r_dup F dX12_laysCores_91 rfl ?_
            refine r_get F dX12_laysCores_92 flX12_241 rfl rfl (e_le rfl) (e_lt hnx rfl) ?_
            refine r_iconst F dX12_laysCores_95 (v := 1) (by decide) ?_
            refine r_iadd F dX12_laysCores_96 ?_
            refine r_put F dX12_laysCores_97 flX12_241 rfl rfl rfl rfl (e_le rfl) (e_le rfl) (e_lt hnx rfl) (l' := [(72, o72 a72_0 a72_2 a72_3 a72_4 a72_5 a72_6 a72_7 a72_8 a72_9 a72_10 a72_11 a72_17 a72_18 a72_19 a72_21 a72_22 (v8.2.1 + 1) a72_31 a72_35 a72_37 a72_38 a72_39 a72_40 a72_41 a72_44 a72_50), (81, o81 (upd v8.2.2.1 (tn v8.2.1) v8.1)), (82, o82 (upd v8.2.2.2.1 (tn v8.2.1) v3.1)), (83, o83 (upd v8.2.2.2.2.1 (tn v8.2.1) q15)), (84, o84 (upd v8.2.2.2.2.2 (tn v8.2.1) q17))]) rfl ?_
            obtain rfl := Option.some.inj hq14
            exact Jq13
          · have hq14 := e_f hc hq14
            obtain rfl := Option.some.inj hq14
            exact Jq13
      · show eRun G X 106 [some (.ref 72), some (.int v3.1), none] [] h [(72, o72 a72_0 a72_2 a72_3 a72_4 a72_5 a72_6 a72_7 a72_8 a72_9 a72_10 a72_11 a72_17 a72_18 a72_19 a72_21 a72_22 x9.1 a72_31 a72_35 a72_37 a72_38 a72_39 a72_40 a72_41 a72_44 a72_50), (81, o81 x9.2.1), (82, o82 x9.2.2.1), (83, o83 x9.2.2.2.1), (84, o84 x9.2.2.2.2)] nx 0 0
        refine r_inc F dX12_laysCores_106 (k9 := 1) (by decide) rfl (L' := [some (.ref 72), some (.int (v3.1 + 1)), none]) rfl ?_
        refine r_goto F dX12_laysCores_109 (tgt := 7) (by decide) ?_
        obtain rfl := Option.some.inj hz
        exact ih (v3.1 + 1, x9.1, x9.2.1, x9.2.2.1, x9.2.2.2.1, x9.2.2.2.2) rfl
  · show eRun G X 112 [some (.ref 72), none, none] [] h [(72, o72 a72_0 a72_2 a72_3 a72_4 a72_5 a72_6 a72_7 a72_8 a72_9 a72_10 a72_11 a72_17 a72_18 a72_19 a72_21 a72_22 x4.1 a72_31 a72_35 a72_37 a72_38 a72_39 a72_40 a72_41 a72_44 a72_50), (81, o81 x4.2.1), (82, o82 x4.2.2.1), (83, o83 x4.2.2.2.1), (84, o84 x4.2.2.2.2)] nx 0 0
    refine r_iconst F dX12_laysCores_112 (v := 0) (by decide) ?_
    refine r_istore_n F dX12_laysCores_113 (e_le rfl) (L' := [some (.ref 72), some (.int 0), none]) rfl ?_
    refine r_mat (k := 85) h85 (l' := [(72, o72 a72_0 a72_2 a72_3 a72_4 a72_5 a72_6 a72_7 a72_8 a72_9 a72_10 a72_11 a72_17 a72_18 a72_19 a72_21 a72_22 x4.1 a72_31 a72_35 a72_37 a72_38 a72_39 a72_40 a72_41 a72_44 a72_50), (81, o81 x4.2.1), (82, o82 x4.2.2.1), (83, o83 x4.2.2.2.1), (84, o84 x4.2.2.2.2), (85, o85 A85)]) rfl ?_
    obtain ⟨x22, hx23, hf⟩ := e_bd hf
    refine (e_loop_ok (P := fun (v21 : Int32 × (Nat → Int32)) => eRun G X 114 [some (.ref 72), some (.int v21.1), none] [] h [(72, o72 a72_0 a72_2 a72_3 a72_4 a72_5 a72_6 a72_7 a72_8 a72_9 a72_10 a72_11 a72_17 a72_18 a72_19 a72_21 a72_22 x4.1 a72_31 a72_35 a72_37 a72_38 a72_39 a72_40 a72_41 a72_44 a72_50), (81, o81 x4.2.1), (82, o82 x4.2.2.1), (83, o83 x4.2.2.2.1), (84, o84 x4.2.2.2.2), (85, o85 v21.2)] nx 0 0) (K := fun (x22 : (Nat → Int32)) => eRun G X 139 [some (.ref 72), none, none] [] h [(72, o72 a72_0 a72_2 a72_3 a72_4 a72_5 a72_6 a72_7 a72_8 a72_9 a72_10 a72_11 a72_17 a72_18 a72_19 a72_21 a72_22 x4.1 a72_31 a72_35 a72_37 a72_38 a72_39 a72_40 a72_41 a72_44 a72_50), (81, o81 x4.2.1), (82, o82 x4.2.2.1), (83, o83 x4.2.2.2.1), (84, o84 x4.2.2.2.2), (85, o85 x22)] nx 0 0) ?_ e_fuel (0, A85) x22 hx23 ?_ : _)
    · intro v21 z hz ih hx
      refine r_iload_n F dX12_laysCores_114 rfl ?_
      refine r_aload_n F dX12_laysCores_115 rfl ?_
      refine r_get F dX12_laysCores_116 flX12_241 rfl rfl (e_le rfl) (e_lt hnx rfl) ?_
      refine r_icmp_ge F dX12_laysCores_119 (tgt := 139) (by decide) (fun hc => ?_) (fun hc => ?_)
      · have hz := e_t hc hz
        refine r_drop 1 (L' := [some (.ref 72), none, none]) rfl ?_
        obtain rfl := Option.some.inj hz
        exact hx v21.2 rfl
      · have hz := e_f hc hz
        refine r_aload_n F dX12_laysCores_122 rfl ?_
        refine r_get F dX12_laysCores_123 flX12_46 rfl rfl (e_le rfl) (e_lt hnx rfl) ?_
        refine r_iload_n F dX12_laysCores_126 rfl ?_
        refine r_aload_n F dX12_laysCores_127 rfl ?_
        refine r_iload_n F dX12_laysCores_128 rfl ?_
        obtain ⟨q24, hq25, hz⟩ := e_bd hz
        refine r_callV F dX12_laysCores_129 (b := 72) (dc := 0) (ds := 0) (As := [.int v21.1]) (S0 := [.int v21.1, .ref 85]) lkX12_247 mX12_forceOn (tX12_forceOn_72 hG (la := x_l X) (h := e_up h [(72, o72 a72_0 a72_2 a72_3 a72_4 a72_5 a72_6 a72_7 a72_8 a72_9 a72_10 a72_11 a72_17 a72_18 a72_19 a72_21 a72_22 x4.1 a72_31 a72_35 a72_37 a72_38 a72_39 a72_40 a72_41 a72_44 a72_50), (81, o81 x4.2.1), (82, o82 x4.2.2.1), (83, o83 x4.2.2.2.1), (84, o84 x4.2.2.2.2), (85, o85 v21.2)]) hnx rfl h80 rfl rfl rfl rfl hq25) rfl rfl rfl (e_le rfl) (e_le rfl) (e_le rfl) rfl (ci := 12) e_cl12.1 rfl (e_le rfl) (e_lt hnx rfl) (Nat.zero_le _) (Nat.zero_le _) (e_k ?_)
        refine r_wr0 ?_
        obtain ⟨hg, hz⟩ := e_gd hz
        refine r_iast F dX12_laysCores_132 rfl (e_le rfl) (e_lt hnx rfl) (e_vp hg) (l' := [(72, o72 a72_0 a72_2 a72_3 a72_4 a72_5 a72_6 a72_7 a72_8 a72_9 a72_10 a72_11 a72_17 a72_18 a72_19 a72_21 a72_22 x4.1 a72_31 a72_35 a72_37 a72_38 a72_39 a72_40 a72_41 a72_44 a72_50), (81, o81 x4.2.1), (82, o82 x4.2.2.1), (83, o83 x4.2.2.2.1), (84, o84 x4.2.2.2.2), (85, o85 (upd v21.2 (tn v21.1) q24))]) rfl ?_
        refine r_inc F dX12_laysCores_133 (k9 := 1) (by decide) rfl (L' := [some (.ref 72), some (.int (v21.1 + 1)), none]) rfl ?_
        refine r_goto F dX12_laysCores_136 (tgt := 114) (by decide) ?_
        obtain rfl := Option.some.inj hz
        exact ih (v21.1 + 1, upd v21.2 (tn v21.1) q24) rfl
    · show eRun G X 139 [some (.ref 72), none, none] [] h [(72, o72 a72_0 a72_2 a72_3 a72_4 a72_5 a72_6 a72_7 a72_8 a72_9 a72_10 a72_11 a72_17 a72_18 a72_19 a72_21 a72_22 x4.1 a72_31 a72_35 a72_37 a72_38 a72_39 a72_40 a72_41 a72_44 a72_50), (81, o81 x4.2.1), (82, o82 x4.2.2.1), (83, o83 x4.2.2.2.1), (84, o84 x4.2.2.2.2), (85, o85 x22)] nx 0 0
      refine r_aload_n F dX12_laysCores_139 rfl ?_
      refine r_get F dX12_laysCores_140 flX12_241 rfl rfl (e_le rfl) (e_lt hnx rfl) ?_
      obtain rfl := Option.some.inj hf
      exact r_iret F hq dX12_laysCores_143 rfl rfl (Nat.le_refl _) (Nat.le_refl _) ⟨rfl, rfl⟩

def fX12_directionOf  (p0 : Int32) (p1 : Bool) : Option (Int32) :=
  if p0 = 0 then
    if p1 = true then
      some 0
    else
      some 2
  else
    if p1 = true then
      some 1
    else
      some 3
set_option maxRecDepth 100000 in
theorem tX12_directionOf {G : eG} (hG : e_GS G) {la : Launch} {h : Nat → eO} {nx : Nat} (hnx : 99 ≤ nx)  {p0 : Int32} {p1 : Bool}  {R9 : Int32} (hf : fX12_directionOf  p0 p1 = some R9) :
    eSem G la MX12_directionOf [.int p0, .int (e_b p1)] h nx 0 0 (fun r9 h9 => r9 = some (.int R9) ∧ h9 = h) := by
  refine eSem.of (k := 0) (L := [some (.int p0), some (.int (e_b p1))]) (by decide +kernel) rfl rfl (fun X F hxl hq hcR hsR => ?_)
  subst hxl
  unfold fX12_directionOf at hf
  refine r_iload_n F dX12_directionOf_0 rfl ?_
  refine r_if_ne F dX12_directionOf_1 (tgt := 16) (by decide) (fun hc => ?_) (fun hc => ?_)
  · have hf := e_f hc hf
    refine r_iload_n F dX12_directionOf_16 rfl ?_
    refine r_z_eq F dX12_directionOf_17 (tgt := 24) (by decide) (fun hc => ?_) (fun hc => ?_)
    · have hf := e_t hc hf
      refine r_iconst F dX12_directionOf_20 (v := 1) (by decide) ?_
      refine r_goto F dX12_directionOf_21 (tgt := 25) (by decide) ?_
      obtain rfl := Option.some.inj hf
      exact r_iret F hq dX12_directionOf_25 rfl rfl (Nat.le_refl _) (Nat.le_refl _) ⟨rfl, rfl⟩
    · have hf := e_f hc hf
      refine r_iconst F dX12_directionOf_24 (v := 3) (by decide) ?_
      obtain rfl := Option.some.inj hf
      exact r_iret F hq dX12_directionOf_25 rfl rfl (Nat.le_refl _) (Nat.le_refl _) ⟨rfl, rfl⟩
  · have hf := e_t hc hf
    refine r_iload_n F dX12_directionOf_4 rfl ?_
    refine r_z_eq F dX12_directionOf_5 (tgt := 12) (by decide) (fun hc => ?_) (fun hc => ?_)
    · have hf := e_t hc hf
      refine r_iconst F dX12_directionOf_8 (v := 0) (by decide) ?_
      refine r_goto F dX12_directionOf_9 (tgt := 25) (by decide) ?_
      obtain rfl := Option.some.inj hf
      exact r_iret F hq dX12_directionOf_25 rfl rfl (Nat.le_refl _) (Nat.le_refl _) ⟨rfl, rfl⟩
    · have hf := e_f hc hf
      refine r_iconst F dX12_directionOf_12 (v := 2) (by decide) ?_
      refine r_goto F dX12_directionOf_13 (tgt := 25) (by decide) ?_
      obtain rfl := Option.some.inj hf
      exact r_iret F hq dX12_directionOf_25 rfl rfl (Nat.le_refl _) (Nat.le_refl _) ⟨rfl, rfl⟩

def fX12_changes (A79 : Nat → Int32) (p0 : Int32) (p1 : Int32) (p2 : Bool) (p3 : Int32) (p4 : Int32) : Option ((Nat → Int32)) :=
  (fX12_linkAt p0 p1 p2 0).bind (fun q1 =>
  e_g (e_in q1 486) (
  e_g (e_in q1 486) (
  (fX12_linkAt p0 p1 p2 1).bind (fun q3 =>
  e_g (e_in q3 486) (
  e_g (e_in q3 486) (
  some (upd (upd A79 (tn q1) ((A79 (tn q1)) + p3)) (tn q3) (((upd A79 (tn q1) ((A79 (tn q1)) + p3)) (tn q3)) + p4))))))))
set_option maxRecDepth 100000 in
theorem tX12_changes_72 {G : eG} (hG : e_GS G) {la : Launch} {h : Nat → eO} {nx : Nat} (hnx : 99 ≤ nx) {a72_0 : Int32} {a72_2 : Int32} {a72_3 : Int32} {a72_4 : Int32} {a72_5 : Int32} {a72_6 : Int32} {a72_7 : Int32} {a72_8 : Bool} {a72_9 : Int32} {a72_10 : Int32} {a72_11 : Int32} {a72_17 : Bool} {a72_18 : Bool} {a72_19 : Bool} {a72_21 : Int32} {a72_22 : Int32} {a72_29 : Int32} {a72_31 : Int32} {a72_35 : Int32} {a72_37 : Bool} {a72_38 : Int32} {a72_39 : Int32} {a72_40 : Int32} {a72_41 : Int64} {a72_44 : Int32} {a72_50 : Bool} {A79 : Nat → Int32} {p0 : Int32} {p1 : Int32} {p2 : Bool} {p3 : Int32} {p4 : Int32} (h72 : h 72 = o72 a72_0 a72_2 a72_3 a72_4 a72_5 a72_6 a72_7 a72_8 a72_9 a72_10 a72_11 a72_17 a72_18 a72_19 a72_21 a72_22 a72_29 a72_31 a72_35 a72_37 a72_38 a72_39 a72_40 a72_41 a72_44 a72_50) (h79 : h 79 = o79 A79) {R9 : (Nat → Int32)} (hf : fX12_changes A79 p0 p1 p2 p3 p4 = some R9) :
    eSem G la MX12_changes [.ref 72, .int p0, .int p1, .int (e_b p2), .int p3, .int p4] h nx 0 0 (fun r9 h9 => r9 = none ∧ h9 = e_up h [(79, o79 R9)]) := by
  refine eSem.of (k := 0) (L := [some (.ref 72), some (.int p0), some (.int p1), some (.int (e_b p2)), some (.int p3), some (.int p4)]) (by decide +kernel) rfl rfl (fun X F hxl hq hcR hsR => ?_)
  subst hxl
  unfold fX12_changes at hf
  refine r_aload_n F dX12_changes_0 rfl ?_
  refine r_get F dX12_changes_1 flX12_28 h72 rfl (e_le rfl) (e_lt hnx rfl) ?_
  refine r_iload_n F dX12_changes_4 rfl ?_
  refine r_iload_n F dX12_changes_5 rfl ?_
  refine r_iload_n F dX12_changes_6 rfl ?_
  refine r_iconst F dX12_changes_7 (v := 0) (by decide) ?_
  obtain ⟨q1, hq2, hf⟩ := e_bd hf
  refine r_callS F dX12_changes_8 (dc := 0) (ds := 0) (As := [.int p0, .int p1, .int (e_b p2), .int 0]) (S0 := [.ref 79]) lkX12_211 mX12_linkAt (tX12_linkAt hG (la := x_l X) (h := e_up h []) hnx  hq2) rfl rfl rfl (e_le rfl) (e_le rfl) (e_le rfl) (Nat.zero_le _) (Nat.zero_le _) (e_k ?_)
  refine r_wr0 ?_
  refine r_dup2 F dX12_changes_11 rfl rfl ?_
  obtain ⟨hg, hf⟩ := e_gd hf
  refine r_iald F dX12_changes_12 (i := q1) h79 (e_le rfl) (e_lt hnx rfl) (e_vp hg) ?_
  refine r_iload F dX12_changes_13 rfl ?_
  refine r_iadd F dX12_changes_15 ?_
  obtain ⟨hg, hf⟩ := e_gd hf
  refine r_iast F dX12_changes_16 h79 (e_le rfl) (e_lt hnx rfl) (e_vp hg) (l' := [(79, o79 (upd A79 (tn q1) ((A79 (tn q1)) + p3)))]) rfl ?_
  refine r_aload_n F dX12_changes_17 rfl ?_
  refine r_get F dX12_changes_18 flX12_28 h72 rfl (e_le rfl) (e_lt hnx rfl) ?_
  refine r_iload_n F dX12_changes_21 rfl ?_
  refine r_iload_n F dX12_changes_22 rfl ?_
  refine r_iload_n F dX12_changes_23 rfl ?_
  refine r_iconst F dX12_changes_24 (v := 1) (by decide) ?_
  obtain ⟨q3, hq4, hf⟩ := e_bd hf
  refine r_callS F dX12_changes_25 (dc := 0) (ds := 0) (As := [.int p0, .int p1, .int (e_b p2), .int 1]) (S0 := [.ref 79]) lkX12_211 mX12_linkAt (tX12_linkAt hG (la := x_l X) (h := e_up h [(79, o79 (upd A79 (tn q1) ((A79 (tn q1)) + p3)))]) hnx  hq4) rfl rfl rfl (e_le rfl) (e_le rfl) (e_le rfl) (Nat.zero_le _) (Nat.zero_le _) (e_k ?_)
  refine r_wr0 ?_
  refine r_dup2 F dX12_changes_28 rfl rfl ?_
  obtain ⟨hg, hf⟩ := e_gd hf
  refine r_iald F dX12_changes_29 (i := q3) rfl (e_le rfl) (e_lt hnx rfl) (e_vp hg) ?_
  refine r_iload F dX12_changes_30 rfl ?_
  refine r_iadd F dX12_changes_32 ?_
  obtain ⟨hg, hf⟩ := e_gd hf
  refine r_iast F dX12_changes_33 rfl (e_le rfl) (e_lt hnx rfl) (e_vp hg) (l' := [(79, o79 (upd (upd A79 (tn q1) ((A79 (tn q1)) + p3)) (tn q3) (((upd A79 (tn q1) ((A79 (tn q1)) + p3)) (tn q3)) + p4)))]) rfl ?_
  obtain rfl := Option.some.inj hf
  exact r_vret F hq dX12_changes_34 rfl rfl (Nat.le_refl _) (Nat.le_refl _) ⟨rfl, rfl⟩

def fX12_toX  (p0 : Int32) (p1 : Int32) : Option (Int32) :=
  if p1 = 0 then
    some (p0 + 1)
  else
    if p1 = 2 then
      some (p0 - 1)
    else
      some p0
set_option maxRecDepth 100000 in
theorem tX12_toX {G : eG} (hG : e_GS G) {la : Launch} {h : Nat → eO} {nx : Nat} (hnx : 99 ≤ nx)  {p0 : Int32} {p1 : Int32}  {R9 : Int32} (hf : fX12_toX  p0 p1 = some R9) :
    eSem G la MX12_toX [.int p0, .int p1] h nx 0 0 (fun r9 h9 => r9 = some (.int R9) ∧ h9 = h) := by
  refine eSem.of (k := 0) (L := [some (.int p0), some (.int p1)]) (by decide +kernel) rfl rfl (fun X F hxl hq hcR hsR => ?_)
  subst hxl
  unfold fX12_toX at hf
  refine r_iload_n F dX12_toX_0 rfl ?_
  refine r_if_ne F dX12_toX_1 (tgt := 10) (by decide) (fun hc => ?_) (fun hc => ?_)
  · have hf := e_f hc hf
    refine r_iload_n F dX12_toX_10 rfl ?_
    refine r_iconst F dX12_toX_11 (v := 2) (by decide) ?_
    refine r_icmp_ne F dX12_toX_12 (tgt := 21) (by decide) (fun hc => ?_) (fun hc => ?_)
    · have hf := e_f hc hf
      refine r_iload_n F dX12_toX_21 rfl ?_
      obtain rfl := Option.some.inj hf
      exact r_iret F hq dX12_toX_22 rfl rfl (Nat.le_refl _) (Nat.le_refl _) ⟨rfl, rfl⟩
    · have hf := e_t hc hf
      refine r_iload_n F dX12_toX_15 rfl ?_
      refine r_iconst F dX12_toX_16 (v := 1) (by decide) ?_
      refine r_isub F dX12_toX_17 ?_
      refine r_goto F dX12_toX_18 (tgt := 22) (by decide) ?_
      obtain rfl := Option.some.inj hf
      exact r_iret F hq dX12_toX_22 rfl rfl (Nat.le_refl _) (Nat.le_refl _) ⟨rfl, rfl⟩
  · have hf := e_t hc hf
    refine r_iload_n F dX12_toX_4 rfl ?_
    refine r_iconst F dX12_toX_5 (v := 1) (by decide) ?_
    refine r_iadd F dX12_toX_6 ?_
    refine r_goto F dX12_toX_7 (tgt := 22) (by decide) ?_
    obtain rfl := Option.some.inj hf
    exact r_iret F hq dX12_toX_22 rfl rfl (Nat.le_refl _) (Nat.le_refl _) ⟨rfl, rfl⟩

def fX12_toY  (p0 : Int32) (p1 : Int32) : Option (Int32) :=
  if p1 = 1 then
    some (p0 + 1)
  else
    if p1 = 3 then
      some (p0 - 1)
    else
      some p0
set_option maxRecDepth 100000 in
theorem tX12_toY {G : eG} (hG : e_GS G) {la : Launch} {h : Nat → eO} {nx : Nat} (hnx : 99 ≤ nx)  {p0 : Int32} {p1 : Int32}  {R9 : Int32} (hf : fX12_toY  p0 p1 = some R9) :
    eSem G la MX12_toY [.int p0, .int p1] h nx 0 0 (fun r9 h9 => r9 = some (.int R9) ∧ h9 = h) := by
  refine eSem.of (k := 0) (L := [some (.int p0), some (.int p1)]) (by decide +kernel) rfl rfl (fun X F hxl hq hcR hsR => ?_)
  subst hxl
  unfold fX12_toY at hf
  refine r_iload_n F dX12_toY_0 rfl ?_
  refine r_iconst F dX12_toY_1 (v := 1) (by decide) ?_
  refine r_icmp_ne F dX12_toY_2 (tgt := 11) (by decide) (fun hc => ?_) (fun hc => ?_)
  · have hf := e_f hc hf
    refine r_iload_n F dX12_toY_11 rfl ?_
    refine r_iconst F dX12_toY_12 (v := 3) (by decide) ?_
    refine r_icmp_ne F dX12_toY_13 (tgt := 22) (by decide) (fun hc => ?_) (fun hc => ?_)
    · have hf := e_f hc hf
      refine r_iload_n F dX12_toY_22 rfl ?_
      obtain rfl := Option.some.inj hf
      exact r_iret F hq dX12_toY_23 rfl rfl (Nat.le_refl _) (Nat.le_refl _) ⟨rfl, rfl⟩
    · have hf := e_t hc hf
      refine r_iload_n F dX12_toY_16 rfl ?_
      refine r_iconst F dX12_toY_17 (v := 1) (by decide) ?_
      refine r_isub F dX12_toY_18 ?_
      refine r_goto F dX12_toY_19 (tgt := 23) (by decide) ?_
      obtain rfl := Option.some.inj hf
      exact r_iret F hq dX12_toY_23 rfl rfl (Nat.le_refl _) (Nat.le_refl _) ⟨rfl, rfl⟩
  · have hf := e_t hc hf
    refine r_iload_n F dX12_toY_5 rfl ?_
    refine r_iconst F dX12_toY_6 (v := 1) (by decide) ?_
    refine r_iadd F dX12_toY_7 ?_
    refine r_goto F dX12_toY_8 (tgt := 23) (by decide) ?_
    obtain rfl := Option.some.inj hf
    exact r_iret F hq dX12_toY_23 rfl rfl (Nat.le_refl _) (Nat.le_refl _) ⟨rfl, rfl⟩

def fX12_isFace (a72_21 : Int32) (a72_22 : Int32) (p0 : Int32) (p1 : Int32) : Option (Bool) :=
  (fX12_in (Int32.toInt64 p0) 0 (Int32.toInt64 (a72_21 - 2))).bind (fun q1 =>
  if q1 = true then
    (fX12_in (Int32.toInt64 p1) 0 (Int32.toInt64 (a72_22 - 2))).bind (fun q3 =>
    if q3 = true then
      some true
    else
      some false)
  else
    some false)
set_option maxRecDepth 100000 in
theorem tX12_isFace_72 {G : eG} (hG : e_GS G) {la : Launch} {h : Nat → eO} {nx : Nat} (hnx : 99 ≤ nx) {a72_0 : Int32} {a72_2 : Int32} {a72_3 : Int32} {a72_4 : Int32} {a72_5 : Int32} {a72_6 : Int32} {a72_7 : Int32} {a72_8 : Bool} {a72_9 : Int32} {a72_10 : Int32} {a72_11 : Int32} {a72_17 : Bool} {a72_18 : Bool} {a72_19 : Bool} {a72_21 : Int32} {a72_22 : Int32} {a72_29 : Int32} {a72_31 : Int32} {a72_35 : Int32} {a72_37 : Bool} {a72_38 : Int32} {a72_39 : Int32} {a72_40 : Int32} {a72_41 : Int64} {a72_44 : Int32} {a72_50 : Bool} {p0 : Int32} {p1 : Int32} (h72 : h 72 = o72 a72_0 a72_2 a72_3 a72_4 a72_5 a72_6 a72_7 a72_8 a72_9 a72_10 a72_11 a72_17 a72_18 a72_19 a72_21 a72_22 a72_29 a72_31 a72_35 a72_37 a72_38 a72_39 a72_40 a72_41 a72_44 a72_50) {R9 : Bool} (hf : fX12_isFace a72_21 a72_22 p0 p1 = some R9) :
    eSem G la MX12_isFace [.ref 72, .int p0, .int p1] h nx 0 0 (fun r9 h9 => r9 = some (.int (e_b R9)) ∧ h9 = h) := by
  refine eSem.of (k := 0) (L := [some (.ref 72), some (.int p0), some (.int p1)]) (by decide +kernel) rfl rfl (fun X F hxl hq hcR hsR => ?_)
  subst hxl
  unfold fX12_isFace at hf
  refine r_iload_n F dX12_isFace_0 rfl ?_
  refine r_i2l F dX12_isFace_1 ?_
  refine r_lconst F dX12_isFace_2 (v := 0) (by decide) ?_
  refine r_aload_n F dX12_isFace_3 rfl ?_
  refine r_get F dX12_isFace_4 flX12_205 h72 rfl (e_le rfl) (e_lt hnx rfl) ?_
  refine r_iconst F dX12_isFace_7 (v := 2) (by decide) ?_
  refine r_isub F dX12_isFace_8 ?_
  refine r_i2l F dX12_isFace_9 ?_
  obtain ⟨q1, hq2, hf⟩ := e_bd hf
  refine r_callS F dX12_isFace_10 (dc := 0) (ds := 0) (As := [.long (Int32.toInt64 p0), .long 0, .long (Int32.toInt64 (a72_21 - 2))]) (S0 := []) lkX12_97 mX12_in (tX12_in hG (la := x_l X) (h := e_up h []) hnx  hq2) rfl rfl rfl (e_le rfl) (e_le rfl) (e_le rfl) (Nat.zero_le _) (Nat.zero_le _) (e_k ?_)
  refine r_wr0 ?_
  refine r_z_eq F dX12_isFace_13 (tgt := 36) (by decide) (fun hc => ?_) (fun hc => ?_)
  · have hf := e_t hc hf
    refine r_iload_n F dX12_isFace_16 rfl ?_
    refine r_i2l F dX12_isFace_17 ?_
    refine r_lconst F dX12_isFace_18 (v := 0) (by decide) ?_
    refine r_aload_n F dX12_isFace_19 rfl ?_
    refine r_get F dX12_isFace_20 flX12_208 h72 rfl (e_le rfl) (e_lt hnx rfl) ?_
    refine r_iconst F dX12_isFace_23 (v := 2) (by decide) ?_
    refine r_isub F dX12_isFace_24 ?_
    refine r_i2l F dX12_isFace_25 ?_
    obtain ⟨q3, hq4, hf⟩ := e_bd hf
    refine r_callS F dX12_isFace_26 (dc := 0) (ds := 0) (As := [.long (Int32.toInt64 p1), .long 0, .long (Int32.toInt64 (a72_22 - 2))]) (S0 := []) lkX12_97 mX12_in (tX12_in hG (la := x_l X) (h := e_up h []) hnx  hq4) rfl rfl rfl (e_le rfl) (e_le rfl) (e_le rfl) (Nat.zero_le _) (Nat.zero_le _) (e_k ?_)
    refine r_wr0 ?_
    refine r_z_eq F dX12_isFace_29 (tgt := 36) (by decide) (fun hc => ?_) (fun hc => ?_)
    · have hf := e_t hc hf
      refine r_iconst F dX12_isFace_32 (v := 1) (by decide) ?_
      refine r_goto F dX12_isFace_33 (tgt := 37) (by decide) ?_
      obtain rfl := Option.some.inj hf
      exact r_zret F hq (v := true) dX12_isFace_37 rfl rfl (Nat.le_refl _) (Nat.le_refl _) ⟨rfl, rfl⟩
    · have hf := e_f hc hf
      refine r_iconst F dX12_isFace_36 (v := 0) (by decide) ?_
      obtain rfl := Option.some.inj hf
      exact r_zret F hq (v := false) dX12_isFace_37 rfl rfl (Nat.le_refl _) (Nat.le_refl _) ⟨rfl, rfl⟩
  · have hf := e_f hc hf
    refine r_iconst F dX12_isFace_36 (v := 0) (by decide) ?_
    obtain rfl := Option.some.inj hf
    exact r_zret F hq (v := false) dX12_isFace_37 rfl rfl (Nat.le_refl _) (Nat.le_refl _) ⟨rfl, rfl⟩

def fX12_moves (a72_21 : Int32) (a72_22 : Int32) (A79 : Nat → Int32) (p0 : Int32) (p1 : Int32) (p2 : Int32) (p3 : Int32) (p4 : Int32) : Option (Int32 × (Nat → Int32)) :=
  Option.bind (α := (Nat → Int32)) (
    if p2 = 0 then
      (fX12_changes A79 (p0 + 1) p1 true ((0 : Int32) - p3) ((0 : Int32) - p4)).bind (fun q11 =>
      some q11)
    else
      if p2 = 1 then
        (fX12_changes A79 p0 (p1 + 1) false p3 p4).bind (fun q13 =>
        some q13)
      else
        if p2 = 2 then
          (fX12_changes A79 p0 p1 true p3 p4).bind (fun q15 =>
          some q15)
        else
          (fX12_changes A79 p0 p1 false ((0 : Int32) - p3) ((0 : Int32) - p4)).bind (fun q17 =>
          some q17)) (fun q1 =>
  (fX12_toX p0 p2).bind (fun q3 =>
  (fX12_toY p1 p2).bind (fun q5 =>
  (fX12_isFace a72_21 a72_22 q3 q5).bind (fun q7 =>
  if q7 = true then
    (fX12_isCore q1 q3 q5).bind (fun q9 =>
    if q9 = true then
      some (0, q1)
    else
      some (2, q1))
  else
    some (3, q1)))))
set_option maxRecDepth 100000 in
theorem tX12_moves_72 {G : eG} (hG : e_GS G) {la : Launch} {h : Nat → eO} {nx : Nat} (hnx : 99 ≤ nx) {a72_0 : Int32} {a72_2 : Int32} {a72_3 : Int32} {a72_4 : Int32} {a72_5 : Int32} {a72_6 : Int32} {a72_7 : Int32} {a72_8 : Bool} {a72_9 : Int32} {a72_10 : Int32} {a72_11 : Int32} {a72_17 : Bool} {a72_18 : Bool} {a72_19 : Bool} {a72_21 : Int32} {a72_22 : Int32} {a72_29 : Int32} {a72_31 : Int32} {a72_35 : Int32} {a72_37 : Bool} {a72_38 : Int32} {a72_39 : Int32} {a72_40 : Int32} {a72_41 : Int64} {a72_44 : Int32} {a72_50 : Bool} {A79 : Nat → Int32} {p0 : Int32} {p1 : Int32} {p2 : Int32} {p3 : Int32} {p4 : Int32} (h72 : h 72 = o72 a72_0 a72_2 a72_3 a72_4 a72_5 a72_6 a72_7 a72_8 a72_9 a72_10 a72_11 a72_17 a72_18 a72_19 a72_21 a72_22 a72_29 a72_31 a72_35 a72_37 a72_38 a72_39 a72_40 a72_41 a72_44 a72_50) (h79 : h 79 = o79 A79) {R9 : Int32 × (Nat → Int32)} (hf : fX12_moves a72_21 a72_22 A79 p0 p1 p2 p3 p4 = some R9) :
    eSem G la MX12_moves [.ref 72, .int p0, .int p1, .int p2, .int p3, .int p4] h nx 0 0 (fun r9 h9 => r9 = some (.int R9.1) ∧ h9 = e_up h [(79, o79 R9.2)]) := by
  refine eSem.of (k := 2) (L := [some (.ref 72), some (.int p0), some (.int p1), some (.int p2), some (.int p3), some (.int p4), none, none]) (by decide +kernel) rfl rfl (fun X F hxl hq hcR hsR => ?_)
  subst hxl
  unfold fX12_moves at hf
  refine r_iload_n F dX12_moves_0 rfl ?_
  obtain ⟨q1, hq2, hf⟩ := e_bd hf
  have Jq1 : eRun G X 89 [some (.ref 72), some (.int p0), some (.int p1), some (.int p2), none, none, none, none] [] h [(79, o79 q1)] nx 0 0 := by
    refine r_iload_n F dX12_moves_89 rfl ?_
    refine r_iload_n F dX12_moves_90 rfl ?_
    obtain ⟨q3, hq4, hf⟩ := e_bd hf
    refine r_callS F dX12_moves_91 (dc := 0) (ds := 0) (As := [.int p0, .int p2]) (S0 := []) lkX12_282 mX12_toX (tX12_toX hG (la := x_l X) (h := e_up h [(79, o79 q1)]) hnx  hq4) rfl rfl rfl (e_le rfl) (e_le rfl) (e_le rfl) (Nat.zero_le _) (Nat.zero_le _) (e_k ?_)
    refine r_wr0 ?_
    refine r_istore F dX12_moves_94 (e_le rfl) (L' := [some (.ref 72), some (.int p0), some (.int p1), some (.int p2), none, none, some (.int q3), none]) rfl ?_
    refine r_iload_n F dX12_moves_96 rfl ?_
    refine r_iload_n F dX12_moves_97 rfl ?_
    obtain ⟨q5, hq6, hf⟩ := e_bd hf
    refine r_callS F dX12_moves_98 (dc := 0) (ds := 0) (As := [.int p1, .int p2]) (S0 := []) lkX12_285 mX12_toY (tX12_toY hG (la := x_l X) (h := e_up h [(79, o79 q1)]) hnx  hq6) rfl rfl rfl (e_le rfl) (e_le rfl) (e_le rfl) (Nat.zero_le _) (Nat.zero_le _) (e_k ?_)
    refine r_wr0 ?_
    refine r_istore F dX12_moves_101 (e_le rfl) (L' := [some (.ref 72), some (.int p0), some (.int p1), some (.int p2), none, none, some (.int q3), some (.int q5)]) rfl ?_
    refine r_aload_n F dX12_moves_103 rfl ?_
    refine r_iload F dX12_moves_104 rfl ?_
    refine r_iload F dX12_moves_106 rfl ?_
    obtain ⟨q7, hq8, hf⟩ := e_bd hf
    refine r_callV F dX12_moves_108 (b := 72) (dc := 0) (ds := 0) (As := [.int q3, .int q5]) (S0 := []) lkX12_288 mX12_isFace (tX12_isFace_72 hG (la := x_l X) (h := e_up h [(79, o79 q1)]) hnx h72 hq8) rfl rfl rfl (e_le rfl) (e_le rfl) (e_le rfl) h72 (ci := 12) e_cl12.1 rfl (e_le rfl) (e_lt hnx rfl) (Nat.zero_le _) (Nat.zero_le _) (e_k ?_)
    refine r_wr0 ?_
    refine r_z_ne F dX12_moves_111 (tgt := 118) (by decide) (fun hc => ?_) (fun hc => ?_)
    · have hf := e_t hc hf
      refine r_aload_n F dX12_moves_118 rfl ?_
      refine r_iload F dX12_moves_119 rfl ?_
      refine r_iload F dX12_moves_121 rfl ?_
      obtain ⟨q9, hq10, hf⟩ := e_bd hf
      refine r_callV F dX12_moves_123 (b := 72) (dc := 0) (ds := 0) (As := [.int q3, .int q5]) (S0 := []) lkX12_244 mX12_isCore (tX12_isCore_72 hG (la := x_l X) (h := e_up h [(79, o79 q1)]) hnx h72 rfl hq10) rfl rfl rfl (e_le rfl) (e_le rfl) (e_le rfl) h72 (ci := 12) e_cl12.1 rfl (e_le rfl) (e_lt hnx rfl) (Nat.zero_le _) (Nat.zero_le _) (e_k ?_)
      refine r_wr0 ?_
      refine r_z_eq F dX12_moves_126 (tgt := 133) (by decide) (fun hc => ?_) (fun hc => ?_)
      · have hf := e_t hc hf
        refine r_iconst F dX12_moves_129 (v := 0) (by decide) ?_
        refine r_goto F dX12_moves_130 (tgt := 134) (by decide) ?_
        obtain rfl := Option.some.inj hf
        exact r_iret F hq dX12_moves_134 rfl rfl (Nat.le_refl _) (Nat.le_refl _) ⟨rfl, rfl⟩
      · have hf := e_f hc hf
        refine r_iconst F dX12_moves_133 (v := 2) (by decide) ?_
        obtain rfl := Option.some.inj hf
        exact r_iret F hq dX12_moves_134 rfl rfl (Nat.le_refl _) (Nat.le_refl _) ⟨rfl, rfl⟩
    · have hf := e_f hc hf
      refine r_iconst F dX12_moves_114 (v := 3) (by decide) ?_
      refine r_goto F dX12_moves_115 (tgt := 134) (by decide) ?_
      obtain rfl := Option.some.inj hf
      exact r_iret F hq dX12_moves_134 rfl rfl (Nat.le_refl _) (Nat.le_refl _) ⟨rfl, rfl⟩
  refine Classical.byCases (p := p2 = 0) (fun hc => ?_) (fun hk0 => ?_)
  · have hq2 := e_t hc hq2
    refine r_tsIn F dX12_moves_1 (by rw [hc]; decide) (by rw [hc]; decide) (off := 27) (by rw [hc]; decide) (tgt := 28) (by decide) ?_
    refine r_aload_n F dX12_moves_28 rfl ?_
    refine r_iload_n F dX12_moves_29 rfl ?_
    refine r_iconst F dX12_moves_30 (v := 1) (by decide) ?_
    refine r_iadd F dX12_moves_31 ?_
    refine r_iload_n F dX12_moves_32 rfl ?_
    refine r_iconst F dX12_moves_33 (v := 1) (by decide) ?_
    refine r_iload F dX12_moves_34 rfl ?_
    refine r_ineg F dX12_moves_36 ?_
    refine r_iload F dX12_moves_37 rfl ?_
    refine r_ineg F dX12_moves_39 ?_
    obtain ⟨q11, hq12, hq2⟩ := e_bd hq2
    refine r_callV F dX12_moves_40 (b := 72) (dc := 0) (ds := 0) (As := [.int (p0 + 1), .int p1, .int 1, .int ((0 : Int32) - p3), .int ((0 : Int32) - p4)]) (S0 := []) lkX12_225 mX12_changes (tX12_changes_72 hG (la := x_l X) (h := e_up h []) hnx h72 h79 hq12) rfl rfl rfl (e_le rfl) (e_le rfl) (e_le rfl) h72 (ci := 12) e_cl12.1 rfl (e_le rfl) (e_lt hnx rfl) (Nat.zero_le _) (Nat.zero_le _) (e_k ?_)
    refine r_wr (l' := [(79, o79 q11)]) rfl rfl ?_
    refine r_goto F dX12_moves_43 (tgt := 89) (by decide) ?_
    refine r_drop 4 (L' := [some (.ref 72), some (.int p0), some (.int p1), some (.int p2), none, some (.int p4), none, none]) rfl ?_
    refine r_drop 5 (L' := [some (.ref 72), some (.int p0), some (.int p1), some (.int p2), none, none, none, none]) rfl ?_
    obtain rfl := Option.some.inj hq2
    exact Jq1
  have hq2 := e_f hk0 hq2
  refine Classical.byCases (p := p2 = 1) (fun hc => ?_) (fun hk1 => ?_)
  · have hq2 := e_t hc hq2
    refine r_tsIn F dX12_moves_1 (by rw [hc]; decide) (by rw [hc]; decide) (off := 45) (by rw [hc]; decide) (tgt := 46) (by decide) ?_
    refine r_aload_n F dX12_moves_46 rfl ?_
    refine r_iload_n F dX12_moves_47 rfl ?_
    refine r_iload_n F dX12_moves_48 rfl ?_
    refine r_iconst F dX12_moves_49 (v := 1) (by decide) ?_
    refine r_iadd F dX12_moves_50 ?_
    refine r_iconst F dX12_moves_51 (v := 0) (by decide) ?_
    refine r_iload F dX12_moves_52 rfl ?_
    refine r_iload F dX12_moves_54 rfl ?_
    obtain ⟨q13, hq14, hq2⟩ := e_bd hq2
    refine r_callV F dX12_moves_56 (b := 72) (dc := 0) (ds := 0) (As := [.int p0, .int (p1 + 1), .int 0, .int p3, .int p4]) (S0 := []) lkX12_225 mX12_changes (tX12_changes_72 hG (la := x_l X) (h := e_up h []) hnx h72 h79 hq14) rfl rfl rfl (e_le rfl) (e_le rfl) (e_le rfl) h72 (ci := 12) e_cl12.1 rfl (e_le rfl) (e_lt hnx rfl) (Nat.zero_le _) (Nat.zero_le _) (e_k ?_)
    refine r_wr (l' := [(79, o79 q13)]) rfl rfl ?_
    refine r_goto F dX12_moves_59 (tgt := 89) (by decide) ?_
    refine r_drop 4 (L' := [some (.ref 72), some (.int p0), some (.int p1), some (.int p2), none, some (.int p4), none, none]) rfl ?_
    refine r_drop 5 (L' := [some (.ref 72), some (.int p0), some (.int p1), some (.int p2), none, none, none, none]) rfl ?_
    obtain rfl := Option.some.inj hq2
    exact Jq1
  have hq2 := e_f hk1 hq2
  refine Classical.byCases (p := p2 = 2) (fun hc => ?_) (fun hk2 => ?_)
  · have hq2 := e_t hc hq2
    refine r_tsIn F dX12_moves_1 (by rw [hc]; decide) (by rw [hc]; decide) (off := 61) (by rw [hc]; decide) (tgt := 62) (by decide) ?_
    refine r_aload_n F dX12_moves_62 rfl ?_
    refine r_iload_n F dX12_moves_63 rfl ?_
    refine r_iload_n F dX12_moves_64 rfl ?_
    refine r_iconst F dX12_moves_65 (v := 1) (by decide) ?_
    refine r_iload F dX12_moves_66 rfl ?_
    refine r_iload F dX12_moves_68 rfl ?_
    obtain ⟨q15, hq16, hq2⟩ := e_bd hq2
    refine r_callV F dX12_moves_70 (b := 72) (dc := 0) (ds := 0) (As := [.int p0, .int p1, .int 1, .int p3, .int p4]) (S0 := []) lkX12_225 mX12_changes (tX12_changes_72 hG (la := x_l X) (h := e_up h []) hnx h72 h79 hq16) rfl rfl rfl (e_le rfl) (e_le rfl) (e_le rfl) h72 (ci := 12) e_cl12.1 rfl (e_le rfl) (e_lt hnx rfl) (Nat.zero_le _) (Nat.zero_le _) (e_k ?_)
    refine r_wr (l' := [(79, o79 q15)]) rfl rfl ?_
    refine r_goto F dX12_moves_73 (tgt := 89) (by decide) ?_
    refine r_drop 4 (L' := [some (.ref 72), some (.int p0), some (.int p1), some (.int p2), none, some (.int p4), none, none]) rfl ?_
    refine r_drop 5 (L' := [some (.ref 72), some (.int p0), some (.int p1), some (.int p2), none, none, none, none]) rfl ?_
    obtain rfl := Option.some.inj hq2
    exact Jq1
  have hq2 := e_f hk2 hq2
  refine r_tsOut F dX12_moves_1 (e_out3 hk0 hk1 hk2) (tgt := 76) (by decide) ?_
  refine r_aload_n F dX12_moves_76 rfl ?_
  refine r_iload_n F dX12_moves_77 rfl ?_
  refine r_iload_n F dX12_moves_78 rfl ?_
  refine r_iconst F dX12_moves_79 (v := 0) (by decide) ?_
  refine r_iload F dX12_moves_80 rfl ?_
  refine r_ineg F dX12_moves_82 ?_
  refine r_iload F dX12_moves_83 rfl ?_
  refine r_ineg F dX12_moves_85 ?_
  obtain ⟨q17, hq18, hq2⟩ := e_bd hq2
  refine r_callV F dX12_moves_86 (b := 72) (dc := 0) (ds := 0) (As := [.int p0, .int p1, .int 0, .int ((0 : Int32) - p3), .int ((0 : Int32) - p4)]) (S0 := []) lkX12_225 mX12_changes (tX12_changes_72 hG (la := x_l X) (h := e_up h []) hnx h72 h79 hq18) rfl rfl rfl (e_le rfl) (e_le rfl) (e_le rfl) h72 (ci := 12) e_cl12.1 rfl (e_le rfl) (e_lt hnx rfl) (Nat.zero_le _) (Nat.zero_le _) (e_k ?_)
  refine r_wr (l' := [(79, o79 q17)]) rfl rfl ?_
  refine r_drop 4 (L' := [some (.ref 72), some (.int p0), some (.int p1), some (.int p2), none, some (.int p4), none, none]) rfl ?_
  refine r_drop 5 (L' := [some (.ref 72), some (.int p0), some (.int p1), some (.int p2), none, none, none, none]) rfl ?_
  obtain rfl := Option.some.inj hq2
  exact Jq1

def fX12_round (a72_21 : Int32) (a72_22 : Int32) (a72_29 : Int32) (a72_38 : Int32) (a72_39 : Int32) (a72_40 : Int32) (A79 : Nat → Int32) (A80 : Nat → Int32) (A81 : Nat → Int32) (A82 : Nat → Int32) (A83 : Nat → Int32) (A84 : Nat → Int32) (A85 : Nat → Int32)  : Option (Int32 × Int32 × Int32 × Int32 × (Nat → Int32) × (Nat → Int32) × (Nat → Int32) × (Nat → Int32) × (Nat → Int32) × (Nat → Int32)) :=
  (fX12_laysCores a72_21 a72_22 a72_29 A79 A80 A81 A82 A83 A84 A85).bind (fun q1 =>
  (e_loop (fun (v5 : Int32 × Int32 × Int32 × Int32 × (Nat → Int32)) => (
      if q1.2.1 ≤ v5.1 then
        some (.inr (v5.2.1, v5.2.2.1, v5.2.2.2.1, v5.2.2.2.2))
      else
        e_g (e_in v5.1 64) (
        e_g (e_in v5.1 64) (
        e_g (e_in v5.1 64) (
        (fJ9_abs_0f7a4 (q1.2.2.2.2.2.2 (tn v5.1))).bind (fun q8 =>
        Option.bind (α := Bool) (
          if q8 ≤ (A80 (tn 2)) then
            some false
          else
            (fX12_vector v5.2.2.2.2 (q1.2.2.1 (tn v5.1)) (q1.2.2.2.1 (tn v5.1)) 0).bind (fun q26 =>
            e_g (e_in v5.1 64) (
            if q26 = (q1.2.2.2.2.1 (tn v5.1)) then
              (fX12_vector v5.2.2.2.2 (q1.2.2.1 (tn v5.1)) (q1.2.2.2.1 (tn v5.1)) 1).bind (fun q28 =>
              e_g (e_in v5.1 64) (
              if q28 = (q1.2.2.2.2.2.1 (tn v5.1)) then
                some true
              else
                some false))
            else
              some false))) (fun q10 =>
        Option.bind (α := Int32 × Int32 × Int32 × (Nat → Int32)) (
          if q10 = true then
            (fX12_way q1.2.2.2.2.1 q1.2.2.2.2.2.1 v5.1).bind (fun q14 =>
            e_g (e_in v5.1 64) (
            Option.bind (α := Bool) (
              if (q1.2.2.2.2.2.2 (tn v5.1)) ≤ 0 then
                some false
              else
                some true) (fun q16 =>
            (fX12_directionOf q14 q16).bind (fun q18 =>
            e_g (e_in v5.1 64) (
            e_g (e_in v5.1 64) (
            (fX12_moves a72_21 a72_22 v5.2.2.2.2 (q1.2.2.1 (tn v5.1)) (q1.2.2.2.1 (tn v5.1)) q18 (q1.2.2.2.2.1 (tn v5.1)) (q1.2.2.2.2.2.1 (tn v5.1))).bind (fun q20 =>
            Option.bind (α := Bool) (
              if q20.1 = 2 then
                some true
              else
                some false) (fun q22 =>
            Option.bind (α := Bool) (
              if q20.1 = 3 then
                some true
              else
                some false) (fun q24 =>
            some (v5.2.1 + 1, v5.2.2.1 + (e_b q22), v5.2.2.2.1 + (e_b q24), q20.2))))))))))
          else
            some (v5.2.1, v5.2.2.1, v5.2.2.2.1, v5.2.2.2.2)) (fun q12 =>
        some (.inl (v5.1 + 1, q12.1, q12.2.1, q12.2.2.1, q12.2.2.2)))))))) : Option ((Int32 × Int32 × Int32 × Int32 × (Nat → Int32)) ⊕ (Int32 × Int32 × Int32 × (Nat → Int32))))) e_fuel (0, a72_38, a72_39, a72_40, A79)).bind (fun x6 =>
  some (q1.2.1, x6.1, x6.2.1, x6.2.2.1, upd x6.2.2.2 (tn 325) ((x6.2.2.2 (tn 325)) + 1), q1.2.2.1, q1.2.2.2.1, q1.2.2.2.2.1, q1.2.2.2.2.2.1, q1.2.2.2.2.2.2)))
set_option maxRecDepth 100000 in
theorem tX12_round_72 {G : eG} (hG : e_GS G) {la : Launch} {h : Nat → eO} {nx : Nat} (hnx : 99 ≤ nx) {a72_0 : Int32} {a72_2 : Int32} {a72_3 : Int32} {a72_4 : Int32} {a72_5 : Int32} {a72_6 : Int32} {a72_7 : Int32} {a72_8 : Bool} {a72_9 : Int32} {a72_10 : Int32} {a72_11 : Int32} {a72_17 : Bool} {a72_18 : Bool} {a72_19 : Bool} {a72_21 : Int32} {a72_22 : Int32} {a72_29 : Int32} {a72_31 : Int32} {a72_35 : Int32} {a72_37 : Bool} {a72_38 : Int32} {a72_39 : Int32} {a72_40 : Int32} {a72_41 : Int64} {a72_44 : Int32} {a72_50 : Bool} {A79 : Nat → Int32} {A80 : Nat → Int32} {A81 : Nat → Int32} {A82 : Nat → Int32} {A83 : Nat → Int32} {A84 : Nat → Int32} {A85 : Nat → Int32}  (h72 : h 72 = o72 a72_0 a72_2 a72_3 a72_4 a72_5 a72_6 a72_7 a72_8 a72_9 a72_10 a72_11 a72_17 a72_18 a72_19 a72_21 a72_22 a72_29 a72_31 a72_35 a72_37 a72_38 a72_39 a72_40 a72_41 a72_44 a72_50) (h79 : h 79 = o79 A79) (h80 : h 80 = o80 A80) (h81 : h 81 = o81 A81) (h82 : h 82 = o82 A82) (h83 : h 83 = o83 A83) (h84 : h 84 = o84 A84) (h85 : h 85 = o85 A85) {R9 : Int32 × Int32 × Int32 × Int32 × (Nat → Int32) × (Nat → Int32) × (Nat → Int32) × (Nat → Int32) × (Nat → Int32) × (Nat → Int32)} (hf : fX12_round a72_21 a72_22 a72_29 a72_38 a72_39 a72_40 A79 A80 A81 A82 A83 A84 A85  = some R9) :
    eSem G la MX12_round [.ref 72] h nx 0 0 (fun r9 h9 => r9 = none ∧ h9 = e_up h [(72, o72 a72_0 a72_2 a72_3 a72_4 a72_5 a72_6 a72_7 a72_8 a72_9 a72_10 a72_11 a72_17 a72_18 a72_19 a72_21 a72_22 R9.1 a72_31 a72_35 a72_37 R9.2.1 R9.2.2.1 R9.2.2.2.1 a72_41 a72_44 a72_50), (79, o79 R9.2.2.2.2.1), (81, o81 R9.2.2.2.2.2.1), (82, o82 R9.2.2.2.2.2.2.1), (83, o83 R9.2.2.2.2.2.2.2.1), (84, o84 R9.2.2.2.2.2.2.2.2.1), (85, o85 R9.2.2.2.2.2.2.2.2.2)]) := by
  refine eSem.of (k := 6) (L := [some (.ref 72), none, none, none, none, none, none]) (by decide +kernel) rfl rfl (fun X F hxl hq hcR hsR => ?_)
  subst hxl
  unfold fX12_round at hf
  refine r_aload_n F dX12_round_0 rfl ?_
  obtain ⟨q1, hq2, hf⟩ := e_bd hf
  refine r_callV F dX12_round_1 (b := 72) (dc := 0) (ds := 0) (As := []) (S0 := []) lkX12_238 mX12_laysCores (tX12_laysCores_72 hG (la := x_l X) (h := e_up h []) hnx h72 h79 h80 h81 h82 h83 h84 h85 hq2) rfl rfl rfl (e_le rfl) (e_le rfl) (e_le rfl) h72 (ci := 12) e_cl12.1 rfl (e_le rfl) (e_lt hnx rfl) (Nat.zero_le _) (Nat.zero_le _) (e_k ?_)
  refine r_wr (l' := [(72, o72 a72_0 a72_2 a72_3 a72_4 a72_5 a72_6 a72_7 a72_8 a72_9 a72_10 a72_11 a72_17 a72_18 a72_19 a72_21 a72_22 q1.2.1 a72_31 a72_35 a72_37 a72_38 a72_39 a72_40 a72_41 a72_44 a72_50), (81, o81 q1.2.2.1), (82, o82 q1.2.2.2.1), (83, o83 q1.2.2.2.2.1), (84, o84 q1.2.2.2.2.2.1), (85, o85 q1.2.2.2.2.2.2)]) rfl rfl ?_
  refine r_pop F dX12_round_4 rfl ?_
  refine r_aload_n F dX12_round_5 rfl ?_
  refine r_get F dX12_round_6 flX12_241 rfl rfl (e_le rfl) (e_lt hnx rfl) ?_
  refine r_istore_n F dX12_round_9 (e_le rfl) (L' := [some (.ref 72), some (.int q1.2.1), none, none, none, none, none]) rfl ?_
  refine r_iconst F dX12_round_10 (v := 0) (by decide) ?_
  refine r_istore_n F dX12_round_11 (e_le rfl) (L' := [some (.ref 72), some (.int q1.2.1), some (.int 0), none, none, none, none]) rfl ?_
  refine r_mat (k := 79) h79 (l' := [(72, o72 a72_0 a72_2 a72_3 a72_4 a72_5 a72_6 a72_7 a72_8 a72_9 a72_10 a72_11 a72_17 a72_18 a72_19 a72_21 a72_22 q1.2.1 a72_31 a72_35 a72_37 a72_38 a72_39 a72_40 a72_41 a72_44 a72_50), (79, o79 A79), (81, o81 q1.2.2.1), (82, o82 q1.2.2.2.1), (83, o83 q1.2.2.2.2.1), (84, o84 q1.2.2.2.2.2.1), (85, o85 q1.2.2.2.2.2.2)]) rfl ?_
  obtain ⟨x6, hx7, hf⟩ := e_bd hf
  refine (e_loop_ok (P := fun (v5 : Int32 × Int32 × Int32 × Int32 × (Nat → Int32)) => eRun G X 12 [some (.ref 72), some (.int q1.2.1), some (.int v5.1), none, none, none, none] [] h [(72, o72 a72_0 a72_2 a72_3 a72_4 a72_5 a72_6 a72_7 a72_8 a72_9 a72_10 a72_11 a72_17 a72_18 a72_19 a72_21 a72_22 q1.2.1 a72_31 a72_35 a72_37 v5.2.1 v5.2.2.1 v5.2.2.2.1 a72_41 a72_44 a72_50), (79, o79 v5.2.2.2.2), (81, o81 q1.2.2.1), (82, o82 q1.2.2.2.1), (83, o83 q1.2.2.2.2.1), (84, o84 q1.2.2.2.2.2.1), (85, o85 q1.2.2.2.2.2.2)] nx 0 0) (K := fun (x6 : Int32 × Int32 × Int32 × (Nat → Int32)) => eRun G X 195 [some (.ref 72), none, none, none, none, none, none] [] h [(72, o72 a72_0 a72_2 a72_3 a72_4 a72_5 a72_6 a72_7 a72_8 a72_9 a72_10 a72_11 a72_17 a72_18 a72_19 a72_21 a72_22 q1.2.1 a72_31 a72_35 a72_37 x6.1 x6.2.1 x6.2.2.1 a72_41 a72_44 a72_50), (79, o79 x6.2.2.2), (81, o81 q1.2.2.1), (82, o82 q1.2.2.2.1), (83, o83 q1.2.2.2.2.1), (84, o84 q1.2.2.2.2.2.1), (85, o85 q1.2.2.2.2.2.2)] nx 0 0) ?_ e_fuel (0, a72_38, a72_39, a72_40, A79) x6 hx7 ?_ : _)
  · intro v5 z hz ih hx
    refine r_iload_n F dX12_round_12 rfl ?_
    refine r_iload_n F dX12_round_13 rfl ?_
    refine r_icmp_ge F dX12_round_14 (tgt := 195) (by decide) (fun hc => ?_) (fun hc => ?_)
    · have hz := e_t hc hz
      refine r_drop 1 (L' := [some (.ref 72), none, some (.int v5.1), none, none, none, none]) rfl ?_
      refine r_drop 2 (L' := [some (.ref 72), none, none, none, none, none, none]) rfl ?_
      obtain rfl := Option.some.inj hz
      exact hx (v5.2.1, v5.2.2.1, v5.2.2.2.1, v5.2.2.2.2) rfl
    · have hz := e_f hc hz
      refine r_aload_n F dX12_round_17 rfl ?_
      refine r_get F dX12_round_18 flX12_34 rfl rfl (e_le rfl) (e_lt hnx rfl) ?_
      refine r_iload_n F dX12_round_21 rfl ?_
      obtain ⟨hg, hz⟩ := e_gd hz
      refine r_iald F dX12_round_22 (i := v5.1) rfl (e_le rfl) (e_lt hnx rfl) (e_vp hg) ?_
      refine r_istore_n F dX12_round_23 (e_le rfl) (L' := [some (.ref 72), some (.int q1.2.1), some (.int v5.1), some (.int (q1.2.2.1 (tn v5.1))), none, none, none]) rfl ?_
      refine r_aload_n F dX12_round_24 rfl ?_
      refine r_get F dX12_round_25 flX12_37 rfl rfl (e_le rfl) (e_lt hnx rfl) ?_
      refine r_iload_n F dX12_round_28 rfl ?_
      obtain ⟨hg, hz⟩ := e_gd hz
      refine r_iald F dX12_round_29 (i := v5.1) rfl (e_le rfl) (e_lt hnx rfl) (e_vp hg) ?_
      refine r_istore F dX12_round_30 (e_le rfl) (L' := [some (.ref 72), some (.int q1.2.1), some (.int v5.1), some (.int (q1.2.2.1 (tn v5.1))), some (.int (q1.2.2.2.1 (tn v5.1))), none, none]) rfl ?_
      refine r_aload_n F dX12_round_32 rfl ?_
      refine r_get F dX12_round_33 flX12_46 rfl rfl (e_le rfl) (e_lt hnx rfl) ?_
      refine r_iload_n F dX12_round_36 rfl ?_
      obtain ⟨hg, hz⟩ := e_gd hz
      refine r_iald F dX12_round_37 (i := v5.1) rfl (e_le rfl) (e_lt hnx rfl) (e_vp hg) ?_
      obtain ⟨q8, hq9, hz⟩ := e_bd hz
      refine r_callS F dX12_round_38 (dc := 0) (ds := 0) (As := [.int (q1.2.2.2.2.2.2 (tn v5.1))]) (S0 := []) lkX12_370 mJ9_abs_0f7a4 (tJ9_abs_0f7a4 hG (la := x_l X) (h := e_up h [(72, o72 a72_0 a72_2 a72_3 a72_4 a72_5 a72_6 a72_7 a72_8 a72_9 a72_10 a72_11 a72_17 a72_18 a72_19 a72_21 a72_22 q1.2.1 a72_31 a72_35 a72_37 v5.2.1 v5.2.2.1 v5.2.2.2.1 a72_41 a72_44 a72_50), (79, o79 v5.2.2.2.2), (81, o81 q1.2.2.1), (82, o82 q1.2.2.2.1), (83, o83 q1.2.2.2.2.1), (84, o84 q1.2.2.2.2.2.1), (85, o85 q1.2.2.2.2.2.2)]) hnx  hq9) rfl rfl rfl (e_le rfl) (e_le rfl) (e_le rfl) (Nat.zero_le _) (Nat.zero_le _) (e_k ?_)
      refine r_wr0 ?_
      refine r_aload_n F dX12_round_41 rfl ?_
      refine r_get F dX12_round_42 flX12_31 rfl rfl (e_le rfl) (e_lt hnx rfl) ?_
      refine r_iconst F dX12_round_45 (v := 2) (by decide) ?_
      refine r_iald F dX12_round_46 (i := 2) h80 (e_le rfl) (e_lt hnx rfl) (e_vp (by decide)) ?_
      obtain ⟨q10, hq11, hz⟩ := e_bd hz
      have Jq10 : eRun G X 89 [some (.ref 72), some (.int q1.2.1), some (.int v5.1), some (.int (q1.2.2.1 (tn v5.1))), some (.int (q1.2.2.2.1 (tn v5.1))), none, none] [.int (e_b q10)] h [(72, o72 a72_0 a72_2 a72_3 a72_4 a72_5 a72_6 a72_7 a72_8 a72_9 a72_10 a72_11 a72_17 a72_18 a72_19 a72_21 a72_22 q1.2.1 a72_31 a72_35 a72_37 v5.2.1 v5.2.2.1 v5.2.2.2.1 a72_41 a72_44 a72_50), (79, o79 v5.2.2.2.2), (81, o81 q1.2.2.1), (82, o82 q1.2.2.2.1), (83, o83 q1.2.2.2.2.1), (84, o84 q1.2.2.2.2.2.1), (85, o85 q1.2.2.2.2.2.2)] nx 0 0 := by
        refine r_istore F dX12_round_89 (e_le rfl) (L' := [some (.ref 72), some (.int q1.2.1), some (.int v5.1), some (.int (q1.2.2.1 (tn v5.1))), some (.int (q1.2.2.2.1 (tn v5.1))), some (.int (e_b q10)), none]) rfl ?_
        refine r_iload F dX12_round_91 rfl ?_
        obtain ⟨q12, hq13, hz⟩ := e_bd hz
        have Jq12 : eRun G X 189 [some (.ref 72), some (.int q1.2.1), some (.int v5.1), none, none, none, none] [] h [(72, o72 a72_0 a72_2 a72_3 a72_4 a72_5 a72_6 a72_7 a72_8 a72_9 a72_10 a72_11 a72_17 a72_18 a72_19 a72_21 a72_22 q1.2.1 a72_31 a72_35 a72_37 q12.1 q12.2.1 q12.2.2.1 a72_41 a72_44 a72_50), (79, o79 q12.2.2.2), (81, o81 q1.2.2.1), (82, o82 q1.2.2.2.1), (83, o83 q1.2.2.2.2.1), (84, o84 q1.2.2.2.2.2.1), (85, o85 q1.2.2.2.2.2.2)] nx 0 0 := by
          refine r_inc F dX12_round_189 (k9 := 1) (by decide) rfl (L' := [some (.ref 72), some (.int q1.2.1), some (.int (v5.1 + 1)), none, none, none, none]) rfl ?_
          refine r_goto F dX12_round_192 (tgt := 12) (by decide) ?_
          obtain rfl := Option.some.inj hz
          exact ih (v5.1 + 1, q12.1, q12.2.1, q12.2.2.1, q12.2.2.2) rfl
        refine r_z_eq F dX12_round_93 (tgt := 189) (by decide) (fun hc => ?_) (fun hc => ?_)
        · have hq13 := e_t hc hq13
          refine r_aload_n F dX12_round_96 rfl ?_
          refine r_iload_n F dX12_round_97 rfl ?_
          refine r_iload F dX12_round_98 rfl ?_
          refine r_aload_n F dX12_round_100 rfl ?_
          refine r_iload_n F dX12_round_101 rfl ?_
          obtain ⟨q14, hq15, hq13⟩ := e_bd hq13
          refine r_callV F dX12_round_102 (b := 72) (dc := 0) (ds := 0) (As := [.int v5.1]) (S0 := [.int (q1.2.2.2.1 (tn v5.1)), .int (q1.2.2.1 (tn v5.1)), .ref 72]) lkX12_269 mX12_way (tX12_way_72 hG (la := x_l X) (h := e_up h [(72, o72 a72_0 a72_2 a72_3 a72_4 a72_5 a72_6 a72_7 a72_8 a72_9 a72_10 a72_11 a72_17 a72_18 a72_19 a72_21 a72_22 q1.2.1 a72_31 a72_35 a72_37 v5.2.1 v5.2.2.1 v5.2.2.2.1 a72_41 a72_44 a72_50), (79, o79 v5.2.2.2.2), (81, o81 q1.2.2.1), (82, o82 q1.2.2.2.1), (83, o83 q1.2.2.2.2.1), (84, o84 q1.2.2.2.2.2.1), (85, o85 q1.2.2.2.2.2.2)]) hnx rfl rfl rfl hq15) rfl rfl rfl (e_le rfl) (e_le rfl) (e_le rfl) rfl (ci := 12) e_cl12.1 rfl (e_le rfl) (e_lt hnx rfl) (Nat.zero_le _) (Nat.zero_le _) (e_k ?_)
          refine r_wr0 ?_
          refine r_aload_n F dX12_round_105 rfl ?_
          refine r_get F dX12_round_106 flX12_46 rfl rfl (e_le rfl) (e_lt hnx rfl) ?_
          refine r_iload_n F dX12_round_109 rfl ?_
          obtain ⟨hg, hq13⟩ := e_gd hq13
          refine r_iald F dX12_round_110 (i := v5.1) rfl (e_le rfl) (e_lt hnx rfl) (e_vp hg) ?_
          obtain ⟨q16, hq17, hq13⟩ := e_bd hq13
          have Jq16 : eRun G X 119 [some (.ref 72), some (.int q1.2.1), some (.int v5.1), none, none, none, none] [.int (e_b q16), .int q14, .int (q1.2.2.2.1 (tn v5.1)), .int (q1.2.2.1 (tn v5.1)), .ref 72] h [(72, o72 a72_0 a72_2 a72_3 a72_4 a72_5 a72_6 a72_7 a72_8 a72_9 a72_10 a72_11 a72_17 a72_18 a72_19 a72_21 a72_22 q1.2.1 a72_31 a72_35 a72_37 v5.2.1 v5.2.2.1 v5.2.2.2.1 a72_41 a72_44 a72_50), (79, o79 v5.2.2.2.2), (81, o81 q1.2.2.1), (82, o82 q1.2.2.2.1), (83, o83 q1.2.2.2.2.1), (84, o84 q1.2.2.2.2.2.1), (85, o85 q1.2.2.2.2.2.2)] nx 0 0 := by
            obtain ⟨q18, hq19, hq13⟩ := e_bd hq13
            refine r_callS F dX12_round_119 (dc := 0) (ds := 0) (As := [.int q14, .int (e_b q16)]) (S0 := [.int (q1.2.2.2.1 (tn v5.1)), .int (q1.2.2.1 (tn v5.1)), .ref 72]) lkX12_372 mX12_directionOf (tX12_directionOf hG (la := x_l X) (h := e_up h [(72, o72 a72_0 a72_2 a72_3 a72_4 a72_5 a72_6 a72_7 a72_8 a72_9 a72_10 a72_11 a72_17 a72_18 a72_19 a72_21 a72_22 q1.2.1 a72_31 a72_35 a72_37 v5.2.1 v5.2.2.1 v5.2.2.2.1 a72_41 a72_44 a72_50), (79, o79 v5.2.2.2.2), (81, o81 q1.2.2.1), (82, o82 q1.2.2.2.1), (83, o83 q1.2.2.2.2.1), (84, o84 q1.2.2.2.2.2.1), (85, o85 q1.2.2.2.2.2.2)]) hnx  hq19) rfl rfl rfl (e_le rfl) (e_le rfl) (e_le rfl) (Nat.zero_le _) (Nat.zero_le _) (e_k ?_)
            refine r_wr0 ?_
            refine r_aload_n F dX12_round_122 rfl ?_
            refine r_get F dX12_round_123 flX12_40 rfl rfl (e_le rfl) (e_lt hnx rfl) ?_
            refine r_iload_n F dX12_round_126 rfl ?_
            obtain ⟨hg, hq13⟩ := e_gd hq13
            refine r_iald F dX12_round_127 (i := v5.1) rfl (e_le rfl) (e_lt hnx rfl) (e_vp hg) ?_
            refine r_aload_n F dX12_round_128 rfl ?_
            refine r_get F dX12_round_129 flX12_43 rfl rfl (e_le rfl) (e_lt hnx rfl) ?_
            refine r_iload_n F dX12_round_132 rfl ?_
            obtain ⟨hg, hq13⟩ := e_gd hq13
            refine r_iald F dX12_round_133 (i := v5.1) rfl (e_le rfl) (e_lt hnx rfl) (e_vp hg) ?_
            obtain ⟨q20, hq21, hq13⟩ := e_bd hq13
            refine r_callV F dX12_round_134 (b := 72) (dc := 0) (ds := 0) (As := [.int (q1.2.2.1 (tn v5.1)), .int (q1.2.2.2.1 (tn v5.1)), .int q18, .int (q1.2.2.2.2.1 (tn v5.1)), .int (q1.2.2.2.2.2.1 (tn v5.1))]) (S0 := []) lkX12_367 mX12_moves (tX12_moves_72 hG (la := x_l X) (h := e_up h [(72, o72 a72_0 a72_2 a72_3 a72_4 a72_5 a72_6 a72_7 a72_8 a72_9 a72_10 a72_11 a72_17 a72_18 a72_19 a72_21 a72_22 q1.2.1 a72_31 a72_35 a72_37 v5.2.1 v5.2.2.1 v5.2.2.2.1 a72_41 a72_44 a72_50), (79, o79 v5.2.2.2.2), (81, o81 q1.2.2.1), (82, o82 q1.2.2.2.1), (83, o83 q1.2.2.2.2.1), (84, o84 q1.2.2.2.2.2.1), (85, o85 q1.2.2.2.2.2.2)]) hnx rfl rfl hq21) rfl rfl rfl (e_le rfl) (e_le rfl) (e_le rfl) rfl (ci := 12) e_cl12.1 rfl (e_le rfl) (e_lt hnx rfl) (Nat.zero_le _) (Nat.zero_le _) (e_k ?_)
            refine r_wr (l' := [(72, o72 a72_0 a72_2 a72_3 a72_4 a72_5 a72_6 a72_7 a72_8 a72_9 a72_10 a72_11 a72_17 a72_18 a72_19 a72_21 a72_22 q1.2.1 a72_31 a72_35 a72_37 v5.2.1 v5.2.2.1 v5.2.2.2.1 a72_41 a72_44 a72_50), (79, o79 q20.2), (81, o81 q1.2.2.1), (82, o82 q1.2.2.2.1), (83, o83 q1.2.2.2.2.1), (84, o84 q1.2.2.2.2.2.1), (85, o85 q1.2.2.2.2.2.2)]) rfl rfl ?_
            refine r_istore F dX12_round_137 (e_le rfl) (L' := [some (.ref 72), some (.int q1.2.1), some (.int v5.1), none, none, none, some (.int q20.1)]) rfl ?_
            refine r_aload_n F dX12_round_139 rfl ?_
            refine r_dup F dX12_round_140 rfl ?_
            refine r_get F dX12_round_141 flX12_376 rfl rfl (e_le rfl) (e_lt hnx rfl) ?_
            refine r_iconst F dX12_round_144 (v := 1) (by decide) ?_
            refine r_iadd F dX12_round_145 ?_
            refine r_put F dX12_round_146 flX12_376 rfl rfl rfl rfl (e_le rfl) (e_le rfl) (e_lt hnx rfl) (l' := [(72, o72 a72_0 a72_2 a72_3 a72_4 a72_5 a72_6 a72_7 a72_8 a72_9 a72_10 a72_11 a72_17 a72_18 a72_19 a72_21 a72_22 q1.2.1 a72_31 a72_35 a72_37 (v5.2.1 + 1) v5.2.2.1 v5.2.2.2.1 a72_41 a72_44 a72_50), (79, o79 q20.2), (81, o81 q1.2.2.1), (82, o82 q1.2.2.2.1), (83, o83 q1.2.2.2.2.1), (84, o84 q1.2.2.2.2.2.1), (85, o85 q1.2.2.2.2.2.2)]) rfl ?_
            refine r_aload_n F dX12_round_149 rfl ?_
            refine r_dup F dX12_round_150 rfl ?_
            refine r_get F dX12_round_151 flX12_379 rfl rfl (e_le rfl) (e_lt hnx rfl) ?_
            refine r_iload F dX12_round_154 rfl ?_
            refine r_iconst F dX12_round_156 (v := 2) (by decide) ?_
            obtain ⟨q22, hq23, hq13⟩ := e_bd hq13
            have Jq22 : eRun G X 165 [some (.ref 72), some (.int q1.2.1), some (.int v5.1), none, none, none, some (.int q20.1)] [.int (e_b q22), .int v5.2.2.1, .ref 72] h [(72, o72 a72_0 a72_2 a72_3 a72_4 a72_5 a72_6 a72_7 a72_8 a72_9 a72_10 a72_11 a72_17 a72_18 a72_19 a72_21 a72_22 q1.2.1 a72_31 a72_35 a72_37 (v5.2.1 + 1) v5.2.2.1 v5.2.2.2.1 a72_41 a72_44 a72_50), (79, o79 q20.2), (81, o81 q1.2.2.1), (82, o82 q1.2.2.2.1), (83, o83 q1.2.2.2.2.1), (84, o84 q1.2.2.2.2.2.1), (85, o85 q1.2.2.2.2.2.2)] nx 0 0 := by
              refine r_iadd F dX12_round_165 ?_
              refine r_put F dX12_round_166 flX12_379 rfl rfl rfl rfl (e_le rfl) (e_le rfl) (e_lt hnx rfl) (l' := [(72, o72 a72_0 a72_2 a72_3 a72_4 a72_5 a72_6 a72_7 a72_8 a72_9 a72_10 a72_11 a72_17 a72_18 a72_19 a72_21 a72_22 q1.2.1 a72_31 a72_35 a72_37 (v5.2.1 + 1) (v5.2.2.1 + (e_b q22)) v5.2.2.2.1 a72_41 a72_44 a72_50), (79, o79 q20.2), (81, o81 q1.2.2.1), (82, o82 q1.2.2.2.1), (83, o83 q1.2.2.2.2.1), (84, o84 q1.2.2.2.2.2.1), (85, o85 q1.2.2.2.2.2.2)]) rfl ?_
              refine r_aload_n F dX12_round_169 rfl ?_
              refine r_dup F dX12_round_170 rfl ?_
              refine r_get F dX12_round_171 flX12_382 rfl rfl (e_le rfl) (e_lt hnx rfl) ?_
              refine r_iload F dX12_round_174 rfl ?_
              refine r_iconst F dX12_round_176 (v := 3) (by decide) ?_
              obtain ⟨q24, hq25, hq13⟩ := e_bd hq13
              have Jq24 : eRun G X 185 [some (.ref 72), some (.int q1.2.1), some (.int v5.1), none, none, none, none] [.int (e_b q24), .int v5.2.2.2.1, .ref 72] h [(72, o72 a72_0 a72_2 a72_3 a72_4 a72_5 a72_6 a72_7 a72_8 a72_9 a72_10 a72_11 a72_17 a72_18 a72_19 a72_21 a72_22 q1.2.1 a72_31 a72_35 a72_37 (v5.2.1 + 1) (v5.2.2.1 + (e_b q22)) v5.2.2.2.1 a72_41 a72_44 a72_50), (79, o79 q20.2), (81, o81 q1.2.2.1), (82, o82 q1.2.2.2.1), (83, o83 q1.2.2.2.2.1), (84, o84 q1.2.2.2.2.2.1), (85, o85 q1.2.2.2.2.2.2)] nx 0 0 := by
                refine r_iadd F dX12_round_185 ?_
                refine r_put F dX12_round_186 flX12_382 rfl rfl rfl rfl (e_le rfl) (e_le rfl) (e_lt hnx rfl) (l' := [(72, o72 a72_0 a72_2 a72_3 a72_4 a72_5 a72_6 a72_7 a72_8 a72_9 a72_10 a72_11 a72_17 a72_18 a72_19 a72_21 a72_22 q1.2.1 a72_31 a72_35 a72_37 (v5.2.1 + 1) (v5.2.2.1 + (e_b q22)) (v5.2.2.2.1 + (e_b q24)) a72_41 a72_44 a72_50), (79, o79 q20.2), (81, o81 q1.2.2.1), (82, o82 q1.2.2.2.1), (83, o83 q1.2.2.2.2.1), (84, o84 q1.2.2.2.2.2.1), (85, o85 q1.2.2.2.2.2.2)]) rfl ?_
                obtain rfl := Option.some.inj hq13
                exact Jq12
              refine r_icmp_ne F dX12_round_177 (tgt := 184) (by decide) (fun hc => ?_) (fun hc => ?_)
              · have hq25 := e_f hc hq25
                refine r_iconst F dX12_round_184 (v := 0) (by decide) ?_
                refine r_drop 6 (L' := [some (.ref 72), some (.int q1.2.1), some (.int v5.1), none, none, none, none]) rfl ?_
                obtain rfl := Option.some.inj hq25
                exact Jq24
              · have hq25 := e_t hc hq25
                refine r_iconst F dX12_round_180 (v := 1) (by decide) ?_
                refine r_goto F dX12_round_181 (tgt := 185) (by decide) ?_
                refine r_drop 6 (L' := [some (.ref 72), some (.int q1.2.1), some (.int v5.1), none, none, none, none]) rfl ?_
                obtain rfl := Option.some.inj hq25
                exact Jq24
            refine r_icmp_ne F dX12_round_157 (tgt := 164) (by decide) (fun hc => ?_) (fun hc => ?_)
            · have hq23 := e_f hc hq23
              refine r_iconst F dX12_round_164 (v := 0) (by decide) ?_
              obtain rfl := Option.some.inj hq23
              exact Jq22
            · have hq23 := e_t hc hq23
              refine r_iconst F dX12_round_160 (v := 1) (by decide) ?_
              refine r_goto F dX12_round_161 (tgt := 165) (by decide) ?_
              obtain rfl := Option.some.inj hq23
              exact Jq22
          refine r_if_le F dX12_round_111 (tgt := 118) (by decide) (fun hc => ?_) (fun hc => ?_)
          · have hq17 := e_t hc hq17
            refine r_iconst F dX12_round_118 (v := 0) (by decide) ?_
            refine r_drop 3 (L' := [some (.ref 72), some (.int q1.2.1), some (.int v5.1), none, some (.int (q1.2.2.2.1 (tn v5.1))), some (.int (e_b q10)), none]) rfl ?_
            refine r_drop 4 (L' := [some (.ref 72), some (.int q1.2.1), some (.int v5.1), none, none, some (.int (e_b q10)), none]) rfl ?_
            refine r_drop 5 (L' := [some (.ref 72), some (.int q1.2.1), some (.int v5.1), none, none, none, none]) rfl ?_
            obtain rfl := Option.some.inj hq17
            exact Jq16
          · have hq17 := e_f hc hq17
            refine r_iconst F dX12_round_114 (v := 1) (by decide) ?_
            refine r_goto F dX12_round_115 (tgt := 119) (by decide) ?_
            refine r_drop 3 (L' := [some (.ref 72), some (.int q1.2.1), some (.int v5.1), none, some (.int (q1.2.2.2.1 (tn v5.1))), some (.int (e_b q10)), none]) rfl ?_
            refine r_drop 4 (L' := [some (.ref 72), some (.int q1.2.1), some (.int v5.1), none, none, some (.int (e_b q10)), none]) rfl ?_
            refine r_drop 5 (L' := [some (.ref 72), some (.int q1.2.1), some (.int v5.1), none, none, none, none]) rfl ?_
            obtain rfl := Option.some.inj hq17
            exact Jq16
        · have hq13 := e_f hc hq13
          refine r_drop 3 (L' := [some (.ref 72), some (.int q1.2.1), some (.int v5.1), none, some (.int (q1.2.2.2.1 (tn v5.1))), some (.int (e_b q10)), none]) rfl ?_
          refine r_drop 4 (L' := [some (.ref 72), some (.int q1.2.1), some (.int v5.1), none, none, some (.int (e_b q10)), none]) rfl ?_
          refine r_drop 5 (L' := [some (.ref 72), some (.int q1.2.1), some (.int v5.1), none, none, none, none]) rfl ?_
          obtain rfl := Option.some.inj hq13
          exact Jq12
      refine r_icmp_le F dX12_round_47 (tgt := 88) (by decide) (fun hc => ?_) (fun hc => ?_)
      · have hq11 := e_t hc hq11
        refine r_iconst F dX12_round_88 (v := 0) (by decide) ?_
        obtain rfl := Option.some.inj hq11
        exact Jq10
      · have hq11 := e_f hc hq11
        refine r_aload_n F dX12_round_50 rfl ?_
        refine r_iload_n F dX12_round_51 rfl ?_
        refine r_iload F dX12_round_52 rfl ?_
        refine r_iconst F dX12_round_54 (v := 0) (by decide) ?_
        obtain ⟨q26, hq27, hq11⟩ := e_bd hq11
        refine r_callV F dX12_round_55 (b := 72) (dc := 0) (ds := 0) (As := [.int (q1.2.2.1 (tn v5.1)), .int (q1.2.2.2.1 (tn v5.1)), .int 0]) (S0 := []) lkX12_221 mX12_vector (tX12_vector_72 hG (la := x_l X) (h := e_up h [(72, o72 a72_0 a72_2 a72_3 a72_4 a72_5 a72_6 a72_7 a72_8 a72_9 a72_10 a72_11 a72_17 a72_18 a72_19 a72_21 a72_22 q1.2.1 a72_31 a72_35 a72_37 v5.2.1 v5.2.2.1 v5.2.2.2.1 a72_41 a72_44 a72_50), (79, o79 v5.2.2.2.2), (81, o81 q1.2.2.1), (82, o82 q1.2.2.2.1), (83, o83 q1.2.2.2.2.1), (84, o84 q1.2.2.2.2.2.1), (85, o85 q1.2.2.2.2.2.2)]) hnx rfl rfl hq27) rfl rfl rfl (e_le rfl) (e_le rfl) (e_le rfl) rfl (ci := 12) e_cl12.1 rfl (e_le rfl) (e_lt hnx rfl) (Nat.zero_le _) (Nat.zero_le _) (e_k ?_)
        refine r_wr0 ?_
        refine r_aload_n F dX12_round_58 rfl ?_
        refine r_get F dX12_round_59 flX12_40 rfl rfl (e_le rfl) (e_lt hnx rfl) ?_
        refine r_iload_n F dX12_round_62 rfl ?_
        obtain ⟨hg, hq11⟩ := e_gd hq11
        refine r_iald F dX12_round_63 (i := v5.1) rfl (e_le rfl) (e_lt hnx rfl) (e_vp hg) ?_
        refine r_icmp_ne F dX12_round_64 (tgt := 88) (by decide) (fun hc => ?_) (fun hc => ?_)
        · have hq11 := e_f hc hq11
          refine r_iconst F dX12_round_88 (v := 0) (by decide) ?_
          obtain rfl := Option.some.inj hq11
          exact Jq10
        · have hq11 := e_t hc hq11
          refine r_aload_n F dX12_round_67 rfl ?_
          refine r_iload_n F dX12_round_68 rfl ?_
          refine r_iload F dX12_round_69 rfl ?_
          refine r_iconst F dX12_round_71 (v := 1) (by decide) ?_
          obtain ⟨q28, hq29, hq11⟩ := e_bd hq11
          refine r_callV F dX12_round_72 (b := 72) (dc := 0) (ds := 0) (As := [.int (q1.2.2.1 (tn v5.1)), .int (q1.2.2.2.1 (tn v5.1)), .int 1]) (S0 := []) lkX12_221 mX12_vector (tX12_vector_72 hG (la := x_l X) (h := e_up h [(72, o72 a72_0 a72_2 a72_3 a72_4 a72_5 a72_6 a72_7 a72_8 a72_9 a72_10 a72_11 a72_17 a72_18 a72_19 a72_21 a72_22 q1.2.1 a72_31 a72_35 a72_37 v5.2.1 v5.2.2.1 v5.2.2.2.1 a72_41 a72_44 a72_50), (79, o79 v5.2.2.2.2), (81, o81 q1.2.2.1), (82, o82 q1.2.2.2.1), (83, o83 q1.2.2.2.2.1), (84, o84 q1.2.2.2.2.2.1), (85, o85 q1.2.2.2.2.2.2)]) hnx rfl rfl hq29) rfl rfl rfl (e_le rfl) (e_le rfl) (e_le rfl) rfl (ci := 12) e_cl12.1 rfl (e_le rfl) (e_lt hnx rfl) (Nat.zero_le _) (Nat.zero_le _) (e_k ?_)
          refine r_wr0 ?_
          refine r_aload_n F dX12_round_75 rfl ?_
          refine r_get F dX12_round_76 flX12_43 rfl rfl (e_le rfl) (e_lt hnx rfl) ?_
          refine r_iload_n F dX12_round_79 rfl ?_
          obtain ⟨hg, hq11⟩ := e_gd hq11
          refine r_iald F dX12_round_80 (i := v5.1) rfl (e_le rfl) (e_lt hnx rfl) (e_vp hg) ?_
          refine r_icmp_ne F dX12_round_81 (tgt := 88) (by decide) (fun hc => ?_) (fun hc => ?_)
          · have hq11 := e_f hc hq11
            refine r_iconst F dX12_round_88 (v := 0) (by decide) ?_
            obtain rfl := Option.some.inj hq11
            exact Jq10
          · have hq11 := e_t hc hq11
            refine r_iconst F dX12_round_84 (v := 1) (by decide) ?_
            refine r_goto F dX12_round_85 (tgt := 89) (by decide) ?_
            obtain rfl := Option.some.inj hq11
            exact Jq10
  · show eRun G X 195 [some (.ref 72), none, none, none, none, none, none] [] h [(72, o72 a72_0 a72_2 a72_3 a72_4 a72_5 a72_6 a72_7 a72_8 a72_9 a72_10 a72_11 a72_17 a72_18 a72_19 a72_21 a72_22 q1.2.1 a72_31 a72_35 a72_37 x6.1 x6.2.1 x6.2.2.1 a72_41 a72_44 a72_50), (79, o79 x6.2.2.2), (81, o81 q1.2.2.1), (82, o82 q1.2.2.2.1), (83, o83 q1.2.2.2.2.1), (84, o84 q1.2.2.2.2.2.1), (85, o85 q1.2.2.2.2.2.2)] nx 0 0
    refine r_aload_n F dX12_round_195 rfl ?_
    refine r_get F dX12_round_196 flX12_28 rfl rfl (e_le rfl) (e_lt hnx rfl) ?_
    refine r_sipush F dX12_round_199 (v := 325) (by decide) ?_
    refine r_dup2 F dX12_round_202 rfl rfl ?_
    refine r_iald F dX12_round_203 (i := 325) rfl (e_le rfl) (e_lt hnx rfl) (e_vp (by decide)) ?_
    refine r_iconst F dX12_round_204 (v := 1) (by decide) ?_
    refine r_iadd F dX12_round_205 ?_
    refine r_iast F dX12_round_206 rfl (e_le rfl) (e_lt hnx rfl) (e_vp (by decide)) (l' := [(72, o72 a72_0 a72_2 a72_3 a72_4 a72_5 a72_6 a72_7 a72_8 a72_9 a72_10 a72_11 a72_17 a72_18 a72_19 a72_21 a72_22 q1.2.1 a72_31 a72_35 a72_37 x6.1 x6.2.1 x6.2.2.1 a72_41 a72_44 a72_50), (79, o79 (upd x6.2.2.2 (tn 325) ((x6.2.2.2 (tn 325)) + 1))), (81, o81 q1.2.2.1), (82, o82 q1.2.2.2.1), (83, o83 q1.2.2.2.2.1), (84, o84 q1.2.2.2.2.2.1), (85, o85 q1.2.2.2.2.2.2)]) rfl ?_
    obtain rfl := Option.some.inj hf
    exact r_vret F hq dX12_round_207 rfl rfl (Nat.le_refl _) (Nat.le_refl _) ⟨rfl, rfl⟩

def fX12_squareApart (A81 : Nat → Int32) (A82 : Nat → Int32) (p0 : Int32) (p1 : Int32) : Option (Int32) :=
  e_g (e_in p0 64) (
  e_g (e_in p1 64) (
  e_g (e_in p0 64) (
  e_g (e_in p1 64) (
  some ((((A81 (tn p0)) - (A81 (tn p1))) * ((A81 (tn p0)) - (A81 (tn p1)))) + (((A82 (tn p0)) - (A82 (tn p1))) * ((A82 (tn p0)) - (A82 (tn p1)))))))))
set_option maxRecDepth 100000 in
theorem tX12_squareApart_72 {G : eG} (hG : e_GS G) {la : Launch} {h : Nat → eO} {nx : Nat} (hnx : 99 ≤ nx) {a72_0 : Int32} {a72_2 : Int32} {a72_3 : Int32} {a72_4 : Int32} {a72_5 : Int32} {a72_6 : Int32} {a72_7 : Int32} {a72_8 : Bool} {a72_9 : Int32} {a72_10 : Int32} {a72_11 : Int32} {a72_17 : Bool} {a72_18 : Bool} {a72_19 : Bool} {a72_21 : Int32} {a72_22 : Int32} {a72_29 : Int32} {a72_31 : Int32} {a72_35 : Int32} {a72_37 : Bool} {a72_38 : Int32} {a72_39 : Int32} {a72_40 : Int32} {a72_41 : Int64} {a72_44 : Int32} {a72_50 : Bool} {A81 : Nat → Int32} {A82 : Nat → Int32} {p0 : Int32} {p1 : Int32} (h72 : h 72 = o72 a72_0 a72_2 a72_3 a72_4 a72_5 a72_6 a72_7 a72_8 a72_9 a72_10 a72_11 a72_17 a72_18 a72_19 a72_21 a72_22 a72_29 a72_31 a72_35 a72_37 a72_38 a72_39 a72_40 a72_41 a72_44 a72_50) (h81 : h 81 = o81 A81) (h82 : h 82 = o82 A82) {R9 : Int32} (hf : fX12_squareApart A81 A82 p0 p1 = some R9) :
    eSem G la MX12_squareApart [.ref 72, .int p0, .int p1] h nx 0 0 (fun r9 h9 => r9 = some (.int R9) ∧ h9 = h) := by
  refine eSem.of (k := 2) (L := [some (.ref 72), some (.int p0), some (.int p1), none, none]) (by decide +kernel) rfl rfl (fun X F hxl hq hcR hsR => ?_)
  subst hxl
  unfold fX12_squareApart at hf
  refine r_aload_n F dX12_squareApart_0 rfl ?_
  refine r_get F dX12_squareApart_1 flX12_34 h72 rfl (e_le rfl) (e_lt hnx rfl) ?_
  refine r_iload_n F dX12_squareApart_4 rfl ?_
  obtain ⟨hg, hf⟩ := e_gd hf
  refine r_iald F dX12_squareApart_5 (i := p0) h81 (e_le rfl) (e_lt hnx rfl) (e_vp hg) ?_
  refine r_aload_n F dX12_squareApart_6 rfl ?_
  refine r_get F dX12_squareApart_7 flX12_34 h72 rfl (e_le rfl) (e_lt hnx rfl) ?_
  refine r_iload_n F dX12_squareApart_10 rfl ?_
  obtain ⟨hg, hf⟩ := e_gd hf
  refine r_iald F dX12_squareApart_11 (i := p1) h81 (e_le rfl) (e_lt hnx rfl) (e_vp hg) ?_
  refine r_isub F dX12_squareApart_12 ?_
  refine r_istore_n F dX12_squareApart_13 (e_le rfl) (L' := [some (.ref 72), some (.int p0), some (.int p1), some (.int ((A81 (tn p0)) - (A81 (tn p1)))), none]) rfl ?_
  refine r_aload_n F dX12_squareApart_14 rfl ?_
  refine r_get F dX12_squareApart_15 flX12_37 h72 rfl (e_le rfl) (e_lt hnx rfl) ?_
  refine r_iload_n F dX12_squareApart_18 rfl ?_
  obtain ⟨hg, hf⟩ := e_gd hf
  refine r_iald F dX12_squareApart_19 (i := p0) h82 (e_le rfl) (e_lt hnx rfl) (e_vp hg) ?_
  refine r_aload_n F dX12_squareApart_20 rfl ?_
  refine r_get F dX12_squareApart_21 flX12_37 h72 rfl (e_le rfl) (e_lt hnx rfl) ?_
  refine r_iload_n F dX12_squareApart_24 rfl ?_
  obtain ⟨hg, hf⟩ := e_gd hf
  refine r_iald F dX12_squareApart_25 (i := p1) h82 (e_le rfl) (e_lt hnx rfl) (e_vp hg) ?_
  refine r_isub F dX12_squareApart_26 ?_
  refine r_istore F dX12_squareApart_27 (e_le rfl) (L' := [some (.ref 72), some (.int p0), some (.int p1), some (.int ((A81 (tn p0)) - (A81 (tn p1)))), some (.int ((A82 (tn p0)) - (A82 (tn p1))))]) rfl ?_
  refine r_iload_n F dX12_squareApart_29 rfl ?_
  refine r_iload_n F dX12_squareApart_30 rfl ?_
  refine r_imul F dX12_squareApart_31 ?_
  refine r_iload F dX12_squareApart_32 rfl ?_
  refine r_iload F dX12_squareApart_34 rfl ?_
  refine r_imul F dX12_squareApart_36 ?_
  refine r_iadd F dX12_squareApart_37 ?_
  obtain rfl := Option.some.inj hf
  exact r_iret F hq dX12_squareApart_38 rfl rfl (Nat.le_refl _) (Nat.le_refl _) ⟨rfl, rfl⟩

def fX12_energy (a72_29 : Int32) (A81 : Nat → Int32) (A82 : Nat → Int32) (A83 : Nat → Int32) (A84 : Nat → Int32)  : Option (Int32) :=
  (e_loop (fun (v3 : Int32 × Int32) => (
      if a72_29 ≤ v3.2 then
        some (.inr v3.1)
      else
        e_g (e_in v3.2 64) (
        e_g (e_in v3.2 64) (
        e_g (e_in v3.2 64) (
        e_g (e_in v3.2 64) (
        (e_loop (fun (v7 : Int32 × Int32) => (
            if a72_29 ≤ v7.2 then
              some (.inr v7.1)
            else
              e_g (e_in v3.2 64) (
              e_g (e_in v7.2 64) (
              e_g (e_in v3.2 64) (
              e_g (e_in v7.2 64) (
              (fX12_squareApart A81 A82 v3.2 v7.2).bind (fun q10 =>
              e_g (e_nz q10) (
              some (.inl (v7.1 + (((100 : Int32) * (((A83 (tn v3.2)) * (A83 (tn v7.2))) + ((A84 (tn v3.2)) * (A84 (tn v7.2))))) / q10), v7.2 + 1)))))))) : Option ((Int32 × Int32) ⊕ (Int32)))) e_fuel (v3.1 + ((50 : Int32) * (((A83 (tn v3.2)) * (A83 (tn v3.2))) + ((A84 (tn v3.2)) * (A84 (tn v3.2))))), v3.2 + 1)).bind (fun x8 =>
        some (.inl (x8, v3.2 + 1))))))) : Option ((Int32 × Int32) ⊕ (Int32)))) e_fuel (0, 0)).bind (fun x4 =>
  some x4)
set_option maxRecDepth 100000 in
theorem tX12_energy_72 {G : eG} (hG : e_GS G) {la : Launch} {h : Nat → eO} {nx : Nat} (hnx : 99 ≤ nx) {a72_0 : Int32} {a72_2 : Int32} {a72_3 : Int32} {a72_4 : Int32} {a72_5 : Int32} {a72_6 : Int32} {a72_7 : Int32} {a72_8 : Bool} {a72_9 : Int32} {a72_10 : Int32} {a72_11 : Int32} {a72_17 : Bool} {a72_18 : Bool} {a72_19 : Bool} {a72_21 : Int32} {a72_22 : Int32} {a72_29 : Int32} {a72_31 : Int32} {a72_35 : Int32} {a72_37 : Bool} {a72_38 : Int32} {a72_39 : Int32} {a72_40 : Int32} {a72_41 : Int64} {a72_44 : Int32} {a72_50 : Bool} {A81 : Nat → Int32} {A82 : Nat → Int32} {A83 : Nat → Int32} {A84 : Nat → Int32}  (h72 : h 72 = o72 a72_0 a72_2 a72_3 a72_4 a72_5 a72_6 a72_7 a72_8 a72_9 a72_10 a72_11 a72_17 a72_18 a72_19 a72_21 a72_22 a72_29 a72_31 a72_35 a72_37 a72_38 a72_39 a72_40 a72_41 a72_44 a72_50) (h81 : h 81 = o81 A81) (h82 : h 82 = o82 A82) (h83 : h 83 = o83 A83) (h84 : h 84 = o84 A84) {R9 : Int32} (hf : fX12_energy a72_29 A81 A82 A83 A84  = some R9) :
    eSem G la MX12_energy [.ref 72] h nx 0 0 (fun r9 h9 => r9 = some (.int R9) ∧ h9 = h) := by
  refine eSem.of (k := 3) (L := [some (.ref 72), none, none, none]) (by decide +kernel) rfl rfl (fun X F hxl hq hcR hsR => ?_)
  subst hxl
  unfold fX12_energy at hf
  refine r_iconst F dX12_energy_0 (v := 0) (by decide) ?_
  refine r_istore_n F dX12_energy_1 (e_le rfl) (L' := [some (.ref 72), some (.int 0), none, none]) rfl ?_
  refine r_iconst F dX12_energy_2 (v := 0) (by decide) ?_
  refine r_istore_n F dX12_energy_3 (e_le rfl) (L' := [some (.ref 72), some (.int 0), some (.int 0), none]) rfl ?_
  obtain ⟨x4, hx5, hf⟩ := e_bd hf
  refine (e_loop_ok (P := fun (v3 : Int32 × Int32) => eRun G X 4 [some (.ref 72), some (.int v3.1), some (.int v3.2), none] [] h [] nx 0 0) (K := fun (x4 : Int32) => eRun G X 109 [none, some (.int x4), none, none] [] h [] nx 0 0) ?_ e_fuel (0, 0) x4 hx5 ?_ : _)
  · intro v3 z hz ih hx
    refine r_iload_n F dX12_energy_4 rfl ?_
    refine r_aload_n F dX12_energy_5 rfl ?_
    refine r_get F dX12_energy_6 flX12_241 h72 rfl (e_le rfl) (e_lt hnx rfl) ?_
    refine r_icmp_ge F dX12_energy_9 (tgt := 109) (by decide) (fun hc => ?_) (fun hc => ?_)
    · have hz := e_t hc hz
      refine r_drop 0 (L' := [none, some (.int v3.1), some (.int v3.2), none]) rfl ?_
      refine r_drop 2 (L' := [none, some (.int v3.1), none, none]) rfl ?_
      obtain rfl := Option.some.inj hz
      exact hx v3.1 rfl
    · have hz := e_f hc hz
      refine r_iload_n F dX12_energy_12 rfl ?_
      refine r_bipush F dX12_energy_13 (v := 50) (by decide) ?_
      refine r_aload_n F dX12_energy_15 rfl ?_
      refine r_get F dX12_energy_16 flX12_40 h72 rfl (e_le rfl) (e_lt hnx rfl) ?_
      refine r_iload_n F dX12_energy_19 rfl ?_
      obtain ⟨hg, hz⟩ := e_gd hz
      refine r_iald F dX12_energy_20 (i := v3.2) h83 (e_le rfl) (e_lt hnx rfl) (e_vp hg) ?_
      refine r_aload_n F dX12_energy_21 rfl ?_
      refine r_get F dX12_energy_22 flX12_40 h72 rfl (e_le rfl) (e_lt hnx rfl) ?_
      refine r_iload_n F dX12_energy_25 rfl ?_
      obtain ⟨hg, hz⟩ := e_gd hz
      refine r_iald F dX12_energy_26 (i := v3.2) h83 (e_le rfl) (e_lt hnx rfl) (e_vp hg) ?_
      refine r_imul F dX12_energy_27 ?_
      refine r_aload_n F dX12_energy_28 rfl ?_
      refine r_get F dX12_energy_29 flX12_43 h72 rfl (e_le rfl) (e_lt hnx rfl) ?_
      refine r_iload_n F dX12_energy_32 rfl ?_
      obtain ⟨hg, hz⟩ := e_gd hz
      refine r_iald F dX12_energy_33 (i := v3.2) h84 (e_le rfl) (e_lt hnx rfl) (e_vp hg) ?_
      refine r_aload_n F dX12_energy_34 rfl ?_
      refine r_get F dX12_energy_35 flX12_43 h72 rfl (e_le rfl) (e_lt hnx rfl) ?_
      refine r_iload_n F dX12_energy_38 rfl ?_
      obtain ⟨hg, hz⟩ := e_gd hz
      refine r_iald F dX12_energy_39 (i := v3.2) h84 (e_le rfl) (e_lt hnx rfl) (e_vp hg) ?_
      refine r_imul F dX12_energy_40 ?_
      refine r_iadd F dX12_energy_41 ?_
      refine r_imul F dX12_energy_42 ?_
      refine r_iadd F dX12_energy_43 ?_
      refine r_istore_n F dX12_energy_44 (e_le rfl) (L' := [some (.ref 72), some (.int (v3.1 + ((50 : Int32) * (((A83 (tn v3.2)) * (A83 (tn v3.2))) + ((A84 (tn v3.2)) * (A84 (tn v3.2))))))), some (.int v3.2), none]) rfl ?_
      refine r_iload_n F dX12_energy_45 rfl ?_
      refine r_iconst F dX12_energy_46 (v := 1) (by decide) ?_
      refine r_iadd F dX12_energy_47 ?_
      refine r_istore_n F dX12_energy_48 (e_le rfl) (L' := [some (.ref 72), some (.int (v3.1 + ((50 : Int32) * (((A83 (tn v3.2)) * (A83 (tn v3.2))) + ((A84 (tn v3.2)) * (A84 (tn v3.2))))))), some (.int v3.2), some (.int (v3.2 + 1))]) rfl ?_
      obtain ⟨x8, hx9, hz⟩ := e_bd hz
      refine (e_loop_ok (P := fun (v7 : Int32 × Int32) => eRun G X 49 [some (.ref 72), some (.int v7.1), some (.int v3.2), some (.int v7.2)] [] h [] nx 0 0) (K := fun (x8 : Int32) => eRun G X 103 [some (.ref 72), some (.int x8), some (.int v3.2), none] [] h [] nx 0 0) ?_ e_fuel (v3.1 + ((50 : Int32) * (((A83 (tn v3.2)) * (A83 (tn v3.2))) + ((A84 (tn v3.2)) * (A84 (tn v3.2))))), v3.2 + 1) x8 hx9 ?_ : _)
      · intro v7 z hz ih hx
        refine r_iload_n F dX12_energy_49 rfl ?_
        refine r_aload_n F dX12_energy_50 rfl ?_
        refine r_get F dX12_energy_51 flX12_241 h72 rfl (e_le rfl) (e_lt hnx rfl) ?_
        refine r_icmp_ge F dX12_energy_54 (tgt := 103) (by decide) (fun hc => ?_) (fun hc => ?_)
        · have hz := e_t hc hz
          refine r_drop 3 (L' := [some (.ref 72), some (.int v7.1), some (.int v3.2), none]) rfl ?_
          obtain rfl := Option.some.inj hz
          exact hx v7.1 rfl
        · have hz := e_f hc hz
          refine r_iload_n F dX12_energy_57 rfl ?_
          refine r_bipush F dX12_energy_58 (v := 100) (by decide) ?_
          refine r_aload_n F dX12_energy_60 rfl ?_
          refine r_get F dX12_energy_61 flX12_40 h72 rfl (e_le rfl) (e_lt hnx rfl) ?_
          refine r_iload_n F dX12_energy_64 rfl ?_
          obtain ⟨hg, hz⟩ := e_gd hz
          refine r_iald F dX12_energy_65 (i := v3.2) h83 (e_le rfl) (e_lt hnx rfl) (e_vp hg) ?_
          refine r_aload_n F dX12_energy_66 rfl ?_
          refine r_get F dX12_energy_67 flX12_40 h72 rfl (e_le rfl) (e_lt hnx rfl) ?_
          refine r_iload_n F dX12_energy_70 rfl ?_
          obtain ⟨hg, hz⟩ := e_gd hz
          refine r_iald F dX12_energy_71 (i := v7.2) h83 (e_le rfl) (e_lt hnx rfl) (e_vp hg) ?_
          refine r_imul F dX12_energy_72 ?_
          refine r_aload_n F dX12_energy_73 rfl ?_
          refine r_get F dX12_energy_74 flX12_43 h72 rfl (e_le rfl) (e_lt hnx rfl) ?_
          refine r_iload_n F dX12_energy_77 rfl ?_
          obtain ⟨hg, hz⟩ := e_gd hz
          refine r_iald F dX12_energy_78 (i := v3.2) h84 (e_le rfl) (e_lt hnx rfl) (e_vp hg) ?_
          refine r_aload_n F dX12_energy_79 rfl ?_
          refine r_get F dX12_energy_80 flX12_43 h72 rfl (e_le rfl) (e_lt hnx rfl) ?_
          refine r_iload_n F dX12_energy_83 rfl ?_
          obtain ⟨hg, hz⟩ := e_gd hz
          refine r_iald F dX12_energy_84 (i := v7.2) h84 (e_le rfl) (e_lt hnx rfl) (e_vp hg) ?_
          refine r_imul F dX12_energy_85 ?_
          refine r_iadd F dX12_energy_86 ?_
          refine r_imul F dX12_energy_87 ?_
          refine r_aload_n F dX12_energy_88 rfl ?_
          refine r_iload_n F dX12_energy_89 rfl ?_
          refine r_iload_n F dX12_energy_90 rfl ?_
          obtain ⟨q10, hq11, hz⟩ := e_bd hz
          refine r_callV F dX12_energy_91 (b := 72) (dc := 0) (ds := 0) (As := [.int v3.2, .int v7.2]) (S0 := [.int ((100 : Int32) * (((A83 (tn v3.2)) * (A83 (tn v7.2))) + ((A84 (tn v3.2)) * (A84 (tn v7.2))))), .int v7.1]) lkX12_303 mX12_squareApart (tX12_squareApart_72 hG (la := x_l X) (h := e_up h []) hnx h72 h81 h82 hq11) rfl rfl rfl (e_le rfl) (e_le rfl) (e_le rfl) h72 (ci := 12) e_cl12.1 rfl (e_le rfl) (e_lt hnx rfl) (Nat.zero_le _) (Nat.zero_le _) (e_k ?_)
          refine r_wr0 ?_
          obtain ⟨hg, hz⟩ := e_gd hz
          refine r_idiv F dX12_energy_94 (e_nz_ne hg) ?_
          refine r_iadd F dX12_energy_95 ?_
          refine r_istore_n F dX12_energy_96 (e_le rfl) (L' := [some (.ref 72), some (.int (v7.1 + (((100 : Int32) * (((A83 (tn v3.2)) * (A83 (tn v7.2))) + ((A84 (tn v3.2)) * (A84 (tn v7.2))))) / q10))), some (.int v3.2), some (.int v7.2)]) rfl ?_
          refine r_inc F dX12_energy_97 (k9 := 1) (by decide) rfl (L' := [some (.ref 72), some (.int (v7.1 + (((100 : Int32) * (((A83 (tn v3.2)) * (A83 (tn v7.2))) + ((A84 (tn v3.2)) * (A84 (tn v7.2))))) / q10))), some (.int v3.2), some (.int (v7.2 + 1))]) rfl ?_
          refine r_goto F dX12_energy_100 (tgt := 49) (by decide) ?_
          obtain rfl := Option.some.inj hz
          exact ih (v7.1 + (((100 : Int32) * (((A83 (tn v3.2)) * (A83 (tn v7.2))) + ((A84 (tn v3.2)) * (A84 (tn v7.2))))) / q10), v7.2 + 1) rfl
      · show eRun G X 103 [some (.ref 72), some (.int x8), some (.int v3.2), none] [] h [] nx 0 0
        refine r_inc F dX12_energy_103 (k9 := 1) (by decide) rfl (L' := [some (.ref 72), some (.int x8), some (.int (v3.2 + 1)), none]) rfl ?_
        refine r_goto F dX12_energy_106 (tgt := 4) (by decide) ?_
        obtain rfl := Option.some.inj hz
        exact ih (x8, v3.2 + 1) rfl
  · show eRun G X 109 [none, some (.int x4), none, none] [] h [] nx 0 0
    refine r_iload_n F dX12_energy_109 rfl ?_
    obtain rfl := Option.some.inj hf
    exact r_iret F hq dX12_energy_110 rfl rfl (Nat.le_refl _) (Nat.le_refl _) ⟨rfl, rfl⟩

def fX12_isSite (a72_21 : Int32) (a72_22 : Int32) (p0 : Int32) (p1 : Int32) : Option (Bool) :=
  (fX12_in (Int32.toInt64 p0) 0 (Int32.toInt64 (a72_21 - 1))).bind (fun q1 =>
  if q1 = true then
    (fX12_in (Int32.toInt64 p1) 0 (Int32.toInt64 (a72_22 - 1))).bind (fun q3 =>
    if q3 = true then
      some true
    else
      some false)
  else
    some false)
set_option maxRecDepth 100000 in
theorem tX12_isSite_72 {G : eG} (hG : e_GS G) {la : Launch} {h : Nat → eO} {nx : Nat} (hnx : 99 ≤ nx) {a72_0 : Int32} {a72_2 : Int32} {a72_3 : Int32} {a72_4 : Int32} {a72_5 : Int32} {a72_6 : Int32} {a72_7 : Int32} {a72_8 : Bool} {a72_9 : Int32} {a72_10 : Int32} {a72_11 : Int32} {a72_17 : Bool} {a72_18 : Bool} {a72_19 : Bool} {a72_21 : Int32} {a72_22 : Int32} {a72_29 : Int32} {a72_31 : Int32} {a72_35 : Int32} {a72_37 : Bool} {a72_38 : Int32} {a72_39 : Int32} {a72_40 : Int32} {a72_41 : Int64} {a72_44 : Int32} {a72_50 : Bool} {p0 : Int32} {p1 : Int32} (h72 : h 72 = o72 a72_0 a72_2 a72_3 a72_4 a72_5 a72_6 a72_7 a72_8 a72_9 a72_10 a72_11 a72_17 a72_18 a72_19 a72_21 a72_22 a72_29 a72_31 a72_35 a72_37 a72_38 a72_39 a72_40 a72_41 a72_44 a72_50) {R9 : Bool} (hf : fX12_isSite a72_21 a72_22 p0 p1 = some R9) :
    eSem G la MX12_isSite [.ref 72, .int p0, .int p1] h nx 0 0 (fun r9 h9 => r9 = some (.int (e_b R9)) ∧ h9 = h) := by
  refine eSem.of (k := 0) (L := [some (.ref 72), some (.int p0), some (.int p1)]) (by decide +kernel) rfl rfl (fun X F hxl hq hcR hsR => ?_)
  subst hxl
  unfold fX12_isSite at hf
  refine r_iload_n F dX12_isSite_0 rfl ?_
  refine r_i2l F dX12_isSite_1 ?_
  refine r_lconst F dX12_isSite_2 (v := 0) (by decide) ?_
  refine r_aload_n F dX12_isSite_3 rfl ?_
  refine r_get F dX12_isSite_4 flX12_205 h72 rfl (e_le rfl) (e_lt hnx rfl) ?_
  refine r_iconst F dX12_isSite_7 (v := 1) (by decide) ?_
  refine r_isub F dX12_isSite_8 ?_
  refine r_i2l F dX12_isSite_9 ?_
  obtain ⟨q1, hq2, hf⟩ := e_bd hf
  refine r_callS F dX12_isSite_10 (dc := 0) (ds := 0) (As := [.long (Int32.toInt64 p0), .long 0, .long (Int32.toInt64 (a72_21 - 1))]) (S0 := []) lkX12_97 mX12_in (tX12_in hG (la := x_l X) (h := e_up h []) hnx  hq2) rfl rfl rfl (e_le rfl) (e_le rfl) (e_le rfl) (Nat.zero_le _) (Nat.zero_le _) (e_k ?_)
  refine r_wr0 ?_
  refine r_z_eq F dX12_isSite_13 (tgt := 36) (by decide) (fun hc => ?_) (fun hc => ?_)
  · have hf := e_t hc hf
    refine r_iload_n F dX12_isSite_16 rfl ?_
    refine r_i2l F dX12_isSite_17 ?_
    refine r_lconst F dX12_isSite_18 (v := 0) (by decide) ?_
    refine r_aload_n F dX12_isSite_19 rfl ?_
    refine r_get F dX12_isSite_20 flX12_208 h72 rfl (e_le rfl) (e_lt hnx rfl) ?_
    refine r_iconst F dX12_isSite_23 (v := 1) (by decide) ?_
    refine r_isub F dX12_isSite_24 ?_
    refine r_i2l F dX12_isSite_25 ?_
    obtain ⟨q3, hq4, hf⟩ := e_bd hf
    refine r_callS F dX12_isSite_26 (dc := 0) (ds := 0) (As := [.long (Int32.toInt64 p1), .long 0, .long (Int32.toInt64 (a72_22 - 1))]) (S0 := []) lkX12_97 mX12_in (tX12_in hG (la := x_l X) (h := e_up h []) hnx  hq4) rfl rfl rfl (e_le rfl) (e_le rfl) (e_le rfl) (Nat.zero_le _) (Nat.zero_le _) (e_k ?_)
    refine r_wr0 ?_
    refine r_z_eq F dX12_isSite_29 (tgt := 36) (by decide) (fun hc => ?_) (fun hc => ?_)
    · have hf := e_t hc hf
      refine r_iconst F dX12_isSite_32 (v := 1) (by decide) ?_
      refine r_goto F dX12_isSite_33 (tgt := 37) (by decide) ?_
      obtain rfl := Option.some.inj hf
      exact r_zret F hq (v := true) dX12_isSite_37 rfl rfl (Nat.le_refl _) (Nat.le_refl _) ⟨rfl, rfl⟩
    · have hf := e_f hc hf
      refine r_iconst F dX12_isSite_36 (v := 0) (by decide) ?_
      obtain rfl := Option.some.inj hf
      exact r_zret F hq (v := false) dX12_isSite_37 rfl rfl (Nat.le_refl _) (Nat.le_refl _) ⟨rfl, rfl⟩
  · have hf := e_f hc hf
    refine r_iconst F dX12_isSite_36 (v := 0) (by decide) ?_
    obtain rfl := Option.some.inj hf
    exact r_zret F hq (v := false) dX12_isSite_37 rfl rfl (Nat.le_refl _) (Nat.le_refl _) ⟨rfl, rfl⟩

def fX12_isLink (a72_21 : Int32) (a72_22 : Int32) (p0 : Int32) (p1 : Int32) (p2 : Bool) : Option (Bool) :=
  if p2 = true then
    (fX12_isSite a72_21 a72_22 p0 p1).bind (fun q1 =>
    if q1 = true then
      if (a72_22 - 1) ≤ p1 then
        some false
      else
        some true
    else
      some false)
  else
    (fX12_isSite a72_21 a72_22 p0 p1).bind (fun q3 =>
    if q3 = true then
      if (a72_21 - 1) ≤ p0 then
        some false
      else
        some true
    else
      some false)
set_option maxRecDepth 100000 in
theorem tX12_isLink_72 {G : eG} (hG : e_GS G) {la : Launch} {h : Nat → eO} {nx : Nat} (hnx : 99 ≤ nx) {a72_0 : Int32} {a72_2 : Int32} {a72_3 : Int32} {a72_4 : Int32} {a72_5 : Int32} {a72_6 : Int32} {a72_7 : Int32} {a72_8 : Bool} {a72_9 : Int32} {a72_10 : Int32} {a72_11 : Int32} {a72_17 : Bool} {a72_18 : Bool} {a72_19 : Bool} {a72_21 : Int32} {a72_22 : Int32} {a72_29 : Int32} {a72_31 : Int32} {a72_35 : Int32} {a72_37 : Bool} {a72_38 : Int32} {a72_39 : Int32} {a72_40 : Int32} {a72_41 : Int64} {a72_44 : Int32} {a72_50 : Bool} {p0 : Int32} {p1 : Int32} {p2 : Bool} (h72 : h 72 = o72 a72_0 a72_2 a72_3 a72_4 a72_5 a72_6 a72_7 a72_8 a72_9 a72_10 a72_11 a72_17 a72_18 a72_19 a72_21 a72_22 a72_29 a72_31 a72_35 a72_37 a72_38 a72_39 a72_40 a72_41 a72_44 a72_50) {R9 : Bool} (hf : fX12_isLink a72_21 a72_22 p0 p1 p2 = some R9) :
    eSem G la MX12_isLink [.ref 72, .int p0, .int p1, .int (e_b p2)] h nx 0 0 (fun r9 h9 => r9 = some (.int (e_b R9)) ∧ h9 = h) := by
  refine eSem.of (k := 0) (L := [some (.ref 72), some (.int p0), some (.int p1), some (.int (e_b p2))]) (by decide +kernel) rfl rfl (fun X F hxl hq hcR hsR => ?_)
  subst hxl
  unfold fX12_isLink at hf
  refine r_iload_n F dX12_isLink_0 rfl ?_
  refine r_z_eq F dX12_isLink_1 (tgt := 31) (by decide) (fun hc => ?_) (fun hc => ?_)
  · have hf := e_t hc hf
    refine r_aload_n F dX12_isLink_4 rfl ?_
    refine r_iload_n F dX12_isLink_5 rfl ?_
    refine r_iload_n F dX12_isLink_6 rfl ?_
    obtain ⟨q1, hq2, hf⟩ := e_bd hf
    refine r_callV F dX12_isLink_7 (b := 72) (dc := 0) (ds := 0) (As := [.int p0, .int p1]) (S0 := []) lkX12_215 mX12_isSite (tX12_isSite_72 hG (la := x_l X) (h := e_up h []) hnx h72 hq2) rfl rfl rfl (e_le rfl) (e_le rfl) (e_le rfl) h72 (ci := 12) e_cl12.1 rfl (e_le rfl) (e_lt hnx rfl) (Nat.zero_le _) (Nat.zero_le _) (e_k ?_)
    refine r_wr0 ?_
    refine r_z_eq F dX12_isLink_10 (tgt := 27) (by decide) (fun hc => ?_) (fun hc => ?_)
    · have hf := e_t hc hf
      refine r_iload_n F dX12_isLink_13 rfl ?_
      refine r_aload_n F dX12_isLink_14 rfl ?_
      refine r_get F dX12_isLink_15 flX12_208 h72 rfl (e_le rfl) (e_lt hnx rfl) ?_
      refine r_iconst F dX12_isLink_18 (v := 1) (by decide) ?_
      refine r_isub F dX12_isLink_19 ?_
      refine r_icmp_ge F dX12_isLink_20 (tgt := 27) (by decide) (fun hc => ?_) (fun hc => ?_)
      · have hf := e_t hc hf
        refine r_iconst F dX12_isLink_27 (v := 0) (by decide) ?_
        refine r_goto F dX12_isLink_28 (tgt := 55) (by decide) ?_
        obtain rfl := Option.some.inj hf
        exact r_zret F hq (v := false) dX12_isLink_55 rfl rfl (Nat.le_refl _) (Nat.le_refl _) ⟨rfl, rfl⟩
      · have hf := e_f hc hf
        refine r_iconst F dX12_isLink_23 (v := 1) (by decide) ?_
        refine r_goto F dX12_isLink_24 (tgt := 55) (by decide) ?_
        obtain rfl := Option.some.inj hf
        exact r_zret F hq (v := true) dX12_isLink_55 rfl rfl (Nat.le_refl _) (Nat.le_refl _) ⟨rfl, rfl⟩
    · have hf := e_f hc hf
      refine r_iconst F dX12_isLink_27 (v := 0) (by decide) ?_
      refine r_goto F dX12_isLink_28 (tgt := 55) (by decide) ?_
      obtain rfl := Option.some.inj hf
      exact r_zret F hq (v := false) dX12_isLink_55 rfl rfl (Nat.le_refl _) (Nat.le_refl _) ⟨rfl, rfl⟩
  · have hf := e_f hc hf
    refine r_aload_n F dX12_isLink_31 rfl ?_
    refine r_iload_n F dX12_isLink_32 rfl ?_
    refine r_iload_n F dX12_isLink_33 rfl ?_
    obtain ⟨q3, hq4, hf⟩ := e_bd hf
    refine r_callV F dX12_isLink_34 (b := 72) (dc := 0) (ds := 0) (As := [.int p0, .int p1]) (S0 := []) lkX12_215 mX12_isSite (tX12_isSite_72 hG (la := x_l X) (h := e_up h []) hnx h72 hq4) rfl rfl rfl (e_le rfl) (e_le rfl) (e_le rfl) h72 (ci := 12) e_cl12.1 rfl (e_le rfl) (e_lt hnx rfl) (Nat.zero_le _) (Nat.zero_le _) (e_k ?_)
    refine r_wr0 ?_
    refine r_z_eq F dX12_isLink_37 (tgt := 54) (by decide) (fun hc => ?_) (fun hc => ?_)
    · have hf := e_t hc hf
      refine r_iload_n F dX12_isLink_40 rfl ?_
      refine r_aload_n F dX12_isLink_41 rfl ?_
      refine r_get F dX12_isLink_42 flX12_205 h72 rfl (e_le rfl) (e_lt hnx rfl) ?_
      refine r_iconst F dX12_isLink_45 (v := 1) (by decide) ?_
      refine r_isub F dX12_isLink_46 ?_
      refine r_icmp_ge F dX12_isLink_47 (tgt := 54) (by decide) (fun hc => ?_) (fun hc => ?_)
      · have hf := e_t hc hf
        refine r_iconst F dX12_isLink_54 (v := 0) (by decide) ?_
        obtain rfl := Option.some.inj hf
        exact r_zret F hq (v := false) dX12_isLink_55 rfl rfl (Nat.le_refl _) (Nat.le_refl _) ⟨rfl, rfl⟩
      · have hf := e_f hc hf
        refine r_iconst F dX12_isLink_50 (v := 1) (by decide) ?_
        refine r_goto F dX12_isLink_51 (tgt := 55) (by decide) ?_
        obtain rfl := Option.some.inj hf
        exact r_zret F hq (v := true) dX12_isLink_55 rfl rfl (Nat.le_refl _) (Nat.le_refl _) ⟨rfl, rfl⟩
    · have hf := e_f hc hf
      refine r_iconst F dX12_isLink_54 (v := 0) (by decide) ?_
      obtain rfl := Option.some.inj hf
      exact r_zret F hq (v := false) dX12_isLink_55 rfl rfl (Nat.le_refl _) (Nat.le_refl _) ⟨rfl, rfl⟩

def fX12_isSlipped (A79 : Nat → Int32) (p0 : Int32) (p1 : Int32) (p2 : Bool) : Option (Bool) :=
  (fX12_step A79 p0 p1 p2 0).bind (fun q1 =>
  Option.bind (α := Bool) (
    if p2 = true then
      some false
    else
      some true) (fun q3 =>
  if q1 = (e_b q3) then
    (fX12_step A79 p0 p1 p2 1).bind (fun q5 =>
    Option.bind (α := Bool) (
      if p2 = true then
        some true
      else
        some false) (fun q7 =>
    if q5 = (e_b q7) then
      some false
    else
      some true))
  else
    some true))
set_option maxRecDepth 100000 in
theorem tX12_isSlipped_72 {G : eG} (hG : e_GS G) {la : Launch} {h : Nat → eO} {nx : Nat} (hnx : 99 ≤ nx) {a72_0 : Int32} {a72_2 : Int32} {a72_3 : Int32} {a72_4 : Int32} {a72_5 : Int32} {a72_6 : Int32} {a72_7 : Int32} {a72_8 : Bool} {a72_9 : Int32} {a72_10 : Int32} {a72_11 : Int32} {a72_17 : Bool} {a72_18 : Bool} {a72_19 : Bool} {a72_21 : Int32} {a72_22 : Int32} {a72_29 : Int32} {a72_31 : Int32} {a72_35 : Int32} {a72_37 : Bool} {a72_38 : Int32} {a72_39 : Int32} {a72_40 : Int32} {a72_41 : Int64} {a72_44 : Int32} {a72_50 : Bool} {A79 : Nat → Int32} {p0 : Int32} {p1 : Int32} {p2 : Bool} (h72 : h 72 = o72 a72_0 a72_2 a72_3 a72_4 a72_5 a72_6 a72_7 a72_8 a72_9 a72_10 a72_11 a72_17 a72_18 a72_19 a72_21 a72_22 a72_29 a72_31 a72_35 a72_37 a72_38 a72_39 a72_40 a72_41 a72_44 a72_50) (h79 : h 79 = o79 A79) {R9 : Bool} (hf : fX12_isSlipped A79 p0 p1 p2 = some R9) :
    eSem G la MX12_isSlipped [.ref 72, .int p0, .int p1, .int (e_b p2)] h nx 0 0 (fun r9 h9 => r9 = some (.int (e_b R9)) ∧ h9 = h) := by
  refine eSem.of (k := 0) (L := [some (.ref 72), some (.int p0), some (.int p1), some (.int (e_b p2))]) (by decide +kernel) rfl rfl (fun X F hxl hq hcR hsR => ?_)
  subst hxl
  unfold fX12_isSlipped at hf
  refine r_aload_n F dX12_isSlipped_0 rfl ?_
  refine r_iload_n F dX12_isSlipped_1 rfl ?_
  refine r_iload_n F dX12_isSlipped_2 rfl ?_
  refine r_iload_n F dX12_isSlipped_3 rfl ?_
  refine r_iconst F dX12_isSlipped_4 (v := 0) (by decide) ?_
  obtain ⟨q1, hq2, hf⟩ := e_bd hf
  refine r_callV F dX12_isSlipped_5 (b := 72) (dc := 0) (ds := 0) (As := [.int p0, .int p1, .int (e_b p2), .int 0]) (S0 := []) lkX12_218 mX12_step (tX12_step_72 hG (la := x_l X) (h := e_up h []) hnx h72 h79 hq2) rfl rfl rfl (e_le rfl) (e_le rfl) (e_le rfl) h72 (ci := 12) e_cl12.1 rfl (e_le rfl) (e_lt hnx rfl) (Nat.zero_le _) (Nat.zero_le _) (e_k ?_)
  refine r_wr0 ?_
  refine r_iload_n F dX12_isSlipped_8 rfl ?_
  obtain ⟨q3, hq4, hf⟩ := e_bd hf
  have Jq3 : eRun G X 17 [some (.ref 72), some (.int p0), some (.int p1), some (.int (e_b p2))] [.int (e_b q3), .int q1] h [] nx 0 0 := by
    refine r_icmp_ne F dX12_isSlipped_17 (tgt := 40) (by decide) (fun hc => ?_) (fun hc => ?_)
    · have hf := e_f hc hf
      refine r_iconst F dX12_isSlipped_40 (v := 1) (by decide) ?_
      refine r_goto F dX12_isSlipped_41 (tgt := 45) (by decide) ?_
      obtain rfl := Option.some.inj hf
      exact r_zret F hq (v := true) dX12_isSlipped_45 rfl rfl (Nat.le_refl _) (Nat.le_refl _) ⟨rfl, rfl⟩
    · have hf := e_t hc hf
      refine r_aload_n F dX12_isSlipped_20 rfl ?_
      refine r_iload_n F dX12_isSlipped_21 rfl ?_
      refine r_iload_n F dX12_isSlipped_22 rfl ?_
      refine r_iload_n F dX12_isSlipped_23 rfl ?_
      refine r_iconst F dX12_isSlipped_24 (v := 1) (by decide) ?_
      obtain ⟨q5, hq6, hf⟩ := e_bd hf
      refine r_callV F dX12_isSlipped_25 (b := 72) (dc := 0) (ds := 0) (As := [.int p0, .int p1, .int (e_b p2), .int 1]) (S0 := []) lkX12_218 mX12_step (tX12_step_72 hG (la := x_l X) (h := e_up h []) hnx h72 h79 hq6) rfl rfl rfl (e_le rfl) (e_le rfl) (e_le rfl) h72 (ci := 12) e_cl12.1 rfl (e_le rfl) (e_lt hnx rfl) (Nat.zero_le _) (Nat.zero_le _) (e_k ?_)
      refine r_wr0 ?_
      refine r_iload_n F dX12_isSlipped_28 rfl ?_
      obtain ⟨q7, hq8, hf⟩ := e_bd hf
      have Jq7 : eRun G X 37 [none, none, none, none] [.int (e_b q7), .int q5] h [] nx 0 0 := by
        refine r_icmp_eq F dX12_isSlipped_37 (tgt := 44) (by decide) (fun hc => ?_) (fun hc => ?_)
        · have hf := e_t hc hf
          refine r_iconst F dX12_isSlipped_44 (v := 0) (by decide) ?_
          obtain rfl := Option.some.inj hf
          exact r_zret F hq (v := false) dX12_isSlipped_45 rfl rfl (Nat.le_refl _) (Nat.le_refl _) ⟨rfl, rfl⟩
        · have hf := e_f hc hf
          refine r_iconst F dX12_isSlipped_40 (v := 1) (by decide) ?_
          refine r_goto F dX12_isSlipped_41 (tgt := 45) (by decide) ?_
          obtain rfl := Option.some.inj hf
          exact r_zret F hq (v := true) dX12_isSlipped_45 rfl rfl (Nat.le_refl _) (Nat.le_refl _) ⟨rfl, rfl⟩
      refine r_z_eq F dX12_isSlipped_29 (tgt := 36) (by decide) (fun hc => ?_) (fun hc => ?_)
      · have hq8 := e_t hc hq8
        refine r_iconst F dX12_isSlipped_32 (v := 1) (by decide) ?_
        refine r_goto F dX12_isSlipped_33 (tgt := 37) (by decide) ?_
        refine r_drop 0 (L' := [none, some (.int p0), some (.int p1), some (.int (e_b p2))]) rfl ?_
        refine r_drop 1 (L' := [none, none, some (.int p1), some (.int (e_b p2))]) rfl ?_
        refine r_drop 2 (L' := [none, none, none, some (.int (e_b p2))]) rfl ?_
        refine r_drop 3 (L' := [none, none, none, none]) rfl ?_
        obtain rfl := Option.some.inj hq8
        exact Jq7
      · have hq8 := e_f hc hq8
        refine r_iconst F dX12_isSlipped_36 (v := 0) (by decide) ?_
        refine r_drop 0 (L' := [none, some (.int p0), some (.int p1), some (.int (e_b p2))]) rfl ?_
        refine r_drop 1 (L' := [none, none, some (.int p1), some (.int (e_b p2))]) rfl ?_
        refine r_drop 2 (L' := [none, none, none, some (.int (e_b p2))]) rfl ?_
        refine r_drop 3 (L' := [none, none, none, none]) rfl ?_
        obtain rfl := Option.some.inj hq8
        exact Jq7
  refine r_z_eq F dX12_isSlipped_9 (tgt := 16) (by decide) (fun hc => ?_) (fun hc => ?_)
  · have hq4 := e_t hc hq4
    refine r_iconst F dX12_isSlipped_12 (v := 0) (by decide) ?_
    refine r_goto F dX12_isSlipped_13 (tgt := 17) (by decide) ?_
    obtain rfl := Option.some.inj hq4
    exact Jq3
  · have hq4 := e_f hc hq4
    refine r_iconst F dX12_isSlipped_16 (v := 1) (by decide) ?_
    obtain rfl := Option.some.inj hq4
    exact Jq3

def fX12_isSlippedAt (a72_21 : Int32) (a72_22 : Int32) (A79 : Nat → Int32) (p0 : Int32) : Option (Bool) :=
  Option.bind (α := Bool) (
    if (p0 - p0 / 2 * 2) = 1 then
      some true
    else
      some false) (fun q1 =>
  (fX12_isLink a72_21 a72_22 ((p0 / 2) - (p0 / 2) / 9 * 9) ((p0 / 2) / 9) q1).bind (fun q3 =>
  if q3 = true then
    (fX12_isSlipped A79 ((p0 / 2) - (p0 / 2) / 9 * 9) ((p0 / 2) / 9) q1).bind (fun q5 =>
    if q5 = true then
      some true
    else
      some false)
  else
    some false))
set_option maxRecDepth 100000 in
theorem tX12_isSlippedAt_72 {G : eG} (hG : e_GS G) {la : Launch} {h : Nat → eO} {nx : Nat} (hnx : 99 ≤ nx) {a72_0 : Int32} {a72_2 : Int32} {a72_3 : Int32} {a72_4 : Int32} {a72_5 : Int32} {a72_6 : Int32} {a72_7 : Int32} {a72_8 : Bool} {a72_9 : Int32} {a72_10 : Int32} {a72_11 : Int32} {a72_17 : Bool} {a72_18 : Bool} {a72_19 : Bool} {a72_21 : Int32} {a72_22 : Int32} {a72_29 : Int32} {a72_31 : Int32} {a72_35 : Int32} {a72_37 : Bool} {a72_38 : Int32} {a72_39 : Int32} {a72_40 : Int32} {a72_41 : Int64} {a72_44 : Int32} {a72_50 : Bool} {A79 : Nat → Int32} {p0 : Int32} (h72 : h 72 = o72 a72_0 a72_2 a72_3 a72_4 a72_5 a72_6 a72_7 a72_8 a72_9 a72_10 a72_11 a72_17 a72_18 a72_19 a72_21 a72_22 a72_29 a72_31 a72_35 a72_37 a72_38 a72_39 a72_40 a72_41 a72_44 a72_50) (h79 : h 79 = o79 A79) {R9 : Bool} (hf : fX12_isSlippedAt a72_21 a72_22 A79 p0 = some R9) :
    eSem G la MX12_isSlippedAt [.ref 72, .int p0] h nx 0 0 (fun r9 h9 => r9 = some (.int (e_b R9)) ∧ h9 = h) := by
  refine eSem.of (k := 3) (L := [some (.ref 72), some (.int p0), none, none, none]) (by decide +kernel) rfl rfl (fun X F hxl hq hcR hsR => ?_)
  subst hxl
  unfold fX12_isSlippedAt at hf
  refine r_iload_n F dX12_isSlippedAt_0 rfl ?_
  refine r_iconst F dX12_isSlippedAt_1 (v := 2) (by decide) ?_
  refine r_idiv F dX12_isSlippedAt_2 (by decide) ?_
  refine r_bipush F dX12_isSlippedAt_3 (v := 9) (by decide) ?_
  refine r_irem F dX12_isSlippedAt_5 (by decide) ?_
  refine r_istore_n F dX12_isSlippedAt_6 (e_le rfl) (L' := [some (.ref 72), some (.int p0), some (.int ((p0 / 2) - (p0 / 2) / 9 * 9)), none, none]) rfl ?_
  refine r_iload_n F dX12_isSlippedAt_7 rfl ?_
  refine r_iconst F dX12_isSlippedAt_8 (v := 2) (by decide) ?_
  refine r_idiv F dX12_isSlippedAt_9 (by decide) ?_
  refine r_bipush F dX12_isSlippedAt_10 (v := 9) (by decide) ?_
  refine r_idiv F dX12_isSlippedAt_12 (by decide) ?_
  refine r_istore_n F dX12_isSlippedAt_13 (e_le rfl) (L' := [some (.ref 72), some (.int p0), some (.int ((p0 / 2) - (p0 / 2) / 9 * 9)), some (.int ((p0 / 2) / 9)), none]) rfl ?_
  refine r_iload_n F dX12_isSlippedAt_14 rfl ?_
  refine r_iconst F dX12_isSlippedAt_15 (v := 2) (by decide) ?_
  refine r_irem F dX12_isSlippedAt_16 (by decide) ?_
  refine r_iconst F dX12_isSlippedAt_17 (v := 1) (by decide) ?_
  obtain ⟨q1, hq2, hf⟩ := e_bd hf
  have Jq1 : eRun G X 26 [some (.ref 72), none, some (.int ((p0 / 2) - (p0 / 2) / 9 * 9)), some (.int ((p0 / 2) / 9)), none] [.int (e_b q1)] h [] nx 0 0 := by
    refine r_istore F dX12_isSlippedAt_26 (e_le rfl) (L' := [some (.ref 72), none, some (.int ((p0 / 2) - (p0 / 2) / 9 * 9)), some (.int ((p0 / 2) / 9)), some (.int (e_b q1))]) rfl ?_
    refine r_aload_n F dX12_isSlippedAt_28 rfl ?_
    refine r_iload_n F dX12_isSlippedAt_29 rfl ?_
    refine r_iload_n F dX12_isSlippedAt_30 rfl ?_
    refine r_iload F dX12_isSlippedAt_31 rfl ?_
    obtain ⟨q3, hq4, hf⟩ := e_bd hf
    refine r_callV F dX12_isSlippedAt_33 (b := 72) (dc := 0) (ds := 0) (As := [.int ((p0 / 2) - (p0 / 2) / 9 * 9), .int ((p0 / 2) / 9), .int (e_b q1)]) (S0 := []) lkX12_296 mX12_isLink (tX12_isLink_72 hG (la := x_l X) (h := e_up h []) hnx h72 hq4) rfl rfl rfl (e_le rfl) (e_le rfl) (e_le rfl) h72 (ci := 12) e_cl12.1 rfl (e_le rfl) (e_lt hnx rfl) (Nat.zero_le _) (Nat.zero_le _) (e_k ?_)
    refine r_wr0 ?_
    refine r_z_eq F dX12_isSlippedAt_36 (tgt := 54) (by decide) (fun hc => ?_) (fun hc => ?_)
    · have hf := e_t hc hf
      refine r_aload_n F dX12_isSlippedAt_39 rfl ?_
      refine r_iload_n F dX12_isSlippedAt_40 rfl ?_
      refine r_iload_n F dX12_isSlippedAt_41 rfl ?_
      refine r_iload F dX12_isSlippedAt_42 rfl ?_
      obtain ⟨q5, hq6, hf⟩ := e_bd hf
      refine r_callV F dX12_isSlippedAt_44 (b := 72) (dc := 0) (ds := 0) (As := [.int ((p0 / 2) - (p0 / 2) / 9 * 9), .int ((p0 / 2) / 9), .int (e_b q1)]) (S0 := []) lkX12_300 mX12_isSlipped (tX12_isSlipped_72 hG (la := x_l X) (h := e_up h []) hnx h72 h79 hq6) rfl rfl rfl (e_le rfl) (e_le rfl) (e_le rfl) h72 (ci := 12) e_cl12.1 rfl (e_le rfl) (e_lt hnx rfl) (Nat.zero_le _) (Nat.zero_le _) (e_k ?_)
      refine r_wr0 ?_
      refine r_z_eq F dX12_isSlippedAt_47 (tgt := 54) (by decide) (fun hc => ?_) (fun hc => ?_)
      · have hf := e_t hc hf
        refine r_iconst F dX12_isSlippedAt_50 (v := 1) (by decide) ?_
        refine r_goto F dX12_isSlippedAt_51 (tgt := 55) (by decide) ?_
        obtain rfl := Option.some.inj hf
        exact r_zret F hq (v := true) dX12_isSlippedAt_55 rfl rfl (Nat.le_refl _) (Nat.le_refl _) ⟨rfl, rfl⟩
      · have hf := e_f hc hf
        refine r_iconst F dX12_isSlippedAt_54 (v := 0) (by decide) ?_
        obtain rfl := Option.some.inj hf
        exact r_zret F hq (v := false) dX12_isSlippedAt_55 rfl rfl (Nat.le_refl _) (Nat.le_refl _) ⟨rfl, rfl⟩
    · have hf := e_f hc hf
      refine r_iconst F dX12_isSlippedAt_54 (v := 0) (by decide) ?_
      obtain rfl := Option.some.inj hf
      exact r_zret F hq (v := false) dX12_isSlippedAt_55 rfl rfl (Nat.le_refl _) (Nat.le_refl _) ⟨rfl, rfl⟩
  refine r_icmp_ne F dX12_isSlippedAt_18 (tgt := 25) (by decide) (fun hc => ?_) (fun hc => ?_)
  · have hq2 := e_f hc hq2
    refine r_iconst F dX12_isSlippedAt_25 (v := 0) (by decide) ?_
    refine r_drop 1 (L' := [some (.ref 72), none, some (.int ((p0 / 2) - (p0 / 2) / 9 * 9)), some (.int ((p0 / 2) / 9)), none]) rfl ?_
    obtain rfl := Option.some.inj hq2
    exact Jq1
  · have hq2 := e_t hc hq2
    refine r_iconst F dX12_isSlippedAt_21 (v := 1) (by decide) ?_
    refine r_goto F dX12_isSlippedAt_22 (tgt := 26) (by decide) ?_
    refine r_drop 1 (L' := [some (.ref 72), none, some (.int ((p0 / 2) - (p0 / 2) / 9 * 9)), some (.int ((p0 / 2) / 9)), none]) rfl ?_
    obtain rfl := Option.some.inj hq2
    exact Jq1

def fX12_slipped (a72_21 : Int32) (a72_22 : Int32) (A79 : Nat → Int32)  : Option (Int32) :=
  (e_loop (fun (v3 : Int32 × Int32) => (
      if 162 ≤ v3.2 then
        some (.inr v3.1)
      else
        (fX12_isSlippedAt a72_21 a72_22 A79 v3.2).bind (fun q6 =>
        Option.bind (α := Bool) (
          if q6 = true then
            some true
          else
            some false) (fun q8 =>
        some (.inl (v3.1 + (e_b q8), v3.2 + 1)))) : Option ((Int32 × Int32) ⊕ (Int32)))) e_fuel (0, 0)).bind (fun x4 =>
  some x4)
set_option maxRecDepth 100000 in
theorem tX12_slipped_72 {G : eG} (hG : e_GS G) {la : Launch} {h : Nat → eO} {nx : Nat} (hnx : 99 ≤ nx) {a72_0 : Int32} {a72_2 : Int32} {a72_3 : Int32} {a72_4 : Int32} {a72_5 : Int32} {a72_6 : Int32} {a72_7 : Int32} {a72_8 : Bool} {a72_9 : Int32} {a72_10 : Int32} {a72_11 : Int32} {a72_17 : Bool} {a72_18 : Bool} {a72_19 : Bool} {a72_21 : Int32} {a72_22 : Int32} {a72_29 : Int32} {a72_31 : Int32} {a72_35 : Int32} {a72_37 : Bool} {a72_38 : Int32} {a72_39 : Int32} {a72_40 : Int32} {a72_41 : Int64} {a72_44 : Int32} {a72_50 : Bool} {A79 : Nat → Int32}  (h72 : h 72 = o72 a72_0 a72_2 a72_3 a72_4 a72_5 a72_6 a72_7 a72_8 a72_9 a72_10 a72_11 a72_17 a72_18 a72_19 a72_21 a72_22 a72_29 a72_31 a72_35 a72_37 a72_38 a72_39 a72_40 a72_41 a72_44 a72_50) (h79 : h 79 = o79 A79) {R9 : Int32} (hf : fX12_slipped a72_21 a72_22 A79  = some R9) :
    eSem G la MX12_slipped [.ref 72] h nx 0 0 (fun r9 h9 => r9 = some (.int R9) ∧ h9 = h) := by
  refine eSem.of (k := 2) (L := [some (.ref 72), none, none]) (by decide +kernel) rfl rfl (fun X F hxl hq hcR hsR => ?_)
  subst hxl
  unfold fX12_slipped at hf
  refine r_iconst F dX12_slipped_0 (v := 0) (by decide) ?_
  refine r_istore_n F dX12_slipped_1 (e_le rfl) (L' := [some (.ref 72), some (.int 0), none]) rfl ?_
  refine r_iconst F dX12_slipped_2 (v := 0) (by decide) ?_
  refine r_istore_n F dX12_slipped_3 (e_le rfl) (L' := [some (.ref 72), some (.int 0), some (.int 0)]) rfl ?_
  obtain ⟨x4, hx5, hf⟩ := e_bd hf
  refine (e_loop_ok (P := fun (v3 : Int32 × Int32) => eRun G X 4 [some (.ref 72), some (.int v3.1), some (.int v3.2)] [] h [] nx 0 0) (K := fun (x4 : Int32) => eRun G X 33 [none, some (.int x4), none] [] h [] nx 0 0) ?_ e_fuel (0, 0) x4 hx5 ?_ : _)
  · intro v3 z hz ih hx
    refine r_iload_n F dX12_slipped_4 rfl ?_
    refine r_sipush F dX12_slipped_5 (v := 162) (by decide) ?_
    refine r_icmp_ge F dX12_slipped_8 (tgt := 33) (by decide) (fun hc => ?_) (fun hc => ?_)
    · have hz := e_t hc hz
      refine r_drop 0 (L' := [none, some (.int v3.1), some (.int v3.2)]) rfl ?_
      refine r_drop 2 (L' := [none, some (.int v3.1), none]) rfl ?_
      obtain rfl := Option.some.inj hz
      exact hx v3.1 rfl
    · have hz := e_f hc hz
      refine r_iload_n F dX12_slipped_11 rfl ?_
      refine r_aload_n F dX12_slipped_12 rfl ?_
      refine r_iload_n F dX12_slipped_13 rfl ?_
      obtain ⟨q6, hq7, hz⟩ := e_bd hz
      refine r_callV F dX12_slipped_14 (b := 72) (dc := 0) (ds := 0) (As := [.int v3.2]) (S0 := [.int v3.1]) lkX12_293 mX12_isSlippedAt (tX12_isSlippedAt_72 hG (la := x_l X) (h := e_up h []) hnx h72 h79 hq7) rfl rfl rfl (e_le rfl) (e_le rfl) (e_le rfl) h72 (ci := 12) e_cl12.1 rfl (e_le rfl) (e_lt hnx rfl) (Nat.zero_le _) (Nat.zero_le _) (e_k ?_)
      refine r_wr0 ?_
      obtain ⟨q8, hq9, hz⟩ := e_bd hz
      have Jq8 : eRun G X 25 [some (.ref 72), none, some (.int v3.2)] [.int (e_b q8), .int v3.1] h [] nx 0 0 := by
        refine r_iadd F dX12_slipped_25 ?_
        refine r_istore_n F dX12_slipped_26 (e_le rfl) (L' := [some (.ref 72), some (.int (v3.1 + (e_b q8))), some (.int v3.2)]) rfl ?_
        refine r_inc F dX12_slipped_27 (k9 := 1) (by decide) rfl (L' := [some (.ref 72), some (.int (v3.1 + (e_b q8))), some (.int (v3.2 + 1))]) rfl ?_
        refine r_goto F dX12_slipped_30 (tgt := 4) (by decide) ?_
        obtain rfl := Option.some.inj hz
        exact ih (v3.1 + (e_b q8), v3.2 + 1) rfl
      refine r_z_eq F dX12_slipped_17 (tgt := 24) (by decide) (fun hc => ?_) (fun hc => ?_)
      · have hq9 := e_t hc hq9
        refine r_iconst F dX12_slipped_20 (v := 1) (by decide) ?_
        refine r_goto F dX12_slipped_21 (tgt := 25) (by decide) ?_
        refine r_drop 1 (L' := [some (.ref 72), none, some (.int v3.2)]) rfl ?_
        obtain rfl := Option.some.inj hq9
        exact Jq8
      · have hq9 := e_f hc hq9
        refine r_iconst F dX12_slipped_24 (v := 0) (by decide) ?_
        refine r_drop 1 (L' := [some (.ref 72), none, some (.int v3.2)]) rfl ?_
        obtain rfl := Option.some.inj hq9
        exact Jq8
  · show eRun G X 33 [none, some (.int x4), none] [] h [] nx 0 0
    refine r_iload_n F dX12_slipped_33 rfl ?_
    obtain rfl := Option.some.inj hf
    exact r_iret F hq dX12_slipped_34 rfl rfl (Nat.le_refl _) (Nat.le_refl _) ⟨rfl, rfl⟩

def fX12_aheadBy (a72_21 : Int32) (a72_22 : Int32) (a72_29 : Int32) (a72_38 : Int32) (a72_39 : Int32) (a72_40 : Int32) (A79 : Nat → Int32) (A80 : Nat → Int32) (A81 : Nat → Int32) (A82 : Nat → Int32) (A83 : Nat → Int32) (A84 : Nat → Int32) (A85 : Nat → Int32) (p0 : Int32) : Option (Int32 × Int32 × (Nat → Int32) × (Nat → Int32) × (Nat → Int32) × (Nat → Int32) × (Nat → Int32)) :=
  (fX12_laysCores a72_21 a72_22 a72_29 A79 A80 A81 A82 A83 A84 A85).bind (fun q1 =>
  if p0 = 0 then
    some (q1.2.1, q1.2.1, q1.2.2.1, q1.2.2.2.1, q1.2.2.2.2.1, q1.2.2.2.2.2.1, q1.2.2.2.2.2.2)
  else
    if p0 = 1 then
      some (a72_38, q1.2.1, q1.2.2.1, q1.2.2.2.1, q1.2.2.2.2.1, q1.2.2.2.2.2.1, q1.2.2.2.2.2.2)
    else
      if p0 = 2 then
        some (a72_39, q1.2.1, q1.2.2.1, q1.2.2.2.1, q1.2.2.2.2.1, q1.2.2.2.2.2.1, q1.2.2.2.2.2.2)
      else
        if p0 = 3 then
          some (a72_40, q1.2.1, q1.2.2.1, q1.2.2.2.1, q1.2.2.2.2.1, q1.2.2.2.2.2.1, q1.2.2.2.2.2.2)
        else
          if p0 = 4 then
            (fX12_energy q1.2.1 q1.2.2.1 q1.2.2.2.1 q1.2.2.2.2.1 q1.2.2.2.2.2.1).bind (fun q3 =>
            some (q3, q1.2.1, q1.2.2.1, q1.2.2.2.1, q1.2.2.2.2.1, q1.2.2.2.2.2.1, q1.2.2.2.2.2.2))
          else
            (fX12_slipped a72_21 a72_22 A79).bind (fun q5 =>
            some (q5, q1.2.1, q1.2.2.1, q1.2.2.2.1, q1.2.2.2.2.1, q1.2.2.2.2.2.1, q1.2.2.2.2.2.2)))
set_option maxRecDepth 100000 in
theorem tX12_aheadBy_72 {G : eG} (hG : e_GS G) {la : Launch} {h : Nat → eO} {nx : Nat} (hnx : 99 ≤ nx) {a72_0 : Int32} {a72_2 : Int32} {a72_3 : Int32} {a72_4 : Int32} {a72_5 : Int32} {a72_6 : Int32} {a72_7 : Int32} {a72_8 : Bool} {a72_9 : Int32} {a72_10 : Int32} {a72_11 : Int32} {a72_17 : Bool} {a72_18 : Bool} {a72_19 : Bool} {a72_21 : Int32} {a72_22 : Int32} {a72_29 : Int32} {a72_31 : Int32} {a72_35 : Int32} {a72_37 : Bool} {a72_38 : Int32} {a72_39 : Int32} {a72_40 : Int32} {a72_41 : Int64} {a72_44 : Int32} {a72_50 : Bool} {A79 : Nat → Int32} {A80 : Nat → Int32} {A81 : Nat → Int32} {A82 : Nat → Int32} {A83 : Nat → Int32} {A84 : Nat → Int32} {A85 : Nat → Int32} {p0 : Int32} (h72 : h 72 = o72 a72_0 a72_2 a72_3 a72_4 a72_5 a72_6 a72_7 a72_8 a72_9 a72_10 a72_11 a72_17 a72_18 a72_19 a72_21 a72_22 a72_29 a72_31 a72_35 a72_37 a72_38 a72_39 a72_40 a72_41 a72_44 a72_50) (h79 : h 79 = o79 A79) (h80 : h 80 = o80 A80) (h81 : h 81 = o81 A81) (h82 : h 82 = o82 A82) (h83 : h 83 = o83 A83) (h84 : h 84 = o84 A84) (h85 : h 85 = o85 A85) {R9 : Int32 × Int32 × (Nat → Int32) × (Nat → Int32) × (Nat → Int32) × (Nat → Int32) × (Nat → Int32)} (hf : fX12_aheadBy a72_21 a72_22 a72_29 a72_38 a72_39 a72_40 A79 A80 A81 A82 A83 A84 A85 p0 = some R9) :
    eSem G la MX12_aheadBy [.ref 72, .int p0] h nx 0 0 (fun r9 h9 => r9 = some (.int R9.1) ∧ h9 = e_up h [(72, o72 a72_0 a72_2 a72_3 a72_4 a72_5 a72_6 a72_7 a72_8 a72_9 a72_10 a72_11 a72_17 a72_18 a72_19 a72_21 a72_22 R9.2.1 a72_31 a72_35 a72_37 a72_38 a72_39 a72_40 a72_41 a72_44 a72_50), (81, o81 R9.2.2.1), (82, o82 R9.2.2.2.1), (83, o83 R9.2.2.2.2.1), (84, o84 R9.2.2.2.2.2.1), (85, o85 R9.2.2.2.2.2.2)]) := by
  refine eSem.of (k := 0) (L := [some (.ref 72), some (.int p0)]) (by decide +kernel) rfl rfl (fun X F hxl hq hcR hsR => ?_)
  subst hxl
  unfold fX12_aheadBy at hf
  refine r_aload_n F dX12_aheadBy_0 rfl ?_
  obtain ⟨q1, hq2, hf⟩ := e_bd hf
  refine r_callV F dX12_aheadBy_1 (b := 72) (dc := 0) (ds := 0) (As := []) (S0 := []) lkX12_238 mX12_laysCores (tX12_laysCores_72 hG (la := x_l X) (h := e_up h []) hnx h72 h79 h80 h81 h82 h83 h84 h85 hq2) rfl rfl rfl (e_le rfl) (e_le rfl) (e_le rfl) h72 (ci := 12) e_cl12.1 rfl (e_le rfl) (e_lt hnx rfl) (Nat.zero_le _) (Nat.zero_le _) (e_k ?_)
  refine r_wr (l' := [(72, o72 a72_0 a72_2 a72_3 a72_4 a72_5 a72_6 a72_7 a72_8 a72_9 a72_10 a72_11 a72_17 a72_18 a72_19 a72_21 a72_22 q1.2.1 a72_31 a72_35 a72_37 a72_38 a72_39 a72_40 a72_41 a72_44 a72_50), (81, o81 q1.2.2.1), (82, o82 q1.2.2.2.1), (83, o83 q1.2.2.2.2.1), (84, o84 q1.2.2.2.2.2.1), (85, o85 q1.2.2.2.2.2.2)]) rfl rfl ?_
  refine r_pop F dX12_aheadBy_4 rfl ?_
  refine r_iload_n F dX12_aheadBy_5 rfl ?_
  refine Classical.byCases (p := p0 = 0) (fun hc => ?_) (fun hk0 => ?_)
  · have hf := e_t hc hf
    refine r_tsIn F dX12_aheadBy_6 (by rw [hc]; decide) (by rw [hc]; decide) (off := 34) (by rw [hc]; decide) (tgt := 40) (by decide) ?_
    refine r_aload_n F dX12_aheadBy_40 rfl ?_
    refine r_get F dX12_aheadBy_41 flX12_241 rfl rfl (e_le rfl) (e_lt hnx rfl) ?_
    obtain rfl := Option.some.inj hf
    exact r_iret F hq dX12_aheadBy_44 rfl rfl (Nat.le_refl _) (Nat.le_refl _) ⟨rfl, rfl⟩
  have hf := e_f hk0 hf
  refine Classical.byCases (p := p0 = 1) (fun hc => ?_) (fun hk1 => ?_)
  · have hf := e_t hc hf
    refine r_tsIn F dX12_aheadBy_6 (by rw [hc]; decide) (by rw [hc]; decide) (off := 39) (by rw [hc]; decide) (tgt := 45) (by decide) ?_
    refine r_aload_n F dX12_aheadBy_45 rfl ?_
    refine r_get F dX12_aheadBy_46 flX12_376 rfl rfl (e_le rfl) (e_lt hnx rfl) ?_
    obtain rfl := Option.some.inj hf
    exact r_iret F hq dX12_aheadBy_49 rfl rfl (Nat.le_refl _) (Nat.le_refl _) ⟨rfl, rfl⟩
  have hf := e_f hk1 hf
  refine Classical.byCases (p := p0 = 2) (fun hc => ?_) (fun hk2 => ?_)
  · have hf := e_t hc hf
    refine r_tsIn F dX12_aheadBy_6 (by rw [hc]; decide) (by rw [hc]; decide) (off := 44) (by rw [hc]; decide) (tgt := 50) (by decide) ?_
    refine r_aload_n F dX12_aheadBy_50 rfl ?_
    refine r_get F dX12_aheadBy_51 flX12_379 rfl rfl (e_le rfl) (e_lt hnx rfl) ?_
    obtain rfl := Option.some.inj hf
    exact r_iret F hq dX12_aheadBy_54 rfl rfl (Nat.le_refl _) (Nat.le_refl _) ⟨rfl, rfl⟩
  have hf := e_f hk2 hf
  refine Classical.byCases (p := p0 = 3) (fun hc => ?_) (fun hk3 => ?_)
  · have hf := e_t hc hf
    refine r_tsIn F dX12_aheadBy_6 (by rw [hc]; decide) (by rw [hc]; decide) (off := 49) (by rw [hc]; decide) (tgt := 55) (by decide) ?_
    refine r_aload_n F dX12_aheadBy_55 rfl ?_
    refine r_get F dX12_aheadBy_56 flX12_382 rfl rfl (e_le rfl) (e_lt hnx rfl) ?_
    obtain rfl := Option.some.inj hf
    exact r_iret F hq dX12_aheadBy_59 rfl rfl (Nat.le_refl _) (Nat.le_refl _) ⟨rfl, rfl⟩
  have hf := e_f hk3 hf
  refine Classical.byCases (p := p0 = 4) (fun hc => ?_) (fun hk4 => ?_)
  · have hf := e_t hc hf
    refine r_tsIn F dX12_aheadBy_6 (by rw [hc]; decide) (by rw [hc]; decide) (off := 54) (by rw [hc]; decide) (tgt := 60) (by decide) ?_
    refine r_aload_n F dX12_aheadBy_60 rfl ?_
    obtain ⟨q3, hq4, hf⟩ := e_bd hf
    refine r_callV F dX12_aheadBy_61 (b := 72) (dc := 0) (ds := 0) (As := []) (S0 := []) lkX12_318 mX12_energy (tX12_energy_72 hG (la := x_l X) (h := e_up h [(72, o72 a72_0 a72_2 a72_3 a72_4 a72_5 a72_6 a72_7 a72_8 a72_9 a72_10 a72_11 a72_17 a72_18 a72_19 a72_21 a72_22 q1.2.1 a72_31 a72_35 a72_37 a72_38 a72_39 a72_40 a72_41 a72_44 a72_50), (81, o81 q1.2.2.1), (82, o82 q1.2.2.2.1), (83, o83 q1.2.2.2.2.1), (84, o84 q1.2.2.2.2.2.1), (85, o85 q1.2.2.2.2.2.2)]) hnx rfl rfl rfl rfl rfl hq4) rfl rfl rfl (e_le rfl) (e_le rfl) (e_le rfl) rfl (ci := 12) e_cl12.1 rfl (e_le rfl) (e_lt hnx rfl) (Nat.zero_le _) (Nat.zero_le _) (e_k ?_)
    refine r_wr0 ?_
    obtain rfl := Option.some.inj hf
    exact r_iret F hq dX12_aheadBy_64 rfl rfl (Nat.le_refl _) (Nat.le_refl _) ⟨rfl, rfl⟩
  have hf := e_f hk4 hf
  refine r_tsOut F dX12_aheadBy_6 (e_out5 hk0 hk1 hk2 hk3 hk4) (tgt := 65) (by decide) ?_
  refine r_aload_n F dX12_aheadBy_65 rfl ?_
  obtain ⟨q5, hq6, hf⟩ := e_bd hf
  refine r_callV F dX12_aheadBy_66 (b := 72) (dc := 0) (ds := 0) (As := []) (S0 := []) lkX12_311 mX12_slipped (tX12_slipped_72 hG (la := x_l X) (h := e_up h [(72, o72 a72_0 a72_2 a72_3 a72_4 a72_5 a72_6 a72_7 a72_8 a72_9 a72_10 a72_11 a72_17 a72_18 a72_19 a72_21 a72_22 q1.2.1 a72_31 a72_35 a72_37 a72_38 a72_39 a72_40 a72_41 a72_44 a72_50), (81, o81 q1.2.2.1), (82, o82 q1.2.2.2.1), (83, o83 q1.2.2.2.2.1), (84, o84 q1.2.2.2.2.2.1), (85, o85 q1.2.2.2.2.2.2)]) hnx rfl h79 hq6) rfl rfl rfl (e_le rfl) (e_le rfl) (e_le rfl) rfl (ci := 12) e_cl12.1 rfl (e_le rfl) (e_lt hnx rfl) (Nat.zero_le _) (Nat.zero_le _) (e_k ?_)
  refine r_wr0 ?_
  obtain rfl := Option.some.inj hf
  exact r_iret F hq dX12_aheadBy_69 rfl rfl (Nat.le_refl _) (Nat.le_refl _) ⟨rfl, rfl⟩

def fX12_takeBack (A79 : Nat → Int32) (A96 : Nat → Int32)  : Option ((Nat → Int32)) :=
  (e_loop (fun (v3 : Int32 × (Nat → Int32)) => (
      if 486 ≤ v3.1 then
        some (.inr v3.2)
      else
        e_g (e_in v3.1 486) (
        e_g (e_in v3.1 486) (
        some (.inl (v3.1 + 1, upd v3.2 (tn v3.1) (A96 (tn v3.1)))))) : Option ((Int32 × (Nat → Int32)) ⊕ ((Nat → Int32))))) e_fuel (0, A79)).bind (fun x4 =>
  some x4)
set_option maxRecDepth 100000 in
theorem tX12_takeBack_72 {G : eG} (hG : e_GS G) {la : Launch} {h : Nat → eO} {nx : Nat} (hnx : 99 ≤ nx) {a72_0 : Int32} {a72_2 : Int32} {a72_3 : Int32} {a72_4 : Int32} {a72_5 : Int32} {a72_6 : Int32} {a72_7 : Int32} {a72_8 : Bool} {a72_9 : Int32} {a72_10 : Int32} {a72_11 : Int32} {a72_17 : Bool} {a72_18 : Bool} {a72_19 : Bool} {a72_21 : Int32} {a72_22 : Int32} {a72_29 : Int32} {a72_31 : Int32} {a72_35 : Int32} {a72_37 : Bool} {a72_38 : Int32} {a72_39 : Int32} {a72_40 : Int32} {a72_41 : Int64} {a72_44 : Int32} {a72_50 : Bool} {A79 : Nat → Int32} {A96 : Nat → Int32}  (h72 : h 72 = o72 a72_0 a72_2 a72_3 a72_4 a72_5 a72_6 a72_7 a72_8 a72_9 a72_10 a72_11 a72_17 a72_18 a72_19 a72_21 a72_22 a72_29 a72_31 a72_35 a72_37 a72_38 a72_39 a72_40 a72_41 a72_44 a72_50) (h79 : h 79 = o79 A79) (h96 : h 96 = o96 A96) {R9 : (Nat → Int32)} (hf : fX12_takeBack A79 A96  = some R9) :
    eSem G la MX12_takeBack [.ref 72] h nx 0 0 (fun r9 h9 => r9 = none ∧ h9 = e_up h [(79, o79 R9)]) := by
  refine eSem.of (k := 1) (L := [some (.ref 72), none]) (by decide +kernel) rfl rfl (fun X F hxl hq hcR hsR => ?_)
  subst hxl
  unfold fX12_takeBack at hf
  refine r_iconst F dX12_takeBack_0 (v := 0) (by decide) ?_
  refine r_istore_n F dX12_takeBack_1 (e_le rfl) (L' := [some (.ref 72), some (.int 0)]) rfl ?_
  refine r_mat (k := 79) h79 (l' := [(79, o79 A79)]) rfl ?_
  obtain ⟨x4, hx5, hf⟩ := e_bd hf
  refine (e_loop_ok (P := fun (v3 : Int32 × (Nat → Int32)) => eRun G X 2 [some (.ref 72), some (.int v3.1)] [] h [(79, o79 v3.2)] nx 0 0) (K := fun (x4 : (Nat → Int32)) => eRun G X 27 [none, none] [] h [(79, o79 x4)] nx 0 0) ?_ e_fuel (0, A79) x4 hx5 ?_ : _)
  · intro v3 z hz ih hx
    refine r_iload_n F dX12_takeBack_2 rfl ?_
    refine r_sipush F dX12_takeBack_3 (v := 486) (by decide) ?_
    refine r_icmp_ge F dX12_takeBack_6 (tgt := 27) (by decide) (fun hc => ?_) (fun hc => ?_)
    · have hz := e_t hc hz
      refine r_drop 0 (L' := [none, some (.int v3.1)]) rfl ?_
      refine r_drop 1 (L' := [none, none]) rfl ?_
      obtain rfl := Option.some.inj hz
      exact hx v3.2 rfl
    · have hz := e_f hc hz
      refine r_aload_n F dX12_takeBack_9 rfl ?_
      refine r_get F dX12_takeBack_10 flX12_28 h72 rfl (e_le rfl) (e_lt hnx rfl) ?_
      refine r_iload_n F dX12_takeBack_13 rfl ?_
      refine r_aload_n F dX12_takeBack_14 rfl ?_
      refine r_get F dX12_takeBack_15 flX12_80 h72 rfl (e_le rfl) (e_lt hnx rfl) ?_
      refine r_iload_n F dX12_takeBack_18 rfl ?_
      obtain ⟨hg, hz⟩ := e_gd hz
      refine r_iald F dX12_takeBack_19 (i := v3.1) h96 (e_le rfl) (e_lt hnx rfl) (e_vp hg) ?_
      obtain ⟨hg, hz⟩ := e_gd hz
      refine r_iast F dX12_takeBack_20 rfl (e_le rfl) (e_lt hnx rfl) (e_vp hg) (l' := [(79, o79 (upd v3.2 (tn v3.1) (A96 (tn v3.1))))]) rfl ?_
      refine r_inc F dX12_takeBack_21 (k9 := 1) (by decide) rfl (L' := [some (.ref 72), some (.int (v3.1 + 1))]) rfl ?_
      refine r_goto F dX12_takeBack_24 (tgt := 2) (by decide) ?_
      obtain rfl := Option.some.inj hz
      exact ih (v3.1 + 1, upd v3.2 (tn v3.1) (A96 (tn v3.1))) rfl
  · show eRun G X 27 [none, none] [] h [(79, o79 x4)] nx 0 0
    obtain rfl := Option.some.inj hf
    exact r_vret F hq dX12_takeBack_27 rfl rfl (Nat.le_refl _) (Nat.le_refl _) ⟨rfl, rfl⟩
