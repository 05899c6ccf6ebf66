/-! ===== what cores pay ===== -/
def wyI (f : Nat → Int32) (L : List (Nat × Nat)) (i : Nat) : Int32 := if kv f L i 1 = 0 then nI 0 else if kv f L i 0 = 0 then nI 1 else -1
def cmv (f : Nat → Int32) (L : List (Nat × Nat)) (pr i w : Nat) : Nat := if wyI f L i = nI w then 1 else pr
def ad (a b : Nat) : Nat := ((a : Int) - (b : Int)).natAbs
def ot (f : Nat → Int32) (L : List (Nat × Nat)) (W H pr i : Nat) : Nat := min (min (kx L i + 1) (W - 1 - kx L i) * cmv f L pr i 0) (min (ky L i + 1) (H - 1 - ky L i) * cmv f L pr i 1)
def mtt (f : Nat → Int32) (L : List (Nat × Nat)) (pr i j : Nat) : Nat := ad (kx L i) (kx L j) * cmv f L pr i 0 + ad (ky L i) (ky L j) * cmv f L pr i 1
theorem cmv_le {f : Nat → Int32} {L : List (Nat × Nat)} {pr i w : Nat} (h : pr ≤ 9) : cmv f L pr i w ≤ 9 := by unfold cmv; split <;> omega
theorem ot_le {f : Nat → Int32} {L : List (Nat × Nat)} {W H pr i : Nat} (hW : W ≤ 9) (h : pr ≤ 9) : ot f L W H pr i ≤ 81 := by
  unfold ot
  have h1 := cmv_le (f := f) (L := L) (i := i) (w := 0) h
  have h2 : min (kx L i + 1) (W - 1 - kx L i) ≤ 9 := by omega
  have := Nat.mul_le_mul h2 h1
  omega
theorem ad_le {a b : Nat} (ha : a ≤ 9) (hb : b ≤ 9) : ad a b ≤ 9 := by unfold ad; omega
theorem mtt_le {f : Nat → Int32} {L : List (Nat × Nat)} {pr i j : Nat} (hok : okL f L) (hi : i < L.length) (hj : j < L.length) (h : pr ≤ 9) : mtt f L pr i j ≤ 162 := by
  unfold mtt
  have a1 := hok.2.1 i hi
  have a2 := hok.2.1 j hj
  have h1 := Nat.mul_le_mul (ad_le (a := kx L i) (b := kx L j) (by omega) (by omega)) (cmv_le (f := f) (L := L) (i := i) (w := 0) h)
  have h2 := Nat.mul_le_mul (ad_le (a := ky L i) (b := ky L j) (by omega) (by omega)) (cmv_le (f := f) (L := L) (i := i) (w := 1) h)
  omega
theorem absd {a b : Nat} (ha : a ≤ 9) (hb : b ≤ 9) : fJ9_abs_0f7a4 (nI a - nI b) = some (nI (ad a b)) := by
  have b1 : Bn (nI a) (a : Int) 9 := ⟨nI_ti a (by omega), by omega⟩
  have b2 : Bn (nI b) (b : Int) 9 := ⟨nI_ti b (by omega), by omega⟩
  obtain ⟨s, h1, h2⟩ := abs_eq (b1.sub b2 (by omega)) (by omega)
  rw [h1]
  congr 1
  rw [eq_i, h2.e, nI_ti _ (by have := ad_le ha hb; omega)]
  rfl
theorem ccost_eq (f : Nat → Int32) (L : List (Nat × Nat)) (pr i w : Nat) : fX6_costOfMove (wyI f L i) (nI w) (nI pr) = some (nI (cmv f L pr i w)) := by
  unfold fX6_costOfMove cmv
  split
  · rfl
  · rfl
theorem leave_eq {W H : Nat} (hW : W ≤ 9) (hH : H ≤ 9) {f pl ve : Nat → Int32} {L : List (Nat × Nat)} (hok : okL f L) (hc : celC f L pl ve) (hin : ∀ i, i < L.length → kx L i + 1 < W ∧ ky L i + 1 < H) {pr i : Nat} (hpr : pr ≤ 9) (hi : i < L.length) : fX6_costToLeave (nI W) (nI H) (nI L.length) pl ve (nI i) (nI pr) = some (nI (ot f L W H pr i)) := by
  unfold fX6_costToLeave
  have hn := hok.1
  have hl := hin i hi
  have p0 := cplace_eq hc (w := 0) hn hi (by omega)
  have p1 := cplace_eq hc (w := 1) hn hi (by omega)
  rw [← z0] at p0
  rw [← z1] at p1
  have c0' := ccost_eq f L pr i 0
  have c1' := ccost_eq f L pr i 1
  rw [← z0] at c0'
  rw [← z1] at c1'
  have cw : fX0_wayOf (nI L.length) ve (nI i) = some (wyI f L i) := cway_eq hok hc hi
  rw [cw, Option.bind_some, p0, Option.bind_some, p1, Option.bind_some, show nI (kp L i 0) = nI (kx L i) from rfl, show nI (kp L i 1) = nI (ky L i) from rfl, nI_s1, nI_s1, sub1_nI (by omega) (by omega), sub1_nI (by omega) (by omega), sub_nI (by omega) (by omega), sub_nI (by omega) (by omega), min_nI (by omega) (by omega), Option.bind_some, min_nI (by omega) (by omega), Option.bind_some, c0', Option.bind_some, c1', Option.bind_some, pk_mul, pk_mul]
  have b1 := Nat.mul_le_mul (show min (kx L i + 1) (W - 1 - kx L i) ≤ 9 by omega) (cmv_le (f := f) (L := L) (i := i) (w := 0) hpr)
  have b2 := Nat.mul_le_mul (show min (ky L i + 1) (H - 1 - ky L i) ≤ 9 by omega) (cmv_le (f := f) (L := L) (i := i) (w := 1) hpr)
  rw [min_nI (by omega) (by omega)]
  rfl
theorem ccmeet_eq {f pl ve : Nat → Int32} {L : List (Nat × Nat)} (hok : okL f L) (hc : celC f L pl ve) {pr i j : Nat} (hi : i < L.length) (hj : j < L.length) : fX6_costToMeet (nI L.length) pl ve (nI i) (nI j) (nI pr) = some (if opp f L i j then nI (mtt f L pr i j) else -1) := by
  unfold fX6_costToMeet
  have hn := hok.1
  have a1 := hok.2.1 i hi
  have a2 := hok.2.1 j hj
  rw [copp_eq hn hc hi hj, Option.bind_some]
  by_cases ho : opp f L i j
  · have p0 := cplace_eq hc (w := 0) hn hi (by omega)
    have p1 := cplace_eq hc (w := 1) hn hi (by omega)
    have r0 := cplace_eq hc (w := 0) hn hj (by omega)
    have r1 := cplace_eq hc (w := 1) hn hj (by omega)
    rw [← z0] at p0 r0
    rw [← z1] at p1 r1
    have c0' := ccost_eq f L pr i 0
    have c1' := ccost_eq f L pr i 1
    rw [← z0] at c0'
    rw [← z1] at c1'
    have cw : fX0_wayOf (nI L.length) ve (nI i) = some (wyI f L i) := cway_eq hok hc hi
    have d0 := absd (a := kx L i) (b := kx L j) (by omega) (by omega)
    have d1 := absd (a := ky L i) (b := ky L j) (by omega) (by omega)
    rw [if_pos (decide_eq_true ho), if_pos ho, cw, Option.bind_some, p0, Option.bind_some, r0, Option.bind_some, show nI (kp L i 0) = nI (kx L i) from rfl, show nI (kp L j 0) = nI (kx L j) from rfl, d0, Option.bind_some, c0', Option.bind_some, p1, Option.bind_some, r1, Option.bind_some, show nI (kp L i 1) = nI (ky L i) from rfl, show nI (kp L j 1) = nI (ky L j) from rfl, d1, Option.bind_some, c1', Option.bind_some, pk_mul, pk_mul, nI_add]
    rfl
  · rw [if_neg (by rw [decide_eq_true_eq]; exact ho), if_neg ho]
theorem rcost_eq {f X Y Dx Dy : Nat → Int32} {L : List (Nat × Nat)} (hr : celR f L X Y Dx Dy) {pr i w : Nat} (hn : L.length ≤ 12) (hi : i < L.length) : fX12_costAlong Dx Dy (nI i) (nI w) (nI pr) = some (nI (cmv f L pr i w)) := by
  unfold fX12_costAlong
  have rw' : fX12_way Dx Dy (nI i) = some (wyI f L i) := rway_eq hr hn hi
  rw [rw', Option.bind_some]
  unfold cmv
  split
  · rfl
  · rfl
theorem out_eq {W H : Nat} (hW : W ≤ 9) (hH : H ≤ 9) {f X Y Dx Dy : Nat → Int32} {L : List (Nat × Nat)} (hn : L.length ≤ 12) (hr : celR f L X Y Dx Dy) (hin : ∀ i, i < L.length → kx L i + 1 < W ∧ ky L i + 1 < H) {pr i : Nat} (hpr : pr ≤ 9) (hi : i < L.length) : fX12_costOut (nI W) (nI H) X Y Dx Dy (nI i) (nI pr) = some (nI (ot f L W H pr i)) := by
  unfold fX12_costOut
  have g : e_in (nI i) 64 = true := ein_nI (by omega) (by omega)
  have hl := hin i hi
  have c0' := rcost_eq (pr := pr) (w := 0) hr hn hi
  have c1' := rcost_eq (pr := pr) (w := 1) hr hn hi
  rw [← z0] at c0'
  rw [← z1] at c1'
  rw [g_t g, g_t g, tn_nI (by omega), (hr i hi).1, (hr i hi).2.1, nI_s1, nI_s1, sub1_nI (by omega) (by omega), sub1_nI (by omega) (by omega), sub_nI (by omega) (by omega), sub_nI (by omega) (by omega), min_nI (by omega) (by omega), Option.bind_some, c0', Option.bind_some, g_t g, g_t g, min_nI (by omega) (by omega), Option.bind_some, c1', Option.bind_some, pk_mul, pk_mul]
  have b1 := Nat.mul_le_mul (show min (kx L i + 1) (W - 1 - kx L i) ≤ 9 by omega) (cmv_le (f := f) (L := L) (i := i) (w := 0) hpr)
  have b2 := Nat.mul_le_mul (show min (ky L i + 1) (H - 1 - ky L i) ≤ 9 by omega) (cmv_le (f := f) (L := L) (i := i) (w := 1) hpr)
  rw [min_nI (by omega) (by omega)]
  rfl
theorem meeting_eq {f X Y Dx Dy : Nat → Int32} {L : List (Nat × Nat)} (hok : okL f L) (hr : celR f L X Y Dx Dy) {pr i j : Nat} (hi : i < L.length) (hj : j < L.length) : fX12_costMeeting X Y Dx Dy (nI i) (nI j) (nI pr) = some (nI (mtt f L pr i j)) := by
  unfold fX12_costMeeting
  have hn := hok.1
  have g : e_in (nI i) 64 = true := ein_nI (by omega) (by omega)
  have g2 : e_in (nI j) 64 = true := ein_nI (by omega) (by omega)
  have a1 := hok.2.1 i hi
  have a2 := hok.2.1 j hj
  have c0' := rcost_eq (pr := pr) (w := 0) hr hn hi
  have c1' := rcost_eq (pr := pr) (w := 1) hr hn hi
  rw [← z0] at c0'
  rw [← z1] at c1'
  have d0 := absd (a := kx L i) (b := kx L j) (by omega) (by omega)
  have d1 := absd (a := ky L i) (b := ky L j) (by omega) (by omega)
  rw [g_t g, g_t g2, tn_nI (by omega), tn_nI (by omega), (hr i hi).1, (hr i hi).2.1, (hr j hj).1, (hr j hj).2.1, d0, Option.bind_some, c0', Option.bind_some, g_t g, g_t g2, d1, Option.bind_some, c1', Option.bind_some, pk_mul, pk_mul, nI_add]
  rfl
theorem anyB_iff (P : Nat → Bool) : ∀ k, anyB P k = true ↔ ∃ j, j < k ∧ P j = true := by
  intro k
  induction k with
  | zero => simp [anyB]
  | succ k ih =>
    simp only [anyB, Bool.or_eq_true, ih]
    constructor
    · rintro (⟨j, h1, h2⟩ | h)
      · exact ⟨j, by omega, h2⟩
      · exact ⟨k, by omega, h⟩
    · rintro ⟨j, h1, h2⟩
      by_cases e : j = k
      · subst e; exact Or.inr h2
      · exact Or.inl ⟨j, by omega, h2⟩
def chB (f : Nat → Int32) (L : List (Nat × Nat)) (i : Nat) : Bool := anyB (fun j => decide (opp f L i j)) L.length
theorem chB_iff {f : Nat → Int32} {L : List (Nat × Nat)} {i : Nat} : chB f L i = true ↔ ∃ j, j < L.length ∧ opp f L i j := by
  unfold chB
  rw [anyB_iff]
  simp
theorem opp_symm {f : Nat → Int32} {L : List (Nat × Nat)} {i j : Nat} (h : opp f L i j) : opp f L j i := ⟨by rw [Int32.add_comm]; exact h.1, by rw [Int32.add_comm]; exact h.2⟩
theorem chas_eq {f pl ve : Nat → Int32} {L : List (Nat × Nat)} (h : okL f L) (hc : celC f L pl ve) {i : Nat} (hi : i < L.length) : fX0_hasOpposite (nI L.length) ve (nI i) = some (chB f L i) := by
  obtain ⟨b, e, hb⟩ := hasOpp_ok h hc hi
  rw [e]
  congr 1
  rw [Bool.eq_iff_iff, hb, chB_iff]
/-- the reference's numbers -/
def pR (f : Nat → Int32) (L : List (Nat × Nat)) (W H pr : Nat) : eP := (ot f L W H pr, mtt f L pr, fun i j => decide (opp f L i j))
