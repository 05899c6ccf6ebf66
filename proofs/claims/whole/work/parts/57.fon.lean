/-! ===== the force on a core ===== -/
theorem OK.val {α : Type} {o : Option α} {z : α} (h : OK o (fun q => q = z)) : o = some z := by
  obtain ⟨q, h1, h2⟩ := h
  rw [h1, h2]
abbrev kv (f : Nat → Int32) (L : List (Nat × Nat)) (i w : Nat) : Int32 := vec f (kx L i) (ky L i) w
def kp (L : List (Nat × Nat)) (i w : Nat) : Nat := if w = 0 then kx L i else ky L i
def frc (f : Nat → Int32) (L : List (Nat × Nat)) (told : Nat → Int32) (w i : Nat) : Nat → Int32
  | 0 => told w * kv f L i w
  | j + 1 => if j = i then frc f L told w i j else frc f L told w i j + pullI (told 3) ((kv f L i w).toInt * (kv f L j w).toInt) ((kp L i w : Int) - (kp L j w : Int)) ((kp L i (1 - w) : Int) - (kp L j (1 - w) : Int))
def frcA (f : Nat → Int32) (L : List (Nat × Nat)) (told : Nat → Int32) (i : Nat) : Int32 :=
  if kv f L i 1 = 0 then frc f L told 0 i L.length else if kv f L i 0 = 0 then frc f L told 1 i L.length else 0
theorem has_eq {n i w : Nat} (hn : n ≤ 12) (hi : i < n) (hw : w ≤ 1) : fX0_has (nI n) (nI i) (nI w) = some true := by
  unfold fX0_has
  have h1 : ¬ nI i < 0 := nI_pos (by omega)
  have h2 : ¬ nI n ≤ nI i := by rw [nI_le_iff (by omega) (by omega)]; omega
  have h3 : ¬ (12 : Int32) ≤ nI i := by rw [show (12 : Int32) = nI 12 from rfl, nI_le_iff (by omega) (by omega)]; omega
  rw [if_neg h1, if_neg h2, if_neg h3]
  have hw2 : w = 0 ∨ w = 1 := by omega
  rcases hw2 with rfl | rfl
  · rw [if_pos (show nI 0 = 0 from rfl)]
  · rw [if_neg (by decide), if_pos (show nI 1 = 1 from rfl)]
theorem numberOf_eq {f pl ve : Nat → Int32} {L : List (Nat × Nat)} (h : celC f L pl ve) {i w : Nat} (hn : L.length ≤ 12) (hi : i < L.length) (hw : w ≤ 1) : fX0_numberOf (nI L.length) ve (nI i) (nI w) = some (kv f L i w) := by
  unfold fX0_numberOf
  rw [has_eq hn hi hw, Option.bind_some, if_pos rfl, z2, pk_mul, nI_add, g_t (ein_nI (by omega) (by omega)), tn_nI (by omega)]
  have hw2 : w = 0 ∨ w = 1 := by omega
  have := h i hi
  rcases hw2 with rfl | rfl
  · rw [Nat.add_zero, this.2.2.1]
  · rw [this.2.2.2]
theorem cplace_eq {f pl ve : Nat → Int32} {L : List (Nat × Nat)} (h : celC f L pl ve) {i w : Nat} (hn : L.length ≤ 12) (hi : i < L.length) (hw : w ≤ 1) : fX0_placeOf (nI L.length) pl (nI i) (nI w) = some (nI (kp L i w)) := by
  unfold fX0_placeOf
  rw [has_eq hn hi hw, Option.bind_some, if_pos rfl, z2, pk_mul, nI_add, g_t (ein_nI (by omega) (by omega)), tn_nI (by omega)]
  have hw2 : w = 0 ∨ w = 1 := by omega
  have := h i hi
  rcases hw2 with rfl | rfl
  · rw [Nat.add_zero, this.1]; rfl
  · rw [this.2.1]; rfl
/-- what the lists of cores keep to -/
def okL (f : Nat → Int32) (L : List (Nat × Nat)) : Prop :=
  L.length ≤ 12 ∧ (∀ i, i < L.length → kx L i ≤ 7 ∧ ky L i ≤ 7 ∧ ((kv f L i 0).toInt.natAbs ≤ 20 ∧ (kv f L i 1).toInt.natAbs ≤ 20) ∧ ¬ (kv f L i 0 = 0 ∧ kv f L i 1 = 0)) ∧ ∀ i j, i < L.length → j < L.length → i ≠ j → ¬ (kx L i = kx L j ∧ ky L i = ky L j)
theorem okL_kp {f : Nat → Int32} {L : List (Nat × Nat)} (h : okL f L) {i : Nat} (hi : i < L.length) (w : Nat) : kp L i w ≤ 7 := by
  have := h.2.1 i hi
  unfold kp
  split <;> omega
