/-! ===== the cores' list: within the sheet, each once ===== -/
theorem rowL_mem {f : Nat → Int32} {y : Nat} {q : Nat × Nat} : ∀ {k : Nat}, q ∈ rowL f y k → q.2 = y ∧ q.1 < k ∧ isC f q.1 q.2 = true := by
  intro k
  induction k with
  | zero => intro h; simp [rowL] at h
  | succ k ih =>
    intro h
    rw [rowL, List.mem_append] at h
    rcases h with h | h
    · have := ih h
      exact ⟨this.1, by omega, this.2.2⟩
    · cases hc : isC f k y with
      | false => rw [hc] at h; simp at h
      | true =>
        rw [hc] at h
        have e : q = (k, y) := by simpa using h
        subst e
        exact ⟨rfl, by omega, hc⟩
theorem rowsL_mem {f : Nat → Int32} {W : Nat} {q : Nat × Nat} : ∀ {j : Nat}, q ∈ rowsL f W j → q.2 < j ∧ q.1 < W - 1 ∧ isC f q.1 q.2 = true := by
  intro j
  induction j with
  | zero => intro h; simp [rowsL] at h
  | succ j ih =>
    intro h
    rw [rowsL, List.mem_append] at h
    rcases h with h | h
    · have := ih h
      exact ⟨by omega, this.2⟩
    · have := rowL_mem h
      exact ⟨by omega, this.2⟩
theorem rowL_nd (f : Nat → Int32) (y : Nat) : ∀ k, (rowL f y k).Nodup := by
  intro k
  induction k with
  | zero => simp [rowL]
  | succ k ih =>
    rw [rowL, List.nodup_append]
    refine ⟨ih, by cases isC f k y <;> simp, ?_⟩
    intro q hq p hp e
    have h1 := (rowL_mem hq).2.1
    cases hc : isC f k y with
    | false => rw [hc] at hp; simp at hp
    | true =>
      rw [hc] at hp
      have e2 : p = (k, y) := by simpa using hp
      subst e2
      subst e
      exact absurd h1 (Nat.lt_irrefl _)
theorem rowsL_nd (f : Nat → Int32) (W : Nat) : ∀ j, (rowsL f W j).Nodup := by
  intro j
  induction j with
  | zero => simp [rowsL]
  | succ j ih =>
    rw [rowsL, List.nodup_append]
    refine ⟨ih, rowL_nd _ _ _, ?_⟩
    intro q hq p hp e
    have h1 := (rowsL_mem hq).1
    have h2 := (rowL_mem hp).1
    subst e
    omega
theorem rowL_in {f : Nat → Int32} {x y : Nat} (h : isC f x y = true) : ∀ {k : Nat}, x < k → (x, y) ∈ rowL f y k := by
  intro k
  induction k with
  | zero => intro h; omega
  | succ k ih =>
    intro hx
    rw [rowL, List.mem_append]
    by_cases e : x = k
    · subst e; right; simp [h]
    · left; exact ih (by omega)
theorem rowsL_in {f : Nat → Int32} {W x y : Nat} (h : isC f x y = true) (hx : x < W - 1) : ∀ {j : Nat}, y < j → (x, y) ∈ rowsL f W j := by
  intro j
  induction j with
  | zero => intro h; omega
  | succ j ih =>
    intro hy
    rw [rowsL, List.mem_append]
    by_cases e : y = j
    · subst e; right; exact rowL_in h hx
    · left; exact ih (by omega)
theorem getD_in {L : List (Nat × Nat)} {i : Nat} (h : i < L.length) : L.getD i (0, 0) = L[i] := by
  simp [List.getD_eq_getElem?_getD, List.getElem?_eq_getElem h]
theorem coreL_at {f : Nat → Int32} {W H i : Nat} (h : i < (coreL f W H).length) : kx (coreL f W H) i + 1 < W ∧ ky (coreL f W H) i + 1 < H ∧ isC f (kx (coreL f W H) i) (ky (coreL f W H) i) = true := by
  have h1 : (coreL f W H)[i] ∈ rowsL f W (H - 1) := List.getElem_mem h
  have h2 := rowsL_mem h1
  simp only [kx, ky, getD_in h]
  exact ⟨by omega, by omega, h2.2.2⟩
theorem coreL_ne {f : Nat → Int32} {W H i j : Nat} (hi : i < (coreL f W H).length) (hj : j < (coreL f W H).length) (e : i ≠ j) : ¬ (kx (coreL f W H) i = kx (coreL f W H) j ∧ ky (coreL f W H) i = ky (coreL f W H) j) := by
  intro q
  simp only [kx, ky, getD_in hi, getD_in hj] at q
  have h1 : (coreL f W H)[i] = (coreL f W H)[j] := Prod.ext q.1 q.2
  exact e ((List.getElem_inj (rowsL_nd f W (H - 1))).mp h1)
theorem coreL_of {f : Nat → Int32} {W H x y : Nat} (h : isC f x y = true) (hx : x + 1 < W) (hy : y + 1 < H) : ∃ i, i < (coreL f W H).length ∧ kx (coreL f W H) i = x ∧ ky (coreL f W H) i = y := by
  obtain ⟨i, hi, e⟩ := List.mem_iff_getElem.mp (rowsL_in (W := W) h (show x < W - 1 by omega) (show y < H - 1 by omega))
  refine ⟨i, hi, ?_, ?_⟩
  · show ((coreL f W H).getD i (0, 0)).1 = x
    rw [getD_in (L := coreL f W H) hi]
    exact congrArg Prod.fst e
  · show ((coreL f W H).getD i (0, 0)).2 = y
    rw [getD_in (L := coreL f W H) hi]
    exact congrArg Prod.snd e
