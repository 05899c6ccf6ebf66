/-! ===== helpers ===== -/
theorem nc {WL : List Nat} (hw : WL.all (fun j => Nat.blt j 72) = true) {k : Nat} (hk : 72 ≤ k) : WL.contains k = false := by
  cases e : WL.contains k with
  | false => rfl
  | true =>
    have h1 := List.all_eq_true.mp hw k (List.contains_iff_mem.mp e)
    have h2 := Nat.blt_eq.mp h1
    omega
theorem e_dyn.cg {h h1 : Nat → eO} {nx : Nat} {ring : Nat → Option Nat} {SS : eSS} {q6 nl : Nat} {LE : Nat → Int32} (key : ∀ k, (99 ≤ k ∨ k = 71) → h1 k = h k) (hd : e_dyn h nx ring SS q6 nl LE) : e_dyn h1 nx ring SS q6 nl LE := by
  obtain ⟨y1, y2, y3, y4, y5⟩ := hd
  refine ⟨fun j hj q hq => ?_, y2, y3, y4, ?_⟩
  · obtain ⟨z1, z2, z3, z4, z5⟩ := y1 j hj q hq
    exact ⟨z1, z2, (key q (by omega)).trans z3, (key _ (by omega)).trans z4, (key _ (by omega)).trans z5⟩
  · refine (key q6 ?_).trans y5
    rcases y3 with y3 | y3
    · exact Or.inr y3
    · exact Or.inl y3.1
