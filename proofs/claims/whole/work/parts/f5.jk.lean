/-! ===== after a throw: the picture with a cell that nobody knows ===== -/
theorem e_jk_lo {h : Nat → eO} {nx k : Nat} (hk : k < nx) : e_jk h nx k = h k := if_pos hk
theorem e_dyn.jk {h : Nat → eO} {nx nx1 : Nat} {ring : Nat → Option Nat} {SS : eSS} {q6 nl : Nat} {LE : Nat → Int32} (hn : nx ≤ nx1) (hd : e_dyn h nx ring SS q6 nl LE) : e_dyn (e_jk h nx) nx1 ring SS q6 nl LE := by
  obtain ⟨y1, y2, y3, y4, y5⟩ := hd
  refine ⟨fun j hj q hq => ?_, y2, y3, by omega, (e_jk_lo y4).trans y5⟩
  obtain ⟨z1, z2, z3, z4, z5⟩ := y1 j hj q hq
  exact ⟨z1, by omega, (e_jk_lo (by omega)).trans z3, (e_jk_lo (by omega)).trans z4, (e_jk_lo z2).trans z5⟩
