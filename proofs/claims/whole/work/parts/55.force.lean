/-! ===== numbers that keep to their bounds ===== -/
abbrev Bn (x : Int32) (z : Int) (n : Nat) : Prop := x.toInt = z ∧ z.natAbs ≤ n
abbrev Bl (x : Int64) (z : Int) (n : Nat) : Prop := x.toInt = z ∧ z.natAbs ≤ n
theorem Bn.e {x : Int32} {z : Int} {n : Nat} (h : Bn x z n) : x.toInt = z := h.1
theorem Bn.b {x : Int32} {z : Int} {n : Nat} (h : Bn x z n) : z.natAbs ≤ n := h.2
theorem Bl.e {x : Int64} {z : Int} {n : Nat} (h : Bl x z n) : x.toInt = z := h.1
theorem Bl.b {x : Int64} {z : Int} {n : Nat} (h : Bl x z n) : z.natAbs ≤ n := h.2
theorem bmod32 {z : Int} (h : z.natAbs ≤ 2147483647) : z.bmod (2 ^ 32) = z := Int.bmod_eq_of_le (by omega) (by omega)
theorem bmod64 {z : Int} (h : z.natAbs ≤ 9223372036854775807) : z.bmod (2 ^ 64) = z := Int.bmod_eq_of_le (by omega) (by omega)
theorem Bn.mul {x y : Int32} {z w : Int} {n m : Nat} (h : Bn x z n) (g : Bn y w m) (k : n * m ≤ 2147483647) : Bn (x * y) (z * w) (n * m) := by
  have hb : (z * w).natAbs ≤ n * m := by rw [Int.natAbs_mul]; exact Nat.mul_le_mul h.b g.b
  exact ⟨by rw [Int32.toInt_mul, h.e, g.e, bmod32 (by omega)], hb⟩
theorem Bn.add {x y : Int32} {z w : Int} {n m : Nat} (h : Bn x z n) (g : Bn y w m) (k : n + m ≤ 2147483647) : Bn (x + y) (z + w) (n + m) := by
  have := h.b
  have := g.b
  exact ⟨by rw [Int32.toInt_add, h.e, g.e, bmod32 (by omega)], by omega⟩
theorem Bn.sub {x y : Int32} {z w : Int} {n m : Nat} (h : Bn x z n) (g : Bn y w m) (k : n + m ≤ 2147483647) : Bn (x - y) (z - w) (n + m) := by
  have := h.b
  have := g.b
  exact ⟨by rw [Int32.toInt_sub, h.e, g.e, bmod32 (by omega)], by omega⟩
theorem tdiv_le (z w : Int) : (z.tdiv w).natAbs ≤ z.natAbs := by rw [Int.natAbs_tdiv]; exact Nat.div_le_self _ _
theorem Bn.div {x y : Int32} {z w : Int} {n m : Nat} (h : Bn x z n) (g : Bn y w m) (k : n ≤ 2147483647) : Bn (x / y) (z.tdiv w) n := by
  have h1 := tdiv_le z w
  have h2 := h.b
  exact ⟨by rw [Int32.toInt_div, h.e, g.e, bmod32 (by omega)], by omega⟩
theorem Bn.le {x : Int32} {z : Int} {n m : Nat} (h : Bn x z n) (k : n ≤ m) : Bn x z m := ⟨h.e, Nat.le_trans h.b k⟩
theorem Bn.lit {x : Int32} {z : Int} {n : Nat} (h : x.toInt = z) (k : z.natAbs ≤ n) : Bn x z n := ⟨h, k⟩
theorem Bl.mul {x y : Int64} {z w : Int} {n m : Nat} (h : Bl x z n) (g : Bl y w m) (k : n * m ≤ 2147483647) : Bl (x * y) (z * w) (n * m) := by
  have hb : (z * w).natAbs ≤ n * m := by rw [Int.natAbs_mul]; exact Nat.mul_le_mul h.b g.b
  exact ⟨by rw [Int64.toInt_mul, h.e, g.e, bmod64 (by omega)], hb⟩
theorem Bl.add {x y : Int64} {z w : Int} {n m : Nat} (h : Bl x z n) (g : Bl y w m) (k : n + m ≤ 2147483647) : Bl (x + y) (z + w) (n + m) := by
  have := h.b
  have := g.b
  exact ⟨by rw [Int64.toInt_add, h.e, g.e, bmod64 (by omega)], by omega⟩
theorem Bl.sub {x y : Int64} {z w : Int} {n m : Nat} (h : Bl x z n) (g : Bl y w m) (k : n + m ≤ 2147483647) : Bl (x - y) (z - w) (n + m) := by
  have := h.b
  have := g.b
  exact ⟨by rw [Int64.toInt_sub, h.e, g.e, bmod64 (by omega)], by omega⟩
theorem Bl.div {x y : Int64} {z w : Int} {n m : Nat} (h : Bl x z n) (g : Bl y w m) (k : n ≤ 2147483647) : Bl (x / y) (z.tdiv w) n := by
  have h1 := tdiv_le z w
  have h2 := h.b
  exact ⟨by rw [Int64.toInt_div, h.e, g.e, bmod64 (by omega)], by omega⟩
theorem Bn.l {x : Int32} {z : Int} {n : Nat} (h : Bn x z n) : Bl x.toInt64 z n := ⟨by rw [i_l, h.e], h.b⟩
theorem Bl.i {x : Int64} {z : Int} {n : Nat} (h : Bl x z n) (k : n ≤ 2147483647) : Bn x.toInt32 z n := by
  have h2 := h.b
  exact ⟨by rw [Int64.toInt_toInt32, h.e, bmod32 (by omega)], h2⟩
theorem of_ti {x : Int32} {z : Int} (h : x.toInt = z) : x = Int32.ofInt z := by rw [← h, Int32.ofInt_toInt]
theorem Bn.nz {x : Int32} {z : Int} {n : Nat} (h : Bn x z n) (k : z ≠ 0) : e_nz x = true := by
  unfold e_nz
  have : x ≠ 0 := fun q => k (by rw [← h.e, q]; rfl)
  simp [this]
theorem Bl.nz {x : Int64} {z : Int} {n : Nat} (h : Bl x z n) (k : z ≠ 0) : e_nzl x = true := by
  unfold e_nzl
  have : x ≠ 0 := fun q => k (by rw [← h.e, q]; rfl)
  simp [this]
/-! ===== the pull of a core on another ===== -/
def pullZ (r : Int32) (m a b : Int) : Int :=
  if r = 0 then (1000 * m * a * (a * a - b * b)).tdiv ((a * a + b * b) * (a * a + b * b))
  else if r = 1 then (100 * m * a.sign).tdiv ((a.natAbs : Int) + (b.natAbs : Int)) else (60 * m * a).tdiv (a * a + b * b)
def pullI (r : Int32) (m a b : Int) : Int32 := Int32.ofInt (pullZ r m a b)
theorem sqs {a b : Int} (h : ¬ (a = 0 ∧ b = 0)) : 0 < a * a + b * b := by
  have h1 : ∀ c : Int, 0 ≤ c * c := fun c => (Int.le_total 0 c).elim (fun q => Int.mul_nonneg q q) (fun q => Int.mul_nonneg_of_nonpos_of_nonpos q q)
  have h2 : ∀ c : Int, c ≠ 0 → 0 < c * c := fun c q => (Int.lt_or_gt_of_ne q).elim (fun p => Int.mul_pos_of_neg_of_neg p p) (fun p => Int.mul_pos p p)
  by_cases q : a = 0
  · have := h2 b (fun p => h ⟨q, p⟩)
    have := h1 a
    omega
  · have := h2 a q
    have := h1 b
    omega
theorem sgn_tab : ∀ k : Fin 17, fJ6_signum_0f7a4 (Int32.ofInt ((k.val : Int) - 8)) = some (Int32.ofInt ((k.val : Int) - 8).sign) := by decide
theorem sgl_tab : ∀ k : Fin 17, fJ13_signum_95d88 (Int64.ofInt ((k.val : Int) - 8)) = some (Int32.ofInt ((k.val : Int) - 8).sign) := by decide
theorem sgn_eq {x : Int32} {z : Int} (h : Bn x z 8) : ∃ s, fJ6_signum_0f7a4 x = some s ∧ Bn s z.sign 1 := by
  have hb := h.b
  have h1 := sgn_tab ⟨(z + 8).toNat, by omega⟩
  have e : (((z + 8).toNat : Nat) : Int) - 8 = z := by omega
  simp only [e] at h1
  rw [← of_ti h.e] at h1
  have hs : z.sign.natAbs ≤ 1 := by rw [Int.natAbs_sign]; split <;> omega
  exact ⟨_, h1, by rw [Int32.toInt_ofInt]; exact bmod32 (by omega), hs⟩
theorem sgl_eq {x : Int64} {z : Int} (h : Bl x z 8) : ∃ s, fJ13_signum_95d88 x = some s ∧ Bn s z.sign 1 := by
  have hb := h.b
  have h1 := sgl_tab ⟨(z + 8).toNat, by omega⟩
  have e : (((z + 8).toNat : Nat) : Int) - 8 = z := by omega
  simp only [e] at h1
  rw [show Int64.ofInt z = x by rw [← h.e, Int64.ofInt_toInt]] at h1
  have hs : z.sign.natAbs ≤ 1 := by rw [Int.natAbs_sign]; split <;> omega
  exact ⟨_, h1, by rw [Int32.toInt_ofInt]; exact bmod32 (by omega), hs⟩
theorem abs_eq {x : Int32} {z : Int} {n : Nat} (h : Bn x z n) (k : n ≤ 2147483647) : ∃ s, fJ9_abs_0f7a4 x = some s ∧ Bn s (z.natAbs : Int) n := by
  have hb := h.b
  unfold fJ9_abs_0f7a4
  by_cases q : 0 ≤ x
  · rw [if_pos q]
    rw [le_i, h.e, c0] at q
    exact ⟨_, rfl, by rw [h.e]; omega, by omega⟩
  · rw [if_neg q]
    rw [le_i, h.e, c0] at q
    have := (Bn.lit (x := 0) (z := 0) (n := 0) rfl (by decide)).sub h (by omega)
    exact ⟨_, rfl, by rw [this.e]; omega, by omega⟩
theorem absl_eq {x : Int64} {z : Int} {n : Nat} (h : Bl x z n) (k : n ≤ 2147483647) : ∃ s, fJ9_abs_067f4 x = some s ∧ Bl s (z.natAbs : Int) n := by
  have hb := h.b
  unfold fJ9_abs_067f4
  have c : (0 ≤ lg_cmp x 0) ↔ 0 ≤ z := by
    have h1 := cmp_lt x 0
    rw [h.e, l0] at h1
    have h2 := lt_i (lg_cmp x 0) 0
    have h3 := le_i 0 (lg_cmp x 0)
    rw [h3, c0]
    rw [h2, c0] at h1
    omega
  by_cases q : 0 ≤ lg_cmp x 0
  · rw [if_pos q]
    rw [c] at q
    exact ⟨_, rfl, by rw [h.e]; omega, by omega⟩
  · rw [if_neg q]
    rw [c] at q
    have := (show Bl 0 0 0 from ⟨rfl, by decide⟩).sub h (by omega)
    exact ⟨_, rfl, by rw [this.e]; omega, by omega⟩
set_option maxHeartbeats 1000000 in
theorem pull_eq {r p1 p2 p3 : Int32} {m a b : Int} (h1 : Bn p1 m 400) (h2 : Bn p2 a 8) (h3 : Bn p3 b 8) (hne : ¬ (a = 0 ∧ b = 0)) : fX0_pull r p1 p2 p3 = some (pullI r m a b) := by
  have hs := sqs hne
  have q := (h2.mul h2 (by decide)).add (h3.mul h3 (by decide)) (by decide)
  have q' := (h2.mul h2 (by decide)).sub (h3.mul h3 (by decide)) (by decide)
  have qq := q.mul q (by decide)
  have z1 : (a * a + b * b) * (a * a + b * b) ≠ 0 := Int.ne_of_gt (Int.mul_pos hs hs)
  have k1000 : Bn 1000 1000 1000 := ⟨rfl, by decide⟩
  have k100 : Bn 100 100 100 := ⟨rfl, by decide⟩
  have k60 : Bn 60 60 60 := ⟨rfl, by decide⟩
  unfold fX0_pull pullI pullZ
  rw [if_pos (by rw [lt_i, q.e]; exact hs)]
  by_cases r0 : r = 0
  · simp only [r0, if_true]
    rw [g_t (qq.nz z1)]
    exact congrArg some (of_ti ((((((k1000.mul h1 (by decide)).mul h2 (by decide)).mul q' (by decide)).div qq (by decide))).e))
  · simp only [if_neg r0]
    by_cases r1 : r = 1
    · simp only [r1, if_true]
      obtain ⟨s, e1, b1⟩ := sgn_eq h2
      obtain ⟨u, e2, b2⟩ := abs_eq h2 (by decide)
      obtain ⟨v, e3, b3⟩ := abs_eq h3 (by decide)
      have b4 := b2.add b3 (by decide)
      rw [e1, e2, e3]
      simp only [Option.bind_some]
      rw [g_t (b4.nz (by omega))]
      exact congrArg some (of_ti ((((k100.mul h1 (by decide)).mul b1 (by decide)).div b4 (by decide)).e))
    · simp only [if_neg r1]
      rw [g_t (q.nz (by omega))]
      exact congrArg some (of_ti ((((k60.mul h1 (by decide)).mul h2 (by decide)).div q (by decide)).e))
set_option maxHeartbeats 1000000 in
theorem forceBy_eq {told : Nat → Int32} {p1 p2 p3 : Int64} {m a b : Int} (h1 : Bl p1 m 400) (h2 : Bl p2 a 8) (h3 : Bl p3 b 8) (hne : ¬ (a = 0 ∧ b = 0)) : fX12_forceBy told p1 p2 p3 = some (pullI (told 3) m a b) := by
  have hs := sqs hne
  have q := (h2.mul h2 (by decide)).add (h3.mul h3 (by decide)) (by decide)
  have q' := (h2.mul h2 (by decide)).sub (h3.mul h3 (by decide)) (by decide)
  have qq := q.mul q (by decide)
  have z1 : (a * a + b * b) * (a * a + b * b) ≠ 0 := Int.ne_of_gt (Int.mul_pos hs hs)
  have k1000 : Bl 1000 1000 1000 := ⟨rfl, by decide⟩
  have k100 : Bl 100 100 100 := ⟨rfl, by decide⟩
  have k60 : Bl 60 60 60 := ⟨rfl, by decide⟩
  unfold fX12_forceBy pullI pullZ
  rw [show tn 3 = 3 from rfl]
  by_cases r0 : told 3 = 0
  · simp only [r0, if_true]
    rw [g_t (qq.nz z1)]
    exact congrArg some (of_ti (((((((k1000.mul h1 (by decide)).mul h2 (by decide)).mul q' (by decide)).div qq (by decide))).i (by decide)).e))
  · simp only [if_neg r0]
    by_cases r1 : told 3 = 1
    · simp only [r1, if_true]
      obtain ⟨s, e1, b1⟩ := sgl_eq h2
      obtain ⟨u, e2, b2⟩ := absl_eq h2 (by decide)
      obtain ⟨v, e3, b3⟩ := absl_eq h3 (by decide)
      have b4 := b2.add b3 (by decide)
      rw [e1, e2, e3]
      simp only [Option.bind_some]
      rw [g_t (b4.nz (by omega))]
      exact congrArg some (of_ti (((((k100.mul h1 (by decide)).mul b1.l (by decide)).div b4 (by decide)).i (by decide)).e))
    · simp only [if_neg r1]
      rw [g_t (q.nz (by omega))]
      exact congrArg some (of_ti (((((k60.mul h1 (by decide)).mul h2 (by decide)).div q (by decide)).i (by decide)).e))
