/-! ===== more of the cores' questions ===== -/
theorem wayless_sm {f pl ve X Y Dx Dy : Nat → Int32} {L : List (Nat × Nat)} (h : okL f L) (hc : celC f L pl ve) (hr : celR f L X Y Dx Dy) : SM (fX0_withoutWay (nI L.length) ve) (fX12_wayless (nI L.length) Dx Dy) (fun y z => y = z) := by
  have hn := h.1
  unfold fX0_withoutWay fX12_wayless
  refine SM.bind (SM.loop (Q := fun y z => y = z) (fun k v w => v = w ∧ v.2 = nI k) L.length (by omega) ⟨rfl, rfl⟩ ?_ ?_) (fun y z e => SM.ret e)
  · rintro k ⟨a, b⟩ ⟨c, d⟩ hk ⟨e, rfl⟩
    cases e
    refine SM.fL (nle hk (by omega)) (SM.fR (nle hk (by omega)) (SM.eqL (cway_eq h hc hk) (SM.eqR (rway_eq hr hn hk) ?_)))
    refine SM.bind (Q := fun y z => y = a + e_b z) (SM.ite Iff.rfl (fun _ => SM.ret rfl) (fun _ => SM.ret (by simp [e_b]))) (fun y z e => SM.inl ⟨by rw [e], nI_s1 k⟩)
  · rintro ⟨a, b⟩ ⟨c, d⟩ ⟨e, rfl⟩
    cases e
    exact SM.tL (yle (by omega)) (SM.tR (yle (by omega)) (SM.inr rfl))
theorem coreOf_sm {f pl ve X Y Dx Dy : Nat → Int32} {L : List (Nat × Nat)} (hn : L.length ≤ 12) (hc : celC f L pl ve) (hr : celR f L X Y Dx Dy) (x y : Int32) : SM (fX0_indexAt (nI L.length) pl x y) (fX12_coreOf (nI L.length) X Y x y) (fun y z => y = z) := by
  unfold fX0_indexAt fX12_coreOf
  refine SM.bind (SM.loop (Q := fun y z => y = z) (fun k v w => v = w ∧ v = nI k) L.length (by omega) ⟨rfl, rfl⟩ ?_ ?_) (fun y z e => by subst e; cases y <;> exact SM.ret rfl)
  · rintro k a c hk ⟨rfl, rfl⟩
    have g : e_in (nI k) 64 = true := ein_nI (by omega) (by omega)
    have n0 := cplace_eq hc (w := 0) hn hk (by omega)
    have n1 := cplace_eq hc (w := 1) hn hk (by omega)
    rw [← z0] at n0
    rw [← z1] at n1
    simp only [tn_nI (show k < 2147483648 by omega), (hr k hk).1, (hr k hk).2.1]
    refine SM.fL (nle hk (by omega)) (SM.fR (nle hk (by omega)) (SM.eqL n0 (SM.gR g (SM.ite Iff.rfl (fun _ => SM.eqL n1 (SM.gR g (SM.ite Iff.rfl (fun _ => SM.inrx rfl) (fun _ => SM.inl ⟨rfl, nI_s1 k⟩)))) (fun _ => SM.inl ⟨rfl, nI_s1 k⟩)))))
  · rintro a c ⟨rfl, rfl⟩
    exact SM.tL (yle (by omega)) (SM.tR (yle (by omega)) (SM.inr rfl))
theorem product_eq {f pl ve : Nat → Int32} {L : List (Nat × Nat)} (hn : L.length ≤ 12) (hc : celC f L pl ve) {i j : Nat} (hi : i < L.length) (hj : j < L.length) : fX0_productOf (nI L.length) ve (nI i) (nI j) = some (kv f L i 0 * kv f L j 0 + kv f L i 1 * kv f L j 1) := by
  have i0 := numberOf_eq hc (w := 0) hn hi (by omega)
  have i1 := numberOf_eq hc (w := 1) hn hi (by omega)
  have j0 := numberOf_eq hc (w := 0) hn hj (by omega)
  have j1 := numberOf_eq hc (w := 1) hn hj (by omega)
  rw [← z0] at i0 j0
  rw [← z1] at i1 j1
  unfold fX0_productOf
  rw [i0, j0, i1, j1]
  rfl
def sqA (L : List (Nat × Nat)) (i j : Nat) : Int32 := (nI (kx L i) - nI (kx L j)) * (nI (kx L i) - nI (kx L j)) + (nI (ky L i) - nI (ky L j)) * (nI (ky L i) - nI (ky L j))
theorem square_eq {f pl ve : Nat → Int32} {L : List (Nat × Nat)} (hn : L.length ≤ 12) (hc : celC f L pl ve) {i j : Nat} (hi : i < L.length) (hj : j < L.length) : fX0_squareBetween (nI L.length) pl (nI i) (nI j) = some (sqA L i j) := by
  have i0 := cplace_eq hc (w := 0) hn hi (by omega)
  have i1 := cplace_eq hc (w := 1) hn hi (by omega)
  have j0 := cplace_eq hc (w := 0) hn hj (by omega)
  have j1 := cplace_eq hc (w := 1) hn hj (by omega)
  rw [← z0] at i0 j0
  rw [← z1] at i1 j1
  unfold fX0_squareBetween
  rw [i0, j0, i1, j1]
  rfl
theorem apart_eq {f X Y Dx Dy : Nat → Int32} {L : List (Nat × Nat)} (hn : L.length ≤ 12) (hr : celR f L X Y Dx Dy) {i j : Nat} (hi : i < L.length) (hj : j < L.length) : fX12_squareApart X Y (nI i) (nI j) = some (sqA L i j) := by
  have g1 : e_in (nI i) 64 = true := ein_nI (by omega) (by omega)
  have g2 : e_in (nI j) 64 = true := ein_nI (by omega) (by omega)
  unfold fX12_squareApart
  rw [g_t g1, g_t g2, g_t g1, g_t g2, tn_nI (by omega), tn_nI (by omega), (hr i hi).1, (hr i hi).2.1, (hr j hj).1, (hr j hj).2.1]
  rfl
theorem sqA_b {f : Nat → Int32} {L : List (Nat × Nat)} (h : okL f L) {i j : Nat} (hi : i < L.length) (hj : j < L.length) : Bn (sqA L i j) (((kx L i : Int) - (kx L j : Int)) * ((kx L i : Int) - (kx L j : Int)) + ((ky L i : Int) - (ky L j : Int)) * ((ky L i : Int) - (ky L j : Int))) 128 := by
  have b0 := okL_sub h hi hj 0
  have b1 := okL_sub h hi hj 1
  exact (b0.mul b0 (by decide)).add (b1.mul b1 (by decide)) (by decide)
theorem sqA_pos {f : Nat → Int32} {L : List (Nat × Nat)} (h : okL f L) {i j : Nat} (hi : i < L.length) (hj : j < L.length) (e : i ≠ j) : 0 < (sqA L i j).toInt := by
  rw [(sqA_b h hi hj).e]
  exact sqs (fun q => h.2.2 i j hi hj e ⟨by omega, by omega⟩)
set_option maxHeartbeats 1000000 in
theorem energy_sm {f pl ve X Y Dx Dy : Nat → Int32} {L : List (Nat × Nat)} (h : okL f L) (hc : celC f L pl ve) (hr : celR f L X Y Dx Dy) : SM (fX0_energy (nI L.length) pl ve) (fX12_energy (nI L.length) X Y Dx Dy) (fun y z => y = z) := by
  have hn := h.1
  unfold fX0_energy fX12_energy
  refine SM.bind (SM.loop (Q := fun y z => y = z) (fun k v w => v = w ∧ v.2 = nI k) L.length (by omega) ⟨rfl, rfl⟩ ?_ ?_) (fun y z e => SM.ret e)
  · rintro k ⟨a, b⟩ ⟨c, d⟩ hk ⟨e, rfl⟩
    cases e
    have g : e_in (nI k) 64 = true := ein_nI (by omega) (by omega)
    simp only [tn_nI (show k < 2147483648 by omega), (hr k hk).2.2.1, (hr k hk).2.2.2]
    refine SM.fL (nle hk (by omega)) (SM.fR (nle hk (by omega)) (SM.eqL (product_eq hn hc hk hk) (SM.gR g (SM.gR g (SM.gR g (SM.gR g ?_))))))
    refine SM.bind (SM.loop (Q := fun y z => y = z) (fun j v w => v = w ∧ v.2 = nI (k + 1 + j)) (L.length - (k + 1)) (by omega) ⟨rfl, nI_s1 k⟩ ?_ ?_) (fun y z e => SM.inl ⟨by rw [e], nI_s1 k⟩)
    · rintro j ⟨a, b⟩ ⟨c, d⟩ hj ⟨e, rfl⟩
      cases e
      have hj2 : k + 1 + j < L.length := by omega
      have g2 : e_in (nI (k + 1 + j)) 64 = true := ein_nI (by omega) (by omega)
      have hp := sqA_pos h hk hj2 (by omega)
      have nz : e_nz (sqA L k (k + 1 + j)) = true := (sqA_b h hk hj2).nz (by rw [← (sqA_b h hk hj2).e]; omega)
      simp only [tn_nI (show k + 1 + j < 2147483648 by omega), (hr _ hj2).2.2.1, (hr _ hj2).2.2.2]
      refine SM.fL (nle hj2 (by omega)) (SM.fR (nle hj2 (by omega)) (SM.eqL (square_eq hn hc hk hj2) (SM.gR g (SM.gR g2 (SM.gR g (SM.gR g2 (SM.eqR (apart_eq hn hr hk hj2) (SM.gR nz ?_))))))))
      refine SM.okL (Q := fun q => q = ((100 : Int32) * (kv f L k 0 * kv f L (k + 1 + j) 0 + kv f L k 1 * kv f L (k + 1 + j) 1)) / sqA L k (k + 1 + j)) (OK.f (by rw [le_i, c0]; omega) (OK.eq (product_eq hn hc hk hj2) (OK.g nz (OK.ret rfl)))) (fun z e => SM.inl ⟨by rw [e], nI_s1 _⟩)
    · rintro ⟨a, b⟩ ⟨c, d⟩ ⟨e, rfl⟩
      cases e
      have e9 : k + 1 + (L.length - (k + 1)) = L.length := by omega
      rw [e9]
      exact SM.tL (yle (by omega)) (SM.tR (yle (by omega)) (SM.inr rfl))
  · rintro ⟨a, b⟩ ⟨c, d⟩ ⟨e, rfl⟩
    cases e
    exact SM.tL (yle (by omega)) (SM.tR (yle (by omega)) (SM.inr rfl))
