/-! ===== the force: class and reference alike ===== -/
theorem okL_core {f : Nat → Int32} {W H : Nat} (hW : W ≤ 9) (hH : H ≤ 9) (hn : (coreL f W H).length ≤ 12) (hv : ∀ x y p, x + 1 < W → y + 1 < H → p ≤ 1 → (vec f x y p).toInt.natAbs ≤ 20) : okL f (coreL f W H) := by
  refine ⟨hn, fun i hi => ?_, fun i j hi hj e => coreL_ne hi hj e⟩
  obtain ⟨h1, h2, h3⟩ := coreL_at hi
  exact ⟨by omega, by omega, ⟨hv _ _ _ h1 h2 (by omega), hv _ _ _ h1 h2 (by omega)⟩, isC_true.mp h3⟩
theorem okL_kv {f : Nat → Int32} {L : List (Nat × Nat)} (h : okL f L) {i w : Nat} (hi : i < L.length) (hw : w ≤ 1) : Bn (kv f L i w) (kv f L i w).toInt 20 := by
  have h1 := (h.2.1 i hi).2.2.1
  have hw2 : w = 0 ∨ w = 1 := by omega
  rcases hw2 with rfl | rfl
  · exact ⟨rfl, h1.1⟩
  · exact ⟨rfl, h1.2⟩
theorem okL_sub {f : Nat → Int32} {L : List (Nat × Nat)} (h : okL f L) {i j : Nat} (hi : i < L.length) (hj : j < L.length) (w : Nat) : Bn (nI (kp L i w) - nI (kp L j w)) ((kp L i w : Int) - (kp L j w : Int)) 8 := by
  have h1 := okL_kp h hi w
  have h2 := okL_kp h hj w
  have b1 : Bn (nI (kp L i w)) (kp L i w : Int) 7 := ⟨nI_ti _ (by omega), by omega⟩
  have b2 : Bn (nI (kp L j w)) (kp L j w : Int) 7 := ⟨nI_ti _ (by omega), by omega⟩
  exact ⟨(b1.sub b2 (by decide)).e, by omega⟩
theorem okL_ne {f : Nat → Int32} {L : List (Nat × Nat)} (h : okL f L) {i j w : Nat} (hi : i < L.length) (hj : j < L.length) (hw : w ≤ 1) (e : i ≠ j) : ¬ ((kp L i w : Int) - (kp L j w : Int) = 0 ∧ (kp L i (1 - w) : Int) - (kp L j (1 - w) : Int) = 0) := by
  have h1 := h.2.2 i j hi hj e
  have hw2 : w = 0 ∨ w = 1 := by omega
  intro q
  rcases hw2 with rfl | rfl
  · simp only [kp, if_true, show ¬ (1 - 0 = 0) by decide, if_false] at q
    exact h1 ⟨by omega, by omega⟩
  · simp only [kp, if_true, show ¬ (1 = 0) by decide, if_false, show 1 - 1 = 0 from rfl] at q
    exact h1 ⟨by omega, by omega⟩
theorem one_sub {w : Nat} (hw : w ≤ 1) : (1 : Int32) - nI w = nI (1 - w) := by
  have hw2 : w = 0 ∨ w = 1 := by omega
  rcases hw2 with rfl | rfl <;> rfl
theorem cway_eq {f pl ve : Nat → Int32} {L : List (Nat × Nat)} (h : okL f L) (hc : celC f L pl ve) {i : Nat} (hi : i < L.length) : fX0_wayOf (nI L.length) ve (nI i) = some (if kv f L i 1 = 0 then nI 0 else if kv f L i 0 = 0 then nI 1 else -1) := by
  have n0 := numberOf_eq hc (i := i) (w := 0) h.1 hi (by omega)
  have n1 := numberOf_eq hc (i := i) (w := 1) h.1 hi (by omega)
  rw [← z0] at n0
  rw [← z1] at n1
  have hk := (h.2.1 i hi).2.2.2
  unfold fX0_wayOf fX11_wayOfVector
  rw [n0, n1]
  simp only [Option.bind_some]
  by_cases e1 : kv f L i 1 = 0
  · have e0 : ¬ kv f L i 0 = 0 := fun q => hk ⟨q, e1⟩
    rw [if_pos e1, if_neg e0, if_pos e1]
    rfl
  · rw [if_neg e1, if_neg e1]
    by_cases e0 : kv f L i 0 = 0
    · rw [if_pos e0, if_pos e0]; rfl
    · rw [if_neg e0, if_neg e0]; rfl
set_option maxHeartbeats 2000000 in
theorem cforce_w {f pl ve told : Nat → Int32} {L : List (Nat × Nat)} (h : okL f L) (hc : celC f L pl ve) {i w : Nat} (hi : i < L.length) (hw : w ≤ 1) (hway : fX0_wayOf (nI L.length) ve (nI i) = some (nI w)) : fX0_forceOn (nI L.length) pl ve told (nI i) = some (frc f L told w i L.length) := by
  have hn := h.1
  apply OK.val
  unfold fX0_forceOn
  simp only [show tn 3 = 3 from rfl]
  refine OK.eq hway (OK.f (nI_pos (by omega)) (OK.eq (numberOf_eq hc hn hi hw) (OK.g (ein_nI (by omega) (by omega)) ?_)))
  refine OK.bind (OK.loop (Q := fun y => y = frc f L told w i L.length) (fun j v => v.1 = frc f L told w i j ∧ v.2 = nI j) L.length (by omega) ⟨by simp only [tn_nI (show w < 2147483648 by omega)]; rfl, rfl⟩ ?_ ?_) (fun y hy => OK.ret hy)
  · rintro j ⟨a, c⟩ hj ⟨rfl, rfl⟩
    simp only
    refine OK.f (by rw [nI_le_iff (by omega) (by omega)]; omega) ?_
    by_cases e : j = i
    · refine OK.bind (Q := fun q => q = frc f L told w i (j + 1)) (OK.t (by rw [e]) (OK.ret (by simp [frc, e]))) (fun q hq => OK.inl ⟨hq, by simp only [z1, nI_add]⟩)
    · refine OK.bind (Q := fun q => q = frc f L told w i (j + 1)) (OK.f (by rw [nI_inj (by omega) (by omega)]; exact e) ?_) (fun q hq => OK.inl ⟨hq, by simp only [z1, nI_add]⟩)
      rw [one_sub hw]
      refine OK.eq (cplace_eq hc hn hi hw) (OK.eq (cplace_eq hc hn hj hw) (OK.eq (cplace_eq hc hn hi (by omega)) (OK.eq (cplace_eq hc hn hj (by omega)) (OK.eq (numberOf_eq hc hn hj hw) (OK.eq (pull_eq ((okL_kv h hi hw).mul (okL_kv h hj hw) (by decide)) (okL_sub h hi hj w) (okL_sub h hi hj (1 - w)) (okL_ne h hi hj hw (Ne.symm e))) (OK.ret ?_))))))
      simp only [frc, if_neg e]
  · rintro ⟨a, c⟩ ⟨rfl, rfl⟩
    exact OK.t (by show nI L.length ≤ nI L.length; rw [nI_le_iff (by omega) (by omega)]; omega) (OK.inr rfl)
theorem cforce_eq {f pl ve told : Nat → Int32} {L : List (Nat × Nat)} (h : okL f L) (hc : celC f L pl ve) {i : Nat} (hi : i < L.length) : fX0_forceOn (nI L.length) pl ve told (nI i) = some (frcA f L told i) := by
  have hway := cway_eq h hc hi
  unfold frcA
  by_cases e1 : kv f L i 1 = 0
  · rw [if_pos e1] at hway ⊢
    exact cforce_w h hc hi (by omega) hway
  · rw [if_neg e1] at hway ⊢
    by_cases e0 : kv f L i 0 = 0
    · rw [if_pos e0] at hway ⊢
      exact cforce_w h hc hi (by omega) hway
    · rw [if_neg e0] at hway ⊢
      unfold fX0_forceOn
      rw [hway, Option.bind_some, if_pos (by decide)]
theorem along_eq {f X Y Dx Dy : Nat → Int32} {L : List (Nat × Nat)} (hc : celR f L X Y Dx Dy) {i w : Nat} (hn : L.length ≤ 12) (hi : i < L.length) (hw : w ≤ 1) : fX12_along Dx Dy (nI i) (nI w) = some (kv f L i w) := by
  have h1 := hc i hi
  have g : e_in (nI i) 64 = true := ein_nI (by omega) (by omega)
  have t : tn (nI i) = i := tn_nI (by omega)
  unfold fX12_along
  have hw2 : w = 0 ∨ w = 1 := by omega
  rcases hw2 with rfl | rfl
  · rw [if_pos (show nI 0 = 0 from rfl), g_t g, t, h1.2.2.1]
  · rw [if_neg (by decide), g_t g, t, h1.2.2.2]
theorem palong_eq {f X Y Dx Dy : Nat → Int32} {L : List (Nat × Nat)} (hc : celR f L X Y Dx Dy) {i w : Nat} (hn : L.length ≤ 12) (hi : i < L.length) (hw : w ≤ 1) : fX12_placeAlong X Y (nI i) (nI w) = some (nI (kp L i w)) := by
  have h1 := hc i hi
  have g : e_in (nI i) 64 = true := ein_nI (by omega) (by omega)
  have t : tn (nI i) = i := tn_nI (by omega)
  unfold fX12_placeAlong
  have hw2 : w = 0 ∨ w = 1 := by omega
  rcases hw2 with rfl | rfl
  · rw [if_pos (show nI 0 = 0 from rfl), g_t g, t, h1.1]; rfl
  · rw [if_neg (by decide), g_t g, t, h1.2.1]; rfl
theorem rway_eq {f X Y Dx Dy : Nat → Int32} {L : List (Nat × Nat)} (hc : celR f L X Y Dx Dy) {i : Nat} (hn : L.length ≤ 12) (hi : i < L.length) : fX12_way Dx Dy (nI i) = some (if kv f L i 1 = 0 then nI 0 else if kv f L i 0 = 0 then nI 1 else -1) := by
  have h1 := hc i hi
  have g : e_in (nI i) 64 = true := ein_nI (by omega) (by omega)
  have t : tn (nI i) = i := tn_nI (by omega)
  unfold fX12_way fX12_wayOf
  rw [g_t g, g_t g, t, h1.2.2.1, h1.2.2.2]
  by_cases e1 : kv f L i 1 = 0
  · rw [if_pos e1, if_pos e1]; rfl
  · rw [if_neg e1, if_neg e1]
    by_cases e0 : kv f L i 0 = 0
    · rw [if_pos e0, if_pos e0]; rfl
    · rw [if_neg e0, if_neg e0]; rfl
set_option maxHeartbeats 2000000 in
theorem rforce_w {f X Y Dx Dy told : Nat → Int32} {L : List (Nat × Nat)} (h : okL f L) (hc : celR f L X Y Dx Dy) {i w : Nat} (hi : i < L.length) (hw : w ≤ 1) (hway : fX12_way Dx Dy (nI i) = some (nI w)) : fX12_forceOn (nI L.length) told X Y Dx Dy (nI i) = some (frc f L told w i L.length) := by
  have hn := h.1
  have hw2 : w = 0 ∨ w = 1 := by omega
  apply OK.val
  unfold fX12_forceOn
  refine OK.eq hway (OK.f (by rcases hw2 with rfl | rfl <;> decide) ?_)
  refine OK.bind (Q := fun b => e_b b = nI w) (by rcases hw2 with rfl | rfl <;> exact ⟨_, rfl, rfl⟩) (fun b hb => ?_)
  rw [hb]
  refine OK.g (ein_nI (by omega) (by omega)) (OK.eq (along_eq hc hn hi hw) ?_)
  refine OK.bind (OK.loop (Q := fun y => y = frc f L told w i L.length) (fun j v => v.1 = frc f L told w i j ∧ v.2 = nI j) L.length (by omega) ⟨by simp only [tn_nI (show w < 2147483648 by omega)]; rfl, rfl⟩ ?_ ?_) (fun y hy => OK.ret hy)
  · rintro j ⟨a, c⟩ hj ⟨rfl, rfl⟩
    simp only
    refine OK.f (by rw [nI_le_iff (by omega) (by omega)]; omega) ?_
    by_cases e : j = i
    · refine OK.bind (Q := fun q => q = frc f L told w i (j + 1)) (OK.t (by rw [e]) (OK.ret (by simp [frc, e]))) (fun q hq => OK.inl ⟨hq, by simp only [z1, nI_add]⟩)
    · refine OK.bind (Q := fun q => q = frc f L told w i (j + 1)) (OK.f (by rw [nI_inj (by omega) (by omega)]; exact e) ?_) (fun q hq => OK.inl ⟨hq, by simp only [z1, nI_add]⟩)
      rw [one_sub hw]
      refine OK.eq (palong_eq hc hn hi hw) (OK.eq (palong_eq hc hn hj hw) (OK.eq (palong_eq hc hn hi (by omega)) (OK.eq (palong_eq hc hn hj (by omega)) (OK.eq (along_eq hc hn hi hw) (OK.eq (along_eq hc hn hj hw) (OK.eq (forceBy_eq ((okL_kv h hi hw).l.mul (okL_kv h hj hw).l (by decide)) (okL_sub h hi hj w).l (okL_sub h hi hj (1 - w)).l (okL_ne h hi hj hw (Ne.symm e))) (OK.ret ?_)))))))
      simp only [frc, if_neg e]
  · rintro ⟨a, c⟩ ⟨rfl, rfl⟩
    exact OK.t (by show nI L.length ≤ nI L.length; rw [nI_le_iff (by omega) (by omega)]; omega) (OK.inr rfl)
theorem rforce_eq {f X Y Dx Dy told : Nat → Int32} {L : List (Nat × Nat)} (h : okL f L) (hc : celR f L X Y Dx Dy) {i : Nat} (hi : i < L.length) : fX12_forceOn (nI L.length) told X Y Dx Dy (nI i) = some (frcA f L told i) := by
  have hway := rway_eq hc h.1 hi
  unfold frcA
  by_cases e1 : kv f L i 1 = 0
  · rw [if_pos e1] at hway ⊢
    exact rforce_w h hc hi (by omega) hway
  · rw [if_neg e1] at hway ⊢
    by_cases e0 : kv f L i 0 = 0
    · rw [if_pos e0] at hway ⊢
      exact rforce_w h hc hi (by omega) hway
    · rw [if_neg e0] at hway ⊢
      unfold fX12_forceOn
      rw [hway, Option.bind_some, if_pos rfl]
/-- the reference's cores and forces, laid -/
theorem lays_eq {W H : Nat} (hW : W ≤ 9) (hH : H ≤ 9) (f told X0 Y0 Dx0 Dy0 Fo0 : Nat → Int32) (k0 : Int32) (h : okL f (coreL f W H)) :
    OK (fX12_laysCores (nI W) (nI H) k0 f told X0 Y0 Dx0 Dy0 Fo0) (fun R => R.1 = nI (coreL f W H).length ∧ R.2.1 = nI (coreL f W H).length ∧ celR f (coreL f W H) R.2.2.1 R.2.2.2.1 R.2.2.2.2.1 R.2.2.2.2.2.1 ∧ ∀ i, i < (coreL f W H).length → R.2.2.2.2.2.2 i = frcA f (coreL f W H) told i) :=
  lays_ok hW hH f told X0 Y0 Dx0 Dy0 Fo0 k0 _ h.1 (fun _ _ _ _ hc _ hi => rforce_eq h hc hi)
