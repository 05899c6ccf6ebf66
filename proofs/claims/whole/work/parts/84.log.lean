/-! ===== the log grows ===== -/
theorem add_ok {n : Nat} (hn : n ≤ 40000000) (ta rows : Nat → Int32) (p : Int32) : OK (fX3_add (nI n) ta rows p) (fun y => y.1 = nI (n + 1) ∧ (∀ w, w < 3 → y.2 (4 * (n % 40) + w) = ta w) ∧ y.2 (4 * (n % 40) + 3) = p ∧ ∀ k, ¬ (4 * (n % 40) ≤ k ∧ k < 4 * (n % 40) + 4) → y.2 k = rows k) := by
  unfold fX3_add
  have fm := fm_eq (a := n) (m := 40) (by omega) (by omega) (by omega)
  have m40 : n % 40 < 40 := Nat.mod_lt _ (by omega)
  refine OK.eq fm (OK.bind (Q := fun x => (∀ w, w < 3 → x (4 * (n % 40) + w) = ta w) ∧ ∀ k, ¬ (4 * (n % 40) ≤ k ∧ k < 4 * (n % 40) + 3) → x k = rows k) (OK.loop (fun k v => v.1 = nI k ∧ (∀ w, w < k → v.2 (4 * (n % 40) + w) = ta w) ∧ ∀ j, ¬ (4 * (n % 40) ≤ j ∧ j < 4 * (n % 40) + k) → v.2 j = rows j) 3 (by omega) ⟨rfl, fun w hw => by omega, fun j _ => rfl⟩ ?_ ?_) (fun x hx => ?_))
  · rintro k ⟨a, b⟩ hk ⟨rfl, h1, h2⟩
    simp only at h1 h2 ⊢
    rw [show (4 : Int32) * nI (n % 40) + nI k = nI (4 * (n % 40) + k) by rw [z4, pk_mul, nI_add]]
    have l3 : ¬ (3 : Int32) ≤ nI k := by rw [show (3 : Int32) = nI 3 from rfl]; exact nle hk (by omega)
    refine OK.f l3 (OK.f l3 (OK.g (ein_nI hk (by omega)) (OK.g (ein_nI (by omega) (by omega)) (OK.inl ⟨nI_s1 k, fun w hw => ?_, fun j hj => ?_⟩))))
    · rw [tn_nI (by omega), tn_nI (by omega)]
      simp only [upd]
      by_cases e : w = k
      · rw [if_pos (by omega), e]
      · rw [if_neg (by omega)]; exact h1 w (by omega)
    · rw [tn_nI (by omega), tn_nI (by omega)]
      simp only [upd]
      rw [if_neg (by omega)]; exact h2 j (by omega)
  · rintro ⟨a, b⟩ ⟨rfl, h1, h2⟩
    exact OK.t (by show (3 : Int32) ≤ nI 3; decide) (OK.inr ⟨h1, h2⟩)
  · have e : (4 : Int32) * nI (n % 40) + 4 - 1 = nI (4 * (n % 40) + 3) := by
      rw [z4, pk_mul, nI_add, sub1_nI (by omega) (by omega)]
      congr 1
    rw [e]
    refine OK.g (ein_nI (by omega) (by omega)) (OK.ret ⟨nI_s1 n, fun w hw => ?_, ?_, fun k hk => ?_⟩)
    · rw [tn_nI (by omega)]
      simp only [upd]
      rw [if_neg (by omega)]; exact hx.1 w hw
    · rw [tn_nI (by omega)]
      simp only [upd, if_true]
    · rw [tn_nI (by omega)]
      simp only [upd]
      rw [if_neg (by omega)]; exact hx.2 k (by omega)
set_option maxHeartbeats 1000000 in
theorem logs_ok {W H n : Nat} (hW : W ≤ 9) (hH : H ≤ 9) (hW1 : 1 ≤ W) (hH1 : 1 ≤ H) {f : Nat → Int32} (hf : f 324 = nI (min n 40)) (a b c : Int32) :
    OK (fX12_logs (nI W) (nI H) f a b c) (fun z => (∀ k, k < 324 → z k = f k) ∧ z 325 = f 325 ∧ z 324 = nI (min (n + 1) 40) ∧ z (326 + 4 * (min (n + 1) 40 - 1)) = a ∧ z (326 + 4 * (min (n + 1) 40 - 1) + 1) = b ∧ z (326 + 4 * (min (n + 1) 40 - 1) + 2) = c ∧ z (326 + 4 * (min (n + 1) 40 - 1) + 3) = nI (coreL f W H).length ∧ ∀ j w, j < min (n + 1) 40 - 1 → w < 4 → z (326 + 4 * j + w) = f (326 + 4 * (j + (min n 40 + 1 - min (n + 1) 40)) + w)) := by
  unfold fX12_logs
  have t324 : tn 324 = 324 := tn_nI (k := 324) (by omega)
  simp only [t324]
  refine OK.bind (Q := fun q => (∀ k, k < 324 → q k = f k) ∧ q 325 = f 325 ∧ q 324 = nI (min (n + 1) 40 - 1) ∧ ∀ j w, j < min (n + 1) 40 - 1 → w < 4 → q (326 + 4 * j + w) = f (326 + 4 * (j + (min n 40 + 1 - min (n + 1) 40)) + w)) ?_ ?_
  · by_cases e : 40 ≤ n
    · have e40 : f 324 = 40 := by rw [hf, Nat.min_eq_right e]; rfl
      refine OK.t e40 (OK.bind (Q := fun x => (∀ k, k < 326 → x k = f k) ∧ ∀ m, m < 156 → x (326 + m) = f (326 + m + 4)) (OK.loop (fun k v => v.1 = nI (4 + k) ∧ (∀ m, m < k → v.2 (326 + m) = f (326 + m + 4)) ∧ (∀ m, k ≤ m → v.2 (326 + m) = f (326 + m)) ∧ ∀ m, m < 326 → v.2 m = f m) 156 (by omega) ⟨rfl, fun m hm => by omega, fun m _ => rfl, fun _ _ => rfl⟩ ?_ ?_) (fun x hx => OK.ret ⟨fun k hk => ?_, ?_, ?_, fun j w hj hw => ?_⟩))
      · rintro k ⟨v1, v2⟩ hk ⟨rfl, h1, h2, h3⟩
        simp only at h1 h2 h3 ⊢
        have e1 : (326 : Int32) + nI (4 + k) = nI (330 + k) := by rw [show (326 : Int32) = nI 326 from rfl, nI_add, show 326 + (4 + k) = 330 + k by omega]
        have e2 : (326 : Int32) + nI (4 + k) - 4 = nI (326 + k) := by rw [e1, show (4 : Int32) = nI 4 from rfl, sub_nI (by omega) (by omega), show 330 + k - 4 = 326 + k by omega]
        rw [e2, e1]
        refine OK.f (by rw [show (160 : Int32) = nI 160 from rfl]; exact nle (by omega) (by omega)) (OK.g (ein_nI (by omega) (by omega)) (OK.g (ein_nI (by omega) (by omega)) (OK.inl ⟨by rw [nI_s1]; rfl, fun m hm => ?_, fun m hm => ?_, fun m hm => ?_⟩)))
        · rw [tn_nI (by omega), tn_nI (by omega)]
          simp only [upd]
          by_cases q : m = k
          · subst q
            rw [if_pos rfl, show 330 + m = 326 + (m + 4) by omega, h2 _ (by omega)]
            rfl
          · rw [if_neg (by omega)]; exact h1 m (by omega)
        · rw [tn_nI (by omega), tn_nI (by omega)]
          simp only [upd]
          rw [if_neg (by omega)]; exact h2 m (by omega)
        · rw [tn_nI (by omega), tn_nI (by omega)]
          simp only [upd]
          rw [if_neg (by omega)]; exact h3 m hm
      · rintro ⟨v1, v2⟩ ⟨rfl, h1, h2, h3⟩
        exact OK.t (by show (160 : Int32) ≤ nI (4 + 156); decide) (OK.inr ⟨h3, h1⟩)
      · simp only [upd]
        rw [if_neg (by omega)]; exact hx.1 k (by omega)
      · simp only [upd]
        rw [if_neg (by omega)]; exact hx.1 325 (by omega)
      · simp only [upd, if_true]
        rw [hx.1 324 (by omega), e40, Nat.min_eq_right (by omega)]; rfl
      · simp only [upd]
        rw [if_neg (by omega), show 326 + 4 * j + w = 326 + (4 * j + w) by omega, hx.2 _ (by omega)]
        congr 1
        omega
    · have e40 : ¬ f 324 = 40 := by rw [hf, show (40 : Int32) = nI 40 from rfl, nI_inj (by omega) (by omega)]; omega
      refine OK.f e40 (OK.ret ⟨fun _ _ => rfl, rfl, by rw [hf]; congr 1; omega, fun j w hj hw => ?_⟩)
      congr 1
      omega
  · rintro q ⟨h1, h2, h3, h4⟩
    generalize hm : min (n + 1) 40 - 1 = m at h3 h4 ⊢
    have hm39 : m ≤ 39 := by omega
    rw [h3]
    have e0 : (326 : Int32) + (4 : Int32) * nI m = nI (326 + 4 * m) := by rw [z4, pk_mul, show (326 : Int32) = nI 326 from rfl, nI_add]
    simp only [e0, nI_s1, z2, nI_add, show (3 : Int32) = nI 3 from rfl]
    rw [tn_nI (show 326 + 4 * m < 2147483648 by omega), tn_nI (show 326 + 4 * m + 1 < 2147483648 by omega), tn_nI (show 326 + 4 * m + 2 < 2147483648 by omega), tn_nI (show 326 + 4 * m + 3 < 2147483648 by omega)]
    have lo : ∀ k, k < 324 → upd (upd (upd q (326 + 4 * m) a) (326 + 4 * m + 1) b) (326 + 4 * m + 2) c k = f k := by
      intro k hk
      simp only [upd]
      rw [if_neg (by omega), if_neg (by omega), if_neg (by omega)]
      exact h1 k hk
    have cl : coreL (upd (upd (upd q (326 + 4 * m) a) (326 + 4 * m + 1) b) (326 + 4 * m + 2) c) W H = coreL f W H := coreL_agr (agr_lo hW hH lo)
    have ca := coresAll_eq (f := upd (upd (upd q (326 + 4 * m) a) (326 + 4 * m + 1) b) (326 + 4 * m + 2) c) hW hH hW1 hH1
    rw [cl] at ca
    refine OK.g (ein_nI (by omega) (by omega)) (OK.g (ein_nI (by omega) (by omega)) (OK.g (ein_nI (by omega) (by omega)) (OK.eq ca (OK.g (ein_nI (by omega) (by omega)) (OK.ret ⟨?_, ?_, ?_, ?_, ?_, ?_, ?_, ?_⟩)))))
    · intro k hk
      simp only [upd]
      rw [if_neg (by omega), if_neg (by omega)]
      exact lo k hk
    · simp only [upd]
      rw [if_neg (by omega), if_neg (by omega), if_neg (by omega), if_neg (by omega), if_neg (by omega)]; exact h2
    · simp only [upd, if_true]
      rw [if_neg (by omega), if_neg (by omega), if_neg (by omega), if_neg (by omega), h3, nI_s1]
      congr 1
      omega
    · simp only [upd]
      rw [if_neg (by omega), if_neg (by omega), if_neg (by omega), if_neg (by omega), if_pos trivial]
    · simp only [upd]
      rw [if_neg (by omega), if_neg (by omega), if_neg (by omega), if_pos trivial]
    · simp only [upd]
      rw [if_neg (by omega), if_neg (by omega), if_pos trivial]
    · simp only [upd]
      rw [if_neg (by omega), if_pos trivial]
    · intro j w hj hw
      simp only [upd]
      rw [if_neg (by omega), if_neg (by omega), if_neg (by omega), if_neg (by omega), if_neg (by omega)]
      exact h4 j w hj hw
/-- a round's row -/
theorem logged_sm {W H n : Nat} (hW : W ≤ 9) (hH : H ≤ 9) (hW1 : 1 ≤ W) (hH1 : 1 ≤ H) (hn : n ≤ 40000000) {T : Int32} {rows f f' ta : Nat → Int32} {a b c : Int32} (h : logR T rows f n) (h5 : f' 325 = f 325 + 1) (hk : ∀ k, 324 ≤ k → k ≠ 325 → f' k = f k) (ha : ta 0 = a) (hb : ta 1 = b) (hc : ta 2 = c) :
    SM (fX3_add T ta rows (nI (coreL f' W H).length)) (fX12_logs (nI W) (nI H) f' a b c) (fun y z => logR y.1 y.2 z (n + 1) ∧ ∀ k, k < 324 → z k = f' k) := by
  obtain ⟨rfl, h2, h3, h4⟩ := h
  obtain ⟨⟨y1, y2⟩, ey, e1, e2, e3, e4⟩ := add_ok hn ta rows (nI (coreL f' W H).length)
  obtain ⟨z, ez, k1, k2, k3, k4, k5, k6, k7, k8⟩ := logs_ok (n := n) hW hH hW1 hH1 (f := f') (by rw [hk 324 (by omega) (by omega)]; exact h3) a b c
  refine ⟨_, _, ey, ez, ⟨e1, by rw [k2, h5, h2, nI_s1], k3, fun i w hi hw => ?_⟩, k1⟩
  simp only at e2 e3 e4 ⊢
  by_cases i0 : i = 0
  · subst i0
    rw [show n + 1 - 1 - 0 = n by omega, Nat.sub_zero]
    rcases (show w = 0 ∨ w = 1 ∨ w = 2 ∨ w = 3 by omega) with rfl | rfl | rfl | rfl
    · rw [e2 0 (by omega), Nat.add_zero, k4, ha]
    · rw [e2 1 (by omega), k5, hb]
    · rw [e2 2 (by omega), k6, hc]
    · rw [e3, k7]
  · have m1 : (n + 1 - 1 - i) % 40 ≠ n % 40 := by omega
    rw [e4 _ (by omega), k8 _ w (by omega) hw, hk _ (by omega) (by omega)]
    have := h4 (i - 1) w (by omega) hw
    rw [show n - 1 - (i - 1) = n + 1 - 1 - i by omega] at this
    rw [this]
    congr 1
    omega
