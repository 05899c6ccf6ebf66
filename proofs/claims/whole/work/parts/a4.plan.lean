/-! ===== the class's plan ===== -/
def chf (ch : Nat → Bool) (a : Nat) : Nat → Nat
  | 0 => 0
  | k + 1 => if ch k = true ∧ cnt ch k = a then k else chf ch a k
theorem chf_eq {ch : Nat → Bool} {i : Nat} (hi : ch i = true) : ∀ n, i < n → chf ch (cnt ch i) n = i := by
  intro n
  induction n with
  | zero => intro h; omega
  | succ n ih =>
    intro h
    simp only [chf]
    by_cases e : i = n
    · subst e; rw [if_pos ⟨hi, rfl⟩]
    · rw [if_neg (fun q => e (cnt_inj hi q.1 q.2.symm))]
      exact ih (by omega)
theorem chf_ok {ch : Nat → Bool} {a n : Nat} (h : a < cnt ch n) : chf ch a n < n ∧ ch (chf ch a n) = true ∧ cnt ch (chf ch a n) = a := by
  obtain ⟨i, i1, i2, i3⟩ := cnt_at ch h
  rw [← i3, chf_eq i2 n i1]
  exact ⟨i1, i2, rfl⟩
/-- the choosers' numbers -/
def pQ (P : eP) (ch : Nat → Bool) (n : Nat) : eP := (fun a => P.1 (chf ch a n), fun a b => P.2.1 (chf ch a n) (chf ch b n), fun a b => P.2.2 (chf ch a n) (chf ch b n))
theorem okQ_pQ {f : Nat → Int32} {L : List (Nat × Nat)} {W H pr : Nat} : okQ L.length (chB f L) (pR f L W H pr) (pQ (pR f L W H pr) (chB f L) L.length) := by
  refine ⟨fun i hi ci => ?_, fun i j hi hj ci cj _ => ?_, fun i j hi hj _ h => ?_⟩
  · show (pR f L W H pr).1 (chf (chB f L) (cnt (chB f L) i) L.length) = _
    rw [chf_eq ci _ hi]
  · show (pR f L W H pr).2.1 (chf (chB f L) (cnt (chB f L) i) L.length) (chf (chB f L) (cnt (chB f L) j) L.length) = _ ∧ (pR f L W H pr).2.2 (chf (chB f L) (cnt (chB f L) i) L.length) (chf (chB f L) (cnt (chB f L) j) L.length) = _
    rw [chf_eq ci _ hi, chf_eq cj _ hj]
    exact ⟨rfl, rfl⟩
  · have h := of_decide_eq_true h
    exact ⟨chB_iff.mpr ⟨j, hj, h⟩, chB_iff.mpr ⟨i, hi, opp_symm h⟩⟩
theorem PR_full {n : Nat} (hn : n ≤ 12) (ch : Nat → Bool) : PR n ch (2 ^ n - 1) (2 ^ cnt ch n - 1) := by
  have h1 := two_le hn
  have h2 := two_le (n := cnt ch n) (by have := cnt_le ch n; omega)
  have h3 : 0 < 2 ^ n := Nat.two_pow_pos n
  have h4 : 0 < 2 ^ cnt ch n := Nat.two_pow_pos _
  refine ⟨by omega, by omega, fun i hi => by rw [full_tb]; exact decide_eq_false (by omega), fun i hi ci => ?_, fun a ha => by rw [full_tb]; exact decide_eq_false (by omega)⟩
  rw [full_tb, full_tb, decide_eq_true hi, decide_eq_true (cnt_lt hi ci)]
theorem non_le {P : eP} {ch : Nat → Bool} {s : Nat} {M : Nat} (hM : ∀ i, P.1 i ≤ M) : ∀ k, non P ch s k ≤ M * k := by
  intro k
  induction k with
  | zero => exact Nat.le_refl _
  | succ k ih =>
    simp only [non]
    have := hM k
    rw [Nat.mul_succ]
    split <;> omega
/-- what was weighed -/
def wghR (n : Nat) (ch : Nat → Bool) (P : eP) (z : Int32 × Int32 × (Nat → Int32) × (Nat → Int32) × (Nat → Int32) × (Nat → Int32)) : Prop :=
  z.1 = nI (non P ch (2 ^ n - 1) n) ∧ z.2.1 = nI (cnt ch n) ∧ (∀ i, i < n → z.2.2.1 i = nI i) ∧ (∀ i, i < n → z.2.2.2.1 i = nI (P.1 i)) ∧ (∀ a, a < cnt ch n → z.2.2.2.2.1 a = nI (chf ch a n)) ∧ ∀ a b, a < b → b < cnt ch n → z.2.2.2.2.2 (12 * a + b) = if (pQ P ch n).2.2 a b = true then nI ((pQ P ch n).2.1 a b) else -1
set_option maxHeartbeats 2000000 in
theorem weigh_ok {W H : Nat} (hW : W ≤ 9) (hH : H ≤ 9) {f pl ve pa le cs mt : Nat → Int32} {L : List (Nat × Nat)} (hok : okL f L) (hc : celC f L pl ve) (hin : ∀ i, i < L.length → kx L i + 1 < W ∧ ky L i + 1 < H) {pr : Nat} (hpr : pr ≤ 9) (a b : Int32) : OK (fX6_weigh (nI W) (nI H) (nI L.length) a b pl ve pa le cs mt (nI pr)) (wghR L.length (chB f L) (pR f L W H pr)) := by
  unfold fX6_weigh
  have hn := hok.1
  have hM : ∀ i, (pR f L W H pr).1 i ≤ 81 := fun i => ot_le hW hpr
  have lv := fun {i : Nat} (hi : i < L.length) => leave_eq hW hH hok hc hin hpr (pr := pr) hi
  have ch1 := fun {i : Nat} (hi : i < L.length) => chas_eq hok hc hi
  refine OK.bind (Q := fun z => z.1 = nI (non (pR f L W H pr) (chB f L) (2 ^ L.length - 1) L.length) ∧ z.2.1 = nI (cnt (chB f L) L.length) ∧ (∀ i, i < L.length → z.2.2.1 i = nI i) ∧ (∀ i, i < L.length → z.2.2.2.1 i = nI ((pR f L W H pr).1 i)) ∧ ∀ i, i < L.length → chB f L i = true → z.2.2.2.2 (cnt (chB f L) i) = nI i) (OK.loop (fun k v => v.1 = nI k ∧ v.2.1 = nI (non (pR f L W H pr) (chB f L) (2 ^ L.length - 1) k) ∧ v.2.2.1 = nI (cnt (chB f L) k) ∧ (∀ i, i < k → v.2.2.2.1 i = nI i) ∧ (∀ i, i < k → v.2.2.2.2.1 i = nI ((pR f L W H pr).1 i)) ∧ ∀ i, i < k → chB f L i = true → v.2.2.2.2.2 (cnt (chB f L) i) = nI i) L.length (by omega) ⟨rfl, rfl, rfl, fun i hi => by omega, fun i hi => by omega, fun i hi => by omega⟩ ?_ ?_) ?_
  · rintro k ⟨v1, v2, v3, v4, v5, v6⟩ hk ⟨rfl, rfl, rfl, h4, h5, h6⟩
    simp only at h4 h5 h6 ⊢
    have ck := cnt_le (chB f L) k
    have gk : e_in (nI k) 12 = true := ein_nI (by omega) (by omega)
    have bitk : (2 ^ L.length - 1).testBit k = true := by rw [full_tb]; exact decide_eq_true hk
    refine OK.f (nle hk (by omega)) (OK.f (by rw [show (12 : Int32) = nI 12 from rfl]; exact nle (by omega) (by omega)) (OK.g gk (OK.eq (lv hk) (OK.g gk (OK.eq (ch1 hk) (OK.bind (Q := fun z => z.1 = nI (non (pR f L W H pr) (chB f L) (2 ^ L.length - 1) (k + 1)) ∧ z.2.1 = nI (cnt (chB f L) (k + 1)) ∧ ∀ i, i < k + 1 → chB f L i = true → z.2.2 (cnt (chB f L) i) = nI i) ?_ (fun z hz => OK.inl ⟨nI_s1 k, hz.1, hz.2.1, fun i hi => ?_, fun i hi => ?_, hz.2.2⟩)))))))
    · cases hck : chB f L k with
      | true =>
        refine OK.t rfl (OK.f (by rw [show (12 : Int32) = nI 12 from rfl]; exact nle (by omega) (by omega)) (OK.g (ein_nI (by omega) (by omega)) (OK.ret ⟨?_, ?_, fun i hi ci => ?_⟩)))
        · simp only [non]; rw [if_neg (fun q => by rw [hck] at q; exact absurd q.2 (by decide)), Nat.add_zero]
        · simp only [cnt, hck, Bool.toNat_true]; exact nI_s1 _
        · rw [tn_nI (by omega)]
          simp only [upd]
          by_cases e : i = k
          · rw [if_pos (by rw [e]), e]
          · have := cnt_lt (show i < k by omega) ci
            rw [if_neg (by omega)]; exact h6 i (by omega) ci
      | false =>
        refine OK.f (by decide) (OK.g gk (OK.ret ⟨?_, ?_, fun i hi ci => ?_⟩))
        · rw [tn_nI (by omega)]
          simp only [upd, if_true, non]
          rw [if_pos ⟨bitk, hck⟩, nI_add]
          rfl
        · simp only [cnt, hck, Bool.toNat_false, Nat.add_zero]
        · by_cases e : i = k
          · rw [e, hck] at ci; exact absurd ci (by decide)
          · exact h6 i (by omega) ci
    · simp only [upd]
      rw [tn_nI (by omega)]
      by_cases e : i = k
      · rw [if_pos e, e]
      · rw [if_neg e]; exact h4 i (by omega)
    · simp only [upd]
      rw [tn_nI (by omega)]
      by_cases e : i = k
      · rw [if_pos e, e]; rfl
      · rw [if_neg e]; exact h5 i (by omega)
  · rintro ⟨v1, v2, v3, v4, v5, v6⟩ ⟨rfl, rfl, rfl, h4, h5, h6⟩
    exact OK.t (yle (by omega)) (OK.inr ⟨rfl, rfl, h4, h5, h6⟩)
  · rintro ⟨x1, x2, x3, x4, x5⟩ ⟨rfl, rfl, h3, h4, h5⟩
    simp only at h3 h4 h5 ⊢
    generalize hch : chB f L = ch at h5
    have cm := cnt_le ch L.length
    have hcs : ∀ a, a < cnt ch L.length → x5 a = nI (chf ch a L.length) := by
      intro a ha
      obtain ⟨i, i1, i2, i3⟩ := cnt_at ch ha
      rw [← i3, h5 i i1 i2, chf_eq i2 _ i1]
    refine OK.bind (Q := fun mt' => ∀ a b, a < b → b < cnt ch L.length → mt' (12 * a + b) = if (pQ (pR f L W H pr) ch L.length).2.2 a b = true then nI ((pQ (pR f L W H pr) ch L.length).2.1 a b) else -1) (OK.loop (fun k v => v.1 = nI k ∧ ∀ a b, a < k → a < b → b < cnt ch L.length → v.2 (12 * a + b) = if (pQ (pR f L W H pr) ch L.length).2.2 a b = true then nI ((pQ (pR f L W H pr) ch L.length).2.1 a b) else -1) (cnt ch L.length) (by omega) ⟨rfl, fun a b ha => by omega⟩ ?_ ?_) (fun mt' hmt => OK.ret ⟨rfl, rfl, h3, h4, hcs, hmt⟩)
    · rintro k ⟨v1, mk⟩ hk ⟨rfl, hv⟩
      simp only at hv ⊢
      refine OK.f (nle hk (by omega)) (OK.bind (Q := fun mt' => ∀ a b, a < k + 1 → a < b → b < cnt ch L.length → mt' (12 * a + b) = if (pQ (pR f L W H pr) ch L.length).2.2 a b = true then nI ((pQ (pR f L W H pr) ch L.length).2.1 a b) else -1) (OK.loop (fun j v => v.1 = nI (k + 1 + j) ∧ ∀ a b, (a < k ∨ (a = k ∧ b < k + 1 + j)) → a < b → b < cnt ch L.length → v.2 (12 * a + b) = if (pQ (pR f L W H pr) ch L.length).2.2 a b = true then nI ((pQ (pR f L W H pr) ch L.length).2.1 a b) else -1) (cnt ch L.length - (k + 1)) (by omega) ⟨nI_s1 k, fun a b h1 h2 h3 => hv a b (by omega) h2 h3⟩ ?_ ?_) (fun z hz => OK.inl ⟨nI_s1 k, hz⟩))
      · rintro j ⟨w1, mj⟩ hj ⟨rfl, hw⟩
        simp only at hw ⊢
        have ck := chf_ok (show k < cnt ch L.length by omega)
        have cj := chf_ok (show k + 1 + j < cnt ch L.length by omega)
        have me := ccmeet_eq hok hc (pr := pr) ck.1 cj.1
        refine OK.f (nle (by omega) (by omega)) (OK.g (ein_nI (by omega) (by omega)) (OK.g (ein_nI (by omega) (by omega)) ?_))
        rw [tn_nI (by omega), tn_nI (by omega), hcs k (by omega), hcs (k + 1 + j) (by omega), show (12 : Int32) * nI k + nI (k + 1 + j) = nI (12 * k + (k + 1 + j)) by rw [show (12 : Int32) = nI 12 from rfl, pk_mul, nI_add]]
        refine OK.eq me (OK.g (ein_nI (by omega) (by omega)) (OK.inl ⟨by rw [nI_s1]; rfl, fun a b h1 h2 h3 => ?_⟩))
        rw [tn_nI (by omega)]
        simp only [upd]
        by_cases e : a = k ∧ b = k + 1 + j
        · rw [e.1, e.2, if_pos rfl]
          show (if opp f L _ _ then _ else _) = if decide (opp f L _ _) = true then _ else _
          by_cases ho : opp f L (chf ch k L.length) (chf ch (k + 1 + j) L.length)
          · rw [if_pos ho, if_pos (decide_eq_true ho)]; rfl
          · rw [if_neg ho, if_neg (by rw [decide_eq_true_eq]; exact ho)]
        · rw [if_neg (by omega)]
          exact hw a b (by omega) h2 h3
      · rintro ⟨w1, mj⟩ ⟨rfl, hw⟩
        simp only at hw ⊢
        rw [show k + 1 + (cnt ch L.length - (k + 1)) = cnt ch L.length by omega] at hw ⊢
        exact OK.t (yle (by omega)) (OK.inr (fun a b h1 h2 h3 => hw a b (by omega) h2 h3))
    · rintro ⟨v1, mk⟩ ⟨rfl, hv⟩
      exact OK.t (yle (by omega)) (OK.inr (fun a b h1 h2 => hv a b (by omega) h1 h2))
