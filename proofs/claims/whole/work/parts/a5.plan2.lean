/-! ===== the class fills and chooses ===== -/
theorem least_eq {q nl t : Nat} {LE : Nat → Int32} {D : Nat → Nat} (hnl : nl ≤ 4096) (ht : t < 4096) (hD : D 0 = 0) (h : t = 0 ∨ (t < nl ∧ LE t = nI (D t))) : fX6_leastOf q LE nl (nI t) = some (nI (D t)) := by
  unfold fX6_leastOf
  have on : Int32.ofNat nl = nI nl := rfl
  rcases h with rfl | ⟨h1, h2⟩
  · rw [if_pos (by decide), hD]; rfl
  · by_cases t0 : t = 0
    · subst t0; rw [if_pos (by decide), hD]; rfl
    · rw [if_neg (by rw [z0, nI_le_iff (by omega) (by omega)]; omega), on, if_neg (nle h1 (by omega)), g_t (ein_nI h1 (by omega)), tn_nI (by omega), h2]
theorem lowest_eq {m s : Nat} (hm : m ≤ 12) (hs : s < 4096) (h0 : s ≠ 0) (hb : ∀ a, m ≤ a → s.testBit a = false) : fX6_lowestOf (nI m) (nI s) = some (nI (lw s)) := by
  apply OK.val
  unfold fX6_lowestOf
  obtain ⟨lb, l12, llow⟩ := lw_spec hs h0
  have lm : lw s < m := by
    by_cases e : lw s < m
    · exact e
    · have := hb (lw s) (by omega); rw [lb] at this; exact absurd this (by decide)
  refine OK.bind (Q := fun q => q = .inr (nI (lw s))) (OK.loop (fun k v => v = nI k) (lw s) (by omega) rfl ?_ ?_) (fun q hq => by rw [hq]; exact OK.ret rfl)
  · rintro k v hk rfl
    exact OK.f (nle (by omega) (by omega)) (OK.f (fun q => by rw [bit_1 hs (by omega), llow k hk] at q; exact absurd q (by decide)) (OK.inl (nI_s1 k)))
  · rintro v rfl
    exact OK.f (nle (by omega) (by omega)) (OK.t ((bit_1 hs (by omega)).mpr lb) (OK.inr rfl))
/-- the rows that the class weighed, as numbers of choosers -/
def okW (n m : Nat) (ch : Nat → Bool) (Q : eP) (A68 A69 A70 : Nat → Int32) : Prop := n ≤ 12 ∧ m = cnt ch n ∧ (∀ a, a < m → A69 a = nI (chf ch a n) ∧ A68 (chf ch a n) = nI (Q.1 a)) ∧ (∀ a b, a < b → b < m → A70 (12 * a + b) = if Q.2.2 a b = true then nI (Q.2.1 a b) else -1) ∧ (∀ a, Q.1 a ≤ 81) ∧ ∀ a b, a < b → b < m → Q.2.1 a b ≤ 162
section FILL
variable {n m : Nat} {ch : Nat → Bool} {Q : eP} {A68 A69 A70 : Nat → Int32}
theorem okW.m12 (h : okW n m ch Q A68 A69 A70) : m ≤ 12 := by have := cnt_le ch n; have := h.1; have := h.2.1; omega
theorem alone_eq (h : okW n m ch Q A68 A69 A70) {q nl s c : Nat} {LE : Nat → Int32} {D : Nat → Nat} (hnl : nl ≤ 4096) (hs : s < 4096) (hc : c < m) (hD : D 0 = 0) (hl : rmv s c = 0 ∨ (rmv s c < nl ∧ LE (rmv s c) = nI (D (rmv s c)))) : fX6_costAlone q A68 A69 LE nl (nI s) (nI c) = some (nI (Q.1 c + D (rmv s c))) := by
  unfold fX6_costAlone
  have hm := h.m12
  obtain ⟨h1, h2, h3, _⟩ := h
  have hc3 := h3 c hc
  have cf := chf_ok (ch := ch) (n := n) (a := c) (by omega)
  rw [g_t (ein_nI (by omega) (by omega)), tn_nI (by omega), hc3.1, g_t (ein_nI (by omega) (by omega)), rmv_eq hs (by omega), least_eq hnl (rmv_lt hs) hD hl, Option.bind_some, tn_nI (by omega), hc3.2, nI_add]
theorem canMeet_eq (h : okW n m ch Q A68 A69 A70) {s c o : Nat} (hs : s < 4096) (hco : c < o) (ho : o < m) : fX6_canMeet A70 (nI s) (nI c) (nI o) = some (cnd Q s c o) := by
  unfold fX6_canMeet cnd
  have hm := h.m12
  have h4 := h.2.2.2.1 c o hco ho
  have h6 := h.2.2.2.2.2 c o hco ho
  rw [decide_eq_true hco, Bool.true_and]
  by_cases hb : s.testBit o = true
  · rw [if_pos ((bit_1 hs (by omega)).mpr hb), hb, Bool.true_and, show (12 : Int32) * nI c + nI o = nI (12 * c + o) by rw [show (12 : Int32) = nI 12 from rfl, pk_mul, nI_add], g_t (ein_nI (by omega) (by omega)), tn_nI (by omega), h4]
    cases hq : Q.2.2 c o with
    | true => rw [if_pos rfl, if_neg (nI_m1 (by omega))]
    | false =>
      have e1 : (if false = true then nI (Q.2.1 c o) else -1 : Int32) = -1 := if_neg (by decide)
      rw [e1, if_pos rfl]
  · have hb2 : s.testBit o = false := by simpa using hb
    rw [if_neg (fun q => hb ((bit_1 hs (by omega)).mp q)), hb2]; rfl
theorem together_eq (h : okW n m ch Q A68 A69 A70) {q nl s c o : Nat} {LE : Nat → Int32} {D : Nat → Nat} (hnl : nl ≤ 4096) (hs : s < 4096) (hco : c < o) (ho : o < m) (hq : cnd Q s c o = true) (hD : D 0 = 0) (hl : rmv (rmv s c) o = 0 ∨ (rmv (rmv s c) o < nl ∧ LE (rmv (rmv s c) o) = nI (D (rmv (rmv s c) o)))) : fX6_costTogether q A70 LE nl (nI s) (nI c) (nI o) = some (nI (vv Q D s c o)) := by
  unfold fX6_costTogether vv
  have hm := h.m12
  have h4 := h.2.2.2.1 c o hco ho
  have hq2 : Q.2.2 c o = true := by unfold cnd at hq; simp at hq; exact hq.2.2
  rw [show (12 : Int32) * nI c + nI o = nI (12 * c + o) by rw [show (12 : Int32) = nI 12 from rfl, pk_mul, nI_add], g_t (ein_nI (by omega) (by omega)), rmv2_eq hs (by omega) (by omega), least_eq hnl (rmv_lt (rmv_lt hs)) hD hl, Option.bind_some, tn_nI (by omega), h4, hq2, if_pos rfl, nI_add]
theorem okW.bd (h : okW n m ch Q A68 A69 A70) : ∀ s, s < 4096 → Cs Q m s ≤ 331776 := fun s hs => by
  have := Cs_le (P := Q) (n := m) (M := 81) (fun c _ => h.2.2.2.2.1 c) s hs
  omega
set_option maxHeartbeats 2000000 in
theorem fillL_ok (h : okW n m ch Q A68 A69 A70) {q nl : Nat} {LE : Nat → Int32} (hnl : nl ≤ 4096) (h2 : 2 ^ m ≤ nl) : OK (f_fillL (nI m) (nI (2 ^ m)) A68 A69 A70 q nl LE) (fun L => ∀ t, 0 < t → t < 2 ^ m → L t = nI (Cs Q m t)) := by
  unfold f_fillL
  have hm := h.m12
  have hp : 0 < 2 ^ m := Nat.two_pow_pos m
  have hC := h.bd
  refine OK.loop (fun k v => v.1 = nI (1 + k) ∧ ∀ t, 0 < t → t < 1 + k → v.2 t = nI (Cs Q m t)) (2 ^ m - 1) (by omega) ⟨rfl, fun t h0 ht => by omega⟩ ?_ ?_
  · rintro k ⟨v1, L⟩ hk ⟨rfl, hL⟩
    simp only at hL ⊢
    generalize hs : 1 + k = s at hL
    have hs4 : s < 4096 := by omega
    have hs0 : s ≠ 0 := by omega
    have on : Int32.ofNat nl = nI nl := rfl
    have hbm : ∀ a, m ≤ a → s.testBit a = false := fun a ha => by
      apply Nat.testBit_lt_two_pow
      exact Nat.lt_of_lt_of_le (show s < 2 ^ m by omega) (Nat.pow_le_pow_right (by omega) ha)
    obtain ⟨lb, l12, llow⟩ := lw_spec hs4 hs0
    have lm : lw s < m := by
      by_cases e : lw s < m
      · exact e
      · have := hbm (lw s) (by omega); rw [lb] at this; exact absurd this (by decide)
    have hCs := Cs_s Q m hs4 hs0
    have low9 := lowest_eq hm hs4 hs0 hbm
    generalize lw s = c at lb l12 llow lm hCs low9
    have r1 := rmv_less hs4 lb
    have rd : ∀ t, t < s → t = 0 ∨ (t < nl ∧ L t = nI (Cs Q m t)) := fun t ht => by
      by_cases e : t = 0
      · exact Or.inl e
      · exact Or.inr ⟨by omega, hL t (by omega) ht⟩
    have al := alone_eq h (q := q) (LE := L) (D := Cs Q m) hnl hs4 lm (Cs_0 Q m) (rd _ r1)
    refine OK.f (nle (by omega) (by omega)) (OK.f (by rw [on]; exact nle (by omega) (by omega)) (OK.eq low9 (OK.eq al (OK.bind (Q := fun b => b = nI (Cs Q m s)) ?_ (fun b hb => OK.g (ein_nI (by omega) (by omega)) (OK.inl ⟨by rw [nI_s1, ← hs]; rfl, fun t h0 ht => ?_⟩))))))
    · unfold f_fillB
      refine OK.loop (fun j v => v.2 = nI (c + 1 + j) ∧ v.1 = nI (mn Q (Cs Q m) s c (c + 1 + j))) (m - (c + 1)) (by omega) ⟨nI_s1 c, ?_⟩ ?_ ?_
      · rw [(mn_low Q (Cs Q m) s c (c + 1 + 0) (by omega)).1]
      · rintro j ⟨w1, w2⟩ hj ⟨rfl, rfl⟩
        simp only
        generalize ho : c + 1 + j = o
        have cm := canMeet_eq h hs4 (show c < o by omega) (show o < m by omega)
        refine OK.f (nle (by omega) (by omega)) (OK.eq cm ?_)
        have mb := mn_le Q (Cs Q m) s c o
        have mb2 := h.2.2.2.2.1 c
        have mb3 := hC _ (rmv_lt (c := c) hs4)
        by_cases hq : cnd Q s c o = true
        · have rr : rmv (rmv s c) o ≤ rmv s c := Nat.and_le_left
          have tg := together_eq h (q := q) (LE := L) (D := Cs Q m) hnl hs4 (show c < o by omega) (show o < m by omega) hq (Cs_0 Q m) (rd _ (by omega))
          have v1 := h.2.2.2.2.2 c o (by omega) (by omega)
          have v2 := hC (rmv (rmv s c) o) (by omega)
          have vb : vv Q (Cs Q m) s c o ≤ 400000 := by unfold vv; omega
          refine OK.t hq (OK.eq tg (OK.eq (min_nI (by omega) (by omega)) (OK.inl ⟨by rw [nI_s1, ← ho]; rfl, ?_⟩)))
          simp only
          rw [show c + 1 + (j + 1) = o + 1 by omega]
          simp only [mn, if_pos hq]
        · refine OK.f hq (OK.inl ⟨by rw [nI_s1, ← ho]; rfl, ?_⟩)
          simp only
          rw [show c + 1 + (j + 1) = o + 1 by omega]
          simp only [mn, if_neg hq]
      · rintro ⟨w1, w2⟩ ⟨rfl, rfl⟩
        simp only
        rw [show c + 1 + (m - (c + 1)) = m by omega]
        exact OK.t (yle (by omega)) (OK.inr (by rw [hCs]))
    · rw [tn_nI (by omega)]
      simp only [upd]
      by_cases e : t = s
      · rw [if_pos e, hb, e]
      · rw [if_neg e]; exact hL t h0 (by omega)
  · rintro ⟨v1, L⟩ ⟨rfl, hL⟩
    simp only at hL ⊢
    rw [show 1 + (2 ^ m - 1) = 2 ^ m by omega] at hL ⊢
    exact OK.t (yle (by omega)) (OK.inr hL)
theorem fill_ok (h : okW n m ch Q A68 A69 A70) {q nl nx : Nat} {LE : Nat → Int32} (hnl : nl ≤ 4096) : OK (f_fill (nI m) A68 A69 A70 q nl LE nx) (fun z => z.2.1 ≤ 4096 ∧ 2 ^ m ≤ z.2.1 ∧ ∀ t, 0 < t → t < 2 ^ m → z.2.2.1 t = nI (Cs Q m t)) := by
  unfold f_fill
  have hm := h.m12
  have h2 := two_le hm
  have on : Int32.ofNat nl = nI nl := rfl
  rw [shl_eq (by omega), on]
  refine OK.ite (fun e => ?_) (fun e => ?_)
  · have e2 : 2 ^ m ≤ nl := (nI_le_iff (by omega) (by omega)).mp e
    exact OK.bind (fillL_ok h (q := q) (LE := LE) hnl e2) (fun L hL => OK.ret ⟨hnl, e2, hL⟩)
  rw [tn_nI (by omega)]
  refine OK.g (decide_eq_true (nI_pos' (by omega))) (OK.g (decide_eq_true h2) (OK.bind (fillL_ok h (q := nx) (LE := fun _ => 0) h2 (Nat.le_refl _)) (fun L hL => OK.ret ⟨h2, Nat.le_refl _, hL⟩)))
theorem other_eq (h : okW n m ch Q A68 A69 A70) {q nl s c : Nat} {LE : Nat → Int32} (hnl : nl ≤ 4096) (h2 : 2 ^ m ≤ nl) (hs : s < 4096) (hlt : s < 2 ^ m) (hb : s.testBit c = true) (hlw : lw s = c) (hcm : c < m) (hL : ∀ t, 0 < t → t < 2 ^ m → LE t = nI (Cs Q m t)) (hne : Cs Q m s ≠ Q.1 c + Cs Q m (rmv s c)) : fX6_cheapestOther (nI m) q A70 LE nl (nI s) (nI c) = some (nI (wt Q (Cs Q m) s c m)) := by
  apply OK.val
  unfold fX6_cheapestOther
  have hm := h.m12
  have hs0 : s ≠ 0 := fun e => by rw [e, Nat.zero_testBit] at hb; exact absurd hb (by decide)
  have hCs := Cs_s Q m hs hs0
  rw [hlw] at hCs
  have hC := h.bd
  have rd : ∀ t, t ≤ s → t = 0 ∨ (t < nl ∧ LE t = nI (Cs Q m t)) := fun t ht => by
    by_cases e : t = 0
    · exact Or.inl e
    · exact Or.inr ⟨by omega, hL t (by omega) (by omega)⟩
  have ls := least_eq (q := q) (LE := LE) (D := Cs Q m) hnl hs (Cs_0 Q m) (rd s (Nat.le_refl _))
  rcases wt_spec Q (Cs Q m) s c m with ⟨_, e⟩ | ⟨a1, a2, a3, a4, a5, a6⟩
  · rw [← hCs] at e; exact absurd e hne
  · rw [← hCs] at a4 a5 a6
    generalize wt Q (Cs Q m) s c m = w at a1 a2 a3 a4 a6
    have r1 := rmv_less hs hb
    have vb : ∀ o, o < m → c < o → vv Q (Cs Q m) s c o ≤ 400000 := fun o ho hco => by
      have rr : rmv (rmv s c) o ≤ rmv s c := Nat.and_le_left
      have v1 := h.2.2.2.2.2 c o hco ho
      have v2 := hC (rmv (rmv s c) o) (by omega)
      unfold vv; omega
    have tg : ∀ o, o < m → c < o → cnd Q s c o = true → fX6_costTogether q A70 LE nl (nI s) (nI c) (nI o) = some (nI (vv Q (Cs Q m) s c o)) := fun o ho hco hq => by
      have rr : rmv (rmv s c) o ≤ rmv s c := Nat.and_le_left
      exact together_eq h hnl hs hco ho hq (Cs_0 Q m) (rd _ (by omega))
    have cb := hC s hs
    refine OK.bind (Q := fun z => z = .inr (nI w)) (OK.loop (fun j v => v = nI (c + 1 + j)) (w - (c + 1)) (by omega) (nI_s1 c) ?_ ?_) (fun z hz => by rw [hz]; exact OK.ret rfl)
    · rintro j v hj rfl
      generalize ho : c + 1 + j = o
      have ow : o < w := by omega
      have nxt : nI o + 1 = nI (c + 1 + (j + 1)) := by rw [nI_s1, ← ho]; rfl
      refine OK.f (nle (by omega) (by omega)) (OK.eq (canMeet_eq h hs (show c < o by omega) (show o < m by omega)) (OK.ite (fun hq => OK.eq (tg o (by omega) (by omega) hq) (OK.eq ls (OK.f ?_ (OK.inl nxt)))) (fun hq => OK.inl nxt)))
      have := a6 o ow hq
      have := vb o (by omega) (by omega)
      rw [nI_inj (by omega) (by omega)]
      omega
    · rintro v rfl
      rw [show c + 1 + (w - (c + 1)) = w by omega]
      refine OK.f (nle a2 (by omega)) (OK.eq (canMeet_eq h hs a1 a2) (OK.t a3 (OK.eq (tg w a2 a1 a3) (OK.eq ls (OK.t (by rw [a4]) (OK.inr rfl))))))
end FILL
