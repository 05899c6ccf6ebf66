/-! ===== rid, meets ===== -/
theorem wt_PR {n : Nat} {ch : Nat → Bool} {P Q : eP} (hn : n ≤ 12) (hQ : okQ n ch P Q) {s t c : Nat} (h : PR n ch s t) (hb : s.testBit c = true) (hcn : c < n) (hc : ch c = true) : ∀ j, j ≤ n → wt P (Cs P n) s c j = chf ch (wt Q (Cs Q (cnt ch n)) t (cnt ch c) (cnt ch j)) n := by
  intro j
  have h1 := h.1
  have hrm := h.rm hcn hc
  have ih : ∀ s' t', s' < s → PR n ch s' t' → Cs P n s' = non P ch s' n + Cs Q (cnt ch n) t' := fun s' t' _ hp => Cs_PR hn hQ s' t' hp
  have hmn := mn_PR hQ h hb hcn hc ih
  induction j with
  | zero =>
    intro _
    have e : cnt ch 0 = 0 := rfl
    rw [e]
    simp only [wt]
    rw [chf_eq hc n hcn]
  | succ j ihj =>
    intro hj
    have ihj := ihj (by omega)
    simp only [wt]
    cases hcj : ch j with
    | false =>
      have e : cnt ch (j + 1) = cnt ch j := by simp only [cnt, hcj, Bool.toNat_false, Nat.add_zero]
      have nc : cnd P s c j = false := by
        unfold cnd
        by_cases q : c < j
        · have : P.2.2 c j = false := by
            cases z : P.2.2 c j with
            | false => rfl
            | true => have := (hQ.2.2 c j hcn (by omega) q z).2; rw [hcj] at this; exact absurd this (by decide)
          rw [this]; simp
        · simp [q]
      rw [nc, e, if_neg (by decide)]
      exact ihj
    | true =>
      have e : cnt ch (j + 1) = cnt ch j + 1 := by simp only [cnt, hcj, Bool.toNat_true]
      rw [e]
      simp only [wt]
      have ec : cnd Q t (cnt ch c) (cnt ch j) = cnd P s c j := by
        unfold cnd
        rw [h.2.2.2.1 j (by omega) hcj]
        by_cases q : c < j
        · rw [(hQ.2.1 c j hcn (by omega) hc hcj q).2, decide_eq_true q, decide_eq_true (cnt_lt q hc)]
        · rw [decide_eq_false q]
          have : ¬ cnt ch c < cnt ch j := by have := cnt_mono ch (show j ≤ c by omega); omega
          rw [decide_eq_false this]
          rfl
      rw [ec]
      by_cases hq : cnd P s c j = true
      · rw [if_pos hq, if_pos hq]
        have hcj' : c < j := by unfold cnd at hq; simp at hq; exact hq.1
        have hr2 := hrm.rm (c := j) (by omega) hcj
        have hv : vv P (Cs P n) s c j = non P ch s n + vv Q (Cs Q (cnt ch n)) t (cnt ch c) (cnt ch j) := by
          unfold vv
          rw [Cs_PR hn hQ _ _ hr2, non_ch (rmv_lt h1) hcj, non_ch h1 hc, (hQ.2.1 c j hcn (by omega) hc hcj hcj').1]
          omega
        have hm := hmn j (by omega)
        by_cases hl : mn P (Cs P n) s c j ≤ vv P (Cs P n) s c j
        · rw [if_pos hl, if_pos (by omega)]; exact ihj
        · rw [if_neg hl, if_neg (by omega), chf_eq hcj n (by omega)]
      · rw [if_neg hq, if_neg hq]
        exact ihj
/-- past the cores that have no choice -/
theorem adv {n : Nat} {ch : Nat → Bool} {P Q : eP} (hn : n ≤ 12) (hQ : okQ n ch P Q) {k t : Nat} (h : PR n ch (psq P n k) t) : ∀ c, k ≤ c → c ≤ n → (∀ d, k ≤ d → d < c → (psq P n k).testBit d = true → ch d = false) → PR n ch (psq P n c) t ∧ (∀ x, x < n → ptq P n c x = ptq P n k x) ∧ ∀ x, c ≤ x → (psq P n c).testBit x = (psq P n k).testBit x := by
  intro c
  induction c with
  | zero =>
    intro hk _ _
    have e : k = 0 := by omega
    subst e
    exact ⟨h, fun _ _ => rfl, fun _ _ => rfl⟩
  | succ c ih =>
    intro hk hcn hd
    by_cases e : k = c + 1
    · subst e; exact ⟨h, fun _ _ => rfl, fun _ _ => rfl⟩
    · obtain ⟨a1, a2, a3⟩ := ih (by omega) (by omega) (fun d d1 d2 => hd d d1 (by omega))
      simp only [psq, ptq]
      by_cases hb : (psq P n c).testBit c = true
      · have hb2 := hb
        rw [a3 c (Nat.le_refl _)] at hb2
        have hcc := hd c (by omega) (by omega) hb2
        have hl := psq_low P hn (by omega) hb
        have inv := psq_inv P hn c (by omega)
        have w : wS P n (psq P n c) = c := by
          unfold wS
          rw [hl.2]
          exact (mn_no hQ (φ := Cs P n) (s := psq P n c) (show c < n by omega) hcc n (Nat.le_refl _)).2
        rw [if_pos hb, if_pos hb, w]
        refine ⟨(a1.no hcc).no hcc, fun x hx => ?_, fun x hx => ?_⟩
        · unfold updN
          by_cases ex : x = c
          · rw [if_pos ex, ex, ← a2 c (by omega)]
            exact (inv.2.2.2 c hb).symm
          · rw [if_neg ex, if_neg ex]; exact a2 x hx
        · rw [rmv_tb (rmv_lt inv.1), rmv_tb inv.1, a3 x (by omega)]
          have : c ≠ x := by omega
          simp [this]
      · rw [if_neg hb, if_neg hb]
        exact ⟨a1, a2, fun x hx => a3 x (by omega)⟩
set_option maxHeartbeats 2000000 in
theorem choose_ok {n m : Nat} {ch : Nat → Bool} {P Q : eP} {A68 A69 A70 : Nat → Int32} (h : okW n m ch Q A68 A69 A70) (hQ : okQ n ch P Q) {q nl : Nat} {LE pa : Nat → Int32} (hnl : nl ≤ 4096) (h2 : 2 ^ m ≤ nl) (hL : ∀ t, 0 < t → t < 2 ^ m → LE t = nI (Cs Q m t)) (hpa : ∀ i, i < n → pa i = nI i) :
    OK (fX6_choose (nI m) q pa A68 A69 A70 LE nl (nI (2 ^ m - 1))) (fun z => ∀ c, c < n → z c = nI (ptq P n n c)) := by
  unfold fX6_choose
  have hn := h.1
  have hm := h.m12
  have em : m = cnt ch n := h.2.1
  have hC := h.bd
  have h2p : 0 < 2 ^ m := Nat.two_pow_pos m
  have h24 := two_le hm
  have pr0 : PR n ch (psq P n 0) (2 ^ m - 1) := by rw [em]; exact PR_full hn ch
  have c12 : (12 : Int32) = nI 12 := rfl
  have fin : ∀ (k t : Nat) (pb : Nat → Int32), k ≤ n → PR n ch (psq P n k) t → t = 0 → (∀ c, c < n → pb c = nI (ptq P n k c)) → ∀ c, c < n → pb c = nI (ptq P n n c) := by
    intro k t pb hk hp ht hpb c hc
    obtain ⟨_, a2, _⟩ := adv hn hQ hp n hk (Nat.le_refl _) (fun d d1 d2 hbd => by
      cases hd : ch d with
      | false => rfl
      | true =>
        have := hp.2.2.2.1 d d2 hd
        rw [ht, Nat.zero_testBit, hbd] at this
        exact absurd this (by decide))
    rw [a2 c hc]; exact hpb c hc
  refine OK.bind (OK.loopx (Q := fun z => ∀ c, c < n → z c = nI (ptq P n n c)) (fun i v => v.2.1 = nI i ∧ ∃ t, v.1 = nI t ∧ (∀ a, a < i → t.testBit a = false) ∧ ∃ k, k ≤ n ∧ PR n ch (psq P n k) t ∧ ∀ c, c < n → v.2.2 c = nI (ptq P n k c)) 12 (by omega) ⟨rfl, _, rfl, fun a ha => by omega, 0, Nat.zero_le _, pr0, hpa⟩ ?_ ?_) (fun z hz => OK.ret hz)
  · rintro i ⟨v1, v2, pb⟩ hi ⟨rfl, t, rfl, hlow, k, hk, hp, hpb⟩
    simp only at hpb ⊢
    have ht4 := hp.2.1
    refine OK.f (by rw [c12]; exact nle hi (by omega)) ?_
    by_cases t0 : t = 0
    · exact OK.t (by rw [t0]; rfl) ⟨_, rfl, Or.inr ⟨_, rfl, fin k t pb hk hp t0 hpb⟩⟩
    · refine OK.f (by rw [z0, nI_inj (by omega) (by omega)]; exact t0) ?_
      have hbm : ∀ a, m ≤ a → t.testBit a = false := fun a ha => hp.2.2.2.2 a (by omega)
      have htlt : t < 2 ^ m := by
        apply Nat.lt_of_not_le
        intro z
        obtain ⟨x, x1, x2⟩ := Nat.exists_ge_and_testBit_of_ge_two_pow z
        rw [hbm x x1] at x2
        exact absurd x2 (by decide)
      obtain ⟨lb, l12, llow⟩ := lw_spec ht4 t0
      have low9 := lowest_eq hm ht4 t0 hbm
      have hCs := Cs_s Q m ht4 t0
      generalize hlwt : lw t = a at lb l12 llow low9 hCs
      have am : a < m := by
        by_cases e : a < m
        · exact e
        · have := hbm a (by omega); rw [lb] at this; exact absurd this (by decide)
      have ia : i ≤ a := by
        by_cases e : i ≤ a
        · exact e
        · have := hlow a (by omega); rw [lb] at this; exact absurd this (by decide)
      obtain ⟨c1', c2', c3'⟩ := chf_ok (ch := ch) (n := n) (a := a) (by omega)
      generalize hcd : chf ch a n = c at c1' c2' c3'
      have inv := psq_inv P hn k hk
      have bc : (psq P n k).testBit c = true := by rw [← hp.2.2.2.1 c c1' c2', c3']; exact lb
      have kc : k ≤ c := by
        by_cases e : k ≤ c
        · exact e
        · have := inv.2.2.1 c (by omega); rw [bc] at this; exact absurd this (by decide)
      obtain ⟨a1, a2, a3⟩ := adv hn hQ hp c kc (by omega) (fun d d1 d2 hbd => by
        cases hd : ch d with
        | false => rfl
        | true =>
          have h9 := hp.2.2.2.1 d (by omega) hd
          have := llow (cnt ch d) (by rw [← c3']; exact cnt_lt d2 hd)
          rw [this, hbd] at h9
          exact absurd h9 (by decide))
      have bc2 : (psq P n c).testBit c = true := by rw [a3 c (Nat.le_refl _)]; exact bc
      have inv2 := psq_inv P hn c (by omega)
      have lw2 := psq_low P hn (by omega) bc2
      have hw := wt_PR hn hQ a1 bc2 c1' c2' n (Nat.le_refl _)
      rw [c3', ← em] at hw
      have hwS : wS P n (psq P n c) = chf ch (wt Q (Cs Q m) t a m) n := by unfold wS; rw [lw2.2]; exact hw
      have rd : ∀ x, x ≤ t → x = 0 ∨ (x < nl ∧ LE x = nI (Cs Q m x)) := fun x hx => by
        by_cases e : x = 0
        · exact Or.inl e
        · exact Or.inr ⟨by omega, hL x (by omega) (by omega)⟩
      have r1 := rmv_less ht4 lb
      have al := alone_eq h (q := q) (LE := LE) (D := Cs Q m) hnl ht4 am (Cs_0 Q m) (rd _ (by omega))
      have ls := least_eq (q := q) (LE := LE) (D := Cs Q m) hnl ht4 (Cs_0 Q m) (rd t (Nat.le_refl _))
      have b1 := hC t ht4
      have b2 := hC (rmv t a) (by omega)
      have b3 := h.2.2.2.2.1 a
      refine OK.eq low9 (OK.eq al (OK.eq ls ?_))
      -- who it meets
      refine OK.bind (Q := fun z => ∃ w, w < m ∧ t.testBit w = true ∧ z.1 = nI w ∧ wS P n (psq P n c) = chf ch w n ∧ ∀ x, x < n → z.2 x = nI (ptq P n (c + 1) x)) ?_ ?_
      · by_cases e : Q.1 a + Cs Q m (rmv t a) = Cs Q m t
        · refine OK.t (by rw [e]) (OK.ret ⟨a, am, lb, rfl, ?_, fun x hx => ?_⟩)
          · rcases wt_spec Q (Cs Q m) t a m with ⟨z1, _⟩ | ⟨_, _, _, _, z5, _⟩
            · rw [hwS, z1]
            · rw [← hCs, e] at z5; exact absurd z5 (Nat.lt_irrefl _)
          · have w9 : wS P n (psq P n c) = c := by
              rcases wt_spec Q (Cs Q m) t a m with ⟨z1, _⟩ | ⟨_, _, _, _, z5, _⟩
              · rw [hwS, z1, hcd]
              · rw [← hCs, e] at z5; exact absurd z5 (Nat.lt_irrefl _)
            simp only [ptq, if_pos bc2, w9, updN]
            rw [hpb x hx, ← a2 x hx]
            by_cases ex : x = c
            · rw [if_pos ex, ex, inv2.2.2.2 c bc2]
            · rw [if_neg ex, if_neg ex]
        · refine OK.f (by rw [nI_inj (by omega) (by omega)]; exact e) ?_
          have oth := other_eq h (q := q) (LE := LE) hnl h2 ht4 htlt lb hlwt am hL (fun z => e z.symm)
          rcases wt_spec Q (Cs Q m) t a m with ⟨_, z2⟩ | ⟨z1, z2, z3, _⟩
          · rw [← hCs] at z2; exact absurd z2.symm e
          · generalize hwd : wt Q (Cs Q m) t a m = w at oth hwS z1 z2 z3
            obtain ⟨d1, d2, d3⟩ := chf_ok (ch := ch) (n := n) (a := w) (by omega)
            have wb : t.testBit w = true := by unfold cnd at z3; simp at z3; exact z3.2.1
            have ga : A69 a = nI c := by rw [(h.2.2.1 a am).1, hcd]
            have gw : A69 w = nI (chf ch w n) := (h.2.2.1 w z2).1
            refine OK.eq oth (OK.g (ein_nI (by omega) (by omega)) (OK.g (ein_nI (by omega) (by omega)) ?_))
            rw [tn_nI (show a < 2147483648 by omega), tn_nI (show w < 2147483648 by omega), ga, gw]
            refine OK.g (ein_nI (by omega) (by omega)) (OK.g (ein_nI (by omega) (by omega)) (OK.g (ein_nI (by omega) (by omega)) (OK.g (ein_nI (by omega) (by omega)) (OK.ret ⟨w, z2, wb, rfl, hwS, fun x hx => ?_⟩))))
            rw [tn_nI (by omega), tn_nI (by omega)]
            simp only [ptq, if_pos bc2, hwS, updN, upd]
            by_cases ex : x = chf ch w n
            · rw [if_pos ex, if_pos ex]
            · rw [if_neg ex, if_neg ex]
              by_cases ex2 : x = c
              · rw [if_pos ex2, if_pos ex2]
              · rw [if_neg ex2, if_neg ex2, hpb x hx, a2 x hx]
      · rintro ⟨z1, pc⟩ ⟨w, w1, w2, rfl, w4, w5⟩
        simp only at w5 ⊢
        rw [rmv2_eq ht4 (by omega) (by omega)]
        obtain ⟨d1, d2, d3⟩ := chf_ok (ch := ch) (n := n) (a := w) (by omega)
        refine ⟨_, rfl, Or.inl ⟨_, rfl, nI_s1 i, rmv (rmv t a) w, rfl, fun x hx => ?_, c + 1, by omega, ?_, w5⟩⟩
        · rw [rmv_tb (rmv_lt ht4), rmv_tb ht4]
          by_cases e : x = a
          · subst e; simp
          · rw [llow x (by omega)]; rfl
        · simp only [psq, if_pos bc2, w4]
          have p1 := (a1.rm c1' c2').rm d1 d2
          rw [c3', d3] at p1
          exact p1
  · rintro ⟨v1, v2, pb⟩ ⟨rfl, t, rfl, hlow, k, hk, hp, hpb⟩
    simp only at hpb ⊢
    refine OK.t (by rw [c12]; exact yle (by omega)) (OK.inr (fin k t pb hk hp ?_ hpb))
    apply Nat.eq_of_testBit_eq
    intro x
    rw [Nat.zero_testBit]
    by_cases hx : x < 12
    · exact hlow x hx
    · exact tb_hi hp.2.1 (by omega)
