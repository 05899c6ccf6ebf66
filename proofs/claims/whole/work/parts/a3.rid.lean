/-! ===== the reference's plan ===== -/
theorem mn_low (P : eP) (φ : Nat → Nat) (s c : Nat) : ∀ j, j ≤ c + 1 → mn P φ s c j = P.1 c + φ (rmv s c) ∧ wt P φ s c j = c := by
  intro j
  induction j with
  | zero => intro _; exact ⟨rfl, rfl⟩
  | succ j ih =>
    intro hj
    have nc : cnd P s c j = false := by unfold cnd; rw [decide_eq_false (by omega)]; rfl
    simp only [mn, wt, nc]
    rw [if_neg (by decide), if_neg (by decide)]
    exact ih (by omega)
abbrev wS (P : eP) (n s : Nat) : Nat := wt P (Cs P n) s (lw s) n
theorem wS_lt (P : eP) {n s : Nat} (hs : s < 4096) (h0 : s ≠ 0) (hn : n ≤ 12) : wS P n s < 12 ∧ s.testBit (wS P n s) = true ∧ (wS P n s = lw s ∨ (lw s < wS P n s ∧ wS P n s < n)) := by
  have hl := lw_spec hs h0
  rcases wt_spec P (Cs P n) s (lw s) n with ⟨e, _⟩ | ⟨a1, a2, a3, _⟩
  · unfold wS; rw [e]; exact ⟨hl.2.1, hl.1, Or.inl rfl⟩
  · refine ⟨by show wt P (Cs P n) s (lw s) n < 12; omega, ?_, Or.inr ⟨a1, a2⟩⟩
    unfold cnd at a3
    simp at a3
    exact a3.2.1
theorem two_le {n : Nat} (hn : n ≤ 12) : 2 ^ n ≤ 4096 := by
  rw [show (4096 : Nat) = 2 ^ 12 from rfl]
  exact Nat.pow_le_pow_right (by omega) hn
/-- the sets that the reference goes through, core by core, and who meets whom -/
def psq (P : eP) (n : Nat) : Nat → Nat
  | 0 => 2 ^ n - 1
  | k + 1 => if (psq P n k).testBit k = true then rmv (rmv (psq P n k) k) (wS P n (psq P n k)) else psq P n k
def updN (F : Nat → Nat) (a b : Nat) : Nat → Nat := fun j => if j = a then b else F j
def ptq (P : eP) (n : Nat) : Nat → Nat → Nat
  | 0 => fun c => c
  | k + 1 => if (psq P n k).testBit k = true then updN (updN (ptq P n k) k (wS P n (psq P n k))) (wS P n (psq P n k)) k else ptq P n k
theorem psq_inv (P : eP) {n : Nat} (hn : n ≤ 12) : ∀ k, k ≤ n → psq P n k < 4096 ∧ (∀ i, n ≤ i → (psq P n k).testBit i = false) ∧ (∀ i, i < k → (psq P n k).testBit i = false) ∧ ∀ c, (psq P n k).testBit c = true → ptq P n k c = c := by
  intro k
  induction k with
  | zero =>
    intro _
    have h2 := two_le hn
    have h3 : 0 < 2 ^ n := Nat.two_pow_pos n
    refine ⟨by simp only [psq]; omega, fun i hi => ?_, fun i hi => by omega, fun c _ => rfl⟩
    simp only [psq]
    rw [full_tb]; exact decide_eq_false (by omega)
  | succ k ih =>
    intro hk
    obtain ⟨h1, h2, h3, h4⟩ := ih (by omega)
    simp only [psq, ptq]
    by_cases hb : (psq P n k).testBit k = true
    · rw [if_pos hb, if_pos hb]
      refine ⟨rmv_lt (rmv_lt h1), fun i hi => ?_, fun i hi => ?_, fun c hc => ?_⟩
      · rw [rmv_tb (rmv_lt h1), rmv_tb h1, h2 i hi]; rfl
      · rw [rmv_tb (rmv_lt h1), rmv_tb h1]
        by_cases e : i = k
        · subst e; simp
        · rw [h3 i (by omega)]; rfl
      · rw [rmv_tb (rmv_lt h1), rmv_tb h1] at hc
        simp at hc
        unfold updN
        rw [if_neg (fun q => hc.2 q.symm), if_neg (fun q => hc.1.2 q.symm)]
        exact h4 c hc.1.1
    · rw [if_neg hb, if_neg hb]
      refine ⟨h1, h2, fun i hi => ?_, h4⟩
      by_cases e : i = k
      · subst e; simpa using hb
      · exact h3 i (by omega)
theorem psq_low (P : eP) {n k : Nat} (hn : n ≤ 12) (hk : k ≤ n) (hb : (psq P n k).testBit k = true) : psq P n k ≠ 0 ∧ lw (psq P n k) = k := by
  obtain ⟨h1, h2, h3, h4⟩ := psq_inv P hn k hk
  exact ⟨fun e => by rw [e, Nat.zero_testBit] at hb; exact absurd hb (by decide), lw_is h1 hb h3⟩
set_option maxHeartbeats 4000000 in
theorem laysRid_ok {W H : Nat} (hW : W ≤ 9) (hH : H ≤ 9) {f told X Y Dx Dy Fo A B M : Nat → Int32} {k0 : Int32} (hok : okL f (coreL f W H)) {pr : Nat} (hpr : pr ≤ 9) :
    OK (fX12_laysRid (nI W) (nI H) k0 f told X Y Dx Dy Fo A B M (nI pr)) (fun z => z.1 = nI (Cs (pR f (coreL f W H) W H pr) (coreL f W H).length (2 ^ (coreL f W H).length - 1)) ∧ z.2.1 = nI (coreL f W H).length ∧ ∀ c, c < (coreL f W H).length → z.2.2.2.2.2.2.2.2.2 c = nI (ptq (pR f (coreL f W H) W H pr) (coreL f W H).length (coreL f W H).length c)) := by
  unfold fX12_laysRid
  have hin : ∀ i, i < (coreL f W H).length → kx (coreL f W H) i + 1 < W ∧ ky (coreL f W H) i + 1 < H := fun i hi => ⟨(coreL_at hi).1, (coreL_at hi).2.1⟩
  refine OK.bind (lays_eq hW hH f told X Y Dx Dy Fo k0 hok) ?_
  rintro ⟨R1, R2, X', Y', Dx', Dy', Fo'⟩ ⟨_, hR2, hr, _⟩
  simp only at hR2 hr ⊢
  subst hR2
  have hn := hok.1
  generalize hL : coreL f W H = L at hok hin hr hn
  generalize hPd : pR f L W H pr = P
  have P1 : ∀ i, P.1 i = ot f L W H pr i := fun i => by rw [← hPd]; rfl
  have P2 : ∀ i j, P.2.1 i j = mtt f L pr i j := fun i j => by rw [← hPd]; rfl
  have P3 : ∀ i j, P.2.2 i j = decide (opp f L i j) := fun i j => by rw [← hPd]; rfl
  have hM : ∀ c, c < 12 → P.1 c ≤ 81 := fun c _ => by rw [P1]; exact ot_le hW hpr
  generalize hnn : L.length = n at hn
  have h2n := two_le hn
  have h2p : 0 < 2 ^ n := Nat.two_pow_pos n
  have hCb : ∀ s, s < 4096 → Cs P n s ≤ 331776 := fun s hs => by
    have := Cs_le (n := n) hM s hs
    omega
  rw [shl_eq (by omega)]
  refine OK.bind (Q := fun z => (∀ t, t < 2 ^ n → z.1 t = nI (Cs P n t)) ∧ ∀ t, 0 < t → t < 2 ^ n → z.2 t = nI (wS P n t)) (OK.loop (fun k v => v.1 = nI (1 + k) ∧ (∀ t, t < 1 + k → v.2.1 t = nI (Cs P n t)) ∧ ∀ t, 0 < t → t < 1 + k → v.2.2 t = nI (wS P n t)) (2 ^ n - 1) (by omega) ⟨rfl, fun t ht => ?_, fun t h0 ht => by omega⟩ ?_ ?_) ?_
  · have e : t = 0 := by omega
    subst e
    rfl
  · rintro k ⟨v1, co, cs⟩ hk ⟨rfl, hco, hcs⟩
    simp only at hco hcs ⊢
    generalize hs : 1 + k = s at hco hcs
    have hs0 : s ≠ 0 := by omega
    have hs4 : s < 4096 := by omega
    obtain ⟨lb, l12, llow⟩ := lw_spec hs4 hs0
    have lwn : lw s < n := by
      by_cases e : lw s < n
      · exact e
      · exfalso
        have : s.testBit (lw s) = false := by
          apply Nat.testBit_lt_two_pow
          exact Nat.lt_of_lt_of_le (show s < 2 ^ n by omega) (Nat.pow_le_pow_right (by omega) (by omega))
        rw [lb] at this; exact absurd this (by decide)
    have hCs := Cs_s P n hs4 hs0
    generalize hcdef : lw s = c at lb l12 llow lwn hCs
    refine OK.f (nle (by omega) (by omega)) (OK.bind (Q := fun q => q = nI c) (OK.loop (fun j v => v = nI j) c (by omega) rfl ?_ ?_) ?_)
    · rintro j v hj rfl
      exact OK.t ((bit_0 hs4 (by omega)).mpr (llow j hj)) (OK.inl (nI_s1 j))
    · rintro v rfl
      exact OK.f (fun q => by rw [bit_0 hs4 (by omega), lb] at q; exact absurd q (by decide)) (OK.inr rfl)
    · rintro _ rfl
      have r1 := rmv_less hs4 lb
      have r4 := rmv_lt (c := c) hs4
      rw [rmv_eq hs4 l12]
      have outc := out_eq hW hH (pr := pr) (i := c) (by omega) hr hin hpr (by omega)
      refine OK.g (ein_nI r4 (by omega)) (OK.eq outc ?_)
      rw [tn_nI (by omega), hco _ (by omega), nI_add]
      refine OK.bind (Q := fun z => z.1 = nI (Cs P n s) ∧ z.2 = nI (wt P (Cs P n) s c n)) (OK.loop (fun j v => v.2.2 = nI (c + 1 + j) ∧ v.1 = nI (mn P (Cs P n) s c (c + 1 + j)) ∧ v.2.1 = nI (wt P (Cs P n) s c (c + 1 + j))) (n - (c + 1)) (by omega) ⟨nI_s1 c, ?_, ?_⟩ ?_ ?_) ?_
      · show nI (Cs P n (rmv s c) + ot f L W H pr c) = _
        rw [(mn_low P (Cs P n) s c (c + 1 + 0) (by omega)).1, P1, Nat.add_comm]
      · rw [(mn_low P (Cs P n) s c (c + 1 + 0) (by omega)).2]
      · rintro j ⟨w1, w2, w3⟩ hj ⟨rfl, rfl, rfl⟩
        simp only
        generalize ho : c + 1 + j = o
        have ol : o < n := by omega
        have oL : o < L.length := by omega
        have mb := mn_le P (Cs P n) s c o
        have mb2 := hM c (by omega)
        have mb3 := hCb _ r4
        refine OK.f (nle ol (by omega)) (OK.bind (Q := fun z => z.1 = nI (mn P (Cs P n) s c (o + 1)) ∧ z.2 = nI (wt P (Cs P n) s c (o + 1))) ?_ (fun z hz => OK.inl ⟨by rw [nI_s1, ← ho]; rfl, by rw [hz.1, ← ho]; rfl, by rw [hz.2, ← ho]; rfl⟩))
        by_cases hb : (rmv s c).testBit o = true
        · have hb2 : s.testBit o = true := by rw [rmv_tb hs4] at hb; simp at hb; exact hb.1
          refine OK.t ((bit_1 r4 (by omega)).mpr hb) ?_
          have ro := ropp_eq (f := f) (L := L) (i := c) (j := o) (by omega) hr (by omega) oL
          refine OK.eq ro ?_
          by_cases hop : opp f L c o
          · have hcd : cnd P s c o = true := by unfold cnd; rw [hb2, P3, decide_eq_true hop, decide_eq_true (show c < o by omega)]; rfl
            have rr : rmv (rmv s c) o ≤ rmv s c := Nat.and_le_left
            have cv := hCb (rmv (rmv s c) o) (by omega)
            have mt9 := mtt_le hok (i := c) (j := o) (by omega) oL hpr
            have me := meeting_eq hok hr (pr := pr) (i := c) (j := o) (by omega) oL
            have ev : Cs P n (rmv (rmv s c) o) + mtt f L pr c o = vv P (Cs P n) s c o := by unfold vv; rw [P2, Nat.add_comm]
            rw [rmv_eq r4 (by omega)]
            refine OK.t (decide_eq_true hop) (OK.g (ein_nI (by omega) (by omega)) (OK.eq me ?_))
            rw [tn_nI (by omega), hco _ (by omega), nI_add, ev]
            have vb : vv P (Cs P n) s c o < 2147483648 := by rw [← ev]; omega
            refine OK.bind (Q := fun q => q = nI (wt P (Cs P n) s c (o + 1))) (OK.ite (fun e => OK.ret ?_) (fun e => OK.ret ?_)) (fun q hq => OK.eq (min_nI (by omega) vb) (OK.ret ⟨?_, hq⟩))
            · rw [nI_le_iff (by omega) vb] at e
              simp only [wt, hcd, if_true, if_pos e]
            · rw [nI_le_iff (by omega) vb] at e
              simp only [wt, hcd, if_true, if_neg e]
            · simp only [mn, hcd, if_true]
          · have hcd : cnd P s c o = false := by unfold cnd; rw [P3, decide_eq_false hop]; simp
            refine OK.f (by rw [decide_eq_true_eq]; exact hop) (OK.ret ⟨?_, ?_⟩)
            · simp only [mn, hcd]; rw [if_neg (by decide)]
            · simp only [wt, hcd]; rw [if_neg (by decide)]
        · have hb2 : s.testBit o = false := by
            cases q : s.testBit o with
            | false => rfl
            | true => exfalso; apply hb; rw [rmv_tb hs4, q]; simp; omega
          have hcd : cnd P s c o = false := by unfold cnd; rw [hb2]; simp
          refine OK.f (fun q => hb ((bit_1 r4 (by omega)).mp q)) (OK.ret ⟨?_, ?_⟩)
          · simp only [mn, hcd]; rw [if_neg (by decide)]
          · simp only [wt, hcd]; rw [if_neg (by decide)]
      · rintro ⟨w1, w2, w3⟩ ⟨rfl, rfl, rfl⟩
        simp only
        rw [show c + 1 + (n - (c + 1)) = n by omega]
        exact OK.t (yle (by omega)) (OK.inr ⟨by rw [hCs], rfl⟩)
      · rintro ⟨b1, b2⟩ ⟨rfl, rfl⟩
        refine OK.g (ein_nI hs4 (by omega)) (OK.g (ein_nI hs4 (by omega)) (OK.inl ⟨by rw [nI_s1, ← hs]; rfl, fun t ht => ?_, fun t h0 ht => ?_⟩))
        · rw [tn_nI (by omega)]
          simp only [upd]
          by_cases e : t = s
          · rw [if_pos e, e]
          · rw [if_neg e]; exact hco t (by omega)
        · rw [tn_nI (by omega)]
          simp only [upd]
          by_cases e : t = s
          · rw [if_pos e, e]; unfold wS; rw [hcdef]
          · rw [if_neg e]; exact hcs t h0 (by omega)
  · rintro ⟨v1, co, cs⟩ ⟨rfl, hco, hcs⟩
    simp only at hco hcs ⊢
    rw [show 1 + (2 ^ n - 1) = 2 ^ n by omega] at hco hcs ⊢
    exact OK.t (yle (by omega)) (OK.inr ⟨hco, hcs⟩)
  · rintro ⟨co, cs⟩ ⟨hco, hcs⟩
    simp only at hco hcs ⊢
    rw [sub1_nI (by omega) (by omega)]
    refine OK.bind (Q := fun me => ∀ c, c < n → me c = nI (ptq P n n c)) (OK.loop (fun k v => v.2.1 = nI k ∧ v.1 = nI (psq P n k) ∧ ∀ c, c < n → (psq P n k).testBit c = false → v.2.2 c = nI (ptq P n k c)) n (by omega) ⟨rfl, rfl, fun c hc hb => ?_⟩ ?_ ?_) ?_
    · simp only [psq] at hb
      rw [full_tb, decide_eq_true hc] at hb
      exact absurd hb (by decide)
    · rintro k ⟨v1, v2, me⟩ hk ⟨rfl, rfl, hme⟩
      simp only at hme ⊢
      obtain ⟨i1, i2, i3, i4⟩ := psq_inv P hn k (by omega)
      refine OK.f (nle hk (by omega)) (OK.bind (Q := fun z => z.1 = nI (psq P n (k + 1)) ∧ ∀ c, c < n → (psq P n (k + 1)).testBit c = false → z.2 c = nI (ptq P n (k + 1) c)) ?_ (fun z hz => OK.inl ⟨nI_s1 k, hz.1, hz.2⟩))
      by_cases hb : (psq P n k).testBit k = true
      · have hl := psq_low P hn (by omega) hb
        have wl := wS_lt P (n := n) i1 hl.1 hn
        have wn : wS P n (psq P n k) < n := by
          rcases wl.2.2 with q | q
          · rw [q, hl.2]; exact hk
          · exact q.2
        have ck := hcs (psq P n k) (by omega) (by
          apply Nat.lt_of_not_le
          intro q
          obtain ⟨i, hi1, hi2⟩ := Nat.exists_ge_and_testBit_of_ge_two_pow q
          rw [i2 i hi1] at hi2
          exact absurd hi2 (by decide))
        refine OK.t ((bit_1 i1 (by omega)).mpr hb) (OK.g (ein_nI i1 (by omega)) ?_)
        rw [tn_nI (by omega), ck]
        refine OK.g (ein_nI (by omega) (by omega)) (OK.g (ein_nI (by omega) (by omega)) (OK.ret ⟨?_, fun c hc hbc => ?_⟩))
        · rw [rmvR_eq i1 (by omega) (by omega)]
          simp only [psq, if_pos hb]
        · rw [tn_nI (by omega), tn_nI (by omega)]
          simp only [psq, if_pos hb] at hbc
          simp only [ptq, if_pos hb, upd, updN]
          by_cases e1 : c = wS P n (psq P n k)
          · rw [if_pos e1, if_pos e1]
          · rw [if_neg e1, if_neg e1]
            by_cases e2 : c = k
            · rw [if_pos e2, if_pos e2]
            · rw [if_neg e2, if_neg e2]
              apply hme c hc
              have n1 : wS P n (psq P n k) ≠ c := fun q => e1 q.symm
              have n2 : k ≠ c := fun q => e2 q.symm
              rw [rmv_tb (rmv_lt i1), rmv_tb i1, decide_eq_true n1, decide_eq_true n2, Bool.and_true, Bool.and_true] at hbc
              exact hbc
      · refine OK.f (fun q => hb ((bit_1 i1 (by omega)).mp q)) (OK.ret ⟨?_, fun c hc hbc => ?_⟩)
        · simp only [psq, if_neg hb]
        · simp only [psq, if_neg hb] at hbc
          simp only [ptq, if_neg hb]
          exact hme c hc hbc
    · rintro ⟨v1, v2, me⟩ ⟨rfl, rfl, hme⟩
      exact OK.t (yle (by omega)) (OK.inr (fun c hc => hme c hc ((psq_inv P hn n (Nat.le_refl _)).2.2.1 c hc)))
    · intro me hme
      refine OK.g (ein_nI (by omega) (by omega)) (OK.ret ⟨?_, rfl, hme⟩)
      simp only
      rw [tn_nI (by omega), hco _ (by omega)]
