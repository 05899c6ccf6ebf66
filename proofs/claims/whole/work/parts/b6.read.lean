/-! ===== the whole text is read ===== -/
theorem SM.loopF {V W Y Z : Type} {b : V → Option (V ⊕ Y)} {c : W → Option (W ⊕ Z)} {v0 : V} {w0 : W} {Q : Y → Z → Prop} (I : Nat → V → W → Prop) (N : Nat) (hN : N < 99999) (h0 : I 0 v0 w0)
    (hs : ∀ (k : Nat) (v : V) (w : W), k < N → I k v w → SM (b v) (c w) (fun p q => (∃ v' w', p = .inl v' ∧ q = .inl w' ∧ I (k + 1) v' w') ∨ (∃ y z, p = .inr y ∧ q = .inr z ∧ Q y z) ∨ ∃ v' y z, p = .inl v' ∧ b v' = some (.inr y) ∧ q = .inr z ∧ Q y z))
    (hx : ∀ (v : V) (w : W), I N v w → SM (b v) (c w) (fun p q => ∃ y z, p = .inr y ∧ q = .inr z ∧ Q y z)) : SM (e_loop b e_fuel v0) (e_loop c e_fuel w0) Q := by
  have key : ∀ (m k n : Nat) (v : V) (w : W), k + m = N → m + 1 < n → I k v w → SM (e_loop b n v) (e_loop c n w) Q := by
    intro m
    induction m with
    | zero =>
      intro k n v w hk hn hI
      obtain ⟨n, rfl⟩ : ∃ j, n = j + 1 := ⟨n - 1, by omega⟩
      have e : k = N := by omega
      subst e
      obtain ⟨_, _, h1, h2, y, z, rfl, rfl, hq⟩ := hx v w hI
      exact ⟨y, z, by simp [e_loop, h1], by simp [e_loop, h2], hq⟩
    | succ m ih =>
      intro k n v w hk hn hI
      obtain ⟨n, rfl⟩ : ∃ j, n = j + 2 := ⟨n - 2, by omega⟩
      obtain ⟨_, _, h1, h2, ⟨v', w', rfl, rfl, hI'⟩ | ⟨y, z, rfl, rfl, hq⟩ | ⟨v', y, z, rfl, h3, rfl, hq⟩⟩ := hs k v w (by omega) hI
      · obtain ⟨y, z, h3, h4, hq⟩ := ih (k + 1) (n + 1) v' w' (by omega) (by omega) hI'
        refine ⟨y, z, ?_, ?_, hq⟩
        · rw [e_loop, h1]; exact h3
        · rw [e_loop, h2]; exact h4
      · exact ⟨y, z, by rw [e_loop, h1]; rfl, by rw [e_loop, h2]; rfl, hq⟩
      · refine ⟨y, z, ?_, by rw [e_loop, h2]; rfl, hq⟩
        rw [e_loop, h1]
        show e_loop b (n + 1) v' = some y
        rw [e_loop, h3]; rfl
  exact key N 0 e_fuel v0 w0 (by omega) (by show N + 1 < 100000; omega) h0
theorem tapR.tpe {n : Nat} {A B : Nat → Int32} (h : tapR n A B) : tpe n A B := ⟨h.1, fun k hk => (h.2 k hk).1, fun k hk => by rw [← (h.2 k hk).1]; exact (h.2 k hk).2.2⟩
/-- both read sizes -/
def szR (A : Nat → Int32) (n : Nat) (y : Int32 × Int32 × Int32 × Int32 × Int32) (z : (Int32 × Int32) × Int32 × Int32 × Int32 × Int32 × Int32) : Prop :=
  (∃ p W H, good A n p (y.1, y.2.1, y.2.2.1) z.2 ∧ y.2.2.2.1 = nI W ∧ y.2.2.2.2 = nI H ∧ z.1 = (nI W, nI H) ∧ (2 ≤ W ∧ W ≤ 9) ∧ (2 ≤ H ∧ H ≤ 9)) ∨ (∃ q, q ≤ n ∧ y.2.2.1 = nI q ∧ z.2.2.2.1 = nI q)
theorem rng29 {v : Int32} (h0 : (2 : Int32).toInt ≤ v.toInt) (h1 : v.toInt ≤ (9 : Int32).toInt) : ∃ W, v = nI W ∧ 2 ≤ W ∧ W ≤ 9 := by
  rw [c2] at h0
  rw [c9] at h1
  exact ⟨v.toInt.toNat, of_nn (by omega), by omega, by omega⟩
set_option maxHeartbeats 2000000 in
theorem size_sm {n : Nat} {A B : Nat → Int32} (ht : tpe n A B) (bg w0 h0 fr pt nb : Int32) : SM (fX5_readSize (nI n) 0 bg (-1) w0 h0 A) ((fX12_next (nI n) 0 fr pt nb B).bind (fun q1 => (fX12_isWord_s8 q1.1 q1.2.1 (-1) q1.2.2.1 B).bind (fun q3 => Option.bind (α := Int32 × Int32 × Int32 × Int32 × Int32) (if q3 = true then (fX12_next (nI n) q1.1 q1.2.1 q1.2.2.1 q1.2.2.2 B).bind (fun q22 => some (q22.1, q22.2.1, (-1), q22.2.2.1, q22.2.2.2)) else (fX12_bad q1.2.1 (-1)).bind (fun q24 => some (q1.1, q1.2.1, q24, q1.2.2.1, q1.2.2.2))) (fun q5 => (fX12_takesNumber (nI n) q5.1 q5.2.1 q5.2.2.1 q5.2.2.2.1 q5.2.2.2.2 B 2 9).bind (fun q7 => (fX12_takesNumber (nI n) q7.2.1 q7.2.2.1 q7.2.2.2.1 q7.2.2.2.2.1 q7.2.2.2.2.2 B 2 9).bind (fun q9 => some ((q7.1, q9.1), q9.2))))))) (szR A n) := by
  unfold fX5_readSize
  have hn := ht.1
  refine SM.okL (readWord_ok (p := 0) hn (by omega) bg) ?_
  rintro _ ⟨q, e, hq, he, rfl⟩
  refine SM.okR (next_ok (p := 0) hn ht.2.2 (by omega) fr pt nb) ?_
  intro t htk
  have htk := tokR_cg ht.2.1 htk
  obtain ⟨b8, sp8, iw8, w8⟩ := word_s8 ht hq he htk
  have hen := he.2.1
  have hqe := he.1
  obtain ⟨q2, hq2, hfr, _⟩ := id htk
  have e2 := isE_eq hq hq2
  subst e2
  refine SM.eqL sp8 (SM.eqR iw8 ?_)
  cases b8 with
  | false =>
    have mq : nI q ≠ -1 := nI_m1 (by omega)
    refine SM.eqL (z := nI q) (by rw [if_neg (by decide)]) (SM.eqR (z := (t.1, t.2.1, nI q, t.2.2.1, t.2.2.2)) ?_ ?_)
    · rw [if_neg (by decide)]
      unfold fX12_bad
      rw [if_pos rfl, hfr]
      rfl
    · simp only [rb (show q ≤ 300 by omega), tb' (show q ≤ 300 by omega), Option.bind_some]
      exact SM.ret (Or.inr ⟨q, by omega, rfl, rfl⟩)
  | true =>
    refine SM.eqL (z := -1) (by rw [if_pos rfl]) ?_
    rw [if_pos rfl, (w8 rfl).1]
    obtain ⟨t2, et2, ht2⟩ := next_ok (p := e) hn ht.2.2 hen t.2.1 t.2.2.1 t.2.2.2
    have ht2 := tokR_cg ht.2.1 ht2
    refine SM.eqR (z := (t2.1, t2.2.1, -1, t2.2.2.1, t2.2.2.2)) (by rw [et2]; rfl) ?_
    have g0 : good A n e (nI e, nI q, -1) (t2.1, t2.2.1, -1, t2.2.2.1, t2.2.2.2) := ⟨hen, rfl, rfl, rfl, ht2⟩
    refine SM.bind (num_sm ht g0 2 9 (by decide)) ?_
    rintro ⟨x1, x2, x3, x4⟩ ⟨u1, u2, u3, u4, u5, u6⟩ (⟨e1, _, g1, v1, l1, m1, _⟩ | ⟨q, hq, f1, f2, _⟩)
    · refine SM.bind (num_sm ht g1 2 9 (by decide)) ?_
      rintro ⟨y1, y2, y3, y4⟩ ⟨z1, z2, z3, z4, z5, z6⟩ (⟨e3, _, g3, v3, l3, m3, _⟩ | ⟨q, hq, f1, f2, _⟩)
      · simp only at v1 v3 l1 m1 l3 m3
        obtain ⟨W, rfl, hW⟩ := rng29 l1 m1
        obtain ⟨H, rfl, hH⟩ := rng29 l3 m3
        exact SM.ret (Or.inl ⟨e3, W, H, g3, rfl, rfl, by rw [← v1, ← v3], hW, hH⟩)
      · exact SM.ret (Or.inr ⟨q, hq, f1, f2⟩)
    · simp only at f1 f2
      subst f1; subst f2
      simp only [rb (show q ≤ 300 by omega), tb' (show q ≤ 300 by omega), Option.bind_some]
      exact SM.ret (Or.inr ⟨q, hq, rfl, rfl⟩)
/-- what both have read -/
def rdR (n : Nat) (y : Int32 × Int32 × Int32 × Int32 × Int32 × Int32 × Bool × Bool × Bool × Int32 × (Nat → Int32) × (Nat → Int32) × (Nat → Int32)) (z : Int32 × Int32 × Int32 × Int32 × Int32 × Int32 × Int32 × Int32 × Int32 × Bool × Bool × Bool × (Nat → Int32) × (Nat → Int32) × (Nat → Int32) × (Nat → Int32) × (Nat → Int32)) : Prop :=
  y.1 = z.1 ∧ ((∃ q, q ≤ n ∧ y.1 = nI q) ∨ (y.1 = -1 ∧ ∃ W H K, y.2.2.2.2.1 = nI W ∧ y.2.2.2.2.2.1 = nI H ∧ z.2.2.2.2.2.2.1 = nI W ∧ z.2.2.2.2.2.2.2.1 = nI H ∧ (2 ≤ W ∧ W ≤ 9) ∧ (2 ≤ H ∧ H ≤ 9) ∧ y.2.2.2.2.2.2.2.2.2.1 = nI K ∧ z.2.2.2.2.2.2.2.2.1 = nI K ∧ dat W H K y.2.2.2.2.2.2.2.2.2.2.1 y.2.2.2.2.2.2.2.2.2.2.2.1 y.2.2.2.2.2.2.2.2.2.2.2.2 z.2.2.2.2.2.2.2.2.2.2.2.2.1 z.2.2.2.2.2.2.2.2.2.2.2.2.2.1 z.2.2.2.2.2.2.2.2.2.2.2.2.2.2.1 z.2.2.2.2.2.2.2.2.2.2.2.2.2.2.2.1 z.2.2.2.2.2.2.2.2.2.2.2.2.2.2.2.2))
