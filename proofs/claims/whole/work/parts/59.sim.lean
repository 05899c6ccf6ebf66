/-! ===== two programs side by side ===== -/
def SM {α β : Type} (o : Option α) (u : Option β) (R : α → β → Prop) : Prop := ∃ y z, o = some y ∧ u = some z ∧ R y z
theorem SM.ret {α β : Type} {y : α} {z : β} {R : α → β → Prop} (h : R y z) : SM (some y) (some z) R := ⟨y, z, rfl, rfl, h⟩
theorem SM.refl {α : Type} {o : Option α} (h : ∃ z, o = some z) : SM o o (fun y z => y = z) := by
  obtain ⟨z, h⟩ := h
  exact ⟨z, z, h, h, rfl⟩
theorem SM.bind {α β γ δ : Type} {o : Option α} {u : Option β} {k : α → Option γ} {m : β → Option δ} {Q : α → β → Prop} {R : γ → δ → Prop} (h : SM o u Q) (hk : ∀ y z, Q y z → SM (k y) (m z) R) : SM (o.bind k) (u.bind m) R := by
  obtain ⟨y, z, rfl, rfl, hq⟩ := h
  exact hk y z hq
theorem SM.same {α γ δ : Type} {o : Option α} {k : α → Option γ} {m : α → Option δ} {R : γ → δ → Prop} (h : ∃ z, o = some z) (hk : ∀ y, SM (k y) (m y) R) : SM (o.bind k) (o.bind m) R := by
  obtain ⟨z, rfl⟩ := h
  exact hk z
theorem SM.eqL {α γ δ : Type} {o : Option α} {k : α → Option γ} {u : Option δ} {z : α} {R : γ → δ → Prop} (h : o = some z) (hk : SM (k z) u R) : SM (o.bind k) u R := by
  subst h
  exact hk
theorem SM.eqR {β γ δ : Type} {o : Option γ} {u : Option β} {m : β → Option δ} {z : β} {R : γ → δ → Prop} (h : u = some z) (hk : SM o (m z) R) : SM o (u.bind m) R := by
  subst h
  exact hk
theorem SM.okR {β γ δ : Type} {o : Option γ} {u : Option β} {m : β → Option δ} {Q : β → Prop} {R : γ → δ → Prop} (h : OK u Q) (hk : ∀ z, Q z → SM o (m z) R) : SM o (u.bind m) R := by
  obtain ⟨z, rfl, hz⟩ := h
  exact hk z hz
theorem SM.okL {α γ δ : Type} {o : Option α} {k : α → Option γ} {u : Option δ} {Q : α → Prop} {R : γ → δ → Prop} (h : OK o Q) (hk : ∀ z, Q z → SM (k z) u R) : SM (o.bind k) u R := by
  obtain ⟨z, rfl, hz⟩ := h
  exact hk z hz
theorem SM.ite {α β : Type} {c d : Prop} [Decidable c] [Decidable d] {a b : Option α} {e f : Option β} {R : α → β → Prop} (hc : c ↔ d) (ht : c → SM a e R) (hf : ¬ c → SM b f R) : SM (if c then a else b) (if d then e else f) R := by
  by_cases h : c
  · rw [if_pos h, if_pos (hc.mp h)]; exact ht h
  · rw [if_neg h, if_neg (fun q => h (hc.mpr q))]; exact hf h
theorem SM.tL {α β : Type} {c : Prop} [Decidable c] {a b : Option α} {u : Option β} {R : α → β → Prop} (h : c) (k : SM a u R) : SM (if c then a else b) u R := by rw [if_pos h]; exact k
theorem SM.fL {α β : Type} {c : Prop} [Decidable c] {a b : Option α} {u : Option β} {R : α → β → Prop} (h : ¬ c) (k : SM b u R) : SM (if c then a else b) u R := by rw [if_neg h]; exact k
theorem SM.tR {α β : Type} {c : Prop} [Decidable c] {a b : Option β} {u : Option α} {R : α → β → Prop} (h : c) (k : SM u a R) : SM u (if c then a else b) R := by rw [if_pos h]; exact k
theorem SM.fR {α β : Type} {c : Prop} [Decidable c] {a b : Option β} {u : Option α} {R : α → β → Prop} (h : ¬ c) (k : SM u b R) : SM u (if c then a else b) R := by rw [if_neg h]; exact k
theorem SM.gL {α β : Type} {b : Bool} {a : Option α} {u : Option β} {R : α → β → Prop} (h : b = true) (k : SM a u R) : SM (e_g b a) u R := by rw [g_t h]; exact k
theorem SM.gR {α β : Type} {b : Bool} {a : Option β} {u : Option α} {R : α → β → Prop} (h : b = true) (k : SM u a R) : SM u (e_g b a) R := by rw [g_t h]; exact k
theorem SM.mono {α β : Type} {o : Option α} {u : Option β} {Q R : α → β → Prop} (h : SM o u Q) (k : ∀ y z, Q y z → R y z) : SM o u R := by
  obtain ⟨y, z, h1, h2, h3⟩ := h
  exact ⟨y, z, h1, h2, k y z h3⟩
theorem SM.loop {V W Y Z : Type} {b : V → Option (V ⊕ Y)} {c : W → Option (W ⊕ Z)} {v0 : V} {w0 : W} {Q : Y → Z → Prop} (I : Nat → V → W → Prop) (N : Nat) (hN : N < 100000) (h0 : I 0 v0 w0)
    (hs : ∀ (k : Nat) (v : V) (w : W), k < N → I k v w → SM (b v) (c w) (fun p q => (∃ v' w', p = .inl v' ∧ q = .inl w' ∧ I (k + 1) v' w') ∨ ∃ y z, p = .inr y ∧ q = .inr z ∧ Q y z))
    (hx : ∀ (v : V) (w : W), I N v w → SM (b v) (c w) (fun p q => ∃ y z, p = .inr y ∧ q = .inr z ∧ Q y z)) : SM (e_loop b e_fuel v0) (e_loop c e_fuel w0) Q := by
  have key : ∀ (m k n : Nat) (v : V) (w : W), k + m = N → m < n → I k v w → SM (e_loop b n v) (e_loop c n w) Q := by
    intro m
    induction m with
    | zero =>
      intro k n v w hk hn hI
      obtain ⟨n, rfl⟩ : ∃ j, n = j + 1 := ⟨n - 1, by omega⟩
      have e : k = N := by omega
      subst e
      obtain ⟨_, _, h1, h2, y, z, rfl, rfl, hq⟩ := hx v w hI
      exact ⟨y, z, by simp [e_loop, h1], by simp [e_loop, h2], hq⟩
    | succ m ih =>
      intro k n v w hk hn hI
      obtain ⟨n, rfl⟩ : ∃ j, n = j + 1 := ⟨n - 1, by omega⟩
      obtain ⟨_, _, h1, h2, ⟨v', w', rfl, rfl, hI'⟩ | ⟨y, z, rfl, rfl, hq⟩⟩ := hs k v w (by omega) hI
      · obtain ⟨y, z, h3, h4, hq⟩ := ih (k + 1) n v' w' (by omega) (by omega) hI'
        exact ⟨y, z, by simp [e_loop, h1, h3], by simp [e_loop, h2, h4], hq⟩
      · exact ⟨y, z, by simp [e_loop, h1], by simp [e_loop, h2], hq⟩
  exact key N 0 e_fuel v0 w0 (by omega) hN h0
theorem SM.inl {V W Y Z : Type} {v : V} {w : W} {I : V → W → Prop} {Q : Y → Z → Prop} (h : I v w) : SM (some (Sum.inl v : V ⊕ Y)) (some (Sum.inl w : W ⊕ Z)) (fun p q => (∃ v' w', p = .inl v' ∧ q = .inl w' ∧ I v' w') ∨ ∃ y z, p = .inr y ∧ q = .inr z ∧ Q y z) := ⟨_, _, rfl, rfl, Or.inl ⟨v, w, rfl, rfl, h⟩⟩
theorem SM.inrx {V W Y Z : Type} {y : Y} {z : Z} {P : V ⊕ Y → W ⊕ Z → Prop} {Q : Y → Z → Prop} (h : Q y z) : SM (some (Sum.inr y : V ⊕ Y)) (some (Sum.inr z : W ⊕ Z)) (fun p q => P p q ∨ ∃ y z, p = .inr y ∧ q = .inr z ∧ Q y z) := ⟨_, _, rfl, rfl, Or.inr ⟨y, z, rfl, rfl, h⟩⟩
theorem SM.inr {V W Y Z : Type} {y : Y} {z : Z} {Q : Y → Z → Prop} (h : Q y z) : SM (some (Sum.inr y : V ⊕ Y)) (some (Sum.inr z : W ⊕ Z)) (fun p q => ∃ y z, p = .inr y ∧ q = .inr z ∧ Q y z) := ⟨_, _, rfl, rfl, y, z, rfl, rfl, h⟩
theorem abs_tot (x : Int32) : ∃ z, fJ9_abs_0f7a4 x = some z := by
  unfold fJ9_abs_0f7a4
  split <;> exact ⟨_, rfl⟩
theorem max_tot (x y : Int32) : ∃ z, fJ9_max_7cf53 x y = some z := by
  unfold fJ9_max_7cf53
  split <;> exact ⟨_, rfl⟩
theorem nle {j n : Nat} (h : j < n) (hn : n < 2147483648) : ¬ nI n ≤ nI j := by rw [nI_le_iff (by omega) (by omega)]; omega
theorem yle {n : Nat} (hn : n < 2147483648) : nI n ≤ nI n := by rw [nI_le_iff (by omega) (by omega)]; omega
theorem nI_s1 (k : Nat) : nI k + 1 = nI (k + 1) := by simp only [z1, nI_add]
theorem gNumber_sm {f pl ve X Y Dx Dy : Nat → Int32} {L : List (Nat × Nat)} (hn : L.length ≤ 12) (hc : celC f L pl ve) (hr : celR f L X Y Dx Dy) : SM (fX0_greatestNumber (nI L.length) ve) (fX12_greatestNumber (nI L.length) Dx Dy) (fun y z => y = z) := by
  unfold fX0_greatestNumber fX12_greatestNumber
  refine SM.bind (SM.loop (Q := fun y z => y = z) (fun k v w => v = w ∧ v.2 = nI k) L.length (by omega) ⟨rfl, rfl⟩ ?_ ?_) (fun y z e => SM.ret e)
  · rintro k ⟨a, b⟩ ⟨c, d⟩ hk ⟨e, rfl⟩
    cases e
    have g : e_in (nI k) 64 = true := ein_nI (by omega) (by omega)
    have n0 := numberOf_eq hc (w := 0) hn hk (by omega)
    have n1 := numberOf_eq hc (w := 1) hn hk (by omega)
    rw [← z0] at n0
    rw [← z1] at n1
    simp only [tn_nI (show k < 2147483648 by omega), (hr k hk).2.2.1, (hr k hk).2.2.2]
    refine SM.fL (nle hk (by omega)) (SM.fR (nle hk (by omega)) (SM.eqL n0 (SM.gR g (SM.same (abs_tot _) (fun y1 => SM.eqL n1 (SM.gR g (SM.same (abs_tot _) (fun y2 => SM.same (max_tot _ _) (fun y3 => SM.same (max_tot _ _) (fun y4 => SM.inl ⟨rfl, nI_s1 k⟩))))))))))
  · rintro ⟨a, b⟩ ⟨c, d⟩ ⟨e, rfl⟩
    cases e
    exact SM.tL (yle (by omega)) (SM.tR (yle (by omega)) (SM.inr rfl))
theorem gForce_sm {f pl ve X Y Dx Dy told Fo : Nat → Int32} {W H : Nat} {k0 : Int32} (hW : W ≤ 9) (hH : H ≤ 9) (h : okL f (coreL f W H)) (hc : celC f (coreL f W H) pl ve) :
    SM (fX0_greatestForce (nI (coreL f W H).length) pl ve told) (fX12_greatestForce (nI W) (nI H) k0 f told X Y Dx Dy Fo) (fun y z => z.1 = y ∧ z.2.1 = nI (coreL f W H).length ∧ celR f (coreL f W H) z.2.2.1 z.2.2.2.1 z.2.2.2.2.1 z.2.2.2.2.2.1 ∧ ∀ i, i < (coreL f W H).length → z.2.2.2.2.2.2 i = frcA f (coreL f W H) told i) := by
  unfold fX0_greatestForce fX12_greatestForce
  refine SM.okR (lays_eq hW hH f told X Y Dx Dy Fo k0 h) ?_
  rintro ⟨R1, R2, X', Y', Dx', Dy', Fo'⟩ ⟨_, hR2, hcel, hF⟩
  simp only at hR2 hcel hF ⊢
  subst hR2
  have hn := h.1
  refine SM.bind (SM.loop (Q := fun y z => y = z) (fun k v w => v = w ∧ v.2 = nI k) (coreL f W H).length (by omega) ⟨rfl, rfl⟩ ?_ ?_) (fun y z e => SM.ret ⟨e.symm, rfl, hcel, hF⟩)
  · rintro k ⟨a, b⟩ ⟨c, d⟩ hk ⟨e, rfl⟩
    cases e
    have g : e_in (nI k) 64 = true := ein_nI (by omega) (by omega)
    simp only [tn_nI (show k < 2147483648 by omega), hF k hk]
    exact SM.fL (nle hk (by omega)) (SM.fR (nle hk (by omega)) (SM.eqL (cforce_eq h hc hk) (SM.gR g (SM.same (abs_tot _) (fun y1 => SM.same (max_tot _ _) (fun y2 => SM.inl ⟨rfl, nI_s1 k⟩))))))
  · rintro ⟨a, b⟩ ⟨c, d⟩ ⟨e, rfl⟩
    cases e
    exact SM.tL (yle (by omega)) (SM.tR (yle (by omega)) (SM.inr rfl))
