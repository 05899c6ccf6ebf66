/-! ===== the cores, by y, then by x ===== -/
def isC (f : Nat → Int32) (x y : Nat) : Bool := decide (¬ (vec f x y 0 = 0 ∧ vec f x y 1 = 0))
def rowL (f : Nat → Int32) (y : Nat) : Nat → List (Nat × Nat)
  | 0 => []
  | k + 1 => rowL f y k ++ (bif isC f k y then [(k, y)] else [])
def rowsL (f : Nat → Int32) (W : Nat) : Nat → List (Nat × Nat)
  | 0 => []
  | j + 1 => rowsL f W j ++ rowL f j (W - 1)
def coreL (f : Nat → Int32) (W H : Nat) : List (Nat × Nat) := rowsL f W (H - 1)
abbrev kx (L : List (Nat × Nat)) (i : Nat) : Nat := (L.getD i (0, 0)).1
abbrev ky (L : List (Nat × Nat)) (i : Nat) : Nat := (L.getD i (0, 0)).2
def celC (f : Nat → Int32) (L : List (Nat × Nat)) (pl ve : Nat → Int32) : Prop := ∀ i, i < L.length → pl (2 * i) = nI (kx L i) ∧ pl (2 * i + 1) = nI (ky L i) ∧ ve (2 * i) = vec f (kx L i) (ky L i) 0 ∧ ve (2 * i + 1) = vec f (kx L i) (ky L i) 1
def celR (f : Nat → Int32) (L : List (Nat × Nat)) (X Y Dx Dy : Nat → Int32) : Prop := ∀ i, i < L.length → X i = nI (kx L i) ∧ Y i = nI (ky L i) ∧ Dx i = vec f (kx L i) (ky L i) 0 ∧ Dy i = vec f (kx L i) (ky L i) 1
theorem getD_l {L : List (Nat × Nat)} {q : Nat × Nat} {i : Nat} (h : i < L.length) : (L ++ [q]).getD i (0, 0) = L.getD i (0, 0) := by
  simp [List.getD_eq_getElem?_getD, List.getElem?_append_left h]
theorem getD_s {L : List (Nat × Nat)} {q : Nat × Nat} : (L ++ [q]).getD L.length (0, 0) = q := by
  simp [List.getD_eq_getElem?_getD]
theorem celC.snoc {f : Nat → Int32} {L : List (Nat × Nat)} {pl ve : Nat → Int32} {x y : Nat} (h : celC f L pl ve) : celC f (L ++ [(x, y)]) (upd (upd pl (2 * L.length) (nI x)) (2 * L.length + 1) (nI y)) (upd (upd ve (2 * L.length) (vec f x y 0)) (2 * L.length + 1) (vec f x y 1)) := by
  intro i hi
  rw [List.length_append, List.length_singleton] at hi
  by_cases e : i = L.length
  · subst e
    simp only [kx, ky, getD_s]
    simp [upd]
  · have hl : i < L.length := by omega
    simp only [kx, ky, getD_l hl]
    have := h i hl
    simp only [upd, show ¬ (2 * i = 2 * L.length) by omega, show ¬ (2 * i = 2 * L.length + 1) by omega, show ¬ (2 * i + 1 = 2 * L.length) by omega, show ¬ (2 * i + 1 = 2 * L.length + 1) by omega, if_false]
    exact this
theorem celR.snoc {f : Nat → Int32} {L : List (Nat × Nat)} {X Y Dx Dy : Nat → Int32} {x y : Nat} (h : celR f L X Y Dx Dy) : celR f (L ++ [(x, y)]) (upd X L.length (nI x)) (upd Y L.length (nI y)) (upd Dx L.length (vec f x y 0)) (upd Dy L.length (vec f x y 1)) := by
  intro i hi
  rw [List.length_append, List.length_singleton] at hi
  by_cases e : i = L.length
  · subst e
    simp only [kx, ky, getD_s]
    simp [upd]
  · have hl : i < L.length := by omega
    simp only [kx, ky, getD_l hl]
    have := h i hl
    simp only [upd, if_neg e]
    exact this
theorem rowL_le (f : Nat → Int32) (y : Nat) : ∀ {a b : Nat}, a ≤ b → (rowL f y a).length ≤ (rowL f y b).length := by
  intro a b h
  induction b with
  | zero => have : a = 0 := by omega
            subst this; exact Nat.le_refl _
  | succ b ih =>
    by_cases e : a = b + 1
    · subst e; exact Nat.le_refl _
    · exact Nat.le_trans (ih (by omega)) (by simp [rowL])
theorem rowsL_le (f : Nat → Int32) (W : Nat) : ∀ {a b : Nat}, a ≤ b → (rowsL f W a).length ≤ (rowsL f W b).length := by
  intro a b h
  induction b with
  | zero => have : a = 0 := by omega
            subst this; exact Nat.le_refl _
  | succ b ih =>
    by_cases e : a = b + 1
    · subst e; exact Nat.le_refl _
    · exact Nat.le_trans (ih (by omega)) (by simp [rowsL])
theorem part_le (f : Nat → Int32) (W H : Nat) {y k : Nat} (hy : y < H - 1) (hk : k ≤ W - 1) : (rowsL f W y ++ rowL f y k).length ≤ (coreL f W H).length := by
  have h1 := rowsL_le f W (show y + 1 ≤ H - 1 by omega)
  have h2 := rowL_le f y hk
  simp only [rowsL, List.length_append] at h1
  simp only [List.length_append, coreL]
  omega
theorem nI_le_iff {a b : Nat} (ha : a < 2147483648) (hb : b < 2147483648) : nI a ≤ nI b ↔ a ≤ b := nI_leI ha hb
/-- n less 1, where n may be 0 -/
theorem le_pred {n k : Nat} (hn : n ≤ 9) (hk : k < 2147483648) : (nI n - 1 ≤ nI k) ↔ n - 1 ≤ k ∨ n = 0 := by
  rw [le_i, nIs1 hn, nI_ti k hk]
  omega
theorem isC_true {f : Nat → Int32} {x y : Nat} : isC f x y = true ↔ ¬ (vec f x y 0 = 0 ∧ vec f x y 1 = 0) := by unfold isC; rw [decide_eq_true_eq]
/-! ===== functions that give an answer, and what it keeps to ===== -/
def OK {α : Type} (o : Option α) (P : α → Prop) : Prop := ∃ z, o = some z ∧ P z
theorem OK.ret {α : Type} {z : α} {P : α → Prop} (h : P z) : OK (some z) P := ⟨z, rfl, h⟩
theorem OK.bind {α β : Type} {o : Option α} {k : α → Option β} {Q : α → Prop} {P : β → Prop} (h : OK o Q) (hk : ∀ y, Q y → OK (k y) P) : OK (o.bind k) P := by
  obtain ⟨z, rfl, hz⟩ := h
  exact hk z hz
theorem OK.eq {α β : Type} {o : Option α} {k : α → Option β} {z : α} {P : β → Prop} (h : o = some z) (hk : OK (k z) P) : OK (o.bind k) P := by
  subst h
  exact hk
theorem OK.ite {α : Type} {c : Prop} [Decidable c] {a b : Option α} {P : α → Prop} (ht : c → OK a P) (hf : ¬ c → OK b P) : OK (if c then a else b) P := by
  by_cases h : c
  · rw [if_pos h]; exact ht h
  · rw [if_neg h]; exact hf h
theorem OK.t {α : Type} {c : Prop} [Decidable c] {a b : Option α} {P : α → Prop} (h : c) (ht : OK a P) : OK (if c then a else b) P := by rw [if_pos h]; exact ht
theorem OK.f {α : Type} {c : Prop} [Decidable c] {a b : Option α} {P : α → Prop} (h : ¬ c) (ht : OK b P) : OK (if c then a else b) P := by rw [if_neg h]; exact ht
theorem OK.g {α : Type} {b : Bool} {k : Option α} {P : α → Prop} (h : b = true) (hk : OK k P) : OK (e_g b k) P := by rw [g_t h]; exact hk
theorem OK.mono {α : Type} {o : Option α} {P Q : α → Prop} (h : OK o P) (hq : ∀ z, P z → Q z) : OK o Q := by
  obtain ⟨z, e, hz⟩ := h
  exact ⟨z, e, hq z hz⟩
theorem OK.loop {V Y : Type} {b : V → Option (V ⊕ Y)} {v0 : V} {Q : Y → Prop} (I : Nat → V → Prop) (N : Nat) (hN : N < 100000) (h0 : I 0 v0)
    (hs : ∀ (k : Nat) (v : V), k < N → I k v → OK (b v) (fun z => ∃ v', z = .inl v' ∧ I (k + 1) v')) (hx : ∀ v : V, I N v → OK (b v) (fun z => ∃ y, z = .inr y ∧ Q y)) : OK (e_loop b e_fuel v0) Q := by
  refine e_loop_for I Q N hN h0 (fun k v hk hI => ?_) (fun v hI => ?_)
  · obtain ⟨_, h1, v', rfl, h2⟩ := hs k v hk hI
    exact ⟨v', h1, h2⟩
  · obtain ⟨_, h1, y, rfl, h2⟩ := hx v hI
    exact ⟨y, h1, h2⟩
/-- a loop that may go out before its end -/
theorem OK.loopx {V Y : Type} {b : V → Option (V ⊕ Y)} {v0 : V} {Q : Y → Prop} (I : Nat → V → Prop) (N : Nat) (hN : N < 100000) (h0 : I 0 v0)
    (hs : ∀ (k : Nat) (v : V), k < N → I k v → OK (b v) (fun z => (∃ v', z = .inl v' ∧ I (k + 1) v') ∨ ∃ y, z = .inr y ∧ Q y)) (hx : ∀ v : V, I N v → OK (b v) (fun z => ∃ y, z = .inr y ∧ Q y)) : OK (e_loop b e_fuel v0) Q := by
  refine e_loop_any I Q N hN h0 (fun k v hk hI => ?_) (fun v hI => ?_)
  · obtain ⟨_, h1, ⟨v', rfl, h2⟩ | ⟨y, rfl, h2⟩⟩ := hs k v hk hI
    · exact Or.inl ⟨v', h1, h2⟩
    · exact Or.inr ⟨y, h1, h2⟩
  · obtain ⟨_, h1, y, rfl, h2⟩ := hx v hI
    exact ⟨y, h1, h2⟩
theorem OK.inl {V Y : Type} {v : V} {I : V → Prop} (h : I v) : OK (some (Sum.inl v : V ⊕ Y)) (fun z => ∃ v', z = .inl v' ∧ I v') := ⟨_, rfl, v, rfl, h⟩
theorem OK.inr {V Y : Type} {y : Y} {Q : Y → Prop} (h : Q y) : OK (some (Sum.inr y : V ⊕ Y)) (fun z => ∃ y', z = .inr y' ∧ Q y') := ⟨_, rfl, y, rfl, h⟩
set_option maxHeartbeats 4000000 in
theorem find_ok {W H : Nat} (hW : W ≤ 9) (hH : H ≤ 9) (f pl0 ve0 : Nat → Int32) (sz : Int32) (hc : (coreL f W H).length ≤ 12) : OK (fX0_find (nI W) (nI H) sz f pl0 ve0) (fun R => R.1 = nI (coreL f W H).length ∧ celC f (coreL f W H) R.2.1 R.2.2) := by
  unfold fX0_find
  refine OK.bind (OK.loop (Q := fun y => y.1 = nI (coreL f W H).length ∧ celC f (coreL f W H) y.2.1 y.2.2) (fun j v => v.1 = nI j ∧ v.2.1 = nI (rowsL f W j).length ∧ celC f (rowsL f W j) v.2.2.1 v.2.2.2) (H - 1) (by omega) ⟨rfl, rfl, fun i hi => by simp [rowsL] at hi⟩ ?_ ?_) (fun y hy => OK.ret hy)
  · rintro j ⟨v1, v2, pl, ve⟩ hj ⟨rfl, rfl, hcel⟩
    simp only at hcel ⊢
    refine OK.f (by rw [le_pred hH (by omega)]; omega) ?_
    refine OK.bind (OK.loop (Q := fun y => y.1 = nI (rowsL f W (j + 1)).length ∧ celC f (rowsL f W (j + 1)) y.2.1 y.2.2) (fun k v => v.1 = nI k ∧ v.2.1 = nI (rowsL f W j ++ rowL f j k).length ∧ celC f (rowsL f W j ++ rowL f j k) v.2.2.1 v.2.2.2) (W - 1) (by omega) ⟨rfl, by simp [rowL], by simpa [rowL] using hcel⟩ ?_ ?_) (fun y hy => OK.inl ⟨by simp only [z1, nI_add], hy.1, hy.2⟩)
    · rintro k ⟨v1, v2, pl, ve⟩ hk ⟨rfl, rfl, hcel⟩
      simp only at hcel ⊢
      have hle := part_le f W H hj (show k + 1 ≤ W - 1 by omega)
      have v0 := vectorOf_eq hW hH f (x := k) (y := j) (p := 0) (by omega) (by omega) (by omega)
      have v1 := vectorOf_eq hW hH f (x := k) (y := j) (p := 1) (by omega) (by omega) (by omega)
      rw [← z0, if_pos (by omega)] at v0
      rw [← z1, if_pos (by omega)] at v1
      refine OK.f (by rw [le_pred hW (by omega)]; omega) (OK.eq v0 (OK.eq v1 ?_))
      by_cases hcore : isC f k j = true
      · have hn := isC_true.mp hcore
        have hrow : rowL f j (k + 1) = rowL f j k ++ [(k, j)] := by simp [rowL, hcore]
        rw [hrow, ← List.append_assoc] at hle ⊢
        have hs := hcel.snoc (x := k) (y := j)
        generalize hL : rowsL f W j ++ rowL f j k = L at hle hs hcel ⊢
        rw [List.length_append, List.length_singleton] at hle ⊢
        generalize hn9 : L.length = n at hle hs hcel ⊢
        have e12 : ¬ (12 : Int32) ≤ nI n := by
          rw [show (12 : Int32) = nI 12 from rfl, nI_le_iff (by omega) (by omega)]; omega
        have g1 : e_in ((2 : Int32) * nI n) 24 = true := by rw [z2, pk_mul]; exact ein_nI (by omega) (by omega)
        have g2 : e_in ((2 : Int32) * nI n + 1) 24 = true := by rw [z2, z1, pk_mul, nI_add]; exact ein_nI (by omega) (by omega)
        have t1 : tn ((2 : Int32) * nI n) = 2 * n := by rw [z2, pk_mul]; exact tn_nI (by omega)
        have t2 : tn ((2 : Int32) * nI n + 1) = 2 * n + 1 := by rw [z2, z1, pk_mul, nI_add]; exact tn_nI (by omega)
        have fin : OK (e_g (e_in ((2 : Int32) * nI n) 24) (e_g (e_in ((2 : Int32) * nI n + 1) 24) (e_g (e_in ((2 : Int32) * nI n) 24) (e_g (e_in ((2 : Int32) * nI n + 1) 24) (some (nI n + 1, upd (upd pl (tn ((2 : Int32) * nI n)) (nI k)) (tn ((2 : Int32) * nI n + 1)) (nI j), upd (upd ve (tn ((2 : Int32) * nI n)) (vec f k j 0)) (tn ((2 : Int32) * nI n + 1)) (vec f k j 1))))))) (fun q : Int32 × (Nat → Int32) × (Nat → Int32) => q.1 = nI (n + 1) ∧ celC f (L ++ [(k, j)]) q.2.1 q.2.2) := by
          refine OK.g g1 (OK.g g2 (OK.g g1 (OK.g g2 (OK.ret ⟨by simp only [z1, nI_add], ?_⟩))))
          simp only [t1, t2]
          exact hs
        refine OK.bind (Q := fun q => q.1 = nI (n + 1) ∧ celC f (L ++ [(k, j)]) q.2.1 q.2.2) ?_ (fun q hq => OK.inl ⟨by simp only [z1, nI_add], hq.1, hq.2⟩)
        refine OK.ite (fun a0 => OK.f (fun a1 => hn ⟨a0, a1⟩) (OK.f e12 fin)) (fun _ => OK.f e12 fin)
      · have hn : vec f k j 0 = 0 ∧ vec f k j 1 = 0 := Classical.byContradiction fun q => hcore (isC_true.mpr q)
        have hcf : isC f k j = false := by simpa using hcore
        have hrow : rowL f j (k + 1) = rowL f j k := by simp [rowL, hcf]
        rw [hrow]
        refine OK.bind (Q := fun q => q.1 = nI (rowsL f W j ++ rowL f j k).length ∧ celC f (rowsL f W j ++ rowL f j k) q.2.1 q.2.2) (OK.t hn.1 (OK.t hn.2 (OK.ret ⟨rfl, hcel⟩))) (fun q hq => OK.inl ⟨by simp only [z1, nI_add], hq.1, hq.2⟩)
    · rintro ⟨v1, v2, pl, ve⟩ ⟨rfl, rfl, hcel⟩
      simp only at hcel ⊢
      exact OK.t (by rw [le_pred hW (by omega)]; omega) (OK.inr ⟨rfl, hcel⟩)
  · rintro ⟨v1, v2, pl, ve⟩ ⟨rfl, rfl, hcel⟩
    simp only at hcel ⊢
    exact OK.t (by rw [le_pred hH (by omega)]; omega) (OK.inr ⟨rfl, hcel⟩)
