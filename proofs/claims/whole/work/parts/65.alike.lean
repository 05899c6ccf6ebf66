/-! ===== most alike in a column ===== -/
abbrev alP (f : Nat → Int32) (L : List (Nat × Nat)) (i k : Nat) : Prop := kx L k = kx L i ∧ kv f L k 0 = kv f L i 0 ∧ kv f L k 1 = kv f L i 1
def alk (f : Nat → Int32) (L : List (Nat × Nat)) (i : Nat) : Nat → Nat
  | 0 => 0
  | k + 1 => alk f L i k + if alP f L i k then 1 else 0
theorem alk_le (f : Nat → Int32) (L : List (Nat × Nat)) (i : Nat) : ∀ k, alk f L i k ≤ k := by
  intro k
  induction k with
  | zero => exact Nat.le_refl _
  | succ k ih => simp only [alk]; split <;> omega
theorem alk_pos (f : Nat → Int32) (L : List (Nat × Nat)) {i : Nat} : ∀ {k}, i < k → 0 < alk f L i k := by
  intro k
  induction k with
  | zero => intro h; omega
  | succ k ih =>
    intro h
    simp only [alk]
    by_cases e : i = k
    · subst e; rw [if_pos ⟨rfl, rfl, rfl⟩]; omega
    · have := ih (by omega); omega
theorem calike_eq {f pl ve : Nat → Int32} {L : List (Nat × Nat)} (h : okL f L) (hc : celC f L pl ve) {i : Nat} (hi : i < L.length) : fX0_alikeInColumn (nI L.length) pl ve (nI i) = some (nI (alk f L i L.length)) := by
  have hn := h.1
  apply OK.val
  unfold fX0_alikeInColumn
  have i0 := numberOf_eq hc (w := 0) hn hi (by omega)
  have i1 := numberOf_eq hc (w := 1) hn hi (by omega)
  have ip := cplace_eq hc (w := 0) hn hi (by omega)
  rw [← z0] at i0 ip
  rw [← z1] at i1
  refine OK.bind (OK.loop (Q := fun y => y = nI (alk f L i L.length)) (fun k v => v.1 = nI (alk f L i k) ∧ v.2 = nI k) L.length (by omega) ⟨rfl, rfl⟩ ?_ ?_) (fun y hy => OK.ret hy)
  · rintro k ⟨a, b⟩ hk ⟨rfl, rfl⟩
    simp only
    have n0 := numberOf_eq hc (w := 0) hn hk (by omega)
    have n1 := numberOf_eq hc (w := 1) hn hk (by omega)
    have np := cplace_eq hc (w := 0) hn hk (by omega)
    rw [← z0] at n0 np
    rw [← z1] at n1
    have hk7 := (h.2.1 k hk).1
    have hi7 := (h.2.1 i hi).1
    have hx : nI (kp L k 0) = nI (kp L i 0) ↔ kx L k = kx L i := nI_inj (show kx L k < 2147483648 by omega) (show kx L i < 2147483648 by omega)
    have no : ¬ alP f L i k → nI (alk f L i k) = nI (alk f L i (k + 1)) := fun q => by simp only [alk, if_neg q, Nat.add_zero]
    refine OK.f (nle hk (by omega)) (OK.eq np (OK.eq ip (OK.bind (Q := fun y => y = nI (alk f L i (k + 1))) ?_ (fun y hy => OK.inl ⟨hy, nI_s1 k⟩))))
    refine OK.ite (fun e1 => OK.eq n0 (OK.eq i0 (OK.ite (fun e2 => OK.eq n1 (OK.eq i1 (OK.ite (fun e3 => OK.ret ?_) (fun e3 => OK.ret (no (fun q => e3 q.2.2)))))) (fun e2 => OK.ret (no (fun q => e2 q.2.1)))))) (fun e1 => OK.ret (no (fun q => e1 (hx.mpr q.1))))
    simp only [alk, if_pos (show alP f L i k from ⟨hx.mp e1, e2, e3⟩)]
    exact nI_s1 _
  · rintro ⟨a, b⟩ ⟨rfl, rfl⟩
    exact OK.t (yle (by omega)) (OK.inr rfl)
theorem ralike_eq {f pl ve X Y Dx Dy : Nat → Int32} {L : List (Nat × Nat)} (h : okL f L) (hc : celC f L pl ve) (hr : celR f L X Y Dx Dy) {i : Nat} (hi : i < L.length) : fX12_alikeWith (nI L.length) X Dx Dy (nI i) = some (nI (alk f L i L.length)) := by
  obtain ⟨y, z, h1, h2, h3⟩ := alike_sm h.1 hc hr hi
  rw [calike_eq h hc hi] at h1
  rw [h2, ← h3, ← h1]
abbrev aA (f : Nat → Int32) (L : List (Nat × Nat)) (i : Nat) : Nat := alk f L i L.length
theorem cmost_eq {f pl ve : Nat → Int32} {L : List (Nat × Nat)} (h : okL f L) (hc : celC f L pl ve) : fX0_mostAlike (nI L.length) pl ve = some (nI (gMx (aA f L) L.length)) := by
  have hn := h.1
  apply OK.val
  unfold fX0_mostAlike
  refine OK.bind (OK.loop (Q := fun y => y = nI (gMx (aA f L) L.length)) (fun k v => v.1 = nI (gMx (aA f L) k) ∧ v.2 = nI k) L.length (by omega) ⟨rfl, rfl⟩ ?_ ?_) (fun y hy => OK.ret hy)
  · rintro k ⟨a, b⟩ hk ⟨rfl, rfl⟩
    simp only
    have m1 : gMx (aA f L) k ≤ L.length := gMx_le _ (fun j hj => alk_le f L j _)
    have m2 := alk_le f L k L.length
    exact OK.f (nle hk (by omega)) (OK.eq (calike_eq h hc hk) (OK.eq (max_nI (by omega) (by omega)) (OK.inl ⟨rfl, nI_s1 k⟩)))
  · rintro ⟨a, b⟩ ⟨rfl, rfl⟩
    exact OK.t (yle (by omega)) (OK.inr rfl)
/-- the least place of those whose number is G -/
def minC (A K : Nat → Nat) (G n : Nat) (q : Int32) : Prop := ((∀ j, j < n → A j ≠ G) ∧ q = -1) ∨ ∃ m, m < n ∧ q = nI (K m) ∧ A m = G ∧ ∀ j, j < n → A j = G → K m ≤ K j
theorem minC_eq {A K : Nat → Nat} {G n : Nat} {p q : Int32} (h : minC A K G n p) (g : minC A K G n q) : p = q := by
  rcases h with ⟨h0, rfl⟩ | ⟨m, hm, rfl, h1, h2⟩
  · rcases g with ⟨_, rfl⟩ | ⟨m, hm, _, g1, _⟩
    · rfl
    · exact absurd g1 (h0 m hm)
  · rcases g with ⟨g0, _⟩ | ⟨k, hk, rfl, g1, g2⟩
    · exact absurd h1 (g0 m hm)
    · have a := h2 k hk g1
      have b := g2 m hm h1
      rw [show K m = K k by omega]
theorem nI_m1 {m : Nat} (h : m < 2147483648) : nI m ≠ -1 := by
  intro q
  have := (eq_i _ _).mp q
  rw [nI_ti m h] at this
  have e9 : (-1 : Int32).toInt = -1 := rfl
  omega
theorem ccol_ok {f pl ve : Nat → Int32} {L : List (Nat × Nat)} (h : okL f L) (hc : celC f L pl ve) : OK (fX0_columnOfMostAlike (nI L.length) pl ve) (minC (aA f L) (kx L) (gMx (aA f L) L.length) L.length) := by
  have hn := h.1
  have mx : gMx (aA f L) L.length ≤ L.length := gMx_le _ (fun j hj => alk_le f L j _)
  unfold fX0_columnOfMostAlike
  generalize hG : gMx (aA f L) L.length = G at mx ⊢
  refine OK.eq (z := nI G) (by rw [cmost_eq h hc, hG]) (OK.bind (OK.loop (Q := minC (aA f L) (kx L) G L.length) (fun k v => minC (aA f L) (kx L) G k v.1 ∧ v.2 = nI k) L.length (by omega) ⟨Or.inl ⟨fun j hj => by omega, rfl⟩, rfl⟩ ?_ ?_) (fun y hy => OK.ret hy))
  · rintro k ⟨a, b⟩ hk ⟨hp, rfl⟩
    simp only at hp ⊢
    have np := cplace_eq hc (w := 0) hn hk (by omega)
    rw [← z0] at np
    have m2 := alk_le f L k L.length
    have hk7 := (h.2.1 k hk).1
    refine OK.f (nle hk (by omega)) (OK.eq (calike_eq h hc hk) (OK.bind (Q := minC (aA f L) (kx L) G (k + 1)) ?_ (fun y hy => OK.inl ⟨hy, nI_s1 k⟩)))
    by_cases e : aA f L k = G
    · refine OK.t (congrArg nI e) ?_
      rcases hp with ⟨h0, rfl⟩ | ⟨m, hm, rfl, h1, h2⟩
      · refine OK.t rfl (OK.eq np (OK.ret (Or.inr ⟨k, by omega, rfl, e, fun j hj ej => ?_⟩)))
        by_cases e2 : j = k
        · rw [e2]; exact Nat.le_refl _
        · exact absurd ej (h0 j (by omega))
      · have hm7 := (h.2.1 m (by omega)).1
        refine OK.f (nI_m1 (by omega)) (OK.eq np ?_)
        have hx : nI (kx L m) ≤ nI (kp L k 0) ↔ kx L m ≤ kx L k := nI_le_iff (show kx L m < 2147483648 by omega) (show kx L k < 2147483648 by omega)
        refine OK.ite (fun q => OK.ret (Or.inr ⟨m, by omega, rfl, h1, fun j hj ej => ?_⟩)) (fun q => OK.eq np (OK.ret (Or.inr ⟨k, by omega, rfl, e, fun j hj ej => ?_⟩)))
        · by_cases e2 : j = k
          · rw [e2]; exact hx.mp q
          · exact h2 j (by omega) ej
        · by_cases e2 : j = k
          · rw [e2]; exact Nat.le_refl _
          · have h3 := h2 j (by omega) ej
            have h4 : ¬ kx L m ≤ kx L k := fun z => q (hx.mpr z)
            omega
    · refine OK.f (by rw [nI_inj (by omega) (by omega)]; exact e) (OK.ret ?_)
      rcases hp with ⟨h0, rfl⟩ | ⟨m, hm, rfl, h1, h2⟩
      · refine Or.inl ⟨fun j hj => ?_, rfl⟩
        by_cases e2 : j = k
        · rw [e2]; exact e
        · exact h0 j (by omega)
      · refine Or.inr ⟨m, by omega, rfl, h1, fun j hj ej => ?_⟩
        by_cases e2 : j = k
        · rw [e2] at ej; exact absurd ej e
        · exact h2 j (by omega) ej
  · rintro ⟨a, b⟩ ⟨hp, rfl⟩
    exact OK.t (yle (by omega)) (OK.inr hp)
theorem rmost_ok {f pl ve X Y Dx Dy : Nat → Int32} {L : List (Nat × Nat)} (h : okL f L) (hc : celC f L pl ve) (hr : celR f L X Y Dx Dy) (b : Bool) : OK (fX12_mostAlike (nI L.length) X Dx Dy b) (fun q => if b = true then minC (aA f L) (kx L) (gMx (aA f L) L.length) L.length q else q = nI (gMx (aA f L) L.length)) := by
  have hn := h.1
  unfold fX12_mostAlike
  refine OK.bind (OK.loop (Q := fun y => y.1 = nI (gMx (aA f L) L.length) ∧ minC (aA f L) (kx L) (gMx (aA f L) L.length) L.length y.2) (fun k v => v.1 = nI (gMx (aA f L) k) ∧ minC (aA f L) (kx L) (gMx (aA f L) k) k v.2.1 ∧ v.2.2 = nI k) L.length (by omega) ⟨rfl, Or.inl ⟨fun j hj => by omega, rfl⟩, rfl⟩ ?_ ?_) ?_
  · rintro k ⟨a, c, d⟩ hk ⟨rfl, hp, rfl⟩
    simp only at hp ⊢
    have g : e_in (nI k) 64 = true := ein_nI (by omega) (by omega)
    have m1 : gMx (aA f L) k ≤ L.length := gMx_le _ (fun j hj => alk_le f L j _)
    have m2 : aA f L k ≤ L.length := alk_le f L k L.length
    have hk7 := (h.2.1 k hk).1
    have pos : 0 < aA f L k := alk_pos f L hk
    simp only [tn_nI (show k < 2147483648 by omega), (hr k hk).1]
    refine OK.f (nle hk (by omega)) (OK.eq (ralike_eq h hc hr hk) (OK.bind (Q := fun y => y.1 = nI (gMx (aA f L) (k + 1)) ∧ minC (aA f L) (kx L) (gMx (aA f L) (k + 1)) (k + 1) y.2) ?_ (fun y hy => OK.inl ⟨hy.1, hy.2, nI_s1 k⟩)))
    have lt : nI (gMx (aA f L) k) < nI (aA f L k) ↔ gMx (aA f L) k < aA f L k := by
      rw [lt_i, nI_ti _ (by omega), nI_ti _ (show aA f L k < 2147483648 by omega)]; omega
    by_cases q : gMx (aA f L) k < aA f L k
    · have e : gMx (aA f L) (k + 1) = aA f L k := by simp only [gMx]; omega
      refine OK.t (lt.mpr q) (OK.g g (OK.ret ⟨by rw [e], Or.inr ⟨k, by omega, rfl, e.symm, fun j hj ej => ?_⟩⟩))
      by_cases e2 : j = k
      · rw [e2]; exact Nat.le_refl _
      · have := gMx_ge (aA f L) (show j < k by omega)
        omega
    · have e : gMx (aA f L) (k + 1) = gMx (aA f L) k := by simp only [gMx]; omega
      rw [e]
      refine OK.f (fun z => q (lt.mp z)) ?_
      rcases hp with ⟨h0, rfl⟩ | ⟨m, hm, rfl, h1, h2⟩
      · exfalso
        by_cases k0 : k = 0
        · subst k0
          simp only [gMx] at q
          omega
        · obtain ⟨j, hj, ej⟩ := gMx_at (aA f L) (show 0 < k by omega)
          exact h0 j hj ej
      · have hm7 := (h.2.1 m (by omega)).1
        by_cases e3 : aA f L k = gMx (aA f L) k
        · refine OK.t (congrArg nI e3) (OK.g g (OK.ite (fun z => OK.ret ⟨rfl, Or.inr ⟨m, by omega, rfl, h1, fun j hj ej => ?_⟩⟩) (fun z => OK.g g (OK.ret ⟨congrArg nI e3, Or.inr ⟨k, by omega, rfl, e3, fun j hj ej => ?_⟩⟩))))
          · rw [nI_le_iff (by omega) (by omega)] at z
            by_cases e2 : j = k
            · rw [e2]; exact z
            · exact h2 j (by omega) ej
          · rw [nI_le_iff (by omega) (by omega)] at z
            by_cases e2 : j = k
            · rw [e2]; exact Nat.le_refl _
            · have h3 := h2 j (by omega) ej
              omega
        · refine OK.f (fun z => e3 ((nI_inj (show aA f L k < 2147483648 by omega) (by omega)).mp z)) (OK.ret ⟨rfl, Or.inr ⟨m, by omega, rfl, h1, fun j hj ej => ?_⟩⟩)
          by_cases e2 : j = k
          · rw [e2] at ej; exact absurd ej e3
          · exact h2 j (by omega) ej
  · rintro ⟨a, c, d⟩ ⟨rfl, hp, rfl⟩
    exact OK.t (yle (by omega)) (OK.inr ⟨rfl, hp⟩)
  · rintro ⟨a, c⟩ ⟨rfl, hp⟩
    cases b with
    | false => exact OK.f (by decide) (OK.ret rfl)
    | true => exact OK.t rfl (OK.ret hp)
