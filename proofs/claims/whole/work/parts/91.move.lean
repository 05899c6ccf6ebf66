/-! ===== move ===== -/
theorem indexAt_ok {f pl ve : Nat → Int32} {L : List (Nat × Nat)} (hn : L.length ≤ 12) (hc : celC f L pl ve) (x y : Int32) : OK (fX0_indexAt (nI L.length) pl x y) (fun q => (q = -1 ∧ ∀ i, i < L.length → ¬ (nI (kx L i) = x ∧ nI (ky L i) = y)) ∨ ∃ i, i < L.length ∧ q = nI i ∧ nI (kx L i) = x ∧ nI (ky L i) = y) := by
  unfold fX0_indexAt
  refine OK.bind (Q := fun q => (q = .inl () ∧ ∀ i, i < L.length → ¬ (nI (kx L i) = x ∧ nI (ky L i) = y)) ∨ ∃ i, i < L.length ∧ q = .inr (nI i) ∧ nI (kx L i) = x ∧ nI (ky L i) = y) (OK.loopx (fun k v => v = nI k ∧ ∀ i, i < k → ¬ (nI (kx L i) = x ∧ nI (ky L i) = y)) L.length (by omega) ⟨rfl, fun i hi => by omega⟩ ?_ ?_) ?_
  · rintro k v hk ⟨rfl, hv⟩
    have p0 := cplace_eq hc (w := 0) hn hk (by omega)
    have p1 := cplace_eq hc (w := 1) hn hk (by omega)
    rw [← z0] at p0
    rw [← z1] at p1
    have nx : ¬ (nI (kx L k) = x ∧ nI (ky L k) = y) → ∀ i, i < k + 1 → ¬ (nI (kx L i) = x ∧ nI (ky L i) = y) := by
      intro h i hi
      by_cases e : i = k
      · rw [e]; exact h
      · exact hv i (by omega)
    refine OK.f (nle hk (by omega)) (OK.eq p0 (OK.ite (fun e0 => OK.eq p1 (OK.ite (fun e1 => ?_) (fun e1 => ?_))) (fun e0 => ?_)))
    · exact ⟨_, rfl, Or.inr ⟨_, rfl, Or.inr ⟨k, hk, rfl, e0, e1⟩⟩⟩
    · exact ⟨_, rfl, Or.inl ⟨_, rfl, nI_s1 k, nx (fun q => e1 q.2)⟩⟩
    · exact ⟨_, rfl, Or.inl ⟨_, rfl, nI_s1 k, nx (fun q => e0 q.1)⟩⟩
  · rintro v ⟨rfl, hv⟩
    exact OK.t (yle (by omega)) (OK.inr (Or.inl ⟨rfl, hv⟩))
  · rintro q (⟨rfl, hq⟩ | ⟨i, hi, rfl, hq⟩)
    · exact OK.ret (Or.inl ⟨rfl, hq⟩)
    · exact OK.ret (Or.inr ⟨i, hi, rfl, hq⟩)
/-- whether a part that goes splits a core, and makes a new one -/
def spl (f : Nat → Int32) (W H x y d : Nat) (dx dy : Int32) : Prop := ¬ (vec f x y 0 = dx ∧ vec f x y 1 = dy) ∧ ∃ a b, a + 1 < W ∧ b + 1 < H ∧ at2 a b x y d ∧ isC f a b = false
theorem face_to {W H x y d : Nat} (hW : W ≤ 9) (hH : H ≤ 9) (hx : x + 1 < W) (hy : y + 1 < H) (hd : d < 4) : (∃ a b, a + 1 < W ∧ b + 1 < H ∧ at2 a b x y d ∧ nI x + sA3 d = nI a ∧ nI y + sA4 d = nI b) ∨ ((¬ ∃ a b, a + 1 < W ∧ b + 1 < H ∧ at2 a b x y d) ∧ ¬ (0 ≤ (nI x + sA3 d).toInt ∧ (nI x + sA3 d).toInt < (W : Int) - 1 ∧ 0 ≤ (nI y + sA4 d).toInt ∧ (nI y + sA4 d).toInt < (H : Int) - 1)) := by
  have ta := sX_ti (a := x) (by omega) hd
  have tb := sY_ti (a := y) (by omega) hd
  by_cases q : 0 ≤ (nI x + sA3 d).toInt ∧ (nI x + sA3 d).toInt < (W : Int) - 1 ∧ 0 ≤ (nI y + sA4 d).toInt ∧ (nI y + sA4 d).toInt < (H : Int) - 1
  · left
    obtain ⟨a, ha, ea⟩ := of_rng (x := nI x + sA3 d) (n := 10) q.1 (by omega)
    obtain ⟨b, hb, eb⟩ := of_rng (x := nI y + sA4 d) (n := 10) q.2.2.1 (by omega)
    rw [ea, nI_ti a (by omega)] at ta
    rw [eb, nI_ti b (by omega)] at tb
    rw [ea, eb, nI_ti a (by omega), nI_ti b (by omega)] at q
    exact ⟨a, b, by omega, by omega, ⟨ta, tb⟩, ea, eb⟩
  · right
    refine ⟨?_, q⟩
    rintro ⟨a, b, h1, h2, h3, h4⟩
    apply q
    rw [ta, tb]
    omega
theorem split_eq {W H : Nat} {g f : Nat → Int32} (h : agr W H g f) (hW : W ≤ 9) (hH : H ≤ 9) {x y d : Nat} (hx : x + 1 < W) (hy : y + 1 < H) (hd : d < 4) (dx dy : Int32) : OK (fX11_wouldSplit (nI W) (nI H) g (nI x) (nI y) dx dy (nI d)) (fun b => b = true ↔ spl f W H x y d dx dy) := by
  unfold fX11_wouldSplit
  have gd : e_in (nI d) 4 = true := ein_nI hd (by omega)
  have v0 := vectorOf_eq hW hH g (x := x) (y := y) (p := 0) (by omega) (by omega) (by omega)
  have v1 := vectorOf_eq hW hH g (x := x) (y := y) (p := 1) (by omega) (by omega) (by omega)
  rw [if_pos ⟨hx, hy⟩, vec_agr h hx hy (by omega)] at v0 v1
  rw [← z0] at v0
  rw [← z1] at v1
  refine OK.f (nI_pos (by omega)) (OK.t (by rw [show (3 : Int32) = nI 3 from rfl, nI_le_iff (by omega) (by omega)]; omega) (OK.g gd (OK.g gd (OK.eq v0 ?_))))
  rw [tn_nI (show d < 2147483648 by omega)]
  refine OK.bind (Q := fun b => b = true ↔ ¬ (vec f x y 0 = dx ∧ vec f x y 1 = dy)) (OK.ite (fun e0 => OK.eq v1 (OK.ite (fun e1 => OK.ret (by simp [e0, e1])) (fun e1 => OK.ret (by simp [e1])))) (fun e0 => OK.ret (by simp [e0]))) ?_
  intro b hb
  refine OK.ite (fun e => ?_) (fun e => OK.ret ⟨fun z => absurd z (by decide), fun z => absurd (hb.mpr z.1) e⟩)
  refine OK.eq (hasFace_eq hW hH _ _) ?_
  rcases face_to hW hH hx hy hd with ⟨a, b', h1, h2, h3, ea, eb⟩ | ⟨h1, h2⟩
  · have hp := isPlain_eq hW hH g (x := a) (y := b') h1 h2
    rw [vec_agr h h1 h2 (by omega), vec_agr h h1 h2 (by omega)] at hp
    rw [ea, eb, nI_ti a (by omega), nI_ti b' (by omega)]
    refine OK.t (decide_eq_true (by omega)) (OK.eq hp ?_)
    refine OK.ite (fun e2 => OK.ret ⟨fun _ => ⟨hb.mp e, a, b', h1, h2, h3, ?_⟩, fun _ => rfl⟩) (fun e2 => OK.ret ⟨fun z => absurd z (by decide), ?_⟩)
    · have := of_decide_eq_true e2
      unfold isC
      exact decide_eq_false (fun n => n this)
    · rintro ⟨_, a2, b2, k1, k2, k3, k4⟩
      have : a2 = a ∧ b2 = b' := by unfold at2 at h3 k3; omega
      rw [this.1, this.2] at k4
      unfold isC at k4
      have k4 := of_decide_eq_false k4
      exact absurd (decide_eq_true (Classical.not_not.mp k4)) e2
  · refine OK.f (by rw [decide_eq_true_eq]; exact h2) (OK.ret ⟨fun z => absurd z (by decide), ?_⟩)
    rintro ⟨_, a2, b2, k1, k2, k3, _⟩
    exact absurd ⟨a2, b2, k1, k2, k3⟩ h1
theorem le12 {v : Int32} {K : Nat} (h : v.toInt ≤ K) (hK : K ≤ 12) : v ≤ 12 := by
  rw [le_i, show (12 : Int32).toInt = 12 from rfl]
  omega
theorem U_ti {U : Int32} {z : Int} (h : U.toInt = z) (h0 : 0 ≤ z) (h1 : z ≤ 12) : (U + 0).toInt = z ∧ (U + 1).toInt = z + 1 ∧ (U + (-1)).toInt = z - 1 := by
  refine ⟨by rw [Int32.add_zero, h], ?_, ?_⟩
  · rw [ti_add] <;> rw [h, c1] <;> omega
  · rw [ti_add] <;> rw [h, show (-1 : Int32).toInt = -1 from rfl] <;> omega
theorem arith1 {K : Nat} (hK : K ≤ 12) : (K : Int) - ((false.toNat : Nat) : Int) + 1 ≤ 12 ↔ ¬ 12 ≤ K := by
  have : ((false.toNat : Nat) : Int) = 0 := rfl
  rw [this]
  omega
theorem U_le {U : Int32} {z : Int} (h : U.toInt = z) : U ≤ 12 ↔ z ≤ 12 := by
  rw [le_i, show (12 : Int32).toInt = 12 from rfl, h]
set_option maxHeartbeats 1000000 in
theorem behind_ok {W H : Nat} {f : Nat → Int32} (hW : W ≤ 9) (hH : H ≤ 9) {x y d K : Nat} (hx : x + 1 < W) (hy : y + 1 < H) (hd : d < 4) {dx dy : Int32} (hK : K ≤ 12) (hK1 : 1 ≤ K) (hne : ¬ (dx = 0 ∧ dy = 0)) : OK (fX12_coresBehind (nI W) (nI H) (nI K) f (nI x) (nI y) (nI d) dx dy) (fun v => v ≤ 12 ↔ ¬ (12 ≤ K ∧ spl f W H x y d dx dy)) := by
  unfold fX12_coresBehind
  have v0 := vector_eq f (x := x) (y := y) (p := 0) (by omega) (by omega) (by omega)
  have v1 := vector_eq f (x := x) (y := y) (p := 1) (by omega) (by omega) (by omega)
  rw [← z0] at v0
  rw [← z1] at v1
  have tK := nI_ti K (by omega)
  refine OK.eq (toX_eq _ hd) (OK.eq (toY_eq _ hd) (OK.eq v0 (OK.bind (Q := fun b => b = true ↔ (vec f x y 0 = dx ∧ vec f x y 1 = dy)) (OK.ite (fun e0 => OK.eq v1 (OK.ite (fun e1 => OK.ret (by simp [e0, e1])) (fun e1 => OK.ret (by simp [e1])))) (fun e0 => OK.ret (by simp [e0]))) ?_)))
  intro A hA
  have tA : (nI K - e_b A).toInt = (K : Int) - A.toNat := by
    rw [eb_nat, ti_sub] <;> rw [tK, nI_ti A.toNat (by cases A <;> decide)] <;> cases A <;> simp <;> omega
  have eA : A.toNat ≤ 1 := by cases A <;> decide
  generalize nI K - e_b A = U at tA
  obtain ⟨u1, u2, u3⟩ := U_ti tA (by omega) (by omega)
  refine OK.eq (isFace_eq hW hH _ _) ?_
  rcases face_to hW hH hx hy hd with ⟨a, b, h1, h2, h3, ea, eb⟩ | ⟨h1, h2⟩
  · rw [ea, eb, nI_ti a (by omega), nI_ti b (by omega)]
    have w0 := vector_eq f (x := a) (y := b) (p := 0) (by omega) (by omega) (by omega)
    have w1 := vector_eq f (x := a) (y := b) (p := 1) (by omega) (by omega) (by omega)
    rw [← z0] at w0
    rw [← z1] at w1
    refine OK.t (decide_eq_true (by omega)) (OK.eq (isCore_eq f (by omega) (by omega)) (OK.eq w0 (OK.bind (Q := fun s => s = true ↔ ¬ (vec f a b 0 + dx = 0 ∧ vec f a b 1 + dy = 0)) (OK.ite (fun e0 => OK.eq w1 (OK.ite (fun e1 => OK.ret (by simp [e0, e1])) (fun e1 => OK.ret (by simp [e1])))) (fun e0 => OK.ret (by simp [e0]))) ?_)))
    intro s hs
    have uq : ∀ a2 b2, a2 + 1 < W → b2 + 1 < H → at2 a2 b2 x y d → a2 = a ∧ b2 = b := fun a2 b2 _ _ k3 => by unfold at2 at h3 k3; omega
    have spl_iff : spl f W H x y d dx dy ↔ (¬ (vec f x y 0 = dx ∧ vec f x y 1 = dy) ∧ isC f a b = false) := by
      constructor
      · rintro ⟨q1, a2, b2, k1, k2, k3, k4⟩
        have := uq a2 b2 k1 k2 k3
        rw [this.1, this.2] at k4
        exact ⟨q1, k4⟩
      · rintro ⟨q1, q2⟩
        exact ⟨q1, a, b, h1, h2, h3, q2⟩
    have dW : decide (¬ (vec f a b 0 = 0 ∧ vec f a b 1 = 0)) = isC f a b := rfl
    rw [dW]
    have keep : ∀ (v : Int32), v.toInt ≤ K → (isC f a b = true ∨ (vec f x y 0 = dx ∧ vec f x y 1 = dy)) → OK (some v) (fun v => v ≤ 12 ↔ ¬ (12 ≤ K ∧ spl f W H x y d dx dy)) := by
      intro v hv hc
      refine OK.ret ⟨fun _ z => ?_, fun _ => le12 hv hK⟩
      have := spl_iff.mp z.2
      rcases hc with hc | hc
      · rw [hc] at this; exact absurd this.2 (by decide)
      · exact this.1 hc
    cases hi : isC f a b with
    | true =>
      refine OK.ite (fun e => OK.t rfl (OK.t e (keep _ (by rw [u1]; omega) (Or.inl hi)))) (fun e => OK.f e (OK.t rfl (keep _ (by rw [u3]; omega) (Or.inl hi))))
    | false =>
      have hp : vec f a b 0 = 0 ∧ vec f a b 1 = 0 := by
        unfold isC at hi
        exact Classical.not_not.mp (of_decide_eq_false hi)
      have hst : s = true := hs.mpr (by rw [hp.1, hp.2, Int32.zero_add, Int32.zero_add]; exact hne)
      refine OK.t hst (OK.f (by decide) ?_)
      cases A with
      | true => exact keep _ (by rw [u2]; simp) (Or.inr (hA.mp rfl))
      | false =>
        refine OK.ret ?_
        rw [U_le u2]
        have hnA : ¬ (vec f x y 0 = dx ∧ vec f x y 1 = dy) := fun q => absurd (hA.mpr q) (by decide)
        rw [arith1 hK]
        exact ⟨fun z q => z q.1, fun z q => z ⟨q, spl_iff.mpr ⟨hnA, hi⟩⟩⟩
  · refine OK.f (by rw [decide_eq_true_eq]; exact h2) (OK.ret ⟨fun _ z => ?_, fun _ => ?_⟩)
    · obtain ⟨_, a2, b2, k1, k2, k3, _⟩ := z.2
      exact h1 ⟨a2, b2, k1, k2, k3⟩
    · exact le12 (K := K) (by rw [tA]; omega) hK
/-- how many cores there are behind a move -/
theorem len_part {f : Nat → Int32} {W H x y d : Nat} {dx dy : Int32} (hW : W ≤ 9) (hx : x + 1 < W) (hy : y + 1 < H) (hd : d < 4) (hc : isC f x y = true) (h12 : (coreL f W H).length ≤ 12) (hs : ¬ (12 ≤ (coreL f W H).length ∧ spl f W H x y d dx dy)) : (coreL (mvF f x y d dx dy) W H).length ≤ 12 := by
  by_cases hall : vec f x y 0 = dx ∧ vec f x y 1 = dy
  · exact Nat.le_trans (len_mv hW hx hy hd hc hall.1.symm hall.2.symm) h12
  · have tb : ∀ q : Bool, q.toNat ≤ 1 := fun q => by cases q <;> decide
    have same : ∀ a b, a + 1 < W → b + 1 < H → ¬ at2 a b x y d → (isC (mvF f x y d dx dy) a b).toNat ≤ (isC f a b).toNat := by
      intro a b ha hb q2
      by_cases q1 : at1 a b x y
      · rw [q1.1, q1.2, hc]; exact tb _
      · have e0 := vec_mv f (y := y) (b := b) dx dy (show x < 8 by omega) hd (show a < 8 by omega) (show 0 ≤ 1 by omega)
        have e1 := vec_mv f (y := y) (b := b) dx dy (show x < 8 by omega) hd (show a < 8 by omega) (show 1 ≤ 1 by omega)
        rw [if_neg q1, if_neg q2, sub_z] at e0 e1
        have : isC (mvF f x y d dx dy) a b = isC f a b := by unfold isC; rw [e0, e1]
        rw [this]; exact Nat.le_refl _
    by_cases h11 : 12 ≤ (coreL f W H).length
    · have hns : ¬ spl f W H x y d dx dy := fun q => hs ⟨h11, q⟩
      refine Nat.le_trans ?_ h12
      rw [coreL_gs, coreL_gs]
      refine gs_le (fun a b ha hb => ?_)
      by_cases q2 : at2 a b x y d
      · cases hi : isC f a b with
        | true => exact tb _
        | false => exact absurd ⟨hall, a, b, ha, hb, q2, hi⟩ hns
      · exact same a b ha hb q2
    · have key : ∀ (x2 y2 : Nat), (∀ a b, a + 1 < W → b + 1 < H → (at2 a b x y d ↔ a = x2 ∧ b = y2)) → (coreL (mvF f x y d dx dy) W H).length ≤ 12 := by
        intro x2 y2 hq
        have : gs (fun a b => (isC (mvF f x y d dx dy) a b).toNat) W H ≤ gs (fun a b => (isC f a b).toNat) W H + 1 := by
          refine gs_more (x2 := x2) (y2 := y2) (fun a b ha hb => ?_)
          by_cases q2 : at2 a b x y d
          · rw [if_pos ((hq a b ha hb).mp q2)]
            have := tb (isC (mvF f x y d dx dy) a b)
            omega
          · rw [if_neg (fun z => q2 ((hq a b ha hb).mpr z))]
            exact same a b ha hb q2
        rw [coreL_gs] at h11 ⊢
        omega
      by_cases hin : 0 ≤ (x : Int) + dX d ∧ 0 ≤ (y : Int) + dY d
      · exact key ((x : Int) + dX d).toNat ((y : Int) + dY d).toNat (fun a b _ _ => by unfold at2; omega)
      · exact key 100 100 (fun a b ha hb => by unfold at2; omega)
