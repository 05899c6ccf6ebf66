/-! ===== the reference's next token; numbers ===== -/
theorem m1_ne {c : Int32} {k : Int} (h : (c.toInt = k)) (hk : k ≠ -1) : c ≠ -1 := fun e => hk (by rw [← h, e]; rfl)
set_option maxHeartbeats 1000000 in
theorem rnum_ok {n q b : Nat} {A : Nat → Int32} (hn : n ≤ 300) (neg : Bool) (hb : b = q + neg.toNat) (hbn : b ≤ n) (pt nb : Int32) : OK (fX12_readsNumber (nI n) (nI q) pt nb A neg) (fun z => ∃ e, isE (dgt A) n b e ∧ z.1 = nI e ∧ z.2.1 = 2 ∧ z.2.2 = if e - b ≤ 2 then (if neg = true then 0 - vI A b (e - b) else vI A b (e - b)) else 10000) := by
  unfold fX12_readsNumber
  have e0 : (if neg = true then some true else some false : Option Bool) = some neg := by cases neg <;> rfl
  refine OK.eq e0 ?_
  rw [eb_nat, nI_add, ← hb]
  refine OK.bind (Q := fun z => ∃ e, isE (dgt A) n b e ∧ z.1 = nI e ∧ (e - b ≤ 2 → z.2 = vI A b (e - b))) (OK.loopm (fun m v => ∃ k, v.1 = nI k ∧ b ≤ k ∧ k + m = n ∧ (∀ i, b ≤ i → i < k → dgt A i = true) ∧ (k - b ≤ 2 → v.2 = vI A b (k - b))) (n - b) (by omega) ⟨b, rfl, Nat.le_refl _, by omega, fun i x y => by omega, fun _ => by rw [Nat.sub_self]; rfl⟩ ?_) ?_
  · rintro m ⟨v1, v2⟩ hm ⟨k, rfl, k1, k2, k3, k4⟩
    simp only at k4 ⊢
    by_cases c : k < n ∧ dgt A k = true
    · have sk := see_in (A := A) hn c.1
      have dk := of_decide_eq_true c.2
      refine OK.eq sk (OK.eq (digit_eq _) (OK.t (decide_eq_true dk) (OK.eq sk ?_)))
      obtain ⟨z, ez⟩ : ∃ z, fJ9_min_7cf53 1000 ((((10 : Int32) * v2) + A k) - 48) = some z := by unfold fJ9_min_7cf53; split <;> exact ⟨_, rfl⟩
      refine OK.eq ez ⟨_, rfl, Or.inl ⟨_, m - 1, rfl, by omega, k + 1, nI_s1 k, by omega, by omega, fun i x y => ?_, fun hk2 => ?_⟩⟩
      · by_cases e : i = k
        · rw [e]; exact c.2
        · exact k3 i x (by omega)
      · simp only at hk2 ⊢
        have h1 := k4 (by omega)
        have e1 : vI A b (k + 1 - b) = ((10 : Int32) * v2 + A k) - 48 := by
          rw [show k + 1 - b = (k - b) + 1 by omega]
          simp only [vI]
          rw [← h1, show b + (k - b) = k by omega]
        have vb := vI_b (A := A) (b := b) (k := k + 1 - b) hk2 (fun i x y => by
          by_cases e : i = k
          · rw [e]; exact c.2
          · exact k3 i x (by omega))
        rw [e1] at vb ⊢
        unfold fJ9_min_7cf53 at ez
        have hle : (((10 : Int32) * v2 + A k) - 48).toInt ≤ 99 := by
          have := vb.2
          rcases (show k + 1 - b = 1 ∨ k + 1 - b = 2 by omega) with q | q
          · rw [q] at this; omega
          · rw [q] at this; omega
        rw [if_pos (by rw [lt_i]; show _ < (1000 : Int); omega)] at ez
        exact (Option.some.inj ez).symm
    · have c2 : k = n ∨ dgt A k = false := by
        by_cases e : k = n
        · exact Or.inl e
        · right
          cases q : dgt A k with
          | false => rfl
          | true => exact absurd ⟨by omega, q⟩ c
      have ee : isE (dgt A) n b k := ⟨k1, by omega, k3, c2⟩
      by_cases e : k = n
      · refine OK.eq (see_out (A := A) hn (by omega) (by omega)) (OK.eq (digit_eq _) (OK.f (by decide) ⟨_, rfl, Or.inr ⟨_, rfl, k, ee, rfl, k4⟩⟩))
      · have dk : dgt A k = false := by rcases c2 with q | q; exact absurd q e; exact q
        refine OK.eq (see_in (A := A) hn (by omega)) (OK.eq (digit_eq _) (OK.f (by rw [decide_eq_true_eq]; exact of_decide_eq_false dk) ⟨_, rfl, Or.inr ⟨_, rfl, k, ee, rfl, k4⟩⟩))
  · rintro ⟨y1, y2⟩ ⟨e, he, rfl, hv⟩
    simp only at hv ⊢
    have hb2 := he.1
    have he2 := he.2.1
    rw [sub_nI hb2 (by omega)]
    by_cases c : e - b ≤ 2
    · refine OK.t (by rw [z2, nI_le_iff (by omega) (by omega)]; exact c) ?_
      rw [hv c]
      refine OK.ite (fun h => OK.ret ⟨e, he, rfl, rfl, by rw [if_pos c, if_pos h]⟩) (fun h => OK.ret ⟨e, he, rfl, rfl, by rw [if_pos c, if_neg h]⟩)
    · refine OK.f (by rw [z2, nI_le_iff (by omega) (by omega)]; exact c) (OK.ret ⟨e, he, rfl, rfl, by rw [if_neg c]⟩)
set_option maxHeartbeats 1000000 in
theorem next_ok {n p : Nat} {A : Nat → Int32} (hn : n ≤ 300) (hA : ∀ k, k < n → A k ≠ -1) (hp : p ≤ n) (fr pt nb : Int32) : OK (fX12_next (nI n) (nI p) fr pt nb A) (fun z => tokR A n p z.1 z.2.1 z.2.2.1 z.2.2.2) := by
  unfold fX12_next
  refine OK.bind (scanC (P := blk A) hp hn ?_ ?_) ?_
  · intro k hk hb
    rw [see_in hn hk, Option.bind_some, if_pos (of_decide_eq_true hb)]
  · intro k hk hb
    by_cases e : k = n
    · rw [e, see_out hn (Nat.le_refl _) (by omega), Option.bind_some, if_neg (by decide)]
    · have hb : blk A k = false := by rcases hb with q | q; exact absurd q e; exact q
      rw [see_in hn (by omega), Option.bind_some, if_neg (of_decide_eq_false hb)]
  · rintro _ ⟨q, hq, rfl⟩
    by_cases e : q = n
    · subst e
      exact OK.eq (see_out hn (Nat.le_refl _) (by omega)) (OK.t rfl (OK.ret ⟨q, hq, rfl, Or.inl ⟨rfl, rfl⟩⟩))
    · have hqn : q < n := by have := hq.2.1; omega
      refine OK.eq (see_in hn hqn) (OK.f (hA q hqn) (OK.eq (small_eq _) ?_))
      by_cases hs : sml A q = true
      · refine OK.t hs (OK.bind (scanC (P := sml A) (by omega) hn ?_ ?_) ?_)
        · intro k hk hb
          rw [see_in hn hk, Option.bind_some, small_eq, Option.bind_some]
          exact if_pos hb
        · intro k hk hb
          by_cases e2 : k = n
          · rw [e2, see_out hn (Nat.le_refl _) (by omega), Option.bind_some, small_eq, Option.bind_some, if_neg (by decide)]
          · have hb : sml A k = false := by rcases hb with z | z; exact absurd z e2; exact z
            rw [see_in hn (by omega), Option.bind_some, small_eq, Option.bind_some, if_neg (by unfold sml at hb; rw [hb]; decide)]
        · rintro _ ⟨e2, he2, rfl⟩
          exact OK.ret ⟨q, hq, rfl, Or.inr (Or.inl ⟨hqn, hs, rfl, e2, he2, rfl⟩)⟩
      · have hs2 : sml A q = false := by simpa using hs
        refine OK.f hs (OK.eq (digit_eq _) ?_)
        have b45 : (if A q = 45 then some true else some false : Option Bool) = some (decide (A q = 45)) := by by_cases z : A q = 45 <;> simp [z]
        by_cases hd : dgt A q = true
        · have hd' := of_decide_eq_true hd
          have n45 : A q ≠ 45 := fun z => by rw [z] at hd'; exact absurd hd'.1 (by decide)
          rw [decide_eq_false n45] at b45
          refine OK.t hd (OK.eq b45 (OK.bind (rnum_ok (q := q) (b := q) hn false rfl (by omega) pt nb) ?_))
          rintro ⟨z1, z2, z3⟩ ⟨e2, he2, rfl, rfl, hv⟩
          simp only at hv ⊢
          refine OK.ret ⟨q, hq, rfl, Or.inr (Or.inr (Or.inl ⟨hqn, rfl, q, e2, ⟨Or.inl ⟨rfl, hd⟩, he2⟩, rfl, ?_⟩))⟩
          rw [hv]
          simp
        · refine OK.f hd ?_
          have sign : ¬ (∃ b e, tokN A n q b e) → OK (some (nI q + 1, nI q, (3 : Int32), nb)) (fun z : Int32 × Int32 × Int32 × Int32 => tokR A n p z.1 z.2.1 z.2.2.1 z.2.2.2) := fun h => OK.ret ⟨q, hq, rfl, Or.inr (Or.inr (Or.inr ⟨hqn, rfl, nI_s1 q, hs2, h⟩))⟩
          by_cases h45 : A q = 45
          · refine OK.t h45 ?_
            rw [nI_s1]
            by_cases hq1 : q + 1 < n
            · refine OK.eq (see_in hn hq1) (OK.eq (digit_eq _) ?_)
              by_cases hd1 : dgt A (q + 1) = true
              · rw [decide_eq_true h45] at b45
                refine OK.t hd1 (OK.eq b45 (OK.bind (rnum_ok (q := q) (b := q + 1) hn true rfl (by omega) pt nb) ?_))
                rintro ⟨z1, z2, z3⟩ ⟨e2, he2, rfl, rfl, hv⟩
                simp only at hv ⊢
                refine OK.ret ⟨q, hq, rfl, Or.inr (Or.inr (Or.inl ⟨hqn, rfl, q + 1, e2, ⟨Or.inr ⟨rfl, h45, hq1, hd1⟩, he2⟩, rfl, ?_⟩))⟩
                rw [hv]
                simp
              · refine OK.f hd1 ?_
                rw [← nI_s1]
                refine sign ?_
                rintro ⟨b, e2, h | h, _⟩
                · exact hd h.2
                · exact hd1 h.2.2.2
            · refine OK.eq (see_out hn (by omega) (by omega)) (OK.eq (digit_eq _) (OK.f (by decide) ?_))
              rw [← nI_s1]
              refine sign ?_
              rintro ⟨b, e2, h | h, _⟩
              · exact hd h.2
              · exact hq1 h.2.2.1
          · refine OK.f h45 (sign ?_)
            rintro ⟨b, e2, h | h, _⟩
            · exact hd h.2
            · exact h45 h.2.1
set_option maxHeartbeats 1000000 in
theorem cnum_ok {n p : Nat} {A : Nat → Int32} (hn : n ≤ 300) (hp : p ≤ n) (bg lo hi : Int32) : OK (fX5_readNumber (nI n) (nI p) bg (-1) A lo hi) (fun z => ∃ q b e, isE (blk A) n p q ∧ b = (if q < n ∧ A q = 45 then q + 1 else q) ∧ isE (dgt A) n b e ∧ z.2.1 = nI e ∧ z.2.2.1 = nI q ∧ z.1 = (if b = q then vI A b (min (e - b) 2) else 0 - vI A b (min (e - b) 2)) ∧ z.2.2.2 = if (1 ≤ e - b ∧ e - b ≤ 2) ∧ lo.toInt ≤ z.1.toInt ∧ z.1.toInt ≤ hi.toInt then -1 else nI q) := by
  unfold fX5_readNumber
  refine OK.t rfl (OK.bind (nextByte_ok hn hp) ?_)
  rintro ⟨z1, z2'⟩ ⟨q, hq, rfl, hz1⟩
  simp only at hz1 ⊢
  have hqn := hq.2.1
  have mi : ∃ mn9 : Bool, (if z1 = 45 then some true else some false : Option Bool) = some mn9 ∧ (mn9 = true ↔ (q < n ∧ A q = 45)) := by
    by_cases c : q < n
    · rw [if_pos c] at hz1
      by_cases d : A q = 45
      · exact ⟨true, by rw [hz1, if_pos d], by simp [c, d]⟩
      · exact ⟨false, by rw [hz1, if_neg d], by simp [d]⟩
    · rw [if_neg c] at hz1
      exact ⟨false, by rw [hz1, if_neg (by decide)], by simp [c]⟩
  obtain ⟨ng, eng, hng⟩ := mi
  obtain ⟨b, hb⟩ : ∃ b, b = if q < n ∧ A q = 45 then q + 1 else q := ⟨_, rfl⟩
  have hbn : b ≤ n := by rw [hb]; split <;> omega
  have hbq : (ng = true ↔ b ≠ q) := by
    rw [hng, hb]
    split
    · rename_i h; exact ⟨fun _ => by omega, fun _ => h⟩
    · rename_i h; exact ⟨fun z => absurd z h, fun z => absurd rfl z⟩
  have eb9 : (if ng = true then some (nI q + 1) else some (nI q) : Option Int32) = some (nI b) := by
    by_cases c : ng = true
    · rw [if_pos c, nI_s1, hb, if_pos (hng.mp c)]
    · rw [if_neg c, hb, if_neg (fun z => c (hng.mpr z))]
  refine OK.eq eng (OK.eq eb9 ?_)
  refine OK.bind (Q := fun z => ∃ e, isE (dgt A) n b e ∧ z.1 = vI A b (min (e - b) 2) ∧ z.2.1 = nI (e - b) ∧ z.2.2 = nI e) (OK.loopm (fun m v => ∃ k, v.2.2 = nI k ∧ b ≤ k ∧ k + m = n ∧ (∀ i, b ≤ i → i < k → dgt A i = true) ∧ v.1 = vI A b (min (k - b) 2) ∧ v.2.1 = nI (k - b)) (n - b) (by omega) ⟨b, rfl, Nat.le_refl _, by omega, fun i x y => by omega, by rw [Nat.sub_self]; rfl, by rw [Nat.sub_self]; rfl⟩ ?_) ?_
  · rintro m ⟨v1, v2, v3⟩ hm ⟨k, rfl, k1, k2, k3, rfl, rfl⟩
    simp only
    by_cases c : k < n ∧ dgt A k = true
    · have dk := of_decide_eq_true c.2
      refine OK.f (nle c.1 (by omega)) (OK.eq (byteAt_eq hn c.1) (OK.f (by rw [lt_i]; show ¬ _ < (48 : Int); omega) (OK.eq (byteAt_eq hn c.1) (OK.f (by rw [lt_i]; show ¬ (57 : Int) < _; omega) (OK.bind (Q := fun q => q = vI A b (min (k + 1 - b) 2)) ?_ (fun q hq9 => ⟨_, rfl, Or.inl ⟨_, m - 1, rfl, by omega, k + 1, nI_s1 k, by omega, by omega, fun i x y => ?_, hq9, ?_⟩⟩))))))
      · by_cases d2 : 2 ≤ k - b
        · refine OK.t (by rw [z2, nI_le_iff (by omega) (by omega)]; exact d2) (OK.ret ?_)
          rw [show min (k + 1 - b) 2 = min (k - b) 2 by omega]
        · refine OK.f (by rw [z2, nI_le_iff (by omega) (by omega)]; exact d2) (OK.eq (byteAt_eq hn c.1) (OK.ret ?_))
          rw [show min (k + 1 - b) 2 = min (k - b) 2 + 1 by omega]
          simp only [vI]
          rw [show b + min (k - b) 2 = k by omega]
      · by_cases e : i = k
        · rw [e]; exact c.2
        · exact k3 i x (by omega)
      · simp only; rw [nI_s1]; congr 1; omega
    · have c2 : k = n ∨ dgt A k = false := by
        by_cases e : k = n
        · exact Or.inl e
        · right
          cases q : dgt A k with
          | false => rfl
          | true => exact absurd ⟨by omega, q⟩ c
      have ee : isE (dgt A) n b k := ⟨k1, by omega, k3, c2⟩
      by_cases e : k = n
      · exact OK.t (by rw [e]; exact yle (by omega)) ⟨_, rfl, Or.inr ⟨_, rfl, k, ee, rfl, rfl, rfl⟩⟩
      · have dk : dgt A k = false := by rcases c2 with q | q; exact absurd q e; exact q
        have dk := of_decide_eq_false dk
        refine OK.f (nle (by omega) (by omega)) (OK.eq (byteAt_eq hn (by omega)) ?_)
        by_cases d : (A k).toInt < 48
        · exact OK.t (by rw [lt_i]; exact d) ⟨_, rfl, Or.inr ⟨_, rfl, k, ee, rfl, rfl, rfl⟩⟩
        · exact OK.f (by rw [lt_i]; exact d) (OK.eq (byteAt_eq hn (by omega)) (OK.t (by rw [lt_i]; show (57 : Int) < _; omega) ⟨_, rfl, Or.inr ⟨_, rfl, k, ee, rfl, rfl, rfl⟩⟩))
  · rintro ⟨x1, x2, x3⟩ ⟨e, he, rfl, rfl, rfl⟩
    simp only
    have he1 := he.1
    have he2 := he.2.1
    have ev : (if ng = true then some ((0 : Int32) - vI A b (min (e - b) 2)) else some (vI A b (min (e - b) 2)) : Option Int32) = some (if b = q then vI A b (min (e - b) 2) else 0 - vI A b (min (e - b) 2)) := by
      by_cases c : ng = true
      · rw [if_pos c, if_neg (hbq.mp c)]
      · rw [if_neg c, if_pos (Classical.not_not.mp (fun z => c (hbq.mpr z)))]
    refine OK.eq ev ?_
    generalize hv : (if b = q then vI A b (min (e - b) 2) else 0 - vI A b (min (e - b) 2)) = v at ev
    have t1 := nI_ti (e - b) (by omega)
    by_cases k1 : 1 ≤ e - b
    · refine OK.f (by rw [lt_i, t1, c1]; omega) ?_
      by_cases k2 : e - b ≤ 2
      · refine OK.f (by rw [lt_i, t1, c2]; omega) ?_
        by_cases k3 : v.toInt < lo.toInt
        · exact OK.t (by rw [lt_i]; exact k3) (OK.ret ⟨q, b, e, hq, hb, he, rfl, rfl, hv.symm, by simp only; rw [if_neg (by omega)]⟩)
        · refine OK.f (by rw [lt_i]; exact k3) ?_
          by_cases k4 : v.toInt ≤ hi.toInt
          · exact OK.t (by rw [le_i]; exact k4) (OK.ret ⟨q, b, e, hq, hb, he, rfl, rfl, hv.symm, by simp only; rw [if_pos (by omega)]⟩)
          · exact OK.f (by rw [le_i]; exact k4) (OK.ret ⟨q, b, e, hq, hb, he, rfl, rfl, hv.symm, by simp only; rw [if_neg (by omega)]⟩)
      · exact OK.t (by rw [lt_i, t1, c2]; omega) (OK.ret ⟨q, b, e, hq, hb, he, rfl, rfl, hv.symm, by simp only; rw [if_neg (by omega)]⟩)
    · exact OK.t (by rw [lt_i, t1, c1]; omega) (OK.ret ⟨q, b, e, hq, hb, he, rfl, rfl, hv.symm, by simp only; rw [if_neg (by omega)]⟩)
