/-! ===== Riddance.fillLeast ===== -/
def f_fillB (ch st lo : Int32) (A70 : Nat → Int32) (q nl : Nat) (LE : Nat → Int32) (b0 : Int32) : Option Int32 :=
  e_loop (fun (v : Int32 × Int32) => (if ch ≤ v.2 then some (.inr v.1) else
    (fX6_canMeet A70 st lo v.2).bind (fun cm => if cm = true then
      (fX6_costTogether q A70 LE nl st lo v.2).bind (fun ct => (fJ9_min_7cf53 v.1 ct).bind (fun b => some (.inl (b, v.2 + 1))))
      else some (.inl (v.1, v.2 + 1))) : Option ((Int32 × Int32) ⊕ Int32))) e_fuel (b0, lo + 1)
def f_fillL (ch sets : Int32) (A68 A69 A70 : Nat → Int32) (q nl : Nat) (LE : Nat → Int32) : Option (Nat → Int32) :=
  e_loop (fun (v : Int32 × (Nat → Int32)) => (if sets ≤ v.1 then some (.inr v.2) else if Int32.ofNat nl ≤ v.1 then some (.inr v.2) else
    (fX6_lowestOf ch v.1).bind (fun lo => (fX6_costAlone q A68 A69 v.2 nl v.1 lo).bind (fun ca =>
    (f_fillB ch v.1 lo A70 q nl v.2 ca).bind (fun best => e_g (e_in v.1 nl) (some (.inl (v.1 + 1, upd v.2 (tn v.1) best)))))) : Option ((Int32 × (Nat → Int32)) ⊕ (Nat → Int32)))) e_fuel (1, LE)
def f_fill (ch : Int32) (A68 A69 A70 : Nat → Int32) (q6 nl : Nat) (LE : Nat → Int32) (nx : Nat) : Option (Nat × Nat × (Nat → Int32) × Nat) :=
  if (1 : Int32) <<< (ch &&& 31) ≤ Int32.ofNat nl then
    (f_fillL ch ((1 : Int32) <<< (ch &&& 31)) A68 A69 A70 q6 nl LE).bind (fun L => some (q6, nl, L, nx))
  else e_g (decide (0 ≤ (1 : Int32) <<< (ch &&& 31))) (e_g (decide (tn ((1 : Int32) <<< (ch &&& 31)) ≤ 4096)) (
    (f_fillL ch ((1 : Int32) <<< (ch &&& 31)) A68 A69 A70 nx (tn ((1 : Int32) <<< (ch &&& 31))) (fun _ => 0)).bind (fun L => some (nx, tn ((1 : Int32) <<< (ch &&& 31)), L, nx + 1))))
theorem e_set_set {h : Nat → eO} {a : Nat} {o o' : eO} : e_set (e_set h a o) a o' = e_set h a o' := by
  funext j
  by_cases e : j = a
  · subst e; simp [e_set]
  · simp [e_set, e]
theorem k_ai0 : Cond.arrayClass .int ∈ e_tb := e_sub (ws := [Cond.arrayClass .int]) (by decide +kernel) _ List.mem_cons_self
set_option maxRecDepth 100000 in
theorem t_fill {G : eG} (hG : e_GS G) {la : Launch} {h : Nat → eO} {nx : Nat} (hnx : 99 ≤ nx) {a66_0 a66_4 : Int32} {q6 nl : Nat} {A68 A69 A70 LE : Nat → Int32} {A57 : Nat → Option Nat} {SS : eSS} (h66 : h 66 = o66 a66_0 a66_4 q6) (h68 : h 68 = o68 A68) (h69 : h 69 = o69 A69) (h70 : h 70 = o70 A70) (hdy : e_dyn h nx A57 SS q6 nl LE) {R9 : Nat × Nat × (Nat → Int32) × Nat} (hf : f_fill a66_4 A68 A69 A70 q6 nl LE nx = some R9) :
    eSemB G la MX6_fillLeast [.ref 66] h nx 1 4096 (fun r9 h9 nx9 => r9 = none ∧ nx9 = R9.2.2.2 ∧ nx ≤ nx9 ∧ (∀ k, k < 99 → [66, 71].contains k = false → h9 k = h k) ∧ h9 66 = o66 a66_0 a66_4 R9.1 ∧ e_dyn h9 nx9 A57 SS R9.1 R9.2.1 R9.2.2.1) := by
  refine eSemB.of (k := 5) (L := [some (.ref 66), none, none, none, none, none]) (by decide +kernel) rfl rfl (fun X F hxl hq hcR hsR => ?_)
  subst hxl
  unfold f_fill at hf
  obtain ⟨y1, y2, y3, y4, y5⟩ := id hdy
  have q71 : q6 = 71 ∨ 99 ≤ q6 := y3.imp id (fun z => z.1)
  -- the loop, over the row q of nl places
  have lp : ∀ (q nl' nx' c' s' : Nat) (L0 L9 : Nat → Int32) (hC : Nat → eO), f_fillL a66_4 ((1 : Int32) <<< (a66_4 &&& 31)) A68 A69 A70 q nl' L0 = some L9 → R9 = (q, nl', L9, nx') → (q = 71 ∨ 99 ≤ q) → q < nx' → nx ≤ nx' → c' ≤ 1 → s' ≤ 4096 →
      (∀ k, k < 99 → k ≠ 66 → k ≠ 71 → hC k = h k) → hC 66 = o66 a66_0 a66_4 q → hC q = iA nl' L0 → (∀ hE : Nat → eO, (∀ k, k ≠ q → hE k = hC k) → hE q = iA nl' L9 → e_dyn hE nx' A57 SS q nl' L9) →
      eRun G X 23 [some (.ref 66), some (.int ((1 : Int32) <<< (a66_4 &&& 31))), none, none, none, none] [] hC [] nx' c' s' := by
    intro q nl' nx' c' s' L0 L9 hC hl hR9 hq7 hqn hnn hc' hs' hfr hC66 hCq hdyn
    have hnx2 : 99 ≤ nx' := by omega
    have g32 : 32 ≤ q := by omega
    have n66 : q ≠ 66 := by omega
    refine r_iconst F dX6_fillLeast_23 (v := 1) (by decide) ?_
    refine r_istore_n F dX6_fillLeast_24 (e_le rfl) (L' := [some (.ref 66), some (.int ((1 : Int32) <<< (a66_4 &&& 31))), some (.int 1), none, none, none]) rfl ?_
    have hL := e_loop_ok (P := fun (v : Int32 × (Nat → Int32)) => ∀ hB : Nat → eO, (∀ k, k ≠ q → hB k = hC k) → hB q = iA nl' v.2 → eRun G X 25 [some (.ref 66), some (.int ((1 : Int32) <<< (a66_4 &&& 31))), some (.int v.1), none, none, none] [] hB [] nx' c' s')
      (K := fun (y : Nat → Int32) => y = L9) ?_ e_fuel (1, L0) L9 hl rfl
    · exact hL hC (fun _ _ => rfl) hCq
    · intro v z hz ih hx hB hB1 hB2
      have b66 : hB 66 = o66 a66_0 a66_4 q := (hB1 66 (Ne.symm n66)).trans hC66
      have b68 : hB 68 = o68 A68 := ((hB1 68 (by omega)).trans (hfr 68 (by decide) (by decide) (by decide))).trans h68
      have b69 : hB 69 = o69 A69 := ((hB1 69 (by omega)).trans (hfr 69 (by decide) (by decide) (by decide))).trans h69
      have b70 : hB 70 = o70 A70 := ((hB1 70 (by omega)).trans (hfr 70 (by decide) (by decide) (by decide))).trans h70
      have out : ∀ L, v.2 = L9 → eRun G X 113 L [] hB [] nx' c' s' := by
        intro L e
        refine r_vretB F hq dX6_fillLeast_113 rfl hc' hs' ⟨rfl, by rw [hR9], hnn, ?_, ?_, ?_⟩
        · intro k k1 k4
          have k2 : k ≠ 66 := fun e => by rw [e] at k4; cases k4
          have k3 : k ≠ 71 := fun e => by rw [e] at k4; cases k4
          show hB k = h k
          rw [hB1 k (by omega)]
          exact hfr k k1 k2 k3
        · rw [hR9]; exact b66
        · rw [hR9]
          exact hdyn hB hB1 (by rw [hB2, e])
      refine r_iload_n F dX6_fillLeast_25 rfl ?_
      refine r_iload_n F dX6_fillLeast_26 rfl ?_
      refine r_icmp_ge F dX6_fillLeast_27 (tgt := 113) (by decide) (fun hc => ?_) (fun hc => ?_)
      · have hz := e_t hc hz
        obtain rfl := Option.some.inj hz
        exact out _ (hx v.2 rfl)
      have hz := e_f hc hz
      refine r_iload_n F dX6_fillLeast_30 rfl ?_
      refine r_aload_n F dX6_fillLeast_31 rfl ?_
      refine r_get F dX6_fillLeast_32 flX6_24 b66 rfl (e_le rfl) (e_lt hnx2 rfl) ?_
      refine r_alen F dX6_fillLeast_35 hB2 g32 hqn (v := Int32.ofNat nl') rfl ?_
      refine r_icmp_ge F dX6_fillLeast_36 (tgt := 113) (by decide) (fun hc => ?_) (fun hc => ?_)
      · have hz := e_t hc hz
        obtain rfl := Option.some.inj hz
        exact out _ (hx v.2 rfl)
      have hz := e_f hc hz
      obtain ⟨lo, hlo, hz⟩ := e_bd hz
      obtain ⟨ca, hca, hz⟩ := e_bd hz
      obtain ⟨best, hbest, hz⟩ := e_bd hz
      obtain ⟨hg, hz⟩ := e_gd hz
      obtain rfl := Option.some.inj hz
      refine r_aload_n F dX6_fillLeast_39 rfl ?_
      refine r_iload_n F dX6_fillLeast_40 rfl ?_
      refine r_callV F dX6_fillLeast_41 (b := 66) (dc := 0) (ds := 0) (As := [.int v.1]) (S0 := []) lkX6_107 mX6_lowestOf (tX6_lowestOf_66 hG (la := x_l X) (h := e_up hB []) hnx2 b66 hlo) rfl rfl rfl (e_le rfl) (e_le rfl) (e_le rfl) b66 (ci := 6) e_cl6.1 rfl (e_le rfl) (e_lt hnx2 rfl) (by rw [hcR]; omega) (by rw [hsR]; omega) (e_k ?_)
      refine r_wr0 ?_
      refine r_istore_n F dX6_fillLeast_44 (e_le rfl) (L' := [some (.ref 66), some (.int ((1 : Int32) <<< (a66_4 &&& 31))), some (.int v.1), some (.int lo), none, none]) rfl ?_
      refine r_aload_n F dX6_fillLeast_45 rfl ?_
      refine r_iload_n F dX6_fillLeast_46 rfl ?_
      refine r_iload_n F dX6_fillLeast_47 rfl ?_
      refine r_callV F dX6_fillLeast_48 (b := 66) (dc := 0) (ds := 0) (As := [.int v.1, .int lo]) (S0 := []) lkX6_110 mX6_costAlone (tX6_costAlone_66 hG (la := x_l X) (h := e_up hB []) hnx2 b66 b68 b69 hq7 hqn hB2 hca) rfl rfl rfl (e_le rfl) (e_le rfl) (e_le rfl) b66 (ci := 6) e_cl6.1 rfl (e_le rfl) (e_lt hnx2 rfl) (by rw [hcR]; omega) (by rw [hsR]; omega) (e_k ?_)
      refine r_wr0 ?_
      refine r_istore F dX6_fillLeast_51 (e_le rfl) (L' := [some (.ref 66), some (.int ((1 : Int32) <<< (a66_4 &&& 31))), some (.int v.1), some (.int lo), some (.int ca), none]) rfl ?_
      refine r_iload_n F dX6_fillLeast_53 rfl ?_
      refine r_iconst F dX6_fillLeast_54 (v := 1) (by decide) ?_
      refine r_iadd F dX6_fillLeast_55 ?_
      refine r_istore F dX6_fillLeast_56 (e_le rfl) (L' := [some (.ref 66), some (.int ((1 : Int32) <<< (a66_4 &&& 31))), some (.int v.1), some (.int lo), some (.int ca), some (.int (lo + 1))]) rfl ?_
      unfold f_fillB at hbest
      refine (e_loop_ok (P := fun (w : Int32 × Int32) => eRun G X 58 [some (.ref 66), some (.int ((1 : Int32) <<< (a66_4 &&& 31))), some (.int v.1), some (.int lo), some (.int w.1), some (.int w.2)] [] hB [] nx' c' s') (K := fun (b : Int32) => eRun G X 99 [some (.ref 66), some (.int ((1 : Int32) <<< (a66_4 &&& 31))), some (.int v.1), none, some (.int b), none] [] hB [] nx' c' s') ?_ e_fuel (ca, lo + 1) best hbest ?_ : _)
      · intro w z2 hz2 ih2 hx2
        refine r_iload F dX6_fillLeast_58 rfl ?_
        refine r_aload_n F dX6_fillLeast_60 rfl ?_
        refine r_get F dX6_fillLeast_61 flX6_34 b66 rfl (e_le rfl) (e_lt hnx2 rfl) ?_
        refine r_icmp_ge F dX6_fillLeast_64 (tgt := 99) (by decide) (fun hc => ?_) (fun hc => ?_)
        · have hz2 := e_t hc hz2
          obtain rfl := Option.some.inj hz2
          refine r_drop 3 (L' := [some (.ref 66), some (.int ((1 : Int32) <<< (a66_4 &&& 31))), some (.int v.1), none, some (.int w.1), some (.int w.2)]) rfl ?_
          refine r_drop 5 (L' := [some (.ref 66), some (.int ((1 : Int32) <<< (a66_4 &&& 31))), some (.int v.1), none, some (.int w.1), none]) rfl ?_
          exact hx2 w.1 rfl
        have hz2 := e_f hc hz2
        obtain ⟨cm, hcm, hz2⟩ := e_bd hz2
        refine r_aload_n F dX6_fillLeast_67 rfl ?_
        refine r_iload_n F dX6_fillLeast_68 rfl ?_
        refine r_iload_n F dX6_fillLeast_69 rfl ?_
        refine r_iload F dX6_fillLeast_70 rfl ?_
        refine r_callV F dX6_fillLeast_72 (b := 66) (dc := 0) (ds := 0) (As := [.int v.1, .int lo, .int w.2]) (S0 := []) lkX6_113 mX6_canMeet (tX6_canMeet_66 hG (la := x_l X) (h := e_up hB []) hnx2 b66 b70 hcm) rfl rfl rfl (e_le rfl) (e_le rfl) (e_le rfl) b66 (ci := 6) e_cl6.1 rfl (e_le rfl) (e_lt hnx2 rfl) (by rw [hcR]; omega) (by rw [hsR]; omega) (e_k ?_)
        refine r_wr0 ?_
        refine r_z_eq F dX6_fillLeast_75 (tgt := 93) (by decide) (fun hc => ?_) (fun hc => ?_)
        · have hz2 := e_t hc hz2
          obtain ⟨ct, hct, hz2⟩ := e_bd hz2
          obtain ⟨b, hb, hz2⟩ := e_bd hz2
          obtain rfl := Option.some.inj hz2
          refine r_iload F dX6_fillLeast_78 rfl ?_
          refine r_aload_n F dX6_fillLeast_80 rfl ?_
          refine r_iload_n F dX6_fillLeast_81 rfl ?_
          refine r_iload_n F dX6_fillLeast_82 rfl ?_
          refine r_iload F dX6_fillLeast_83 rfl ?_
          refine r_callV F dX6_fillLeast_85 (b := 66) (dc := 0) (ds := 0) (As := [.int v.1, .int lo, .int w.2]) (S0 := [.int w.1]) lkX6_117 mX6_costTogether (tX6_costTogether_66 hG (la := x_l X) (h := e_up hB []) hnx2 b66 b70 hq7 hqn hB2 hct) rfl rfl rfl (e_le rfl) (e_le rfl) (e_le rfl) b66 (ci := 6) e_cl6.1 rfl (e_le rfl) (e_lt hnx2 rfl) (by rw [hcR]; omega) (by rw [hsR]; omega) (e_k ?_)
          refine r_wr0 ?_
          refine r_callS F dX6_fillLeast_88 (dc := 0) (ds := 0) (As := [.int w.1, .int ct]) (S0 := []) lkX6_88 mJ9_min_7cf53 (tJ9_min_7cf53 hG (la := x_l X) (h := e_up hB []) hnx2 hb) rfl rfl rfl (e_le rfl) (e_le rfl) (e_le rfl) (by rw [hcR]; omega) (by rw [hsR]; omega) (e_k ?_)
          refine r_wr0 ?_
          refine r_istore F dX6_fillLeast_91 (e_le rfl) (L' := [some (.ref 66), some (.int ((1 : Int32) <<< (a66_4 &&& 31))), some (.int v.1), some (.int lo), some (.int b), some (.int w.2)]) rfl ?_
          refine r_inc F dX6_fillLeast_93 (k9 := 1) (by decide) rfl (L' := [some (.ref 66), some (.int ((1 : Int32) <<< (a66_4 &&& 31))), some (.int v.1), some (.int lo), some (.int b), some (.int (w.2 + 1))]) rfl ?_
          refine r_goto F dX6_fillLeast_96 (tgt := 58) (by decide) ?_
          exact ih2 (b, w.2 + 1) rfl
        · have hz2 := e_f hc hz2
          obtain rfl := Option.some.inj hz2
          refine r_inc F dX6_fillLeast_93 (k9 := 1) (by decide) rfl (L' := [some (.ref 66), some (.int ((1 : Int32) <<< (a66_4 &&& 31))), some (.int v.1), some (.int lo), some (.int w.1), some (.int (w.2 + 1))]) rfl ?_
          refine r_goto F dX6_fillLeast_96 (tgt := 58) (by decide) ?_
          exact ih2 (w.1, w.2 + 1) rfl
      · show eRun G X 99 [some (.ref 66), some (.int ((1 : Int32) <<< (a66_4 &&& 31))), some (.int v.1), none, some (.int best), none] [] hB [] nx' c' s'
        refine r_aload_n F dX6_fillLeast_99 rfl ?_
        refine r_get F dX6_fillLeast_100 flX6_24 b66 rfl (e_le rfl) (e_lt hnx2 rfl) ?_
        refine r_iload_n F dX6_fillLeast_103 rfl ?_
        refine r_iload F dX6_fillLeast_104 rfl ?_
        refine r_iast F dX6_fillLeast_106 hB2 g32 hqn (e_vp hg) rfl (r_base ?_)
        refine r_inc F dX6_fillLeast_107 (k9 := 1) (by decide) rfl (L' := [some (.ref 66), some (.int ((1 : Int32) <<< (a66_4 &&& 31))), some (.int (v.1 + 1)), none, some (.int best), none]) rfl ?_
        refine r_goto F dX6_fillLeast_110 (tgt := 25) (by decide) ?_
        refine r_drop 4 (L' := [some (.ref 66), some (.int ((1 : Int32) <<< (a66_4 &&& 31))), some (.int (v.1 + 1)), none, none, none]) rfl ?_
        exact ih (v.1 + 1, upd v.2 (tn v.1) best) rfl _ (fun k hk => (e_set_ne hk).trans (hB1 k hk)) e_set_eq
  refine r_iconst F dX6_fillLeast_0 (v := 1) (by decide) ?_
  refine r_aload_n F dX6_fillLeast_1 rfl ?_
  refine r_get F dX6_fillLeast_2 flX6_34 h66 rfl (e_le rfl) (e_lt hnx rfl) ?_
  refine r_ishl F dX6_fillLeast_5 ?_
  refine r_istore_n F dX6_fillLeast_6 (e_le rfl) (L' := [some (.ref 66), some (.int ((1 : Int32) <<< (a66_4 &&& 31))), none, none, none, none]) rfl ?_
  refine r_aload_n F dX6_fillLeast_7 rfl ?_
  refine r_get F dX6_fillLeast_8 flX6_24 h66 rfl (e_le rfl) (e_lt hnx rfl) ?_
  refine r_alen F dX6_fillLeast_11 y5 (by omega) y4 (v := Int32.ofNat nl) rfl ?_
  refine r_iload_n F dX6_fillLeast_12 rfl ?_
  refine r_icmp_ge F dX6_fillLeast_13 (tgt := 23) (by decide) (fun hc => ?_) (fun hc => ?_)
  · have hf := e_t hc hf
    obtain ⟨L9, hl, hf⟩ := e_bd hf
    refine lp q6 nl nx 0 0 LE L9 h hl (Option.some.inj hf).symm q71 y4 (Nat.le_refl _) (Nat.zero_le _) (Nat.zero_le _) (fun _ _ _ _ => rfl) h66 y5 ?_
    intro hE e1 e2
    refine ⟨fun j hj p hp => ?_, y2, y3, y4, e2⟩
    obtain ⟨w1, w2, w3, w4, w5⟩ := y1 j hj p hp
    have ap : q6 < p ∨ p + 2 < q6 := by
      rcases y3 with y3 | ⟨_, y6⟩
      · omega
      · exact y6 j hj p hp
    exact ⟨w1, w2, (e1 p (by omega)).trans w3, (e1 _ (by omega)).trans w4, (e1 _ (by omega)).trans w5⟩
  · have hf := e_f hc hf
    obtain ⟨hg0, hf⟩ := e_gd hf
    obtain ⟨hg1, hf⟩ := e_gd hf
    have hg0 := of_decide_eq_true hg0
    have hg1 := of_decide_eq_true hg1
    obtain ⟨L9, hl, hf⟩ := e_bd hf
    refine r_aload_n F dX6_fillLeast_16 rfl ?_
    refine r_iload_n F dX6_fillLeast_17 rfl ?_
    refine r_newa F dX6_fillLeast_18 (at9 := .int) (N := tn ((1 : Int32) <<< (a66_4 &&& 31))) (x := (tn ((1 : Int32) <<< (a66_4 &&& 31)), .inl (fun _ => 0))) (t0 := 0) k_ai0 rfl (fun _ _ => rfl) (Int32.not_lt.mpr hg0) rfl (by show _ * 4 ≤ _; omega) (fun cA => by rw [e_fa, vp_cell_i]; rfl) (by rw [hcR]; omega) (by rw [hsR]; omega) rfl (r_base ?_)
    have b66 : e_set h nx (iA (tn ((1 : Int32) <<< (a66_4 &&& 31))) (fun _ => 0)) 66 = o66 a66_0 a66_4 q6 := (e_set_ne (by omega)).trans h66
    have hnx1 : 99 ≤ nx + 1 := by omega
    refine r_put F dX6_fillLeast_20 flX6_24 rfl rfl rfl b66 (e_le rfl) (e_le rfl) (e_lt hnx1 rfl) (l' := [(66, o66 a66_0 a66_4 nx)]) rfl (r_base ?_)
    refine lp nx (tn ((1 : Int32) <<< (a66_4 &&& 31))) (nx + 1) _ _ (fun _ => 0) L9 _ hl (Option.some.inj hf).symm (Or.inr hnx) (by omega) (by omega) (by omega) (by omega) (fun k k1 k2 k3 => by rw [e_set_ne k2, e_set_ne (by omega)]) e_set_eq (by rw [e_set_ne (by omega), e_set_eq]; rfl) ?_
    intro hE e1 e2
    have e3 : ∀ k, k ≠ 66 → k < nx → hE k = h k := fun k k1 k2 => by rw [e1 k (by omega), e_set_ne k1, e_set_ne (by omega)]
    refine ⟨fun j hj p hp => ?_, y2, Or.inr ⟨hnx, fun j hj p hp => ?_⟩, by omega, e2⟩
    · obtain ⟨w1, w2, w3, w4, w5⟩ := y1 j hj p hp
      exact ⟨w1, by omega, (e3 p (by omega) (by omega)).trans w3, (e3 _ (by omega) (by omega)).trans w4, (e3 _ (by omega) (by omega)).trans w5⟩
    · have := (y1 j hj p hp).2.1
      omega
theorem e_frW {h hB : Nat → eO} {l : List (Nat × eO)} {WL WLc : List Nat} (fr : ∀ k, k < 99 → WLc.contains k = false → hB k = e_up h l k) (hs : WLc.all (fun x => WL.contains x) = true) (hl : l.all (fun p => WL.contains p.1) = true) : ∀ k, k < 99 → WL.contains k = false → hB k = h k := by
  intro k k1 k2
  rw [fr k k1]
  · refine e_up_hi l k (fun p hp e => ?_)
    have h1 := List.all_eq_true.mp hl p hp
    rw [e, k2] at h1
    cases h1
  · cases hc : WLc.contains k with
    | false => rfl
    | true =>
      have h1 := List.all_eq_true.mp hs k (List.contains_iff_mem.mp hc)
      rw [k2] at h1
      cases h1
theorem e_frF {h hB : Nat → eO} {l : List (Nat × eO)} {WL : List Nat} (fr : ∀ k, k < 99 → WL.contains k = false → hB k = h k) (hl : l.all (fun p => WL.contains p.1) = true) : ∀ k, k < 99 → WL.contains k = false → e_up hB l k = h k := by
  intro k k1 k2
  rw [e_up_hi l k (fun p hp e => ?_)]
  · exact fr k k1 k2
  · have h1 := List.all_eq_true.mp hl p hp
    rw [e, k2] at h1
    cases h1
