/-! ===== rid, meets: the calls ===== -/
theorem plan_ok {W H : Nat} (hW : W ≤ 9) (hH : H ≤ 9) {f pl ve pa le cs mt LE : Nat → Int32} (hok : okL f (coreL f W H)) (hc : celC f (coreL f W H) pl ve) {pr : Nat} (hpr : pr ≤ 9) (a b : Int32) {q6 nl nx : Nat} (hnl : nl ≤ 4096) :
    OK (fX6_plan (nI W) (nI H) (nI (coreL f W H).length) a b q6 pl ve pa le cs mt LE nl (nI pr) nx) (fun z => z.1 = nI (Cs (pR f (coreL f W H) W H pr) (coreL f W H).length (2 ^ (coreL f W H).length - 1)) ∧ (∀ c, c < (coreL f W H).length → z.2.2.2.1 c = nI (ptq (pR f (coreL f W H) W H pr) (coreL f W H).length (coreL f W H).length c)) ∧ z.2.2.2.2.2.2.2.2.1 ≤ 4096) := by
  unfold fX6_plan
  have hin : ∀ i, i < (coreL f W H).length → kx (coreL f W H) i + 1 < W ∧ ky (coreL f W H) i + 1 < H := fun i hi => ⟨(coreL_at hi).1, (coreL_at hi).2.1⟩
  generalize coreL f W H = L at hok hc hin
  have hn := hok.1
  refine OK.bind (weigh_ok hW hH hok hc hin hpr a b) ?_
  rintro ⟨z1, z2, z3, z4, z5, z6⟩ ⟨rfl, rfl, h3, h4, h5, h6⟩
  simp only at h3 h4 h5 h6 ⊢
  have hQ : okQ L.length (chB f L) (pR f L W H pr) (pQ (pR f L W H pr) (chB f L) L.length) := okQ_pQ
  have ow : okW L.length (cnt (chB f L) L.length) (chB f L) (pQ (pR f L W H pr) (chB f L) L.length) z4 z5 z6 := by
    refine ⟨hn, rfl, fun x hx => ⟨h5 x hx, h4 _ (chf_ok hx).1⟩, h6, fun x => ot_le hW hpr, fun x y hxy hy => ?_⟩
    exact mtt_le hok (chf_ok (show x < cnt (chB f L) L.length by omega)).1 (chf_ok hy).1 hpr
  have hm := ow.m12
  have h24 := two_le hm
  have h2p : 0 < 2 ^ cnt (chB f L) L.length := Nat.two_pow_pos _
  refine OK.bind (fill_ok ow (q := q6) (LE := LE) (nx := nx) hnl) ?_
  rintro ⟨y1, y2, y3, y4⟩ ⟨k1, k2, k3⟩
  simp only at k1 k2 k3 ⊢
  rw [shl_eq (by omega), sub1_nI (by omega) (by omega)]
  have ls := least_eq (q := y1) (nl := y2) (t := 2 ^ cnt (chB f L) L.length - 1) (LE := y3) (D := Cs (pQ (pR f L W H pr) (chB f L) L.length) (cnt (chB f L) L.length)) k1 (by omega) (Cs_0 _ _) (by
    by_cases e : 2 ^ cnt (chB f L) L.length - 1 = 0
    · exact Or.inl e
    · exact Or.inr ⟨by omega, k3 _ (by omega) (by omega)⟩)
  refine OK.eq ls (OK.bind (choose_ok ow hQ (q := y1) k1 k2 k3 h3) (fun pc hpc => OK.ret ⟨?_, hpc, k1⟩))
  simp only
  rw [nI_add, ← Cs_PR hn hQ _ _ (PR_full hn (chB f L))]
set_option maxHeartbeats 1000000 in
theorem rid_sm {W H : Nat} (hW : W ≤ 9) (hH : H ≤ 9) {f told X Y Dx Dy Fo pl ve pa le cs mt LE A B M : Nat → Int32} (hok : okL f (coreL f W H)) (hc : celC f (coreL f W H) pl ve) (p a b t k0 : Int32) {q6 nl nx : Nat} (hnl : nl ≤ 4096) :
    SM (fX11_rid (nI W) (nI H) (nI (coreL f W H).length) a b q6 pl ve pa le cs mt LE nl p nx) (fX12_rid t (nI W) (nI H) k0 f told X Y Dx Dy Fo A B M p) (fun y z => z.1 = y.1 ∧ z.2.1 = 0 ∧ y.2.2.2.2.2.2.2.2.2.1 ≤ 4096) := by
  unfold fX11_rid fX12_rid
  refine SM.eqL (empty_eq hW) (SM.eqR (crys_eq hW) ?_)
  by_cases w0 : W = 0
  · exact SM.tL (decide_eq_true w0) (SM.fR (by rw [decide_eq_true_eq]; omega) (SM.ret ⟨rfl, rfl, hnl⟩))
  · refine SM.fL (by rw [decide_eq_true_eq]; exact w0) (SM.tR (decide_eq_true (by omega)) (SM.eqR (in_c2 p (m := 1) (n := 9) rfl rfl) ?_))
    by_cases hq : 1 ≤ p.toInt ∧ p.toInt ≤ 9
    · obtain ⟨pr, hpr, rfl⟩ := of_rng (x := p) (n := 10) (by omega) (by omega)
      refine SM.tR (decide_eq_true hq) (SM.fL (by rw [lt_i, c1]; omega) (SM.tL (by rw [le_i, c9]; omega) (SM.okL (plan_ok hW hH hok hc (pr := pr) (by omega) a b hnl) (fun y hy => SM.okR (laysRid_ok hW hH (A := A) (B := B) (M := M) (k0 := k0) (told := told) (X := X) (Y := Y) (Dx := Dx) (Dy := Dy) (Fo := Fo) hok (pr := pr) (by omega)) (fun z hz => SM.ret ⟨?_, rfl, hy.2.2⟩)))))
      rw [hz.1, hy.1]
    · refine SM.fR (by rw [decide_eq_true_eq]; exact hq) ?_
      by_cases q0 : p < 1
      · exact SM.tL q0 (SM.ret ⟨rfl, rfl, hnl⟩)
      · refine SM.fL q0 (SM.fL (fun z => hq ?_) (SM.ret ⟨rfl, rfl, hnl⟩))
        rw [lt_i, c1] at q0
        rw [le_i, c9] at z
        omega
set_option maxHeartbeats 1000000 in
theorem meets_sm {W H : Nat} (hW : W ≤ 9) (hH : H ≤ 9) {f told X Y Dx Dy Fo pl ve pa le cs mt LE A B M : Nat → Int32} (hok : okL f (coreL f W H)) (hc : celC f (coreL f W H) pl ve) (p q a b t k0 : Int32) {q6 nl nx : Nat} (hnl : nl ≤ 4096) :
    SM (fX11_meets (nI W) (nI H) (nI (coreL f W H).length) a b q6 pl ve pa le cs mt LE nl p q nx) (fX12_meets t (nI W) (nI H) k0 f told X Y Dx Dy Fo A B M p q) (fun y z => z.1 = y.1 ∧ z.2.1 = 0 ∧ y.2.2.2.2.2.2.2.2.2.1 ≤ 4096) := by
  unfold fX11_meets fX12_meets
  refine SM.eqL (empty_eq hW) (SM.eqR (crys_eq hW) ?_)
  by_cases w0 : W = 0
  · exact SM.tL (decide_eq_true w0) (SM.fR (by rw [decide_eq_true_eq]; omega) (SM.ret ⟨rfl, rfl, hnl⟩))
  · have hn := hok.1
    refine SM.fL (by rw [decide_eq_true_eq]; exact w0) (SM.tR (decide_eq_true (by omega)) (SM.eqR (in_c2 p (m := 1) (n := 9) rfl rfl) ?_))
    by_cases hq : 1 ≤ p.toInt ∧ p.toInt ≤ 9
    · obtain ⟨pr, hpr, rfl⟩ := of_rng (x := p) (n := 10) (by omega) (by omega)
      refine SM.tR (decide_eq_true hq) (SM.fL (by rw [lt_i, c1]; omega) (SM.fL (by rw [lt_i, c9]; omega) (SM.okR (laysRid_ok hW hH (A := A) (B := B) (M := M) (k0 := k0) (told := told) (X := X) (Y := Y) (Dx := Dx) (Dy := Dy) (Fo := Fo) hok (pr := pr) (by omega)) ?_)))
      intro z hz
      have tn9 := nI_ti (coreL f W H).length (by omega)
      refine SM.eqR (in_c q (n := ((coreL f W H).length : Int) - 1) (by rw [hz.2.1, i_l]; rw [ti_sub] <;> (rw [tn9, c1]; try omega))) ?_
      by_cases hc9 : 0 ≤ q.toInt ∧ q.toInt ≤ ((coreL f W H).length : Int) - 1
      · obtain ⟨i, hi, rfl⟩ := of_rng (x := q) (n := (coreL f W H).length) hc9.1 (by omega)
        refine SM.tR (decide_eq_true hc9) (SM.fL (nI_pos (by omega)) (SM.tL (by rw [lt_i, tn9]; omega) (SM.okL (plan_ok hW hH hok hc (pr := pr) (by omega) a b hnl) ?_)))
        intro y hy
        have po : fX6_partnerOf y.2.2.2.1 (nI i) = some (y.2.2.2.1 i) := by
          unfold fX6_partnerOf
          rw [if_neg (nI_pos (by omega)), if_neg (by rw [show (12 : Int32) = nI 12 from rfl]; exact nle (by omega) (by omega)), g_t (ein_nI (by omega) (by omega)), tn_nI (by omega)]
        refine SM.eqL po (SM.gR (ein_nI (by omega) (by omega)) (SM.ret ⟨?_, rfl, hy.2.2⟩))
        simp only
        rw [tn_nI (by omega), hz.2.2 i hi, hy.2.1 i hi]
      · refine SM.fR (by rw [decide_eq_true_eq]; exact hc9) ?_
        by_cases q0 : q < 0
        · exact SM.tL q0 (SM.ret ⟨rfl, rfl, hnl⟩)
        · refine SM.fL q0 (SM.fL ?_ (SM.ret ⟨rfl, rfl, hnl⟩))
          rw [lt_i, c0] at q0
          rw [lt_i, tn9]; omega
    · refine SM.fR (by rw [decide_eq_true_eq]; exact hq) ?_
      by_cases q0 : p < 1
      · exact SM.tL q0 (SM.ret ⟨rfl, rfl, hnl⟩)
      · refine SM.fL q0 (SM.tL ?_ (SM.ret ⟨rfl, rfl, hnl⟩))
        rw [lt_i, c1] at q0
        rw [lt_i, c9]
        omega
