/-! ===== undo, image, back ===== -/
theorem nowR.ok {B W H : Nat} {g rows pl ve : Nat → Int32} {T sz : Int32} {f : Nat → Int32} (h : nowR B W H g rows pl ve T sz f) (hW : W ≤ 9) (hH : H ≤ 9) : okL f (coreL f W H) := h.1.2.1.okL hW hH
/-- the cores are found anew -/
theorem found {B W H : Nat} (hW : W ≤ 9) (hH : H ≤ 9) {g rows pl ve : Nat → Int32} {T sz : Int32} {f : Nat → Int32} (h : sv B W H g rows T f) : OK (fX0_find (nI W) (nI H) sz g pl ve) (fun q => nowR B W H g rows q.2.1 q.2.2 T q.1 f) := by
  refine OK.mono (find_ok hW hH g pl ve sz (h.2.1.agr h.1).1) (fun q hq => ⟨h, ?_, ?_⟩)
  · rw [← coreL_agr h.1]; exact hq.1
  · exact celC_agr h.1 hq.2
theorem undo_sm {B W H : Nat} (hW : W ≤ 9) (hH : H ≤ 9) {ring : Nat → Option Nat} {SS : eSS} {next size acts tot sz t : Int32} {were g rows pl ve f : Nat → Int32} (hn : nowR B W H g rows pl ve tot sz f) (h : pastR B W H ring SS next size acts were) :
    SM (fX11_undo (nI W) (nI H) sz tot next size g pl ve rows ring SS) (fX12_undo t acts f were) (fun y z => z.1 = y.1 ∧ z.2.1 = 0 ∧ nowR B W H y.2.2.2.2.2.1 y.2.2.2.2.2.2.2.2 y.2.2.2.2.2.2.1 y.2.2.2.2.2.2.2.1 y.2.2.1 y.2.1 z.2.2.2 ∧ pastR B W H ring SS y.2.2.2.1 y.2.2.2.2.1 z.2.2.1 were) := by
  unfold fX11_undo
  obtain ⟨⟨y1, y2, y3, y4, y5, y6⟩, ⟨z1, z2, z3, z4⟩, e1, e2, h1, h2, h3, h4⟩ := res_sm (t := t) (g := g) (rows := rows) (tot := tot) (f := f) hW hH h
  simp only at h1 h2 h3 h4
  refine SM.eqL e1 ?_
  simp only
  rcases h4 with ⟨a1, a2, a3, a4, a5, a6⟩ | ⟨a1, a2, a3⟩
  · subst a1; subst a3; subst a4; subst a5; subst a6
    refine SM.fL (by decide) ⟨_, _, rfl, e2, a2, h1, hn, h3⟩
  · subst a1
    refine SM.tL rfl ?_
    unfold fX11_afterReturn
    obtain ⟨q, eq, hq⟩ := found (pl := pl) (ve := ve) (sz := sz) hW hH a3
    rw [eq]
    refine ⟨_, _, rfl, e2, a2, h1, hq, h3⟩
theorem image_sm {B W H : Nat} (hW : W ≤ 9) (hH : H ≤ 9) {b : Bool} {tot kt t : Int32} {g rows kg kr f im : Nat → Int32} (hn : sv B W H g rows tot f) (hb : b = true → sv B W H kg kr kt im) :
    SM (fX11_image b (nI W) tot kt g rows kg kr) (fX12_image t (nI W) b f im) (fun y z => z.1 = y.1 ∧ z.2.1 = 0 ∧ z.2.2.1 = y.2.1 ∧ (y.2.1 = true → sv B W H y.2.2.2.1 y.2.2.2.2 y.2.2.1 z.2.2.2)) := by
  unfold fX11_image fX12_image
  refine SM.eqL (empty_eq hW) (SM.eqR (crys_eq hW) ?_)
  by_cases w0 : W = 0
  · exact SM.tL (decide_eq_true w0) (SM.fR (by rw [decide_eq_true_eq]; omega) (SM.ret ⟨rfl, rfl, rfl, hb⟩))
  · refine SM.fL (by rw [decide_eq_true_eq]; exact w0) (SM.tR (decide_eq_true (by omega)) (SM.eqL rfl (SM.okR cpy_ok ?_)))
    intro x hx
    have t0 : tn 0 = 0 := rfl
    have t324 : tn 324 = 324 := tn_nI (k := 324) (by omega)
    have t160 : tn 160 = 160 := tn_nI (k := 160) (by omega)
    have t325 : tn 325 = 325 := tn_nI (k := 325) (by omega)
    refine SM.ret ⟨?_, rfl, rfl, fun _ => ?_⟩
    · obtain ⟨_, _, n, _, l1, l2, _⟩ := hn
      simp only; rw [t325, l1, l2]
    · refine hn.congr hW hH (fun k hk => ?_) (fun k hk => ?_) (fun k hk => hx k hk)
      · simp only; rw [t0, t324]; unfold va_cpy; rw [if_pos (by omega)]; simp only [Nat.zero_add, Nat.sub_zero]
      · simp only; rw [t0, t160]; unfold va_cpy; rw [if_pos (by omega)]; simp only [Nat.zero_add, Nat.sub_zero]
theorem back_sm {B W H : Nat} (hW : W ≤ 9) (hH : H ≤ 9) {b : Bool} {tot kt t sz size acts : Int32} {g rows pl ve kg kr f im : Nat → Int32} (hn : nowR B W H g rows pl ve tot sz f) (hb : b = true → sv B W H kg kr kt im) :
    SM (fX11_back b (nI W) (nI H) sz tot size kt g pl ve rows kg kr) (fX12_back t acts b f im) (fun y z => z.1 = y.1 ∧ z.2.1 = 0 ∧ nowR B W H y.2.2.2.2.1 y.2.2.2.2.2.2.2 y.2.2.2.2.2.1 y.2.2.2.2.2.2.1 y.2.2.1 y.2.1 z.2.2.2 ∧ ((y.2.2.2.1 = 0 ∧ z.2.2.1 = 0) ∨ (y.2.2.2.1 = size ∧ z.2.2.1 = acts))) := by
  unfold fX11_back fX12_back
  refine SM.ite Iff.rfl (fun e => ?_) (fun _ => SM.ret ⟨rfl, rfl, hn, Or.inr ⟨rfl, rfl⟩⟩)
  have hb := hb e
  refine SM.eqL rfl (SM.eqL rfl (SM.okR cpy_ok ?_))
  intro x hx
  have t0 : tn 0 = 0 := rfl
  have t324 : tn 324 = 324 := tn_nI (k := 324) (by omega)
  have t160 : tn 160 = 160 := tn_nI (k := 160) (by omega)
  have t325 : tn 325 = 325 := tn_nI (k := 325) (by omega)
  have h2 : sv B W H (va_cpy kg g (tn 0) (tn 0) (tn 324)) (va_cpy kr rows (tn 0) (tn 0) (tn 160)) kt x := by
    refine hb.congr hW hH (fun k hk => ?_) (fun k hk => ?_) (fun k hk => hx k hk)
    · rw [t0, t324]; unfold va_cpy; rw [if_pos (by omega)]; simp only [Nat.zero_add, Nat.sub_zero]
    · rw [t0, t160]; unfold va_cpy; rw [if_pos (by omega)]; simp only [Nat.zero_add, Nat.sub_zero]
  unfold fX11_afterReturn
  obtain ⟨q, eq, hq⟩ := found (pl := pl) (ve := ve) (sz := sz) hW hH h2
  simp only
  rw [eq]
  refine ⟨_, _, rfl, rfl, ?_, rfl, hq, Or.inl ⟨rfl, rfl⟩⟩
  obtain ⟨_, _, n, _, l1, l2, _⟩ := h2
  simp only; rw [t325, l1, l2]
