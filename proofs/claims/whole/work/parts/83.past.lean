/-! ===== what was kept, and what is now ===== -/
def sv (B W H : Nat) (g rows : Nat → Int32) (T : Int32) (f : Nat → Int32) : Prop := agr W H g f ∧ okC f W H ∧ ∃ n, n ≤ B ∧ logR T rows f n
theorem sv.mono {B B' W H : Nat} {g rows : Nat → Int32} {T : Int32} {f : Nat → Int32} (h : sv B W H g rows T f) (hB : B ≤ B') : sv B' W H g rows T f := by
  obtain ⟨h1, h2, n, h3, h4⟩ := h
  exact ⟨h1, h2, n, by omega, h4⟩
theorem agr_lo {W H : Nat} (hW : W ≤ 9) (hH : H ≤ 9) {g f : Nat → Int32} (h : ∀ k, k < 324 → g k = f k) : agr W H g f := by
  intro x y r p hr hp hx hy
  unfold st
  exact h _ (by omega)
theorem agr.trans {W H : Nat} {a b c : Nat → Int32} (h : agr W H a b) (k : agr W H b c) : agr W H a c := fun x y r p hr hp hx hy => (h x y r p hr hp hx hy).trans (k x y r p hr hp hx hy)
theorem agr.symm {W H : Nat} {a b : Nat → Int32} (h : agr W H a b) : agr W H b a := fun x y r p hr hp hx hy => (h x y r p hr hp hx hy).symm
theorem logR.congr {T : Int32} {rows rows' f f' : Nat → Int32} {n : Nat} (h : logR T rows f n) (hr : ∀ k, k < 160 → rows' k = rows k) (hf : ∀ k, 324 ≤ k → k < 486 → f' k = f k) : logR T rows' f' n := by
  obtain ⟨h1, h2, h3, h4⟩ := h
  refine ⟨h1, by rw [hf _ (by omega) (by omega)]; exact h2, by rw [hf _ (by omega) (by omega)]; exact h3, fun i w hi hw => ?_⟩
  have := Nat.mod_lt (n - 1 - i) (show 0 < 40 by omega)
  rw [hr _ (by omega), hf _ (by omega) (by omega)]
  exact h4 i w hi hw
theorem sv.congr {B W H : Nat} (hW : W ≤ 9) (hH : H ≤ 9) {g g' rows rows' : Nat → Int32} {T : Int32} {f f' : Nat → Int32} (h : sv B W H g rows T f) (hg : ∀ k, k < 324 → g' k = g k) (hr : ∀ k, k < 160 → rows' k = rows k) (hf : ∀ k, k < 486 → f' k = f k) : sv B W H g' rows' T f' := by
  obtain ⟨h1, h2, n, h3, h4⟩ := h
  have a1 : agr W H g' g := agr_lo hW hH hg
  have a2 : agr W H f' f := agr_lo hW hH (fun k hk => hf k (by omega))
  exact ⟨(a1.trans h1).trans a2.symm, h2.agr a2, n, h3, h4.congr hr (fun k _ hk => hf k hk)⟩
/-- the reference's loops that copy -/
theorem cpy_ok {src dst : Nat → Int32} : OK (e_loop (fun (v3 : Int32 × (Nat → Int32)) => (
        if 486 ≤ v3.1 then
          some (.inr v3.2)
        else
          e_g (e_in v3.1 486) (
          e_g (e_in v3.1 486) (
          some (.inl (v3.1 + 1, upd v3.2 (tn v3.1) (src (tn v3.1)))))) : Option ((Int32 × (Nat → Int32)) ⊕ ((Nat → Int32))))) e_fuel (0, dst)) (fun q => ∀ k, k < 486 → q k = src k) := by
  refine OK.loop (fun k v => v.1 = nI k ∧ ∀ j, j < k → v.2 j = src j) 486 (by omega) ⟨rfl, fun j hj => by omega⟩ ?_ ?_
  · rintro k ⟨a, b⟩ hk ⟨rfl, hb⟩
    simp only at hb ⊢
    refine OK.f (by rw [show (486 : Int32) = nI 486 from rfl]; exact nle hk (by omega)) (OK.g (ein_nI hk (by omega)) (OK.g (ein_nI hk (by omega)) (OK.inl ⟨nI_s1 k, fun j hj => ?_⟩)))
    rw [tn_nI (by omega)]
    simp only [upd]
    by_cases e : j = k
    · rw [if_pos e, e]
    · rw [if_neg e]; exact hb j (by omega)
  · rintro ⟨a, b⟩ ⟨rfl, hb⟩
    exact OK.t (by show (486 : Int32) ≤ nI 486; decide) (OK.inr hb)
/-- the slot of the act i ago -/
def slt (N i : Nat) : Nat := (N + 39 - i) % 20
def pastR (B W H : Nat) (ring : Nat → Option Nat) (SS : eSS) (next size acts : Int32) (were : Nat → Int32) : Prop :=
  ∃ N S, N ≤ 20 ∧ S ≤ 20 ∧ next = nI N ∧ size = nI S ∧ acts = nI S ∧ ∀ i, i < S → (∃ q, ring (slt N i) = some q) ∧ sv B W H (SS (slt N i)).1 (SS (slt N i)).2.1 (SS (slt N i)).2.2 (fun k => were (486 * (S - 1 - i) + k))
theorem pastR.mono {B B' W H : Nat} {ring : Nat → Option Nat} {SS : eSS} {next size acts : Int32} {were : Nat → Int32} (h : pastR B W H ring SS next size acts were) (hB : B ≤ B') : pastR B' W H ring SS next size acts were := by
  obtain ⟨N, S, h1, h2, h3, h4, h5, h6⟩ := h
  exact ⟨N, S, h1, h2, h3, h4, h5, fun i hi => ⟨(h6 i hi).1, (h6 i hi).2.mono hB⟩⟩
def nn (ring : Nat → Option Nat) : Nat := cnt (fun j => (ring j).isNone) 20
theorem cnt_upd {P Q : Nat → Bool} {s : Nat} (hP : P s = true) (hQ : Q s = false) (h : ∀ j, j ≠ s → Q j = P j) : ∀ k, s < k → cnt Q k + 1 = cnt P k := by
  intro k
  induction k with
  | zero => intro h; omega
  | succ k ih =>
    intro hk
    simp only [cnt]
    by_cases e : s = k
    · subst e
      rw [hP, hQ, cnt_eq (P := Q) (Q := P) (k := s) (fun x hx => h x (by omega))]; rfl
    · rw [h k (fun z => e z.symm)]
      have := ih (by omega)
      omega
/-- rows that go down by one -/
theorem keeps_ok {S : Nat} (hS : S ≤ 20) (f were : Nat → Int32) : OK (fX12_keeps (nI S) f were) (fun z => z.1 = nI (min (S + 1) 20) ∧ (∀ k, k < 486 → z.2 (486 * (min (S + 1) 20 - 1) + k) = f k) ∧ ∀ j k, j < min (S + 1) 20 - 1 → k < 486 → z.2 (486 * j + k) = were (486 * (j + (S + 1 - min (S + 1) 20)) + k)) := by
  unfold fX12_keeps
  refine OK.bind (Q := fun q => q.1 = nI (min (S + 1) 20 - 1) ∧ ∀ j k, j < min (S + 1) 20 - 1 → k < 486 → q.2 (486 * j + k) = were (486 * (j + (S + 1 - min (S + 1) 20)) + k)) ?_ ?_
  · by_cases e : S = 20
    · subst e
      refine OK.t rfl (OK.bind (Q := fun x => ∀ m, m < 9234 → x m = were (m + 486)) (OK.loop (fun k v => v.1 = nI (486 + k) ∧ (∀ m, m < k → v.2 m = were (m + 486)) ∧ ∀ m, k ≤ m → v.2 m = were m) 9234 (by omega) ⟨rfl, fun m hm => by omega, fun m _ => rfl⟩ ?_ ?_) (fun x hx => OK.ret ⟨by show nI 20 - 1 = nI 19; decide, fun j k hj hk => ?_⟩))
      · rintro k ⟨a, b⟩ hk ⟨rfl, h1, h2⟩
        simp only at h1 h2 ⊢
        have e1 : nI (486 + k) - 486 = nI k := by rw [show (486 : Int32) = nI 486 from rfl, sub_nI (by omega) (by omega), show 486 + k - 486 = k by omega]
        rw [e1]
        refine OK.f (by rw [show (9720 : Int32) = nI 9720 from rfl]; exact nle (by omega) (by omega)) (OK.g (ein_nI (by omega) (by omega)) (OK.g (ein_nI (by omega) (by omega)) (OK.inl ⟨by rw [nI_s1]; rfl, fun m hm => ?_, fun m hm => ?_⟩)))
        · rw [tn_nI (by omega), tn_nI (by omega)]
          simp only [upd]
          by_cases q : m = k
          · rw [if_pos q, q, h2 _ (by omega), Nat.add_comm]
          · rw [if_neg q]; exact h1 m (by omega)
        · rw [tn_nI (by omega), tn_nI (by omega)]
          simp only [upd]
          rw [if_neg (by omega)]; exact h2 m (by omega)
      · rintro ⟨a, b⟩ ⟨rfl, h1, h2⟩
        exact OK.t (by show (9720 : Int32) ≤ nI (486 + 9234); decide) (OK.inr h1)
      · simp only
        rw [hx _ (by omega)]
        congr 1
        omega
    · refine OK.f (by rw [show (20 : Int32) = nI 20 from rfl, nI_inj (by omega) (by omega)]; exact e) (OK.ret ⟨by simp only; congr 1; omega, fun j k hj hk => ?_⟩)
      simp only
      congr 1
      omega
  · rintro ⟨q1, q2⟩ ⟨e1, hq⟩
    simp only at e1 hq ⊢
    subst e1
    refine OK.bind (Q := fun x => (∀ k, k < 486 → x (486 * (min (S + 1) 20 - 1) + k) = f k) ∧ ∀ m, m < 486 * (min (S + 1) 20 - 1) → x m = q2 m) (OK.loop (fun k v => v.1 = nI k ∧ (∀ j, j < k → v.2 (486 * (min (S + 1) 20 - 1) + j) = f j) ∧ ∀ m, m < 486 * (min (S + 1) 20 - 1) → v.2 m = q2 m) 486 (by omega) ⟨rfl, fun j hj => by omega, fun _ _ => rfl⟩ ?_ ?_) (fun x hx => OK.ret ⟨?_, hx.1, fun j k hj hk => ?_⟩)
    · rintro k ⟨a, b⟩ hk ⟨rfl, h1, h2⟩
      simp only at h1 h2 ⊢
      rw [show (486 : Int32) * nI (min (S + 1) 20 - 1) + nI k = nI (486 * (min (S + 1) 20 - 1) + k) by rw [show (486 : Int32) = nI 486 from rfl, pk_mul, nI_add]]
      refine OK.f (by rw [show (486 : Int32) = nI 486 from rfl]; exact nle hk (by omega)) (OK.g (ein_nI hk (by omega)) (OK.g (ein_nI (by omega) (by omega)) (OK.inl ⟨nI_s1 k, fun j hj => ?_, fun m hm => ?_⟩)))
      · rw [tn_nI (by omega), tn_nI (by omega)]
        simp only [upd]
        by_cases q : j = k
        · rw [if_pos (by omega), q]
        · rw [if_neg (by omega)]; exact h1 j (by omega)
      · rw [tn_nI (by omega), tn_nI (by omega)]
        simp only [upd]
        rw [if_neg (by omega)]; exact h2 m hm
    · rintro ⟨a, b⟩ ⟨rfl, h1, h2⟩
      exact OK.t (by show (486 : Int32) ≤ nI 486; decide) (OK.inr ⟨h1, h2⟩)
    · simp only; rw [nI_s1]; congr 1; omega
    · simp only
      rw [hx.2 _ (by omega)]
      exact hq j k hj hk
/-- an act is remembered -/
theorem rem_sm {B W H : Nat} (hW : W ≤ 9) (hH : H ≤ 9) {ring : Nat → Option Nat} {SS : eSS} {next size acts tot : Int32} {were g rows f : Nat → Int32} (h : pastR B W H ring SS next size acts were) (hs : sv B W H g rows tot f) (nx : Nat) :
    SM (f_rem ring SS next size g rows tot nx) (fX12_keeps acts f were) (fun y z => pastR B W H y.2.2.1 y.2.2.2.1 y.1 y.2.1 z.1 z.2 ∧ y.2.2.2.2 + nn y.2.2.1 = nn ring) := by
  obtain ⟨N, S, hN, hS, rfl, rfl, rfl, h6⟩ := h
  unfold f_rem
  have m20 : N % 20 < 20 := Nat.mod_lt _ (by omega)
  have fm := fm_eq (a := N) (m := 20) (by omega) (by omega) (by omega)
  have mn : fJ9_min_7cf53 (nI S + 1) 20 = some (nI (min (S + 1) 20)) := by rw [nI_s1, show (20 : Int32) = nI 20 from rfl, min_nI (by omega) (by omega)]
  refine SM.eqL fm (SM.gL (ein_nI m20 (by omega)) (SM.eqL mn ?_))
  rw [tn_nI (by omega)]
  obtain ⟨⟨z1, z2⟩, hz, e1, e2, e3⟩ := keeps_ok hS f were
  simp only at e1 e2 e3
  subst e1
  have t0 : tn 0 = 0 := rfl
  have t324 : tn 324 = 324 := tn_nI (k := 324) (by omega)
  have t160 : tn 160 = 160 := tn_nI (k := 160) (by omega)
  have key : ∀ (ring' : Nat → Option Nat) (G R : Nat → Int32), (∀ j, j ≠ N % 20 → ring' j = ring j) → (∃ q, ring' (N % 20) = some q) → pastR B W H ring' (va_up SS (N % 20) (va_cpy g G (tn 0) (tn 0) (tn 324), va_cpy rows R (tn 0) (tn 0) (tn 160), tot)) (nI (N % 20) + 1) (nI (min (S + 1) 20)) (nI (min (S + 1) 20)) z2 := by
    intro ring' G R hr hq
    refine ⟨N % 20 + 1, min (S + 1) 20, by omega, by omega, nI_s1 _, rfl, rfl, fun i hi => ?_⟩
    by_cases e : i = 0
    · subst e
      have es : slt (N % 20 + 1) 0 = N % 20 := by unfold slt; omega
      rw [es]
      refine ⟨hq, ?_⟩
      simp only [va_up, if_true]
      refine hs.congr hW hH (fun k hk => ?_) (fun k hk => ?_) (fun k hk => ?_)
      · rw [t0, t324]; unfold va_cpy; rw [if_pos (by omega)]; congr 1; omega
      · rw [t0, t160]; unfold va_cpy; rw [if_pos (by omega)]; congr 1; omega
      · exact e2 k hk
    · have es : slt (N % 20 + 1) i = slt N (i - 1) := by unfold slt; omega
      have en : slt N (i - 1) ≠ N % 20 := by unfold slt; omega
      rw [es, hr _ en]
      have h7 := h6 (i - 1) (by omega)
      refine ⟨h7.1, ?_⟩
      simp only [va_up, if_neg en]
      refine h7.2.congr hW hH (fun _ _ => rfl) (fun _ _ => rfl) (fun k hk => ?_)
      rw [e3 _ k (by omega) hk]
      congr 1
      omega
  cases hr : ring (N % 20) with
  | some q => exact ⟨_, _, rfl, hz, key ring _ _ (fun _ _ => rfl) ⟨q, hr⟩, by simp⟩
  | none =>
    refine ⟨_, _, rfl, hz, key _ _ _ (fun j hj => by simp [va_up, hj]) ⟨nx, by simp [va_up]⟩, ?_⟩
    simp only
    unfold nn
    have := cnt_upd (P := fun j => (ring j).isNone) (Q := fun j => (va_up ring (N % 20) (some nx) j).isNone) (s := N % 20) (by simp [hr]) (by simp [va_up]) (fun j hj => by simp [va_up, hj]) 20 m20
    omega
/-- an act is taken back -/
theorem res_sm {B W H : Nat} (hW : W ≤ 9) (hH : H ≤ 9) {ring : Nat → Option Nat} {SS : eSS} {next size acts tot t : Int32} {were g rows f : Nat → Int32} (h : pastR B W H ring SS next size acts were) :
    SM (f_res ring SS next size g rows tot) (fX12_undo t acts f were) (fun y z => z.2.1 = 0 ∧ y.2.2.1 = z.2.2.1 ∧ pastR B W H ring SS y.2.1 y.2.2.1 z.2.2.1 were ∧ ((y.1 = false ∧ z.1 = -1 ∧ y.2.2.2.1 = g ∧ y.2.2.2.2.1 = rows ∧ y.2.2.2.2.2 = tot ∧ z.2.2.2 = f) ∨ (y.1 = true ∧ z.1 = y.2.2.1 ∧ sv B W H y.2.2.2.1 y.2.2.2.2.1 y.2.2.2.2.2 z.2.2.2))) := by
  obtain ⟨N, S, hN, hS, rfl, rfl, rfl, h6⟩ := h
  unfold f_res fX12_undo
  have fm : fJ9_floorMod_7cf53 (nI N - 1) 20 = some (nI ((N + 39) % 20)) := by
    by_cases e : N = 0
    · subst e; decide
    · rw [sub1_nI (by omega) (by omega), show (20 : Int32) = nI 20 from rfl, fm_eq (by omega) (by omega) (by omega)]
      congr 2
      omega
  have m20 : (N + 39) % 20 < 20 := Nat.mod_lt _ (by omega)
  refine SM.eqL fm (SM.gL (ein_nI m20 (by omega)) ?_)
  rw [tn_nI (by omega)]
  have base : pastR B W H ring SS (nI N) (nI S) (nI S) were := ⟨N, S, hN, hS, rfl, rfl, rfl, h6⟩
  by_cases s0 : S = 0
  · subst s0
    exact SM.tL (by decide) (SM.tR (by decide) (SM.ret ⟨rfl, rfl, base, Or.inl ⟨rfl, rfl, rfl, rfl, rfl, rfl⟩⟩))
  · refine SM.fL (by rw [z0, nI_le_iff (by omega) (by omega)]; omega) (SM.fR (by rw [z0, nI_inj (by omega) (by omega)]; exact s0) ?_)
    have h7 := h6 0 (by omega)
    have es : slt N 0 = (N + 39) % 20 := rfl
    rw [es] at h7
    obtain ⟨⟨q, hq⟩, h8⟩ := h7
    rw [hq, sub1_nI (by omega) (by omega)]
    have t0 : tn 0 = 0 := rfl
    have t324 : tn 324 = 324 := tn_nI (k := 324) (by omega)
    have t160 : tn 160 = 160 := tn_nI (k := 160) (by omega)
    refine SM.okR (Q := fun x => ∀ k, k < 486 → x k = were (486 * (S - 1) + k)) (OK.loop (fun k v => v.1 = nI k ∧ ∀ j, j < k → v.2 j = were (486 * (S - 1) + j)) 486 (by omega) ⟨rfl, fun j hj => by omega⟩ ?_ ?_) ?_
    · rintro k ⟨a, b⟩ hk ⟨rfl, hb⟩
      simp only at hb ⊢
      rw [show (486 : Int32) * nI (S - 1) + nI k = nI (486 * (S - 1) + k) by rw [show (486 : Int32) = nI 486 from rfl, pk_mul, nI_add]]
      refine OK.f (by rw [show (486 : Int32) = nI 486 from rfl]; exact nle hk (by omega)) (OK.g (ein_nI (by omega) (by omega)) (OK.g (ein_nI hk (by omega)) (OK.inl ⟨nI_s1 k, fun j hj => ?_⟩)))
      rw [tn_nI (by omega), tn_nI (by omega)]
      simp only [upd]
      by_cases e : j = k
      · rw [if_pos e, e]
      · rw [if_neg e]; exact hb j (by omega)
    · rintro ⟨a, b⟩ ⟨rfl, hb⟩
      exact OK.t (by show (486 : Int32) ≤ nI 486; decide) (OK.inr hb)
    · intro x hx
      refine SM.ret ⟨rfl, rfl, ?_, Or.inr ⟨rfl, rfl, ?_⟩⟩
      · refine ⟨(N + 39) % 20, S - 1, by omega, by omega, rfl, rfl, rfl, fun i hi => ?_⟩
        have e2 : slt ((N + 39) % 20) i = slt N (i + 1) := by unfold slt; omega
        rw [e2]
        have h9 := h6 (i + 1) (by omega)
        rw [show S - 1 - (i + 1) = S - 1 - 1 - i by omega] at h9
        exact h9
      · refine h8.congr hW hH (fun k hk => ?_) (fun k hk => ?_) (fun k hk => ?_)
        · simp only; rw [t0, t324]; unfold va_cpy; rw [if_pos (by omega)]; simp only [Nat.zero_add, Nat.sub_zero, es]
        · simp only; rw [t0, t160]; unfold va_cpy; rw [if_pos (by omega)]; simp only [Nat.zero_add, Nat.sub_zero, es]
        · simp only; rw [hx k hk]
          congr 1
