/-! ===== shift and shake, the calls ===== -/
theorem isShift_eq (p : Int32) : fX11_isShift p = some (decide (-9 ≤ p.toInt ∧ p.toInt ≤ 9)) := by
  unfold fX11_isShift
  simp only [lt_i, show (-9 : Int32).toInt = -9 from rfl, c9]
  repeat' split
  all_goals (apply some_d; simp; omega)
theorem shR_hi {W H : Nat} (f : Nat → Int32) {x y : Nat} (hx : x < 9) (hy : y < 9) (dx dy : Int32) {k : Nat} (hk : 324 ≤ k) : shR W H f x y dx dy k = f k := by
  unfold shR
  rw [ochg_hi _ _ _ _ (by omega) (by omega) (by omega) hk, ochg_hi _ _ _ _ (by omega) (by omega) (by omega) hk, ochg_hi _ _ _ _ (by omega) (by omega) (by omega) hk, ochg_hi _ _ _ _ (by omega) (by omega) (by omega) hk]
set_option maxHeartbeats 2000000 in
theorem shift_sm {B W H : Nat} (hW : W ≤ 9) (hH : H ≤ 9) {ring : Nat → Option Nat} {SS : eSS} {next size acts tot sz : Int32} {were g rows pl ve f rf rf' : Nat → Int32} (hn : nowR B W H g rows pl ve tot sz f) (h : pastR B W H ring SS next size acts were) (hr : ∀ k, k < 4 → rf k = rf' k) (p0 p1 p2 p3 t : Int32) (nx : Nat) :
    SM (fX11_shift (nI W) (nI H) tot next size g rows ring rf SS p0 p1 p2 p3 nx) (fX12_shift t (nI W) (nI H) acts f were rf' p0 p1 p2 p3) (fun y z => z.1 = y.1 ∧ z.2.1 = 0 ∧ nowR B W H y.2.2.2.1 rows pl ve tot sz z.2.2.2.1 ∧ pastR B W H y.2.2.2.2.1 y.2.2.2.2.2.2.1 y.2.1 y.2.2.1 z.2.2.1 z.2.2.2.2.1 ∧ (∀ k, k < 4 → y.2.2.2.2.2.1 k = z.2.2.2.2.2 k)) := by
  unfold fX11_shift fX12_shift
  refine SM.eqL (empty_eq hW) (SM.eqR (crys_eq hW) ?_)
  have bad : ∀ {w : Nat}, w < 4 → SM ((fX11_refuse rf (nI w)).bind (fun q3 => some (q3.1, next, size, g, ring, q3.2, SS, 0))) ((fX12_refuses rf' (nI w)).bind (fun q => some (q.1, (0 : Int32), acts, f, were, q.2))) (fun y z => z.1 = y.1 ∧ z.2.1 = 0 ∧ nowR B W H y.2.2.2.1 rows pl ve tot sz z.2.2.2.1 ∧ pastR B W H y.2.2.2.2.1 y.2.2.2.2.2.2.1 y.2.1 y.2.2.1 z.2.2.1 z.2.2.2.2.1 ∧ (∀ k, k < 4 → y.2.2.2.2.2.1 k = z.2.2.2.2.2 k)) := by
    intro w hw
    exact SM.bind (refuse_sm hr hw) (fun y z e => SM.ret ⟨e.2.1.trans e.1.symm, rfl, hn, h, e.2.2⟩)
  by_cases w0 : W = 0
  · exact SM.tL (decide_eq_true w0) (SM.fR (by rw [decide_eq_true_eq]; omega) (bad (w := 0) (by omega)))
  · refine SM.fL (by rw [decide_eq_true_eq]; exact w0) (SM.tR (decide_eq_true (by omega)) (SM.eqL (hasSite_eq hW hH p0 p1) (SM.eqR (isSite_eq hW hH p0 p1) (SM.ite Iff.rfl (fun s1 => ?_) (fun _ => bad (w := 1) (by omega))))))
    have s1 := of_decide_eq_true s1
    obtain ⟨x, hx, rfl⟩ := of_rng (n := W) s1.1 (by omega)
    obtain ⟨y, hy, rfl⟩ := of_rng (n := H) s1.2.2.1 (by omega)
    refine SM.eqL (isShift_eq p2) (SM.eqR (in_c2 p2 (m := -9) (n := 9) rfl rfl) (SM.ite Iff.rfl (fun _ => SM.eqL (isShift_eq p3) (SM.eqR (in_c2 p3 (m := -9) (n := 9) rfl rfl) (SM.ite Iff.rfl (fun _ => ?_) (fun _ => bad (w := 2) (by omega))))) (fun _ => bad (w := 2) (by omega))))
    obtain ⟨⟨r1, r2, r3, r4, r5⟩, ⟨k1, k2⟩, er, ek, hpast, hnn⟩ := rem_sm hW hH h hn.1 nx
    simp only at hpast hnn
    have ag := st_sh (x := x) (y := y) hW hn.1.1 hx p2 p3
    have vv : ∀ a b p, a + 1 < W → b + 1 < H → p ≤ 1 → vec (shR W H f x y p2 p3) a b p = vec f a b p := fun a b p ha hb hp => vec_sh hW f hx p2 p3 hp ha hb
    have hnew : nowR B W H (shC W H g x y p2 p3) rows pl ve tot sz (shR W H f x y p2 p3) := by
      obtain ⟨⟨sa, so, n, sn, sl⟩, nsz, ncl⟩ := hn
      refine ⟨⟨ag, okC_cg vv so, n, sn, sl.congr (fun _ _ => rfl) (fun k hk _ => shR_hi f (by omega) (by omega) p2 p3 hk)⟩, ?_, celC_cg vv ncl⟩
      rw [nsz, coreL_cg (fun a b ha hb => isC_sh hW f hx p2 p3 ha hb)]
    obtain ⟨sl, _, es1, es2, rfl⟩ := slipped_sm ag hW hH
    have good : SM ((f_rem ring SS next size g rows tot nx).bind (fun q17 => (fX7_shiftSite (nI W) (nI H) g (nI x) (nI y) p2 p3).bind (fun q19 => (fX7_slippedLinks (nI W) (nI H) q19).bind (fun q21 => some (q21, q17.1, q17.2.1, q19, q17.2.2.1, rf, q17.2.2.2.1, q17.2.2.2.2))))) ((fX12_keeps acts f were).bind (fun q33 => (fX12_isLink (nI W) (nI H) (nI x) (nI y) false).bind (fun q35 => Option.bind (α := (Nat → Int32)) (if q35 = true then (fX12_changes f (nI x) (nI y) false ((0 : Int32) - p2) ((0 : Int32) - p3)).bind (fun q55 => some q55) else some f) (fun q37 => (fX12_isLink (nI W) (nI H) (nI x) (nI y) true).bind (fun q39 => Option.bind (α := (Nat → Int32)) (if q39 = true then (fX12_changes q37 (nI x) (nI y) true ((0 : Int32) - p2) ((0 : Int32) - p3)).bind (fun q53 => some q53) else some q37) (fun q41 => Option.bind (α := (Nat → Int32)) (if nI x ≤ 0 then some q41 else (fX12_changes q41 (nI x - 1) (nI y) false p2 p3).bind (fun q51 => some q51)) (fun q43 => Option.bind (α := (Nat → Int32)) (if nI y ≤ 0 then some q43 else (fX12_changes q43 (nI x) (nI y - 1) true p2 p3).bind (fun q49 => some q49)) (fun q45 => (fX12_slipped (nI W) (nI H) q45).bind (fun q47 => some (q47, (0 : Int32), q33.1, q45, q33.2, rf')))))))))) (fun y z => z.1 = y.1 ∧ z.2.1 = 0 ∧ nowR B W H y.2.2.2.1 rows pl ve tot sz z.2.2.2.1 ∧ pastR B W H y.2.2.2.2.1 y.2.2.2.2.2.2.1 y.2.1 y.2.2.1 z.2.2.1 z.2.2.2.2.1 ∧ (∀ k, k < 4 → y.2.2.2.2.2.1 k = z.2.2.2.2.2 k)) := by
      refine SM.eqL er (SM.eqR ek (SM.eqL (shiftSite_eq hW hH g hx hy p2 p3) (SM.eqL es1 (SM.eqR (isLink_eq hW hH _ _ false) ?_))))
      have o1 : (if decide (0 ≤ (nI x).toInt ∧ (nI x).toInt < (W : Int) - 1 + false.toNat ∧ 0 ≤ (nI y).toInt ∧ (nI y).toInt < (H : Int) - false.toNat) = true then (fX12_changes f (nI x) (nI y) false ((0 : Int32) - p2) ((0 : Int32) - p3)).bind (fun q55 => some q55) else some f : Option (Nat → Int32)) = some (ochg (decide (x + 1 < W)) f x y 0 (0 - p2) (0 - p3)) := by
        rw [nI_ti x (by omega), nI_ti y (by omega)]
        unfold ochg
        by_cases e : x + 1 < W
        · rw [if_pos (decide_eq_true (by simp; omega)), if_pos (decide_eq_true e), changes_eq f false (by omega) (by omega)]; rfl
        · rw [if_neg (by rw [decide_eq_true_eq]; simp; omega), if_neg (by rw [decide_eq_true_eq]; exact e)]
      refine SM.eqR o1 (SM.eqR (isLink_eq hW hH _ _ true) ?_)
      have o2 : ∀ f, (if decide (0 ≤ (nI x).toInt ∧ (nI x).toInt < (W : Int) - 1 + true.toNat ∧ 0 ≤ (nI y).toInt ∧ (nI y).toInt < (H : Int) - true.toNat) = true then (fX12_changes f (nI x) (nI y) true ((0 : Int32) - p2) ((0 : Int32) - p3)).bind (fun q55 => some q55) else some f : Option (Nat → Int32)) = some (ochg (decide (y + 1 < H)) f x y 1 (0 - p2) (0 - p3)) := by
        intro f
        rw [nI_ti x (by omega), nI_ti y (by omega)]
        unfold ochg
        by_cases e : y + 1 < H
        · rw [if_pos (decide_eq_true (by simp; omega)), if_pos (decide_eq_true e), changes_eq f true (by omega) (by omega)]; rfl
        · rw [if_neg (by rw [decide_eq_true_eq]; simp; omega), if_neg (by rw [decide_eq_true_eq]; exact e)]
      have o3 : ∀ f, (if nI x ≤ 0 then some f else (fX12_changes f (nI x - 1) (nI y) false p2 p3).bind (fun q51 => some q51) : Option (Nat → Int32)) = some (ochg (decide (1 ≤ x)) f (x - 1) y 0 p2 p3) := by
        intro f
        unfold ochg
        by_cases e : 1 ≤ x
        · rw [if_neg (by rw [z0, nI_le_iff (by omega) (by omega)]; omega), if_pos (decide_eq_true e), sub1_nI e (by omega), changes_eq f false (by omega) (by omega)]; rfl
        · rw [if_pos (by rw [z0, nI_le_iff (by omega) (by omega)]; omega), if_neg (by rw [decide_eq_true_eq]; exact e)]
      have o4 : ∀ f, (if nI y ≤ 0 then some f else (fX12_changes f (nI x) (nI y - 1) true p2 p3).bind (fun q51 => some q51) : Option (Nat → Int32)) = some (ochg (decide (1 ≤ y)) f x (y - 1) 1 p2 p3) := by
        intro f
        unfold ochg
        by_cases e : 1 ≤ y
        · rw [if_neg (by rw [z0, nI_le_iff (by omega) (by omega)]; omega), if_pos (decide_eq_true e), sub1_nI e (by omega), changes_eq f true (by omega) (by omega)]; rfl
        · rw [if_pos (by rw [z0, nI_le_iff (by omega) (by omega)]; omega), if_neg (by rw [decide_eq_true_eq]; exact e)]
      exact SM.eqR (o2 _) (SM.eqR (o3 _) (SM.eqR (o4 _) (SM.eqR es2 (SM.ret ⟨rfl, rfl, hnew, hpast, hr⟩))))
    exact SM.ite Iff.rfl (fun _ => SM.ite Iff.rfl (fun _ => bad (w := 2) (by omega)) (fun _ => good)) (fun _ => good)
theorem SM.loopE {V W Y Z : Type} {b : V → Option (V ⊕ Y)} {c : W → Option (W ⊕ Z)} {v0 : V} {w0 : W} {Q : Y → Z → Prop} (I : Nat → V → W → Prop) (J : Nat → Y → W → Prop) (N : Nat) (hN : N < 100000) (h0 : I 0 v0 w0)
    (hs : ∀ (k : Nat) (v : V) (w : W), k < N → I k v w → SM (b v) (c w) (fun p q => ∃ v' w', p = .inl v' ∧ q = .inl w' ∧ I (k + 1) v' w') ∨ ∃ y, b v = some (.inr y) ∧ J k y w)
    (hj : ∀ (k : Nat) (y : Y) (w : W), k < N → J k y w → OK (c w) (fun q => ∃ w', q = .inl w' ∧ J (k + 1) y w')) (hjx : ∀ (y : Y) (w : W), J N y w → OK (c w) (fun q => ∃ z, q = .inr z ∧ Q y z))
    (hx : ∀ (v : V) (w : W), I N v w → SM (b v) (c w) (fun p q => ∃ y z, p = .inr y ∧ q = .inr z ∧ Q y z)) : SM (e_loop b e_fuel v0) (e_loop c e_fuel w0) Q := by
  have key2 : ∀ (m k n : Nat) (y : Y) (w : W), k + m = N → m < n → J k y w → OK (e_loop c n w) (Q y) := by
    intro m
    induction m with
    | zero =>
      intro k n y w hk hn hJ
      obtain ⟨n, rfl⟩ : ∃ j, n = j + 1 := ⟨n - 1, by omega⟩
      have e : k = N := by omega
      subst e
      obtain ⟨_, h1, z, rfl, hq⟩ := hjx y w hJ
      exact ⟨z, by simp [e_loop, h1], hq⟩
    | succ m ih =>
      intro k n y w hk hn hJ
      obtain ⟨n, rfl⟩ : ∃ j, n = j + 1 := ⟨n - 1, by omega⟩
      obtain ⟨_, h1, w', rfl, hJ'⟩ := hj k y w (by omega) hJ
      obtain ⟨z, h2, hq⟩ := ih (k + 1) n y w' (by omega) (by omega) hJ'
      exact ⟨z, by simp [e_loop, h1, h2], hq⟩
  have key : ∀ (m k n : Nat) (v : V) (w : W), k + m = N → m < n → I k v w → SM (e_loop b n v) (e_loop c n w) Q := by
    intro m
    induction m with
    | zero =>
      intro k n v w hk hn hI
      obtain ⟨n, rfl⟩ : ∃ j, n = j + 1 := ⟨n - 1, by omega⟩
      have e : k = N := by omega
      subst e
      obtain ⟨_, _, h1, h2, y, z, rfl, rfl, hq⟩ := hx v w hI
      exact ⟨y, z, by simp [e_loop, h1], by simp [e_loop, h2], hq⟩
    | succ m ih =>
      intro k n v w hk hn hI
      rcases hs k v w (by omega) hI with ⟨_, _, h1, h2, v', w', rfl, rfl, hI'⟩ | ⟨y, h1, hJ⟩
      · obtain ⟨n, rfl⟩ : ∃ j, n = j + 1 := ⟨n - 1, by omega⟩
        obtain ⟨y, z, h3, h4, hq⟩ := ih (k + 1) n v' w' (by omega) (by omega) hI'
        exact ⟨y, z, by simp [e_loop, h1, h3], by simp [e_loop, h2, h4], hq⟩
      · obtain ⟨z, h2, hq⟩ := key2 (m + 1) k n y w hk hn hJ
        obtain ⟨n, rfl⟩ : ∃ j, n = j + 1 := ⟨n - 1, by omega⟩
        exact ⟨y, z, by simp [e_loop, h1], h2, hq⟩
  exact key N 0 e_fuel v0 w0 (by omega) hN h0
/-! the draws -/
abbrev drw (s : Int64) (m : Int32) : Int32 := Int64.toInt32 (((Int64.toUInt64 s >>> ((Int32.toInt64 33).toUInt64 &&& Int64.toUInt64 63)).toInt64) - ((Int64.toUInt64 s >>> ((Int32.toInt64 33).toUInt64 &&& Int64.toUInt64 63)).toInt64) / (Int32.toInt64 m) * (Int32.toInt64 m))
theorem shr33 (s : Int64) : ∃ v : Nat, v < 2147483648 ∧ ((Int64.toUInt64 s >>> ((Int32.toInt64 33).toUInt64 &&& Int64.toUInt64 63)).toInt64).toInt = (v : Int) := by
  have c : ((Int32.toInt64 33).toUInt64 &&& Int64.toUInt64 63) = (33 : UInt64) := by decide
  rw [c]
  have e : ((Int64.toUInt64 s >>> (33 : UInt64)).toInt64).toBitVec = s.toBitVec >>> (33 : Nat) := rfl
  have hl : (s.toBitVec >>> (33 : Nat)).toNat < 2147483648 := by
    rw [BitVec.toNat_ushiftRight, Nat.shiftRight_eq_div_pow]
    have := s.toBitVec.isLt
    omega
  refine ⟨(s.toBitVec >>> (33 : Nat)).toNat, hl, ?_⟩
  show ((Int64.toUInt64 s >>> (33 : UInt64)).toInt64).toBitVec.toInt = _
  rw [e, BitVec.toInt_eq_toNat_of_lt (by omega)]
theorem drw_b (s : Int64) {n : Nat} (h0 : 0 < n) (hn : n ≤ 64) : ∃ k, k < n ∧ drw s (nI n) = nI k := by
  obtain ⟨v, hv, ev⟩ := shr33 s
  unfold drw
  generalize ((Int64.toUInt64 s >>> ((Int32.toInt64 33).toUInt64 &&& Int64.toUInt64 63)).toInt64) = x at ev
  have hm : (Int32.toInt64 (nI n)).toInt = (n : Int) := by rw [i_l, nI_ti n (by omega)]
  have hd : (x / Int32.toInt64 (nI n)).toInt = ((v / n : Nat) : Int) := by
    rw [Int64.toInt_div, ev, hm, bmod64 (by
      have : (v : Int).tdiv (n : Int) = ((v / n : Nat) : Int) := rfl
      rw [this]
      rw [Int.natAbs_natCast]
      exact Nat.le_trans (Nat.div_le_self v n) (by omega))]
    rfl
  have hle : n * (v / n) ≤ v := Nat.mul_div_le v n
  have hmul : (x / Int32.toInt64 (nI n) * Int32.toInt64 (nI n)).toInt = ((n * (v / n) : Nat) : Int) := by
    have e : ((v / n : Nat) : Int) * (n : Int) = ((n * (v / n) : Nat) : Int) := by rw [Nat.mul_comm]; rfl
    rw [Int64.toInt_mul, hd, hm, e, bmod64 (by omega)]
  have hsub : (x - x / Int32.toInt64 (nI n) * Int32.toInt64 (nI n)).toInt = ((v % n : Nat) : Int) := by
    rw [Int64.toInt_sub, ev, hmul]
    have := Nat.div_add_mod v n
    rw [bmod64 (by omega)]
    omega
  have hlt := Nat.mod_lt v h0
  refine ⟨v % n, hlt, ?_⟩
  have bl : Bl (x - x / Int32.toInt64 (nI n) * Int32.toInt64 (nI n)) ((v % n : Nat) : Int) 64 := ⟨hsub, by omega⟩
  rw [eq_i, (bl.i (by omega)).e, nI_ti _ (by omega)]
theorem nzl_nI {n : Nat} (h0 : 0 < n) (hn : n ≤ 64) : e_nzl (Int32.toInt64 (nI n)) = true := by
  have bl : Bl (Int32.toInt64 (nI n)) (n : Int) 64 := ⟨by rw [i_l, nI_ti n (by omega)], by omega⟩
  exact bl.nz (by omega)
theorem cdraw_eq (s : Int64) {n : Nat} (h0 : 0 < n) (hn : n ≤ 64) : fX11_drawOf s (nI n) = some (drw s (nI n)) := by
  unfold fX11_drawOf
  rw [if_neg (by rw [z0, nI_le_iff (by omega) (by omega)]; omega), g_t (nzl_nI h0 hn)]
abbrev nst (s : Int64) : Int64 := (s * 6364136223846793005) + 1442695040888963407
theorem rdraw_eq (s : Int64) {n : Nat} (h0 : 0 < n) (hn : n ≤ 64) : fX12_draw s (nI n) = some (drw (nst s) (nI n), nst s) := by
  unfold fX12_draw
  rw [g_t (nzl_nI h0 hn)]
