/-! ===== fault() and text() ===== -/
theorem fault_sm {n : Nat} {A B : Nat → Int32} (ht : tapR n A B) (a1 a2 a3 a4 a5 a10 : Int32) (a7 a8 a9 : Bool) (a36 a37 a38 : Nat → Int32) (t r3 r4 r5 r6 r7 r9 r10 r11 : Int32) (r17 r18 r19 : Bool) (X Y Dx Dy Se : Nat → Int32) :
    SM (fX11_fault (nI n) a1 a2 a3 a4 a5 a7 a8 a9 a10 A a36 a37 a38) (fX12_fault t (nI n) r3 r4 r5 r6 r7 r9 r10 r11 r17 r18 r19 B X Y Dx Dy Se) (fun y z => z.1 = y.1 ∧ z.2.1 = 0) := by
  unfold fX11_fault fX12_fault
  refine SM.bind (read_sm ht a1 a2 a3 a4 a5 a10 a7 a8 a9 a36 a37 a38 r3 r4 r5 r6 r7 r9 r10 r11 r17 r18 r19 X Y Dx Dy Se) ?_
  rintro y z ⟨e, _⟩
  exact SM.ret ⟨e.symm, rfl⟩
abbrev cTX := Int32 × Bool × Bool × Int32 × Int32 × Int32 × Int32 × Int32 × Int32 × Bool × Bool × Bool × Int32 × Int32 × Int32 × Int32 × Int32 × Int32 × (Nat → Int32) × (Nat → Int32) × (Nat → Int32) × (Nat → Int32) × (Nat → Int32) × (Nat → Int32) × (Nat → Int32)
abbrev rTX := Int32 × Int32 × Int32 × Int32 × Int32 × Int32 × Int32 × Int32 × Int32 × Int32 × Int32 × Bool × Bool × Bool × Int32 × Int32 × Int32 × Int32 × Bool × Bool × (Nat → Int32) × (Nat → Int32) × (Nat → Int32) × (Nat → Int32) × (Nat → Int32) × (Nat → Int32) × (Nat → Int32) × (Nat → Int32) × (Nat → Int32) × (Nat → Int32) × (Nat → Int32) × (Nat → Int32)
/-- a text was taken, or all stays -/
def txR (n : Nat) (im wk : Bool) (w h sz tot siz : Int32) (g pl ve told : Nat → Int32) (W' H' : Int32) (acts : Int32) (wk' im' : Bool) (f told' rows : Nat → Int32) : cTX → rTX → Prop
  | (c1, c2, c3, c4, _, _, _, _, _, _, _, _, _, c14, c15, c16, c17, c18, _, _, _, c22, c23, c24, c25), (d1, d2, d3, _, _, _, _, _, _, _, _, _, _, _, d15, d16, _, d18, d19, d20, _, _, _, _, _, d26, d27, _, _, _, _, _) =>
    d1 = c1 ∧ d2 = 0 ∧ ((c2 = im ∧ c3 = wk ∧ c4 = nI n ∧ c14 = w ∧ c15 = h ∧ c16 = sz ∧ c17 = tot ∧ c18 = siz ∧ c22 = g ∧ c23 = pl ∧ c24 = ve ∧ c25 = told ∧ d3 = nI n ∧ d15 = W' ∧ d16 = H' ∧ d18 = acts ∧ d19 = wk' ∧ d20 = im' ∧ d26 = f ∧ d27 = told') ∨ (c2 = false ∧ c3 = false ∧ c4 = 0 ∧ c18 = 0 ∧ d3 = 0 ∧ d18 = 0 ∧ d19 = false ∧ d20 = false ∧ d27 = c25 ∧ okSet c25 ∧ ∃ W H, (2 ≤ W ∧ W ≤ 9) ∧ (2 ≤ H ∧ H ≤ 9) ∧ c14 = nI W ∧ c15 = nI H ∧ d15 = nI W ∧ d16 = nI H ∧ ∀ B, nowR B W H c22 rows c23 c24 c17 c16 d26))
set_option maxHeartbeats 2000000 in
theorem text_sm {n : Nat} {A B : Nat → Int32} (ht : tapR n A B) (im wk : Bool) (a1 a2 a3 a4 a5 a10 : Int32) (a7 a8 a9 : Bool) (a36 a37 a38 : Nat → Int32) (w h sz tot siz : Int32) (g pl ve told : Nat → Int32) (t r3 r4 r5 r6 r7 r9 r10 r11 : Int32) (r17 r18 r19 : Bool) (X Y Dx Dy Se : Nat → Int32) (W' H' co acts : Int32) (wk' im' : Bool) (f cX cY cDx cDy cFo rows : Nat → Int32) :
    SM (fX11_text im wk (nI n) a1 a2 a3 a4 a5 a7 a8 a9 a10 w h sz tot siz A a36 a37 a38 g pl ve told) (fX12_text t (nI n) r3 r4 r5 r6 r7 r9 r10 r11 r17 r18 r19 W' H' co acts wk' im' B X Y Dx Dy Se f told cX cY cDx cDy cFo) (txR n im wk w h sz tot siz g pl ve told W' H' acts wk' im' f told rows) := by
  unfold fX11_text fX12_text
  refine SM.bind (read_sm ht a1 a2 a3 a4 a5 a10 a7 a8 a9 a36 a37 a38 r3 r4 r5 r6 r7 r9 r10 r11 r17 r18 r19 X Y Dx Dy Se) ?_
  rintro ⟨y1, y2, y3, y4, y5, y6, y7, y8, y9, y10, y11, y12, y13⟩ ⟨z1', z2', z3, z4', z5, z6, z7, z8, z9', z10, z11, z12, z13, z14, z15, z16, z17⟩ ⟨e, ⟨q, hq, e1⟩ | ⟨e1, W, H, K, k1, k2, k3, k4, hW, hH, k5, k6, hd⟩⟩
  · simp only at e e1
    subst e e1
    have hn := ht.1
    exact SM.fL (nI_m1 (by omega)) (SM.fR (nI_m1 (by omega)) (SM.ret ⟨rfl, rfl, Or.inl ⟨rfl, rfl, rfl, rfl, rfl, rfl, rfl, rfl, rfl, rfl, rfl, rfl, rfl, rfl, rfl, rfl, rfl, rfl, rfl, rfl⟩⟩))
  · simp only at e e1 k1 k2 k3 k4 k5 k6 hd
    subst e e1 k1 k2 k3 k4 k5 k6
    refine SM.tL rfl (SM.tR rfl ?_)
    refine SM.okR (told4 hd.2.2.1) ?_
    rintro T ⟨hT, hT4⟩
    have hset : okSet T := fun k hk => by rw [hT4 k hk]; exact hd.2.2.2 k hk
    refine SM.okR (zero_ok f) ?_
    intro f0 hf0
    refine SM.okR (still_ok hW.2 hH.2 hf0) ?_
    intro f1 hf1
    obtain ⟨⟨l1, l2, l3⟩, el, rfl, rfl, hl⟩ := lay_ok g w h (nI W) (nI H)
    simp only at el hl
    obtain ⟨g2, f2, eg, ef, hag, hok, hhi⟩ := lays_sm hW hH hd hl hf1
    have hC := hok.okC hd.1
    obtain ⟨⟨m1, m2, m3⟩, em, hm1, hm2⟩ := find_ok hW.2 hH.2 g2 pl ve sz (hC.agr hag).1
    simp only at hm1 hm2
    refine SM.eqL (z := (nI W, nI H, m1, g2, m2, m3)) ?_ (SM.eqL (z := 0) rfl (SM.eqR ef ?_))
    · unfold fX1_build
      rw [el, Option.bind_some]
      simp only
      rw [eg, Option.bind_some, em]
      rfl
    · refine SM.okR (lays_eq hW.2 hH.2 f2 T cX cY cDx cDy cFo co (hC.okL hW.2 hH.2)) ?_
      rintro ⟨s1, s2, s3, s4, s5, s6, s7⟩ ⟨hs1, hs2, _⟩
      simp only at hs1 hs2
      subst hs1
      rw [coreL_agr hag] at hm1
      subst hm1
      refine SM.ret ⟨rfl, rfl, Or.inr ⟨rfl, rfl, rfl, rfl, rfl, rfl, rfl, rfl, hT, ?_, W, H, hW, hH, rfl, rfl, rfl, rfl, fun B => ⟨⟨hag, hC, 0, by omega, log_0 hhi⟩, rfl, celC_agr hag hm2⟩⟩⟩
      rw [hT] at hset
      exact hset
