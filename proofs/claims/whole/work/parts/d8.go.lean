/-! ===== a turn: go ===== -/
section TURNS
variable {G : eG} {la : Launch} {h : Nat → eO} {nx k : Nat} {ca : Nat → Nat → Int32} {cb : Nat → Nat → Bool} {cA : Nat → Nat → Int32} {ring : Nat → Option Nat} {SS : eSS} {q6 nl : Nat} {LE : Nat → Int32} {ra : Nat → Nat → Int32} {rb : Nat → Nat → Bool} {rA : Nat → Nat → Int32} {J : Int64}
set_option maxRecDepth 100000 in
theorem turn_go (hG : e_GS G) (hk : k < 512) (hc : HC ca cb cA ring SS q6 nl LE h nx) (hr : HR ra rb rA J h) (hl : REL k ca cb cA ring SS nl ra rb rA) (p0 : Int32) : TURN k G la MX11_go MX12_go [.int p0] h nx := by
  obtain ⟨W, H, n, hW, hH, hWH, ⟨w1, w2, w3, w4⟩, ⟨t1, t2, ht⟩, hnow, hpast, ⟨i1, i2⟩, ⟨k1, k2⟩, hrf, ⟨s1, s2⟩, hnl⟩ := id hl
  have m40 : 40 * k ≤ 40 * (k + 1) := by omega
  have i2' : cb 32 8 = true → sv (40 * (k + 1)) W H (cA 59) (cA 60) (ca 58 2) (rA 97) := fun q => (i2 q).mono m40
  obtain ⟨y, z, e1, e2, e3⟩ := go_sm (s0 := (cA 41, ca 42 0, cA 43, cA 44, cA 45, ca 54 1, cA 55, ca 56 1, ca 56 2, ring, SS, 0)) (told := cA 53) (X := rA 81) (Y := rA 82) (Dx := rA 83) (Dy := rA 84) (Fo := rA 85) hW hH hWH (show 40 * k ≤ 30000000 by omega) hnow hpast rfl s2 hrf p0 (ra 72 0) (ra 72 29) (ra 72 38) (ra 72 39) (ra 72 40) nx
  have hs0 : go_ok h nx q6 nl LE (cA 41, ca 42 0, cA 43, cA 44, cA 45, ca 54 1, cA 55, ca 56 1, ca 56 2, ring, SS, 0) h := ⟨fun _ _ _ => rfl, hc.h41, hc.h42, hc.h43, hc.h44, hc.h45, hc.h54, hc.h55, hc.h56, hc.h57, hc.dy, Nat.zero_le 20⟩
  refine ⟨y.1, 60, 9740, by decide, by decide, (tX11_go_32 hG hc.nx9 hc.h32 hc.h39 hc.h40 hc.h53 hc.h62 hs0 (by simp only [w1, w2]; exact e1) rfl).mono ?_⟩
  rintro r h1 nx1 ⟨rfl, hn1, g62, fr0, g41, g42, g43, g44, g45, g54, g55, g56, g57, hd0, _⟩
  have n1 : 99 ≤ nx1 := by have := hc.nx9; omega
  have fr : ∀ j, j < 99 → [41, 42, 43, 44, 45, 54, 55, 56, 57, 62].contains j = false → h1 j = h j := by
    intro j hj hw
    have h62 : j ≠ 62 := fun e => by subst e; exact absurd hw (by decide)
    have hw2 : [41, 42, 43, 44, 45, 54, 55, 56, 57].contains j = false := by
      cases e : [41, 42, 43, 44, 45, 54, 55, 56, 57].contains j with
      | false => rfl
      | true =>
        have m1 := List.contains_iff_mem.mp e
        have m2 : j ∈ [41, 42, 43, 44, 45, 54, 55, 56, 57, 62] := by simp at m1 ⊢; omega
        rw [List.contains_iff_mem.mpr m2] at hw
        exact absurd hw (by decide)
    have q := fr0 j hj hw2
    simp only [if_neg h62] at q
    exact q
  have hd1 : e_dyn h1 nx1 (grng y.2.2) (gSS y.2.2) q6 nl LE := by
    rw [hn1]
    exact e_dyn.cg (fun j hj => by have h62 : j ≠ 62 := by omega
                                   simp only [if_neg h62]) hd0
  have hc1 : HC (ua (ua (ua (ua ca 42 0 (gc0 y.2.2)) 54 1 (gtot y.2.2)) 56 1 (gnxt y.2.2)) 56 2 (gsiz y.2.2)) cb (uA (uA (uA (uA (uA (uA cA 41 (gA41 y.2.2)) 43 (gA43 y.2.2)) 44 (gA44 y.2.2)) 45 (gA45 y.2.2)) 55 (gA55 y.2.2)) 62 y.2.1) (grng y.2.2) (gSS y.2.2) q6 nl LE h1 nx1 := ⟨n1, (fr 32 (by decide) rfl).trans hc.h32, (fr 33 (by decide) rfl).trans hc.h33, (fr 34 (by decide) rfl).trans hc.h34, (fr 35 (by decide) rfl).trans hc.h35, (fr 36 (by decide) rfl).trans hc.h36, (fr 37 (by decide) rfl).trans hc.h37, (fr 38 (by decide) rfl).trans hc.h38, (fr 39 (by decide) rfl).trans hc.h39, (fr 40 (by decide) rfl).trans hc.h40, g41, g42, g43, g44, g45, (fr 46 (by decide) rfl).trans hc.h46, (fr 47 (by decide) rfl).trans hc.h47, (fr 48 (by decide) rfl).trans hc.h48, (fr 49 (by decide) rfl).trans hc.h49, (fr 50 (by decide) rfl).trans hc.h50, (fr 51 (by decide) rfl).trans hc.h51, (fr 52 (by decide) rfl).trans hc.h52, (fr 53 (by decide) rfl).trans hc.h53, g54, g55, g56, g57, (fr 58 (by decide) rfl).trans hc.h58, (fr 59 (by decide) rfl).trans hc.h59, (fr 60 (by decide) rfl).trans hc.h60, (fr 61 (by decide) rfl).trans hc.h61, g62, (fr 63 (by decide) rfl).trans hc.h63, (fr 64 (by decide) rfl).trans hc.h64, (fr 65 (by decide) rfl).trans hc.h65, (fr 66 (by decide) rfl).trans hc.h66, (fr 67 (by decide) rfl).trans hc.h67, (fr 68 (by decide) rfl).trans hc.h68, (fr 69 (by decide) rfl).trans hc.h69, (fr 70 (by decide) rfl).trans hc.h70, hd1⟩
  have hr1 : HR ra rb rA J h1 := hr.up (fun j a b => fr j b (nc rfl a))
  refine ⟨rfl, n1, ⟨_, hr1.h72⟩, (eSem.toB (tX12_go_72 hG n1 hr1.h72 hr1.h79 hr1.h80 hr1.h81 hr1.h82 hr1.h83 hr1.h84 hr1.h85 hr1.h86 hr1.h87 (by simp only [w3, w4, ← s1]; exact e2))).mono ?_⟩
  rintro r2 h2 nx2 ⟨e0, rfl, rfl⟩
  have n2 : nx2 = nx1 := e0
  subst n2
  have hrel : REL (k + 1) (ua (ua (ua (ua ca 42 0 (gc0 y.2.2)) 54 1 (gtot y.2.2)) 56 1 (gnxt y.2.2)) 56 2 (gsiz y.2.2)) cb (uA (uA (uA (uA (uA (uA cA 41 (gA41 y.2.2)) 43 (gA43 y.2.2)) 44 (gA44 y.2.2)) 45 (gA45 y.2.2)) 55 (gA55 y.2.2)) 62 y.2.1) (grng y.2.2) (gSS y.2.2) nl (ua (ua (ua (ua (ua (ua ra 72 0 z.2.1) 72 29 z.2.2.1) 72 31 z.2.2.2.1) 72 38 z.2.2.2.2.1) 72 39 z.2.2.2.2.2.1) 72 40 z.2.2.2.2.2.2.1) rb (uA (uA (uA (uA (uA (uA (uA (uA rA 79 z.2.2.2.2.2.2.2.1) 81 z.2.2.2.2.2.2.2.2.1) 82 z.2.2.2.2.2.2.2.2.2.1) 83 z.2.2.2.2.2.2.2.2.2.2.1) 84 z.2.2.2.2.2.2.2.2.2.2.2.1) 85 z.2.2.2.2.2.2.2.2.2.2.2.2.1) 86 z.2.2.2.2.2.2.2.2.2.2.2.2.2.1) 87 z.2.2.2.2.2.2.2.2.2.2.2.2.2.2) := by
    obtain ⟨_, _, _, f4, f5, f6⟩ := e3
    exact ⟨W, H, n, hW, hH, hWH, ⟨w1, w2, w3, w4⟩, ⟨t1, t2, ht⟩, f5, f6, ⟨i1, i2'⟩, ⟨k1, k2⟩, f4, ⟨s1, s2⟩, hnl⟩
  refine ⟨by rw [e3.1], ⟨_, cb, _, grng y.2.2, gSS y.2.2, q6, nl, LE, (ua (ua (ua (ua (ua (ua ra 72 0 z.2.1) 72 29 z.2.2.1) 72 31 z.2.2.2.1) 72 38 z.2.2.2.2.1) 72 39 z.2.2.2.2.2.1) 72 40 z.2.2.2.2.2.2.1), rb, (uA (uA (uA (uA (uA (uA (uA (uA rA 79 z.2.2.2.2.2.2.2.1) 81 z.2.2.2.2.2.2.2.2.1) 82 z.2.2.2.2.2.2.2.2.2.1) 83 z.2.2.2.2.2.2.2.2.2.2.1) 84 z.2.2.2.2.2.2.2.2.2.2.2.1) 85 z.2.2.2.2.2.2.2.2.2.2.2.2.1) 86 z.2.2.2.2.2.2.2.2.2.2.2.2.2.1) 87 z.2.2.2.2.2.2.2.2.2.2.2.2.2.2), J, hc1.up (up_r rfl) n1 (e_dyn.up rfl hc1.dy), ⟨rfl, hr1.h73, hr1.h74, hr1.h75, hr1.h76, hr1.h77, hr1.h78, rfl, hr1.h80, rfl, rfl, rfl, rfl, rfl, rfl, rfl, hr1.h88, hr1.h89, hr1.h90, hr1.h91, hr1.h92, hr1.h93, hr1.h94, hr1.h95, hr1.h96, hr1.h97⟩, hrel⟩, (fr 98 (by decide) rfl)⟩
end TURNS
