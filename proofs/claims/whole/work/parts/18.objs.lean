abbrev o32 (x8 : Bool) (x10 : Bool) : eO := .inr (11, [.ref 33, .ref 35, .ref 39, .ref 46, .ref 53, .ref 54, .ref 56, .ref 58, .int (e_b x8), .ref 61, .int (e_b x10), .ref 62, .ref 63, .ref 64, .ref 66])
abbrev o33 (x1 : Int32) : eO := .inr (9, [.ref 34, .int x1])
abbrev o34 (f : Nat → Int32) : eO := .inl (.int, 300, .inl f)
abbrev o35 (x1 : Int32) (x2 : Int32) (x3 : Int32) (x4 : Int32) (x5 : Int32) (x7 : Bool) (x8 : Bool) (x9 : Bool) (x10 : Int32) : eO := .inr (5, [.ref 33, .int x1, .int x2, .int x3, .int x4, .int x5, .ref 36, .int (e_b x7), .int (e_b x8), .int (e_b x9), .int x10, .ref 37, .ref 38])
abbrev o36 (f : Nat → Int32) : eO := .inl (.int, 4, .inl f)
abbrev o37 (f : Nat → Int32) : eO := .inl (.int, 20, .inl f)
abbrev o38 (f : Nat → Int32) : eO := .inl (.int, 20, .inl f)
abbrev o39  : eO := .inr (1, [.ref 40, .ref 42, .ref 45])
abbrev o40 (x0 : Int32) (x1 : Int32) : eO := .inr (7, [.int x0, .int x1, .ref 41])
abbrev o41 (f : Nat → Int32) : eO := .inl (.int, 324, .inl f)
abbrev o42 (x0 : Int32) : eO := .inr (0, [.int x0, .ref 43, .ref 44])
abbrev o43 (f : Nat → Int32) : eO := .inl (.int, 24, .inl f)
abbrev o44 (f : Nat → Int32) : eO := .inl (.int, 24, .inl f)
abbrev o45 (f : Nat → Int32) : eO := .inl (.int, 3, .inl f)
abbrev o46  : eO := .inr (1, [.ref 47, .ref 49, .ref 52])
abbrev o47 (x0 : Int32) (x1 : Int32) : eO := .inr (7, [.int x0, .int x1, .ref 48])
abbrev o48 (f : Nat → Int32) : eO := .inl (.int, 324, .inl f)
abbrev o49 (x0 : Int32) : eO := .inr (0, [.int x0, .ref 50, .ref 51])
abbrev o50 (f : Nat → Int32) : eO := .inl (.int, 24, .inl f)
abbrev o51 (f : Nat → Int32) : eO := .inl (.int, 24, .inl f)
abbrev o52 (f : Nat → Int32) : eO := .inl (.int, 3, .inl f)
abbrev o53 (f : Nat → Int32) : eO := .inl (.int, 4, .inl f)
abbrev o54 (x1 : Int32) : eO := .inr (3, [.ref 55, .int x1])
abbrev o55 (f : Nat → Int32) : eO := .inl (.int, 160, .inl f)
abbrev o56 (x1 : Int32) (x2 : Int32) : eO := .inr (4, [.ref 57, .int x1, .int x2])
abbrev o57 (f : Nat → Option Nat) : eO := .inl (.object "SlipLattice$Snapshot", 20, .inr (.inr (.inr (.inr f))))
abbrev o58 (x2 : Int32) : eO := .inr (8, [.ref 59, .ref 60, .int x2])
abbrev o59 (f : Nat → Int32) : eO := .inl (.int, 324, .inl f)
abbrev o60 (f : Nat → Int32) : eO := .inl (.int, 160, .inl f)
abbrev o61 (f : Nat → Int32) : eO := .inl (.int, 5, .inl f)
abbrev o62 (f : Nat → Int32) : eO := .inl (.int, 4, .inl f)
abbrev o63 (x0 : Int32) (x1 : Int32) (x2 : Int32) (x3 : Int32) : eO := .inr (2, [.int x0, .int x1, .int x2, .int x3])
abbrev o64  : eO := .inr (10, [.ref 65])
abbrev o65 (f : Nat → Int32) : eO := .inl (.int, 162, .inl f)
abbrev o66 (x0 : Int32) (x4 : Int32) (x6 : Nat) : eO := .inr (6, [.int x0, .ref 67, .ref 68, .ref 69, .int x4, .ref 70, .ref x6])
abbrev o67 (f : Nat → Int32) : eO := .inl (.int, 12, .inl f)
abbrev o68 (f : Nat → Int32) : eO := .inl (.int, 12, .inl f)
abbrev o69 (f : Nat → Int32) : eO := .inl (.int, 12, .inl f)
abbrev o70 (f : Nat → Int32) : eO := .inl (.int, 144, .inl f)
abbrev o71 (f : Nat → Int32) : eO := .inl (.int, 1, .inl f)
abbrev o72 (x0 : Int32) (x2 : Int32) (x3 : Int32) (x4 : Int32) (x5 : Int32) (x6 : Int32) (x7 : Int32) (x8 : Bool) (x9 : Int32) (x10 : Int32) (x11 : Int32) (x17 : Bool) (x18 : Bool) (x19 : Bool) (x21 : Int32) (x22 : Int32) (x29 : Int32) (x31 : Int32) (x35 : Int32) (x37 : Bool) (x38 : Int32) (x39 : Int32) (x40 : Int32) (x41 : Int64) (x44 : Int32) (x50 : Bool) : eO := .inr (12, [.int x0, .ref 73, .int x2, .int x3, .int x4, .int x5, .int x6, .int x7, .int (e_b x8), .int x9, .int x10, .int x11, .ref 74, .ref 75, .ref 76, .ref 77, .ref 78, .int (e_b x17), .int (e_b x18), .int (e_b x19), .ref 79, .int x21, .int x22, .ref 80, .ref 81, .ref 82, .ref 83, .ref 84, .ref 85, .int x29, .ref 86, .int x31, .ref 87, .ref 88, .ref 89, .int x35, .ref 90, .int (e_b x37), .int x38, .int x39, .int x40, .long x41, .ref 91, .ref 92, .int x44, .ref 93, .ref 94, .ref 95, .ref 96, .ref 97, .int (e_b x50)])
abbrev o73 (f : Nat → Int32) : eO := .inl (.int, 300, .inl f)
abbrev o74 (f : Nat → Int32) : eO := .inl (.int, 10, .inl f)
abbrev o75 (f : Nat → Int32) : eO := .inl (.int, 10, .inl f)
abbrev o76 (f : Nat → Int32) : eO := .inl (.int, 10, .inl f)
abbrev o77 (f : Nat → Int32) : eO := .inl (.int, 10, .inl f)
abbrev o78 (f : Nat → Int32) : eO := .inl (.int, 4, .inl f)
abbrev o79 (f : Nat → Int32) : eO := .inl (.int, 486, .inl f)
abbrev o80 (f : Nat → Int32) : eO := .inl (.int, 4, .inl f)
abbrev o81 (f : Nat → Int32) : eO := .inl (.int, 64, .inl f)
abbrev o82 (f : Nat → Int32) : eO := .inl (.int, 64, .inl f)
abbrev o83 (f : Nat → Int32) : eO := .inl (.int, 64, .inl f)
abbrev o84 (f : Nat → Int32) : eO := .inl (.int, 64, .inl f)
abbrev o85 (f : Nat → Int32) : eO := .inl (.int, 64, .inl f)
abbrev o86 (f : Nat → Int32) : eO := .inl (.int, 9720, .inl f)
abbrev o87 (f : Nat → Int32) : eO := .inl (.int, 4, .inl f)
abbrev o88 (f : Nat → Int32) : eO := .inl (.boolean, 162, .inl f)
abbrev o89 (f : Nat → Int32) : eO := .inl (.int, 72, .inl f)
abbrev o90 (f : Nat → Int32) : eO := .inl (.int, 5, .inl f)
abbrev o91 (f : Nat → Int32) : eO := .inl (.int, 162, .inl f)
abbrev o92 (f : Nat → Int32) : eO := .inl (.int, 162, .inl f)
abbrev o93 (f : Nat → Int32) : eO := .inl (.int, 4096, .inl f)
abbrev o94 (f : Nat → Int32) : eO := .inl (.int, 4096, .inl f)
abbrev o95 (f : Nat → Int32) : eO := .inl (.int, 12, .inl f)
abbrev o96 (f : Nat → Int32) : eO := .inl (.int, 486, .inl f)
abbrev o97 (f : Nat → Int32) : eO := .inl (.int, 486, .inl f)
abbrev o98 (f : Nat → Int64) : eO := .inl (.long, 1, .inr (.inl f))
def sA0 : Nat → Int32 := fun j => ([-20, -20, 0, 0] : List Int32).getD j 0
def sA1 : Nat → Int32 := fun j => ([20, 20, 99, 2] : List Int32).getD j 0
def sA2 : Nat → Int32 := fun j => ([0, 0, 10, 0] : List Int32).getD j 0
def sA3 : Nat → Int32 := fun j => ([1, 0, -1, 0] : List Int32).getD j 0
def sA4 : Nat → Int32 := fun j => ([0, 1, 0, -1] : List Int32).getD j 0
def sB0 : Nat → Int32 := fun j => ([115, 105, 122, 101] : List Int32).getD j 0
def sB1 : Nat → Int32 := fun j => ([99, 111, 114, 101] : List Int32).getD j 0
def sB2 : Nat → Int32 := fun j => ([115, 116, 114, 101, 115, 115] : List Int32).getD j 0
def sB3 : Nat → Int32 := fun j => ([104, 111, 108, 100] : List Int32).getD j 0
def sB4 : Nat → Int32 := fun j => ([114, 117, 108, 101] : List Int32).getD j 0
def e_GS (G : eG) : Prop := e_stat G 0 = some (.int, 4, sA0) ∧ e_stat G 1 = some (.int, 4, sA1) ∧ e_stat G 2 = some (.int, 4, sA2) ∧ e_stat G 3 = some (.int, 4, sA3) ∧ e_stat G 4 = some (.int, 4, sA4) ∧ e_stat G 16 = some (.byte, 4, sB0) ∧ e_stat G 17 = some (.byte, 4, sB1) ∧ e_stat G 18 = some (.byte, 6, sB2) ∧ e_stat G 19 = some (.byte, 4, sB3) ∧ e_stat G 20 = some (.byte, 4, sB4)
theorem e_GS.s0 {G : eG} (h : e_GS G) : e_stat G 0 = some (.int, 4, sA0) := h.1
theorem e_GS.s1 {G : eG} (h : e_GS G) : e_stat G 1 = some (.int, 4, sA1) := h.2.1
theorem e_GS.s2 {G : eG} (h : e_GS G) : e_stat G 2 = some (.int, 4, sA2) := h.2.2.1
theorem e_GS.s3 {G : eG} (h : e_GS G) : e_stat G 3 = some (.int, 4, sA3) := h.2.2.2.1
theorem e_GS.s4 {G : eG} (h : e_GS G) : e_stat G 4 = some (.int, 4, sA4) := h.2.2.2.2.1
theorem e_GS.s16 {G : eG} (h : e_GS G) : e_stat G 16 = some (.byte, 4, sB0) := h.2.2.2.2.2.1
theorem e_GS.s17 {G : eG} (h : e_GS G) : e_stat G 17 = some (.byte, 4, sB1) := h.2.2.2.2.2.2.1
theorem e_GS.s18 {G : eG} (h : e_GS G) : e_stat G 18 = some (.byte, 6, sB2) := h.2.2.2.2.2.2.2.1
theorem e_GS.s19 {G : eG} (h : e_GS G) : e_stat G 19 = some (.byte, 4, sB3) := h.2.2.2.2.2.2.2.2.1
theorem e_GS.s20 {G : eG} (h : e_GS G) : e_stat G 20 = some (.byte, 4, sB4) := h.2.2.2.2.2.2.2.2.2
theorem e_i32 {x : Int32} {n : Nat} (hn : n < 2147483648) (h : ¬ x = Int32.ofNat n) : x.toInt ≠ (n : Int) := by
  intro q
  apply h
  apply Int32.toInt_inj.mp
  rw [q, Int32.toInt_ofNat_of_lt (by omega)]
theorem e_out3 {x : Int32} (h0 : ¬ x = 0) (h1 : ¬ x = 1) (h2 : ¬ x = 2) : x.toInt < 0 ∨ 2 < x.toInt := by
  have g0 : x.toInt ≠ (0 : Int) := e_i32 (n := 0) (by decide) h0
  have g1 : x.toInt ≠ (1 : Int) := e_i32 (n := 1) (by decide) h1
  have g2 : x.toInt ≠ (2 : Int) := e_i32 (n := 2) (by decide) h2
  omega
theorem e_out4 {x : Int32} (h0 : ¬ x = 0) (h1 : ¬ x = 1) (h2 : ¬ x = 2) (h3 : ¬ x = 3) : x.toInt < 0 ∨ 3 < x.toInt := by
  have g0 : x.toInt ≠ (0 : Int) := e_i32 (n := 0) (by decide) h0
  have g1 : x.toInt ≠ (1 : Int) := e_i32 (n := 1) (by decide) h1
  have g2 : x.toInt ≠ (2 : Int) := e_i32 (n := 2) (by decide) h2
  have g3 : x.toInt ≠ (3 : Int) := e_i32 (n := 3) (by decide) h3
  omega
theorem e_out5 {x : Int32} (h0 : ¬ x = 0) (h1 : ¬ x = 1) (h2 : ¬ x = 2) (h3 : ¬ x = 3) (h4 : ¬ x = 4) : x.toInt < 0 ∨ 4 < x.toInt := by
  have g0 : x.toInt ≠ (0 : Int) := e_i32 (n := 0) (by decide) h0
  have g1 : x.toInt ≠ (1 : Int) := e_i32 (n := 1) (by decide) h1
  have g2 : x.toInt ≠ (2 : Int) := e_i32 (n := 2) (by decide) h2
  have g3 : x.toInt ≠ (3 : Int) := e_i32 (n := 3) (by decide) h3
  have g4 : x.toInt ≠ (4 : Int) := e_i32 (n := 4) (by decide) h4
  omega
theorem e_out8 {x : Int32} (h0 : ¬ x = 0) (h1 : ¬ x = 1) (h2 : ¬ x = 2) (h3 : ¬ x = 3) (h4 : ¬ x = 4) (h5 : ¬ x = 5) (h6 : ¬ x = 6) (h7 : ¬ x = 7) : x.toInt < 0 ∨ 7 < x.toInt := by
  have g0 : x.toInt ≠ (0 : Int) := e_i32 (n := 0) (by decide) h0
  have g1 : x.toInt ≠ (1 : Int) := e_i32 (n := 1) (by decide) h1
  have g2 : x.toInt ≠ (2 : Int) := e_i32 (n := 2) (by decide) h2
  have g3 : x.toInt ≠ (3 : Int) := e_i32 (n := 3) (by decide) h3
  have g4 : x.toInt ≠ (4 : Int) := e_i32 (n := 4) (by decide) h4
  have g5 : x.toInt ≠ (5 : Int) := e_i32 (n := 5) (by decide) h5
  have g6 : x.toInt ≠ (6 : Int) := e_i32 (n := 6) (by decide) h6
  have g7 : x.toInt ≠ (7 : Int) := e_i32 (n := 7) (by decide) h7
  omega
theorem e_out14 {x : Int32} (h0 : ¬ x = 0) (h1 : ¬ x = 1) (h2 : ¬ x = 2) (h3 : ¬ x = 3) (h4 : ¬ x = 4) (h5 : ¬ x = 5) (h6 : ¬ x = 6) (h7 : ¬ x = 7) (h8 : ¬ x = 8) (h9 : ¬ x = 9) (h10 : ¬ x = 10) (h11 : ¬ x = 11) (h12 : ¬ x = 12) (h13 : ¬ x = 13) : x.toInt < 0 ∨ 13 < x.toInt := by
  have g0 : x.toInt ≠ (0 : Int) := e_i32 (n := 0) (by decide) h0
  have g1 : x.toInt ≠ (1 : Int) := e_i32 (n := 1) (by decide) h1
  have g2 : x.toInt ≠ (2 : Int) := e_i32 (n := 2) (by decide) h2
  have g3 : x.toInt ≠ (3 : Int) := e_i32 (n := 3) (by decide) h3
  have g4 : x.toInt ≠ (4 : Int) := e_i32 (n := 4) (by decide) h4
  have g5 : x.toInt ≠ (5 : Int) := e_i32 (n := 5) (by decide) h5
  have g6 : x.toInt ≠ (6 : Int) := e_i32 (n := 6) (by decide) h6
  have g7 : x.toInt ≠ (7 : Int) := e_i32 (n := 7) (by decide) h7
  have g8 : x.toInt ≠ (8 : Int) := e_i32 (n := 8) (by decide) h8
  have g9 : x.toInt ≠ (9 : Int) := e_i32 (n := 9) (by decide) h9
  have g10 : x.toInt ≠ (10 : Int) := e_i32 (n := 10) (by decide) h10
  have g11 : x.toInt ≠ (11 : Int) := e_i32 (n := 11) (by decide) h11
  have g12 : x.toInt ≠ (12 : Int) := e_i32 (n := 12) (by decide) h12
  have g13 : x.toInt ≠ (13 : Int) := e_i32 (n := 13) (by decide) h13
  omega
theorem e_ls0_4_5 {x : Int32} {o0 o1 o2 d : Int} (h0 : ¬ x = 0) (h1 : ¬ x = 4) (h2 : ¬ x = 5) : Op.lookupswitch.offset [(0, o0), (4, o1), (5, o2)] d x.toInt = d := by
  have g0 : x.toInt ≠ (0 : Int) := e_i32 (n := 0) (by decide) h0
  have g1 : x.toInt ≠ (4 : Int) := e_i32 (n := 4) (by decide) h1
  have g2 : x.toInt ≠ (5 : Int) := e_i32 (n := 5) (by decide) h2
  simp [Op.lookupswitch.offset, g0, Ne.symm g0, g1, Ne.symm g1, g2, Ne.symm g2]
theorem e_ls100_108_114_117 {x : Int32} {o0 o1 o2 o3 d : Int} (h0 : ¬ x = 100) (h1 : ¬ x = 108) (h2 : ¬ x = 114) (h3 : ¬ x = 117) : Op.lookupswitch.offset [(100, o0), (108, o1), (114, o2), (117, o3)] d x.toInt = d := by
  have g0 : x.toInt ≠ (100 : Int) := e_i32 (n := 100) (by decide) h0
  have g1 : x.toInt ≠ (108 : Int) := e_i32 (n := 108) (by decide) h1
  have g2 : x.toInt ≠ (114 : Int) := e_i32 (n := 114) (by decide) h2
  have g3 : x.toInt ≠ (117 : Int) := e_i32 (n := 117) (by decide) h3
  simp [Op.lookupswitch.offset, g0, Ne.symm g0, g1, Ne.symm g1, g2, Ne.symm g2, g3, Ne.symm g3]
def e_nar (ty : FieldType) (v : Int32) : Bool := decide (narrow ty (.int v) = .int v)
abbrev iA (n : Nat) (f : Nat → Int32) : eO := .inl (.int, n, .inl f)
theorem e_upq {h : Nat → eO} {q : Nat} {l : List (Nat × eO)} (hq : q = 71 ∨ 99 ≤ q) (hl : l.all (fun p => Nat.blt p.1 99 && !(Nat.beq p.1 71)) = true) : e_up h l q = h q := by
  induction l with
  | nil => rfl
  | cons p l ih =>
    obtain ⟨j, o⟩ := p
    simp only [List.all_cons, Bool.and_eq_true, Bool.not_eq_true'] at hl
    have h1 : j < 99 := Nat.blt_eq.mp hl.1.1
    have h2 : j ≠ q := by
      rintro rfl
      rcases hq with hq | hq
      · rw [hq] at hl; exact absurd hl.1.2 (by decide)
      · omega
    simp only [e_up, e_bf h2, cond_false]
    exact ih hl.2
theorem e_q32 {q : Nat} (hq : q = 71 ∨ 99 ≤ q) : 32 ≤ q := by omega
section WR
variable {G : eG} {X : eX} {pc nx c sl : Nat} {L : List (Option Value)} {S : List Value} {h : Nat → eO} {l : List (Nat × eO)}
theorem r_wr {r l' : List (Nat × eO)} (ha : e_asc r = true) (hm : e_mrg l r = l') (k : eRun G X pc L S h l' nx c sl) : eRun G X pc L S (e_up (e_up h l) r) [] nx c sl := by
  refine r_pic2 (h' := h) (l' := l') ?_ k
  exact (e_up_up h ha hm).symm
theorem r_wr0 (k : eRun G X pc L S h l nx c sl) : eRun G X pc L S (e_up h l) [] nx c sl := k
end WR
