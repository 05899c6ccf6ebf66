/-! ===== the state of the law ===== -/
def ua {α : Type} (a : Nat → Nat → α) (i j : Nat) (v : α) : Nat → Nat → α := fun x y => bif Nat.beq x i && Nat.beq y j then v else a x y
def uA {α : Type} (A : Nat → α) (i : Nat) (v : α) : Nat → α := fun x => bif Nat.beq x i then v else A x
def HC (ca : Nat → Nat → Int32) (cb : Nat → Nat → Bool) (cA : Nat → Nat → Int32) (ring : Nat → Option Nat) (SS : eSS) (q6 nl : Nat) (LE : Nat → Int32) (h : Nat → eO) (nx : Nat) : Prop := 99 ≤ nx ∧ h 32 = o32 (cb 32 8) (cb 32 10) ∧ h 33 = o33 (ca 33 1) ∧ h 34 = o34 (cA 34) ∧ h 35 = o35 (ca 35 1) (ca 35 2) (ca 35 3) (ca 35 4) (ca 35 5) (cb 35 7) (cb 35 8) (cb 35 9) (ca 35 10) ∧ h 36 = o36 (cA 36) ∧ h 37 = o37 (cA 37) ∧ h 38 = o38 (cA 38) ∧ h 39 = o39 ∧ h 40 = o40 (ca 40 0) (ca 40 1) ∧ h 41 = o41 (cA 41) ∧ h 42 = o42 (ca 42 0) ∧ h 43 = o43 (cA 43) ∧ h 44 = o44 (cA 44) ∧ h 45 = o45 (cA 45) ∧ h 46 = o46 ∧ h 47 = o47 (ca 47 0) (ca 47 1) ∧ h 48 = o48 (cA 48) ∧ h 49 = o49 (ca 49 0) ∧ h 50 = o50 (cA 50) ∧ h 51 = o51 (cA 51) ∧ h 52 = o52 (cA 52) ∧ h 53 = o53 (cA 53) ∧ h 54 = o54 (ca 54 1) ∧ h 55 = o55 (cA 55) ∧ h 56 = o56 (ca 56 1) (ca 56 2) ∧ h 57 = o57 ring ∧ h 58 = o58 (ca 58 2) ∧ h 59 = o59 (cA 59) ∧ h 60 = o60 (cA 60) ∧ h 61 = o61 (cA 61) ∧ h 62 = o62 (cA 62) ∧ h 63 = o63 (ca 63 0) (ca 63 1) (ca 63 2) (ca 63 3) ∧ h 64 = o64 ∧ h 65 = o65 (cA 65) ∧ h 66 = o66 (ca 66 0) (ca 66 4) q6 ∧ h 67 = o67 (cA 67) ∧ h 68 = o68 (cA 68) ∧ h 69 = o69 (cA 69) ∧ h 70 = o70 (cA 70) ∧ e_dyn h nx ring SS q6 nl LE
def HR (ra : Nat → Nat → Int32) (rb : Nat → Nat → Bool) (rA : Nat → Nat → Int32) (J : Int64) (h : Nat → eO) : Prop := h 72 = o72 (ra 72 0) (ra 72 2) (ra 72 3) (ra 72 4) (ra 72 5) (ra 72 6) (ra 72 7) (rb 72 8) (ra 72 9) (ra 72 10) (ra 72 11) (rb 72 17) (rb 72 18) (rb 72 19) (ra 72 21) (ra 72 22) (ra 72 29) (ra 72 31) (ra 72 35) (rb 72 37) (ra 72 38) (ra 72 39) (ra 72 40) J (ra 72 44) (rb 72 50) ∧ h 73 = o73 (rA 73) ∧ h 74 = o74 (rA 74) ∧ h 75 = o75 (rA 75) ∧ h 76 = o76 (rA 76) ∧ h 77 = o77 (rA 77) ∧ h 78 = o78 (rA 78) ∧ h 79 = o79 (rA 79) ∧ h 80 = o80 (rA 80) ∧ h 81 = o81 (rA 81) ∧ h 82 = o82 (rA 82) ∧ h 83 = o83 (rA 83) ∧ h 84 = o84 (rA 84) ∧ h 85 = o85 (rA 85) ∧ h 86 = o86 (rA 86) ∧ h 87 = o87 (rA 87) ∧ h 88 = o88 (rA 88) ∧ h 89 = o89 (rA 89) ∧ h 90 = o90 (rA 90) ∧ h 91 = o91 (rA 91) ∧ h 92 = o92 (rA 92) ∧ h 93 = o93 (rA 93) ∧ h 94 = o94 (rA 94) ∧ h 95 = o95 (rA 95) ∧ h 96 = o96 (rA 96) ∧ h 97 = o97 (rA 97)
section HCR
variable {ca : Nat → Nat → Int32} {cb : Nat → Nat → Bool} {cA : Nat → Nat → Int32} {ring : Nat → Option Nat} {SS : eSS} {q6 nl : Nat} {LE : Nat → Int32} {ra : Nat → Nat → Int32} {rb : Nat → Nat → Bool} {rA : Nat → Nat → Int32} {J : Int64} {h : Nat → eO} {nx : Nat}
theorem HC.nx9 (q : HC ca cb cA ring SS q6 nl LE h nx) : 99 ≤ nx := q.1
theorem HC.h32 (q : HC ca cb cA ring SS q6 nl LE h nx) : h 32 = o32 (cb 32 8) (cb 32 10) := q.2.1
theorem HC.h33 (q : HC ca cb cA ring SS q6 nl LE h nx) : h 33 = o33 (ca 33 1) := q.2.2.1
theorem HC.h34 (q : HC ca cb cA ring SS q6 nl LE h nx) : h 34 = o34 (cA 34) := q.2.2.2.1
theorem HC.h35 (q : HC ca cb cA ring SS q6 nl LE h nx) : h 35 = o35 (ca 35 1) (ca 35 2) (ca 35 3) (ca 35 4) (ca 35 5) (cb 35 7) (cb 35 8) (cb 35 9) (ca 35 10) := q.2.2.2.2.1
theorem HC.h36 (q : HC ca cb cA ring SS q6 nl LE h nx) : h 36 = o36 (cA 36) := q.2.2.2.2.2.1
theorem HC.h37 (q : HC ca cb cA ring SS q6 nl LE h nx) : h 37 = o37 (cA 37) := q.2.2.2.2.2.2.1
theorem HC.h38 (q : HC ca cb cA ring SS q6 nl LE h nx) : h 38 = o38 (cA 38) := q.2.2.2.2.2.2.2.1
theorem HC.h39 (q : HC ca cb cA ring SS q6 nl LE h nx) : h 39 = o39 := q.2.2.2.2.2.2.2.2.1
theorem HC.h40 (q : HC ca cb cA ring SS q6 nl LE h nx) : h 40 = o40 (ca 40 0) (ca 40 1) := q.2.2.2.2.2.2.2.2.2.1
theorem HC.h41 (q : HC ca cb cA ring SS q6 nl LE h nx) : h 41 = o41 (cA 41) := q.2.2.2.2.2.2.2.2.2.2.1
theorem HC.h42 (q : HC ca cb cA ring SS q6 nl LE h nx) : h 42 = o42 (ca 42 0) := q.2.2.2.2.2.2.2.2.2.2.2.1
theorem HC.h43 (q : HC ca cb cA ring SS q6 nl LE h nx) : h 43 = o43 (cA 43) := q.2.2.2.2.2.2.2.2.2.2.2.2.1
theorem HC.h44 (q : HC ca cb cA ring SS q6 nl LE h nx) : h 44 = o44 (cA 44) := q.2.2.2.2.2.2.2.2.2.2.2.2.2.1
theorem HC.h45 (q : HC ca cb cA ring SS q6 nl LE h nx) : h 45 = o45 (cA 45) := q.2.2.2.2.2.2.2.2.2.2.2.2.2.2.1
theorem HC.h46 (q : HC ca cb cA ring SS q6 nl LE h nx) : h 46 = o46 := q.2.2.2.2.2.2.2.2.2.2.2.2.2.2.2.1
theorem HC.h47 (q : HC ca cb cA ring SS q6 nl LE h nx) : h 47 = o47 (ca 47 0) (ca 47 1) := q.2.2.2.2.2.2.2.2.2.2.2.2.2.2.2.2.1
theorem HC.h48 (q : HC ca cb cA ring SS q6 nl LE h nx) : h 48 = o48 (cA 48) := q.2.2.2.2.2.2.2.2.2.2.2.2.2.2.2.2.2.1
theorem HC.h49 (q : HC ca cb cA ring SS q6 nl LE h nx) : h 49 = o49 (ca 49 0) := q.2.2.2.2.2.2.2.2.2.2.2.2.2.2.2.2.2.2.1
theorem HC.h50 (q : HC ca cb cA ring SS q6 nl LE h nx) : h 50 = o50 (cA 50) := q.2.2.2.2.2.2.2.2.2.2.2.2.2.2.2.2.2.2.2.1
theorem HC.h51 (q : HC ca cb cA ring SS q6 nl LE h nx) : h 51 = o51 (cA 51) := q.2.2.2.2.2.2.2.2.2.2.2.2.2.2.2.2.2.2.2.2.1
theorem HC.h52 (q : HC ca cb cA ring SS q6 nl LE h nx) : h 52 = o52 (cA 52) := q.2.2.2.2.2.2.2.2.2.2.2.2.2.2.2.2.2.2.2.2.2.1
theorem HC.h53 (q : HC ca cb cA ring SS q6 nl LE h nx) : h 53 = o53 (cA 53) := q.2.2.2.2.2.2.2.2.2.2.2.2.2.2.2.2.2.2.2.2.2.2.1
theorem HC.h54 (q : HC ca cb cA ring SS q6 nl LE h nx) : h 54 = o54 (ca 54 1) := q.2.2.2.2.2.2.2.2.2.2.2.2.2.2.2.2.2.2.2.2.2.2.2.1
theorem HC.h55 (q : HC ca cb cA ring SS q6 nl LE h nx) : h 55 = o55 (cA 55) := q.2.2.2.2.2.2.2.2.2.2.2.2.2.2.2.2.2.2.2.2.2.2.2.2.1
theorem HC.h56 (q : HC ca cb cA ring SS q6 nl LE h nx) : h 56 = o56 (ca 56 1) (ca 56 2) := q.2.2.2.2.2.2.2.2.2.2.2.2.2.2.2.2.2.2.2.2.2.2.2.2.2.1
theorem HC.h57 (q : HC ca cb cA ring SS q6 nl LE h nx) : h 57 = o57 ring := q.2.2.2.2.2.2.2.2.2.2.2.2.2.2.2.2.2.2.2.2.2.2.2.2.2.2.1
theorem HC.h58 (q : HC ca cb cA ring SS q6 nl LE h nx) : h 58 = o58 (ca 58 2) := q.2.2.2.2.2.2.2.2.2.2.2.2.2.2.2.2.2.2.2.2.2.2.2.2.2.2.2.1
theorem HC.h59 (q : HC ca cb cA ring SS q6 nl LE h nx) : h 59 = o59 (cA 59) := q.2.2.2.2.2.2.2.2.2.2.2.2.2.2.2.2.2.2.2.2.2.2.2.2.2.2.2.2.1
theorem HC.h60 (q : HC ca cb cA ring SS q6 nl LE h nx) : h 60 = o60 (cA 60) := q.2.2.2.2.2.2.2.2.2.2.2.2.2.2.2.2.2.2.2.2.2.2.2.2.2.2.2.2.2.1
theorem HC.h61 (q : HC ca cb cA ring SS q6 nl LE h nx) : h 61 = o61 (cA 61) := q.2.2.2.2.2.2.2.2.2.2.2.2.2.2.2.2.2.2.2.2.2.2.2.2.2.2.2.2.2.2.1
theorem HC.h62 (q : HC ca cb cA ring SS q6 nl LE h nx) : h 62 = o62 (cA 62) := q.2.2.2.2.2.2.2.2.2.2.2.2.2.2.2.2.2.2.2.2.2.2.2.2.2.2.2.2.2.2.2.1
theorem HC.h63 (q : HC ca cb cA ring SS q6 nl LE h nx) : h 63 = o63 (ca 63 0) (ca 63 1) (ca 63 2) (ca 63 3) := q.2.2.2.2.2.2.2.2.2.2.2.2.2.2.2.2.2.2.2.2.2.2.2.2.2.2.2.2.2.2.2.2.1
theorem HC.h64 (q : HC ca cb cA ring SS q6 nl LE h nx) : h 64 = o64 := q.2.2.2.2.2.2.2.2.2.2.2.2.2.2.2.2.2.2.2.2.2.2.2.2.2.2.2.2.2.2.2.2.2.1
theorem HC.h65 (q : HC ca cb cA ring SS q6 nl LE h nx) : h 65 = o65 (cA 65) := q.2.2.2.2.2.2.2.2.2.2.2.2.2.2.2.2.2.2.2.2.2.2.2.2.2.2.2.2.2.2.2.2.2.2.1
theorem HC.h66 (q : HC ca cb cA ring SS q6 nl LE h nx) : h 66 = o66 (ca 66 0) (ca 66 4) q6 := q.2.2.2.2.2.2.2.2.2.2.2.2.2.2.2.2.2.2.2.2.2.2.2.2.2.2.2.2.2.2.2.2.2.2.2.1
theorem HC.h67 (q : HC ca cb cA ring SS q6 nl LE h nx) : h 67 = o67 (cA 67) := q.2.2.2.2.2.2.2.2.2.2.2.2.2.2.2.2.2.2.2.2.2.2.2.2.2.2.2.2.2.2.2.2.2.2.2.2.1
theorem HC.h68 (q : HC ca cb cA ring SS q6 nl LE h nx) : h 68 = o68 (cA 68) := q.2.2.2.2.2.2.2.2.2.2.2.2.2.2.2.2.2.2.2.2.2.2.2.2.2.2.2.2.2.2.2.2.2.2.2.2.2.1
theorem HC.h69 (q : HC ca cb cA ring SS q6 nl LE h nx) : h 69 = o69 (cA 69) := q.2.2.2.2.2.2.2.2.2.2.2.2.2.2.2.2.2.2.2.2.2.2.2.2.2.2.2.2.2.2.2.2.2.2.2.2.2.2.1
theorem HC.h70 (q : HC ca cb cA ring SS q6 nl LE h nx) : h 70 = o70 (cA 70) := q.2.2.2.2.2.2.2.2.2.2.2.2.2.2.2.2.2.2.2.2.2.2.2.2.2.2.2.2.2.2.2.2.2.2.2.2.2.2.2.1
theorem HC.dy (q : HC ca cb cA ring SS q6 nl LE h nx) : e_dyn h nx ring SS q6 nl LE := q.2.2.2.2.2.2.2.2.2.2.2.2.2.2.2.2.2.2.2.2.2.2.2.2.2.2.2.2.2.2.2.2.2.2.2.2.2.2.2.2
theorem HR.h72 (q : HR ra rb rA J h) : h 72 = o72 (ra 72 0) (ra 72 2) (ra 72 3) (ra 72 4) (ra 72 5) (ra 72 6) (ra 72 7) (rb 72 8) (ra 72 9) (ra 72 10) (ra 72 11) (rb 72 17) (rb 72 18) (rb 72 19) (ra 72 21) (ra 72 22) (ra 72 29) (ra 72 31) (ra 72 35) (rb 72 37) (ra 72 38) (ra 72 39) (ra 72 40) J (ra 72 44) (rb 72 50) := q.1
theorem HR.h73 (q : HR ra rb rA J h) : h 73 = o73 (rA 73) := q.2.1
theorem HR.h74 (q : HR ra rb rA J h) : h 74 = o74 (rA 74) := q.2.2.1
theorem HR.h75 (q : HR ra rb rA J h) : h 75 = o75 (rA 75) := q.2.2.2.1
theorem HR.h76 (q : HR ra rb rA J h) : h 76 = o76 (rA 76) := q.2.2.2.2.1
theorem HR.h77 (q : HR ra rb rA J h) : h 77 = o77 (rA 77) := q.2.2.2.2.2.1
theorem HR.h78 (q : HR ra rb rA J h) : h 78 = o78 (rA 78) := q.2.2.2.2.2.2.1
theorem HR.h79 (q : HR ra rb rA J h) : h 79 = o79 (rA 79) := q.2.2.2.2.2.2.2.1
theorem HR.h80 (q : HR ra rb rA J h) : h 80 = o80 (rA 80) := q.2.2.2.2.2.2.2.2.1
theorem HR.h81 (q : HR ra rb rA J h) : h 81 = o81 (rA 81) := q.2.2.2.2.2.2.2.2.2.1
theorem HR.h82 (q : HR ra rb rA J h) : h 82 = o82 (rA 82) := q.2.2.2.2.2.2.2.2.2.2.1
theorem HR.h83 (q : HR ra rb rA J h) : h 83 = o83 (rA 83) := q.2.2.2.2.2.2.2.2.2.2.2.1
theorem HR.h84 (q : HR ra rb rA J h) : h 84 = o84 (rA 84) := q.2.2.2.2.2.2.2.2.2.2.2.2.1
theorem HR.h85 (q : HR ra rb rA J h) : h 85 = o85 (rA 85) := q.2.2.2.2.2.2.2.2.2.2.2.2.2.1
theorem HR.h86 (q : HR ra rb rA J h) : h 86 = o86 (rA 86) := q.2.2.2.2.2.2.2.2.2.2.2.2.2.2.1
theorem HR.h87 (q : HR ra rb rA J h) : h 87 = o87 (rA 87) := q.2.2.2.2.2.2.2.2.2.2.2.2.2.2.2.1
theorem HR.h88 (q : HR ra rb rA J h) : h 88 = o88 (rA 88) := q.2.2.2.2.2.2.2.2.2.2.2.2.2.2.2.2.1
theorem HR.h89 (q : HR ra rb rA J h) : h 89 = o89 (rA 89) := q.2.2.2.2.2.2.2.2.2.2.2.2.2.2.2.2.2.1
theorem HR.h90 (q : HR ra rb rA J h) : h 90 = o90 (rA 90) := q.2.2.2.2.2.2.2.2.2.2.2.2.2.2.2.2.2.2.1
theorem HR.h91 (q : HR ra rb rA J h) : h 91 = o91 (rA 91) := q.2.2.2.2.2.2.2.2.2.2.2.2.2.2.2.2.2.2.2.1
theorem HR.h92 (q : HR ra rb rA J h) : h 92 = o92 (rA 92) := q.2.2.2.2.2.2.2.2.2.2.2.2.2.2.2.2.2.2.2.2.1
theorem HR.h93 (q : HR ra rb rA J h) : h 93 = o93 (rA 93) := q.2.2.2.2.2.2.2.2.2.2.2.2.2.2.2.2.2.2.2.2.2.1
theorem HR.h94 (q : HR ra rb rA J h) : h 94 = o94 (rA 94) := q.2.2.2.2.2.2.2.2.2.2.2.2.2.2.2.2.2.2.2.2.2.2.1
theorem HR.h95 (q : HR ra rb rA J h) : h 95 = o95 (rA 95) := q.2.2.2.2.2.2.2.2.2.2.2.2.2.2.2.2.2.2.2.2.2.2.2.1
theorem HR.h96 (q : HR ra rb rA J h) : h 96 = o96 (rA 96) := q.2.2.2.2.2.2.2.2.2.2.2.2.2.2.2.2.2.2.2.2.2.2.2.2.1
theorem HR.h97 (q : HR ra rb rA J h) : h 97 = o97 (rA 97) := q.2.2.2.2.2.2.2.2.2.2.2.2.2.2.2.2.2.2.2.2.2.2.2.2.2
theorem HC.up (q : HC ca cb cA ring SS q6 nl LE h nx) {h1 : Nat → eO} {nx1 : Nat} (e : ∀ k, k < 72 → h1 k = h k) (hn : 99 ≤ nx1) (hd : e_dyn h1 nx1 ring SS q6 nl LE) : HC ca cb cA ring SS q6 nl LE h1 nx1 :=
  ⟨hn, (e 32 (by decide)).trans q.h32, (e 33 (by decide)).trans q.h33, (e 34 (by decide)).trans q.h34, (e 35 (by decide)).trans q.h35, (e 36 (by decide)).trans q.h36, (e 37 (by decide)).trans q.h37, (e 38 (by decide)).trans q.h38, (e 39 (by decide)).trans q.h39, (e 40 (by decide)).trans q.h40, (e 41 (by decide)).trans q.h41, (e 42 (by decide)).trans q.h42, (e 43 (by decide)).trans q.h43, (e 44 (by decide)).trans q.h44, (e 45 (by decide)).trans q.h45, (e 46 (by decide)).trans q.h46, (e 47 (by decide)).trans q.h47, (e 48 (by decide)).trans q.h48, (e 49 (by decide)).trans q.h49, (e 50 (by decide)).trans q.h50, (e 51 (by decide)).trans q.h51, (e 52 (by decide)).trans q.h52, (e 53 (by decide)).trans q.h53, (e 54 (by decide)).trans q.h54, (e 55 (by decide)).trans q.h55, (e 56 (by decide)).trans q.h56, (e 57 (by decide)).trans q.h57, (e 58 (by decide)).trans q.h58, (e 59 (by decide)).trans q.h59, (e 60 (by decide)).trans q.h60, (e 61 (by decide)).trans q.h61, (e 62 (by decide)).trans q.h62, (e 63 (by decide)).trans q.h63, (e 64 (by decide)).trans q.h64, (e 65 (by decide)).trans q.h65, (e 66 (by decide)).trans q.h66, (e 67 (by decide)).trans q.h67, (e 68 (by decide)).trans q.h68, (e 69 (by decide)).trans q.h69, (e 70 (by decide)).trans q.h70, hd⟩
theorem HR.up (q : HR ra rb rA J h) {h1 : Nat → eO} (e : ∀ k, 72 ≤ k → k < 99 → h1 k = h k) : HR ra rb rA J h1 :=
  ⟨(e 72 (by decide) (by decide)).trans q.h72, (e 73 (by decide) (by decide)).trans q.h73, (e 74 (by decide) (by decide)).trans q.h74, (e 75 (by decide) (by decide)).trans q.h75, (e 76 (by decide) (by decide)).trans q.h76, (e 77 (by decide) (by decide)).trans q.h77, (e 78 (by decide) (by decide)).trans q.h78, (e 79 (by decide) (by decide)).trans q.h79, (e 80 (by decide) (by decide)).trans q.h80, (e 81 (by decide) (by decide)).trans q.h81, (e 82 (by decide) (by decide)).trans q.h82, (e 83 (by decide) (by decide)).trans q.h83, (e 84 (by decide) (by decide)).trans q.h84, (e 85 (by decide) (by decide)).trans q.h85, (e 86 (by decide) (by decide)).trans q.h86, (e 87 (by decide) (by decide)).trans q.h87, (e 88 (by decide) (by decide)).trans q.h88, (e 89 (by decide) (by decide)).trans q.h89, (e 90 (by decide) (by decide)).trans q.h90, (e 91 (by decide) (by decide)).trans q.h91, (e 92 (by decide) (by decide)).trans q.h92, (e 93 (by decide) (by decide)).trans q.h93, (e 94 (by decide) (by decide)).trans q.h94, (e 95 (by decide) (by decide)).trans q.h95, (e 96 (by decide) (by decide)).trans q.h96, (e 97 (by decide) (by decide)).trans q.h97⟩
end HCR
theorem eSem.toB {G : eG} {l : Launch} {M : eM} {As : List Value} {h : Nat → eO} {nx dc ds : Nat} {post : Option Value → (Nat → eO) → Prop} (s : eSem G l M As h nx dc ds post) : eSemB G l M As h nx dc ds (fun r h1 nx1 => nx1 = nx + dc ∧ post r h1) := by
  unfold eSem Met at s
  unfold eSemB Met
  refine MetFree.mono s (fun _ _ q => q) (fun _ _ _ _ _ q => q) ?_
  rintro a st o t _ ⟨⟨⟨r, h', e1, e2, e3⟩, hF⟩, hL⟩
  exact ⟨⟨⟨r, h', nx + dc, e1, ⟨rfl, e2⟩, e3⟩, hF⟩, hL⟩
theorem eSemB.mono {G : eG} {l : Launch} {M : eM} {As : List Value} {h : Nat → eO} {nx mc ms : Nat} {post post' : Option Value → (Nat → eO) → Nat → Prop} (s : eSemB G l M As h nx mc ms post) (k : ∀ r h1 nx1, post r h1 nx1 → post' r h1 nx1) : eSemB G l M As h nx mc ms post' := by
  unfold eSemB Met at s ⊢
  refine MetFree.mono s (fun _ _ q => q) (fun _ _ _ _ _ q => q) ?_
  rintro a st o t _ ⟨⟨⟨r, h', nx', e1, e2, e3⟩, hF⟩, hL⟩
  exact ⟨⟨⟨r, h', nx', e1, k _ _ _ e2, e3⟩, hF⟩, hL⟩
/-- what the class and the reference have in common after k calls -/
def REL (k : Nat) (ca : Nat → Nat → Int32) (cb : Nat → Nat → Bool) (cA : Nat → Nat → Int32) (ring : Nat → Option Nat) (SS : eSS) (nl : Nat) (ra : Nat → Nat → Int32) (rb : Nat → Nat → Bool) (rA : Nat → Nat → Int32) : Prop :=
  ∃ W H n, W ≤ 9 ∧ H ≤ 9 ∧ (W = 0 ∨ (2 ≤ W ∧ 2 ≤ H)) ∧ (ca 40 0 = nI W ∧ ca 40 1 = nI H ∧ ra 72 21 = nI W ∧ ra 72 22 = nI H) ∧ (ca 33 1 = nI n ∧ ra 72 2 = nI n ∧ tapR n (cA 34) (rA 73)) ∧
  nowR (40 * k) W H (cA 41) (cA 55) (cA 43) (cA 44) (ca 54 1) (ca 42 0) (rA 79) ∧ pastR (40 * k) W H ring SS (ca 56 1) (ca 56 2) (ra 72 31) (rA 86) ∧
  (cb 32 8 = rb 72 50 ∧ (cb 32 8 = true → sv (40 * k) W H (cA 59) (cA 60) (ca 58 2) (rA 97))) ∧ (cb 32 10 = rb 72 37 ∧ (cb 32 10 = true → ∀ j, j < 5 → cA 61 j = rA 90 j)) ∧ (∀ j, j < 4 → cA 62 j = rA 87 j) ∧ (cA 53 = rA 80 ∧ okSet (cA 53)) ∧ nl ≤ 4096
theorem REL.mono {k : Nat} {ca : Nat → Nat → Int32} {cb : Nat → Nat → Bool} {cA : Nat → Nat → Int32} {ring : Nat → Option Nat} {SS : eSS} {nl : Nat} {ra : Nat → Nat → Int32} {rb : Nat → Nat → Bool} {rA : Nat → Nat → Int32} (h : REL k ca cb cA ring SS nl ra rb rA) : REL (k + 1) ca cb cA ring SS nl ra rb rA := by
  obtain ⟨W, H, n, h1, h2, h3, h4, h5, h6, h7, h8, h9⟩ := h
  have e : 40 * k ≤ 40 * (k + 1) := by omega
  exact ⟨W, H, n, h1, h2, h3, h4, h5, ⟨h6.1.mono e, h6.2⟩, h7.mono e, ⟨h8.1, fun q => (h8.2 q).mono e⟩, h9⟩
def LwS (k : Nat) (h : Nat → eO) (nx : Nat) : Prop := ∃ ca cb cA ring SS q6 nl LE ra rb rA J, HC ca cb cA ring SS q6 nl LE h nx ∧ HR ra rb rA J h ∧ REL k ca cb cA ring SS nl ra rb rA
/-- a turn of the law: a call of the class, then the same of the reference -/
def TURN (k : Nat) (G : eG) (la : Launch) (M1 M2 : eM) (As : List Value) (h : Nat → eO) (nx : Nat) : Prop :=
  ∃ v mc ms, mc ≤ 60 ∧ ms ≤ 9740 ∧ eSemB G la M1 (.ref 32 :: As) h nx mc ms (fun r h1 nx1 => r = some (.int v) ∧ 99 ≤ nx1 ∧ (∃ fs, h1 72 = .inr (12, fs)) ∧ eSemB G la M2 (.ref 72 :: As) h1 nx1 0 0 (fun r2 h2 nx2 => r2 = some (.int v) ∧ LwS (k + 1) h2 nx2 ∧ h2 98 = h 98))
