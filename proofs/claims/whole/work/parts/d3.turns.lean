/-! ===== turns of the law ===== -/
section TURNS
variable {G : eG} {la : Launch} {h : Nat → eO} {nx k : Nat} {ca : Nat → Nat → Int32} {cb : Nat → Nat → Bool} {cA : Nat → Nat → Int32} {ring : Nat → Option Nat} {SS : eSS} {q6 nl : Nat} {LE : Nat → Int32} {ra : Nat → Nat → Int32} {rb : Nat → Nat → Bool} {rA : Nat → Nat → Int32} {J : Int64}
set_option maxRecDepth 100000 in
theorem turn_count (hG : e_GS G) (hk : k < 512) (hc : HC ca cb cA ring SS q6 nl LE h nx) (hr : HR ra rb rA J h) (hl : REL k ca cb cA ring SS nl ra rb rA) (p0 : Int32) : TURN k G la MX11_count MX12_count [.int p0] h nx := by
  obtain ⟨W, H, n, hW, hH, hWH, ⟨w1, w2, w3, w4⟩, ⟨t1, t2, ht⟩, hnow, hpast, ⟨i1, i2⟩, ⟨k1, k2⟩, hrf, ⟨s1, s2⟩, hnl⟩ := id hl
  have hok := hnow.1.2.1.okL hW hH
  have m40 : 40 * k ≤ 40 * (k + 1) := by omega
  have hnow' : nowR (40 * (k + 1)) W H (cA 41) (cA 55) (cA 43) (cA 44) (ca 54 1) (ca 42 0) (rA 79) := ⟨hnow.1.mono m40, hnow.2⟩
  have hpast' := hpast.mono m40
  have i2' : cb 32 8 = true → sv (40 * (k + 1)) W H (cA 59) (cA 60) (ca 58 2) (rA 97) := fun q => (i2 q).mono m40
  obtain ⟨nn, hnn, hlog⟩ := hnow.1.2.2
  have hn9 : nn < 2147483648 := by omega
  obtain ⟨_, Sx, _, _, _, p4, p5, _⟩ := id hpast
  have h31 : ra 72 31 = ca 56 2 := p5.trans p4.symm
  obtain ⟨y, z, e1, e2, e3⟩ := count_sm (a := ca 33 1) (c := ca 56 2) (t := ra 72 0) (p := p0) (n := nn) hn9 hlog.1 hlog.2.2.1
  refine ⟨y, 0, 0, by decide, by decide, (eSem.toB (tX11_count_32 hG hc.nx9 hc.h32 hc.h33 hc.h54 hc.h56 (by exact e1))).mono ?_⟩
  rintro r h1 nx1 ⟨rfl, rfl, rfl⟩
  have hc1 := hc
  have hr1 := hr
  refine ⟨rfl, hc.nx9, ⟨_, hr1.h72⟩, (eSem.toB (tX12_count_72 hG hc.nx9 hr1.h72 hr1.h79 (by first | exact e2 | (simp only [t2.trans t1.symm, h31]; exact e2)))).mono ?_⟩
  rintro r2 h2 nx2 ⟨rfl, rfl, rfl⟩
  have hrel : REL (k + 1) ca cb cA ring SS nl (ua ra 72 0 z.2) rb rA := ⟨W, H, n, hW, hH, hWH, ⟨w1, w2, w3, w4⟩, ⟨t1, t2, ht⟩, hnow', hpast', ⟨i1, i2'⟩, ⟨k1, k2⟩, hrf, ⟨s1, s2⟩, hnl⟩
  refine ⟨by rw [e3.1], ⟨ca, cb, cA, ring, SS, q6, nl, LE, (ua ra 72 0 z.2), rb, rA, J, hc1.up (up_r rfl) hc.nx9 (e_dyn.up rfl hc1.dy), ⟨rfl, hr1.h73, hr1.h74, hr1.h75, hr1.h76, hr1.h77, hr1.h78, hr1.h79, hr1.h80, hr1.h81, hr1.h82, hr1.h83, hr1.h84, hr1.h85, hr1.h86, hr1.h87, hr1.h88, hr1.h89, hr1.h90, hr1.h91, hr1.h92, hr1.h93, hr1.h94, hr1.h95, hr1.h96, hr1.h97⟩, hrel⟩, rfl⟩
set_option maxRecDepth 100000 in
theorem turn_log (hG : e_GS G) (hk : k < 512) (hc : HC ca cb cA ring SS q6 nl LE h nx) (hr : HR ra rb rA J h) (hl : REL k ca cb cA ring SS nl ra rb rA) (p0 : Int32) (p1 : Int32) : TURN k G la MX11_log MX12_log [.int p0, .int p1] h nx := by
  obtain ⟨W, H, n, hW, hH, hWH, ⟨w1, w2, w3, w4⟩, ⟨t1, t2, ht⟩, hnow, hpast, ⟨i1, i2⟩, ⟨k1, k2⟩, hrf, ⟨s1, s2⟩, hnl⟩ := id hl
  have hok := hnow.1.2.1.okL hW hH
  have m40 : 40 * k ≤ 40 * (k + 1) := by omega
  have hnow' : nowR (40 * (k + 1)) W H (cA 41) (cA 55) (cA 43) (cA 44) (ca 54 1) (ca 42 0) (rA 79) := ⟨hnow.1.mono m40, hnow.2⟩
  have hpast' := hpast.mono m40
  have i2' : cb 32 8 = true → sv (40 * (k + 1)) W H (cA 59) (cA 60) (ca 58 2) (rA 97) := fun q => (i2 q).mono m40
  obtain ⟨nn, hnn, hlog⟩ := hnow.1.2.2
  have hn8 : nn ≤ 50000000 := by omega
  obtain ⟨y, z, e1, e2, e3⟩ := log_sm hlog hn8 p0 p1 (ra 72 0)
  refine ⟨y, 0, 0, by decide, by decide, (eSem.toB (tX11_log_32 hG hc.nx9 hc.h32 hc.h54 hc.h55 (by exact e1))).mono ?_⟩
  rintro r h1 nx1 ⟨rfl, rfl, rfl⟩
  have hc1 := hc
  have hr1 := hr
  refine ⟨rfl, hc.nx9, ⟨_, hr1.h72⟩, (eSem.toB (tX12_log_72 hG hc.nx9 hr1.h72 hr1.h79 (by exact e2))).mono ?_⟩
  rintro r2 h2 nx2 ⟨rfl, rfl, rfl⟩
  have hrel : REL (k + 1) ca cb cA ring SS nl (ua ra 72 0 z.2) rb rA := ⟨W, H, n, hW, hH, hWH, ⟨w1, w2, w3, w4⟩, ⟨t1, t2, ht⟩, hnow', hpast', ⟨i1, i2'⟩, ⟨k1, k2⟩, hrf, ⟨s1, s2⟩, hnl⟩
  refine ⟨by rw [e3.1], ⟨ca, cb, cA, ring, SS, q6, nl, LE, (ua ra 72 0 z.2), rb, rA, J, hc1.up (up_r rfl) hc.nx9 (e_dyn.up rfl hc1.dy), ⟨rfl, hr1.h73, hr1.h74, hr1.h75, hr1.h76, hr1.h77, hr1.h78, hr1.h79, hr1.h80, hr1.h81, hr1.h82, hr1.h83, hr1.h84, hr1.h85, hr1.h86, hr1.h87, hr1.h88, hr1.h89, hr1.h90, hr1.h91, hr1.h92, hr1.h93, hr1.h94, hr1.h95, hr1.h96, hr1.h97⟩, hrel⟩, rfl⟩
set_option maxRecDepth 100000 in
theorem turn_halved (hG : e_GS G) (hk : k < 512) (hc : HC ca cb cA ring SS q6 nl LE h nx) (hr : HR ra rb rA J h) (hl : REL k ca cb cA ring SS nl ra rb rA) (p0 : Int32) (p1 : Int32) : TURN k G la MX11_halved MX12_halved [.int p0, .int p1] h nx := by
  obtain ⟨W, H, n, hW, hH, hWH, ⟨w1, w2, w3, w4⟩, ⟨t1, t2, ht⟩, hnow, hpast, ⟨i1, i2⟩, ⟨k1, k2⟩, hrf, ⟨s1, s2⟩, hnl⟩ := id hl
  have hok := hnow.1.2.1.okL hW hH
  have m40 : 40 * k ≤ 40 * (k + 1) := by omega
  have hnow' : nowR (40 * (k + 1)) W H (cA 41) (cA 55) (cA 43) (cA 44) (ca 54 1) (ca 42 0) (rA 79) := ⟨hnow.1.mono m40, hnow.2⟩
  have hpast' := hpast.mono m40
  have i2' : cb 32 8 = true → sv (40 * (k + 1)) W H (cA 59) (cA 60) (ca 58 2) (rA 97) := fun q => (i2 q).mono m40
  obtain ⟨y, z, e1, e2, e3⟩ := halved_sm (A := rA 89) hnow.1.1 hW hH hWH (ca 63 0) (ca 63 1) (ca 63 2) (ca 63 3) p0 p1 (ra 72 0) (ra 72 35)
  refine ⟨y.1, 0, 0, by decide, by decide, (eSem.toB (tX11_halved_32 hG hc.nx9 hc.h32 hc.h39 hc.h40 hc.h41 hc.h63 (by first | exact e1 | (simp only [w1, w2, t1, hnow.2.1]; exact e1)))).mono ?_⟩
  rintro r h1 nx1 ⟨rfl, rfl, rfl⟩
  have hc1 : HC (ua (ua (ua (ua ca 63 0 y.2.1) 63 1 y.2.2.1) 63 2 y.2.2.2.1) 63 3 y.2.2.2.2) cb cA ring SS q6 nl LE (e_up h [(63, o63 y.2.1 y.2.2.1 y.2.2.2.1 y.2.2.2.2)]) _ := ⟨hc.nx9, hc.h32, hc.h33, hc.h34, hc.h35, hc.h36, hc.h37, hc.h38, hc.h39, hc.h40, hc.h41, hc.h42, hc.h43, hc.h44, hc.h45, hc.h46, hc.h47, hc.h48, hc.h49, hc.h50, hc.h51, hc.h52, hc.h53, hc.h54, hc.h55, hc.h56, hc.h57, hc.h58, hc.h59, hc.h60, hc.h61, hc.h62, rfl, hc.h64, hc.h65, hc.h66, hc.h67, hc.h68, hc.h69, hc.h70, e_dyn.up rfl hc.dy⟩
  have hr1 : HR ra rb rA J (e_up h [(63, o63 y.2.1 y.2.2.1 y.2.2.2.1 y.2.2.2.2)]) := hr.up (up_c rfl)
  refine ⟨rfl, hc.nx9, ⟨_, hr1.h72⟩, (eSem.toB (tX12_halved_72 hG hc.nx9 hr1.h72 hr1.h79 hr1.h89 (by first | exact e2 | (simp only [w3, w4, t2, ← s1, ← k1, ← i1]; exact e2)))).mono ?_⟩
  rintro r2 h2 nx2 ⟨rfl, rfl, rfl⟩
  have hrel : REL (k + 1) (ua (ua (ua (ua ca 63 0 y.2.1) 63 1 y.2.2.1) 63 2 y.2.2.2.1) 63 3 y.2.2.2.2) cb cA ring SS nl (ua (ua ra 72 0 z.2.1) 72 35 z.2.2.1) rb (uA rA 89 z.2.2.2) := ⟨W, H, n, hW, hH, hWH, ⟨w1, w2, w3, w4⟩, ⟨t1, t2, ht⟩, hnow', hpast', ⟨i1, i2'⟩, ⟨k1, k2⟩, hrf, ⟨s1, s2⟩, hnl⟩
  refine ⟨by rw [e3.1], ⟨(ua (ua (ua (ua ca 63 0 y.2.1) 63 1 y.2.2.1) 63 2 y.2.2.2.1) 63 3 y.2.2.2.2), cb, cA, ring, SS, q6, nl, LE, (ua (ua ra 72 0 z.2.1) 72 35 z.2.2.1), rb, (uA rA 89 z.2.2.2), J, hc1.up (up_r rfl) hc.nx9 (e_dyn.up rfl hc1.dy), ⟨rfl, hr1.h73, hr1.h74, hr1.h75, hr1.h76, hr1.h77, hr1.h78, hr1.h79, hr1.h80, hr1.h81, hr1.h82, hr1.h83, hr1.h84, hr1.h85, hr1.h86, hr1.h87, hr1.h88, rfl, hr1.h90, hr1.h91, hr1.h92, hr1.h93, hr1.h94, hr1.h95, hr1.h96, hr1.h97⟩, hrel⟩, rfl⟩
set_option maxRecDepth 100000 in
theorem turn_wall (hG : e_GS G) (hk : k < 512) (hc : HC ca cb cA ring SS q6 nl LE h nx) (hr : HR ra rb rA J h) (hl : REL k ca cb cA ring SS nl ra rb rA) (p0 : Int32) (p1 : Int32) : TURN k G la MX11_wall MX12_wall [.int p0, .int p1] h nx := by
  obtain ⟨W, H, n, hW, hH, hWH, ⟨w1, w2, w3, w4⟩, ⟨t1, t2, ht⟩, hnow, hpast, ⟨i1, i2⟩, ⟨k1, k2⟩, hrf, ⟨s1, s2⟩, hnl⟩ := id hl
  have hok := hnow.1.2.1.okL hW hH
  have m40 : 40 * k ≤ 40 * (k + 1) := by omega
  have hnow' : nowR (40 * (k + 1)) W H (cA 41) (cA 55) (cA 43) (cA 44) (ca 54 1) (ca 42 0) (rA 79) := ⟨hnow.1.mono m40, hnow.2⟩
  have hpast' := hpast.mono m40
  have i2' : cb 32 8 = true → sv (40 * (k + 1)) W H (cA 59) (cA 60) (ca 58 2) (rA 97) := fun q => (i2 q).mono m40
  obtain ⟨y, z, e1, e2, e3⟩ := wall_sm (lo0 := cA 65) (A := rA 91) (B := rA 92) hnow.1.1 hW hH hok hnow.2.2 p0 p1 (ra 72 0) (ra 72 44)
  refine ⟨y.1, 0, 0, by decide, by decide, (eSem.toB (tX11_wall_32 hG hc.nx9 hc.h32 hc.h39 hc.h40 hc.h41 hc.h42 hc.h43 hc.h64 hc.h65 (by first | exact e1 | (simp only [w1, w2, t1, hnow.2.1]; exact e1)))).mono ?_⟩
  rintro r h1 nx1 ⟨rfl, rfl, rfl⟩
  have hc1 : HC ca cb (uA cA 65 y.2) ring SS q6 nl LE (e_up h [(65, o65 y.2)]) _ := ⟨hc.nx9, hc.h32, hc.h33, hc.h34, hc.h35, hc.h36, hc.h37, hc.h38, hc.h39, hc.h40, hc.h41, hc.h42, hc.h43, hc.h44, hc.h45, hc.h46, hc.h47, hc.h48, hc.h49, hc.h50, hc.h51, hc.h52, hc.h53, hc.h54, hc.h55, hc.h56, hc.h57, hc.h58, hc.h59, hc.h60, hc.h61, hc.h62, hc.h63, hc.h64, rfl, hc.h66, hc.h67, hc.h68, hc.h69, hc.h70, e_dyn.up rfl hc.dy⟩
  have hr1 : HR ra rb rA J (e_up h [(65, o65 y.2)]) := hr.up (up_c rfl)
  refine ⟨rfl, hc.nx9, ⟨_, hr1.h72⟩, (eSem.toB (tX12_wall_72 hG hc.nx9 hr1.h72 hr1.h79 hr1.h91 hr1.h92 (by first | exact e2 | (simp only [w3, w4, t2, ← s1, ← k1, ← i1]; exact e2)))).mono ?_⟩
  rintro r2 h2 nx2 ⟨rfl, rfl, rfl⟩
  have hrel : REL (k + 1) ca cb (uA cA 65 y.2) ring SS nl (ua (ua ra 72 0 z.2.1) 72 44 z.2.2.1) rb (uA (uA rA 91 z.2.2.2.1) 92 z.2.2.2.2) := ⟨W, H, n, hW, hH, hWH, ⟨w1, w2, w3, w4⟩, ⟨t1, t2, ht⟩, hnow', hpast', ⟨i1, i2'⟩, ⟨k1, k2⟩, hrf, ⟨s1, s2⟩, hnl⟩
  refine ⟨by rw [e3.1], ⟨ca, cb, (uA cA 65 y.2), ring, SS, q6, nl, LE, (ua (ua ra 72 0 z.2.1) 72 44 z.2.2.1), rb, (uA (uA rA 91 z.2.2.2.1) 92 z.2.2.2.2), J, hc1.up (up_r rfl) hc.nx9 (e_dyn.up rfl hc1.dy), ⟨rfl, hr1.h73, hr1.h74, hr1.h75, hr1.h76, hr1.h77, hr1.h78, hr1.h79, hr1.h80, hr1.h81, hr1.h82, hr1.h83, hr1.h84, hr1.h85, hr1.h86, hr1.h87, hr1.h88, hr1.h89, hr1.h90, rfl, rfl, hr1.h93, hr1.h94, hr1.h95, hr1.h96, hr1.h97⟩, hrel⟩, rfl⟩
set_option maxRecDepth 100000 in
theorem turn_rule (hG : e_GS G) (hk : k < 512) (hc : HC ca cb cA ring SS q6 nl LE h nx) (hr : HR ra rb rA J h) (hl : REL k ca cb cA ring SS nl ra rb rA) (p0 : Int32) : TURN k G la MX11_rule MX12_rule [.int p0] h nx := by
  obtain ⟨W, H, n, hW, hH, hWH, ⟨w1, w2, w3, w4⟩, ⟨t1, t2, ht⟩, hnow, hpast, ⟨i1, i2⟩, ⟨k1, k2⟩, hrf, ⟨s1, s2⟩, hnl⟩ := id hl
  have hok := hnow.1.2.1.okL hW hH
  have m40 : 40 * k ≤ 40 * (k + 1) := by omega
  have hnow' : nowR (40 * (k + 1)) W H (cA 41) (cA 55) (cA 43) (cA 44) (ca 54 1) (ca 42 0) (rA 79) := ⟨hnow.1.mono m40, hnow.2⟩
  have hpast' := hpast.mono m40
  have i2' : cb 32 8 = true → sv (40 * (k + 1)) W H (cA 59) (cA 60) (ca 58 2) (rA 97) := fun q => (i2 q).mono m40
  obtain ⟨y, z, e1, e2, e3⟩ := rule_sm (told := cA 53) (X := rA 81) (Y := rA 82) (Dx := rA 83) (Dy := rA 84) (Fo := rA 85) (lo0 := cA 65) (A9 := rA 91) (B9 := rA 92) hnow hW hH hWH p0 (ra 72 0) (ra 72 29) (ra 72 44)
  refine ⟨y.1, 0, 0, by decide, by decide, (eSem.toB (tX11_rule_32 hG hc.nx9 hc.h32 hc.h39 hc.h40 hc.h41 hc.h42 hc.h43 hc.h44 hc.h53 hc.h54 hc.h64 hc.h65 (by first | exact e1 | (simp only [w1, w2]; exact e1)))).mono ?_⟩
  rintro r h1 nx1 ⟨rfl, rfl, rfl⟩
  have hc1 : HC ca cb (uA cA 65 y.2) ring SS q6 nl LE (e_up h [(65, o65 y.2)]) _ := ⟨hc.nx9, hc.h32, hc.h33, hc.h34, hc.h35, hc.h36, hc.h37, hc.h38, hc.h39, hc.h40, hc.h41, hc.h42, hc.h43, hc.h44, hc.h45, hc.h46, hc.h47, hc.h48, hc.h49, hc.h50, hc.h51, hc.h52, hc.h53, hc.h54, hc.h55, hc.h56, hc.h57, hc.h58, hc.h59, hc.h60, hc.h61, hc.h62, hc.h63, hc.h64, rfl, hc.h66, hc.h67, hc.h68, hc.h69, hc.h70, e_dyn.up rfl hc.dy⟩
  have hr1 : HR ra rb rA J (e_up h [(65, o65 y.2)]) := hr.up (up_c rfl)
  refine ⟨rfl, hc.nx9, ⟨_, hr1.h72⟩, (eSem.toB (tX12_rule_72 hG hc.nx9 hr1.h72 hr1.h79 hr1.h80 hr1.h81 hr1.h82 hr1.h83 hr1.h84 hr1.h85 hr1.h91 hr1.h92 (by first | exact e2 | (simp only [w3, w4, t2, ← s1, ← k1, ← i1]; exact e2)))).mono ?_⟩
  rintro r2 h2 nx2 ⟨rfl, rfl, rfl⟩
  have hrel : REL (k + 1) ca cb (uA cA 65 y.2) ring SS nl (ua (ua (ua ra 72 0 z.2.1) 72 29 z.2.2.1) 72 44 z.2.2.2.1) rb (uA (uA (uA (uA (uA (uA (uA rA 81 z.2.2.2.2.1) 82 z.2.2.2.2.2.1) 83 z.2.2.2.2.2.2.1) 84 z.2.2.2.2.2.2.2.1) 85 z.2.2.2.2.2.2.2.2.1) 91 z.2.2.2.2.2.2.2.2.2.1) 92 z.2.2.2.2.2.2.2.2.2.2) := ⟨W, H, n, hW, hH, hWH, ⟨w1, w2, w3, w4⟩, ⟨t1, t2, ht⟩, hnow', hpast', ⟨i1, i2'⟩, ⟨k1, k2⟩, hrf, ⟨s1, s2⟩, hnl⟩
  refine ⟨by rw [e3.1], ⟨ca, cb, (uA cA 65 y.2), ring, SS, q6, nl, LE, (ua (ua (ua ra 72 0 z.2.1) 72 29 z.2.2.1) 72 44 z.2.2.2.1), rb, (uA (uA (uA (uA (uA (uA (uA rA 81 z.2.2.2.2.1) 82 z.2.2.2.2.2.1) 83 z.2.2.2.2.2.2.1) 84 z.2.2.2.2.2.2.2.1) 85 z.2.2.2.2.2.2.2.2.1) 91 z.2.2.2.2.2.2.2.2.2.1) 92 z.2.2.2.2.2.2.2.2.2.2), J, hc1.up (up_r rfl) hc.nx9 (e_dyn.up rfl hc1.dy), ⟨rfl, hr1.h73, hr1.h74, hr1.h75, hr1.h76, hr1.h77, hr1.h78, hr1.h79, hr1.h80, rfl, rfl, rfl, rfl, rfl, hr1.h86, hr1.h87, hr1.h88, hr1.h89, hr1.h90, rfl, rfl, hr1.h93, hr1.h94, hr1.h95, hr1.h96, hr1.h97⟩, hrel⟩, rfl⟩
set_option maxRecDepth 100000 in
theorem turn_most (hG : e_GS G) (hk : k < 512) (hc : HC ca cb cA ring SS q6 nl LE h nx) (hr : HR ra rb rA J h) (hl : REL k ca cb cA ring SS nl ra rb rA) (p0 : Int32) : TURN k G la MX11_most MX12_most [.int p0] h nx := by
  obtain ⟨W, H, n, hW, hH, hWH, ⟨w1, w2, w3, w4⟩, ⟨t1, t2, ht⟩, hnow, hpast, ⟨i1, i2⟩, ⟨k1, k2⟩, hrf, ⟨s1, s2⟩, hnl⟩ := id hl
  have hok := hnow.1.2.1.okL hW hH
  have m40 : 40 * k ≤ 40 * (k + 1) := by omega
  have hnow' : nowR (40 * (k + 1)) W H (cA 41) (cA 55) (cA 43) (cA 44) (ca 54 1) (ca 42 0) (rA 79) := ⟨hnow.1.mono m40, hnow.2⟩
  have hpast' := hpast.mono m40
  have i2' : cb 32 8 = true → sv (40 * (k + 1)) W H (cA 59) (cA 60) (ca 58 2) (rA 97) := fun q => (i2 q).mono m40
  obtain ⟨y, z, e1, e2, e3⟩ := most_sm (told := cA 53) (X := rA 81) (Y := rA 82) (Dx := rA 83) (Dy := rA 84) (Fo := rA 85) (lo0 := cA 65) (A9 := rA 91) (B9 := rA 92) hnow.1.1 hW hH hok hnow.2.2 s2 p0 (ra 72 0) (ra 72 29) (ra 72 44)
  refine ⟨y.1, 0, 0, by decide, by decide, (eSem.toB (tX11_most_32 hG hc.nx9 hc.h32 hc.h39 hc.h40 hc.h41 hc.h42 hc.h43 hc.h44 hc.h53 hc.h64 hc.h65 (by first | exact e1 | (simp only [w1, w2, t1, hnow.2.1]; exact e1)))).mono ?_⟩
  rintro r h1 nx1 ⟨rfl, rfl, rfl⟩
  have hc1 : HC ca cb (uA cA 65 y.2) ring SS q6 nl LE (e_up h [(65, o65 y.2)]) _ := ⟨hc.nx9, hc.h32, hc.h33, hc.h34, hc.h35, hc.h36, hc.h37, hc.h38, hc.h39, hc.h40, hc.h41, hc.h42, hc.h43, hc.h44, hc.h45, hc.h46, hc.h47, hc.h48, hc.h49, hc.h50, hc.h51, hc.h52, hc.h53, hc.h54, hc.h55, hc.h56, hc.h57, hc.h58, hc.h59, hc.h60, hc.h61, hc.h62, hc.h63, hc.h64, rfl, hc.h66, hc.h67, hc.h68, hc.h69, hc.h70, e_dyn.up rfl hc.dy⟩
  have hr1 : HR ra rb rA J (e_up h [(65, o65 y.2)]) := hr.up (up_c rfl)
  refine ⟨rfl, hc.nx9, ⟨_, hr1.h72⟩, (eSem.toB (tX12_most_72 hG hc.nx9 hr1.h72 hr1.h79 hr1.h80 hr1.h81 hr1.h82 hr1.h83 hr1.h84 hr1.h85 hr1.h91 hr1.h92 (by first | exact e2 | (simp only [w3, w4, t2, ← s1, ← k1, ← i1]; exact e2)))).mono ?_⟩
  rintro r2 h2 nx2 ⟨rfl, rfl, rfl⟩
  have hrel : REL (k + 1) ca cb (uA cA 65 y.2) ring SS nl (ua (ua (ua ra 72 0 z.2.1) 72 29 z.2.2.1) 72 44 z.2.2.2.1) rb (uA (uA (uA (uA (uA (uA (uA rA 81 z.2.2.2.2.1) 82 z.2.2.2.2.2.1) 83 z.2.2.2.2.2.2.1) 84 z.2.2.2.2.2.2.2.1) 85 z.2.2.2.2.2.2.2.2.1) 91 z.2.2.2.2.2.2.2.2.2.1) 92 z.2.2.2.2.2.2.2.2.2.2) := ⟨W, H, n, hW, hH, hWH, ⟨w1, w2, w3, w4⟩, ⟨t1, t2, ht⟩, hnow', hpast', ⟨i1, i2'⟩, ⟨k1, k2⟩, hrf, ⟨s1, s2⟩, hnl⟩
  refine ⟨by rw [e3.1], ⟨ca, cb, (uA cA 65 y.2), ring, SS, q6, nl, LE, (ua (ua (ua ra 72 0 z.2.1) 72 29 z.2.2.1) 72 44 z.2.2.2.1), rb, (uA (uA (uA (uA (uA (uA (uA rA 81 z.2.2.2.2.1) 82 z.2.2.2.2.2.1) 83 z.2.2.2.2.2.2.1) 84 z.2.2.2.2.2.2.2.1) 85 z.2.2.2.2.2.2.2.2.1) 91 z.2.2.2.2.2.2.2.2.2.1) 92 z.2.2.2.2.2.2.2.2.2.2), J, hc1.up (up_r rfl) hc.nx9 (e_dyn.up rfl hc1.dy), ⟨rfl, hr1.h73, hr1.h74, hr1.h75, hr1.h76, hr1.h77, hr1.h78, hr1.h79, hr1.h80, rfl, rfl, rfl, rfl, rfl, hr1.h86, hr1.h87, hr1.h88, hr1.h89, hr1.h90, rfl, rfl, hr1.h93, hr1.h94, hr1.h95, hr1.h96, hr1.h97⟩, hrel⟩, rfl⟩
set_option maxRecDepth 100000 in
theorem turn_fault (hG : e_GS G) (hk : k < 512) (hc : HC ca cb cA ring SS q6 nl LE h nx) (hr : HR ra rb rA J h) (hl : REL k ca cb cA ring SS nl ra rb rA) : TURN k G la MX11_fault MX12_fault [] h nx := by
  obtain ⟨W, H, n, hW, hH, hWH, ⟨w1, w2, w3, w4⟩, ⟨t1, t2, ht⟩, hnow, hpast, ⟨i1, i2⟩, ⟨k1, k2⟩, hrf, ⟨s1, s2⟩, hnl⟩ := id hl
  have hok := hnow.1.2.1.okL hW hH
  have m40 : 40 * k ≤ 40 * (k + 1) := by omega
  have hnow' : nowR (40 * (k + 1)) W H (cA 41) (cA 55) (cA 43) (cA 44) (ca 54 1) (ca 42 0) (rA 79) := ⟨hnow.1.mono m40, hnow.2⟩
  have hpast' := hpast.mono m40
  have i2' : cb 32 8 = true → sv (40 * (k + 1)) W H (cA 59) (cA 60) (ca 58 2) (rA 97) := fun q => (i2 q).mono m40
  obtain ⟨y, z, e1, e2, e3⟩ := fault_sm ht (ca 35 1) (ca 35 2) (ca 35 3) (ca 35 4) (ca 35 5) (ca 35 10) (cb 35 7) (cb 35 8) (cb 35 9) (cA 36) (cA 37) (cA 38) (ra 72 0) (ra 72 3) (ra 72 4) (ra 72 5) (ra 72 6) (ra 72 7) (ra 72 9) (ra 72 10) (ra 72 11) (rb 72 17) (rb 72 18) (rb 72 19) (rA 74) (rA 75) (rA 76) (rA 77) (rA 78)
  refine ⟨y.1, 0, 0, by decide, by decide, (eSem.toB (tX11_fault_32 hG hc.nx9 hc.h32 hc.h33 hc.h34 hc.h35 hc.h36 hc.h37 hc.h38 (by first | exact e1 | (simp only [w1, w2, t1, hnow.2.1]; exact e1)))).mono ?_⟩
  rintro r h1 nx1 ⟨rfl, rfl, rfl⟩
  have hc1 : HC (ua (ua (ua (ua (ua (ua ca 35 1 y.2.1) 35 2 y.2.2.1) 35 3 y.2.2.2.1) 35 4 y.2.2.2.2.1) 35 5 y.2.2.2.2.2.1) 35 10 y.2.2.2.2.2.2.2.2.2.1) (ua (ua (ua cb 35 7 y.2.2.2.2.2.2.1) 35 8 y.2.2.2.2.2.2.2.1) 35 9 y.2.2.2.2.2.2.2.2.1) (uA (uA (uA cA 36 y.2.2.2.2.2.2.2.2.2.2.1) 37 y.2.2.2.2.2.2.2.2.2.2.2.1) 38 y.2.2.2.2.2.2.2.2.2.2.2.2) ring SS q6 nl LE (e_up h [(35, o35 y.2.1 y.2.2.1 y.2.2.2.1 y.2.2.2.2.1 y.2.2.2.2.2.1 y.2.2.2.2.2.2.1 y.2.2.2.2.2.2.2.1 y.2.2.2.2.2.2.2.2.1 y.2.2.2.2.2.2.2.2.2.1), (36, o36 y.2.2.2.2.2.2.2.2.2.2.1), (37, o37 y.2.2.2.2.2.2.2.2.2.2.2.1), (38, o38 y.2.2.2.2.2.2.2.2.2.2.2.2)]) _ := ⟨hc.nx9, hc.h32, hc.h33, hc.h34, rfl, rfl, rfl, rfl, hc.h39, hc.h40, hc.h41, hc.h42, hc.h43, hc.h44, hc.h45, hc.h46, hc.h47, hc.h48, hc.h49, hc.h50, hc.h51, hc.h52, hc.h53, hc.h54, hc.h55, hc.h56, hc.h57, hc.h58, hc.h59, hc.h60, hc.h61, hc.h62, hc.h63, hc.h64, hc.h65, hc.h66, hc.h67, hc.h68, hc.h69, hc.h70, e_dyn.up rfl hc.dy⟩
  have hr1 : HR ra rb rA J (e_up h [(35, o35 y.2.1 y.2.2.1 y.2.2.2.1 y.2.2.2.2.1 y.2.2.2.2.2.1 y.2.2.2.2.2.2.1 y.2.2.2.2.2.2.2.1 y.2.2.2.2.2.2.2.2.1 y.2.2.2.2.2.2.2.2.2.1), (36, o36 y.2.2.2.2.2.2.2.2.2.2.1), (37, o37 y.2.2.2.2.2.2.2.2.2.2.2.1), (38, o38 y.2.2.2.2.2.2.2.2.2.2.2.2)]) := hr.up (up_c rfl)
  refine ⟨rfl, hc.nx9, ⟨_, hr1.h72⟩, (eSem.toB (tX12_fault_72 hG hc.nx9 hr1.h72 hr1.h73 hr1.h74 hr1.h75 hr1.h76 hr1.h77 hr1.h78 (by first | exact e2 | (simp only [w3, w4, t2, ← s1, ← k1, ← i1]; exact e2)))).mono ?_⟩
  rintro r2 h2 nx2 ⟨rfl, rfl, rfl⟩
  have hrel : REL (k + 1) (ua (ua (ua (ua (ua (ua ca 35 1 y.2.1) 35 2 y.2.2.1) 35 3 y.2.2.2.1) 35 4 y.2.2.2.2.1) 35 5 y.2.2.2.2.2.1) 35 10 y.2.2.2.2.2.2.2.2.2.1) (ua (ua (ua cb 35 7 y.2.2.2.2.2.2.1) 35 8 y.2.2.2.2.2.2.2.1) 35 9 y.2.2.2.2.2.2.2.2.1) (uA (uA (uA cA 36 y.2.2.2.2.2.2.2.2.2.2.1) 37 y.2.2.2.2.2.2.2.2.2.2.2.1) 38 y.2.2.2.2.2.2.2.2.2.2.2.2) ring SS nl (ua (ua (ua (ua (ua (ua (ua (ua (ua ra 72 0 z.2.1) 72 3 z.2.2.1) 72 4 z.2.2.2.1) 72 5 z.2.2.2.2.1) 72 6 z.2.2.2.2.2.1) 72 7 z.2.2.2.2.2.2.1) 72 9 z.2.2.2.2.2.2.2.1) 72 10 z.2.2.2.2.2.2.2.2.1) 72 11 z.2.2.2.2.2.2.2.2.2.1) (ua (ua (ua rb 72 17 z.2.2.2.2.2.2.2.2.2.2.1) 72 18 z.2.2.2.2.2.2.2.2.2.2.2.1) 72 19 z.2.2.2.2.2.2.2.2.2.2.2.2.1) (uA (uA (uA (uA (uA rA 74 z.2.2.2.2.2.2.2.2.2.2.2.2.2.1) 75 z.2.2.2.2.2.2.2.2.2.2.2.2.2.2.1) 76 z.2.2.2.2.2.2.2.2.2.2.2.2.2.2.2.1) 77 z.2.2.2.2.2.2.2.2.2.2.2.2.2.2.2.2.1) 78 z.2.2.2.2.2.2.2.2.2.2.2.2.2.2.2.2.2) := ⟨W, H, n, hW, hH, hWH, ⟨w1, w2, w3, w4⟩, ⟨t1, t2, ht⟩, hnow', hpast', ⟨i1, i2'⟩, ⟨k1, k2⟩, hrf, ⟨s1, s2⟩, hnl⟩
  refine ⟨by rw [e3.1], ⟨(ua (ua (ua (ua (ua (ua ca 35 1 y.2.1) 35 2 y.2.2.1) 35 3 y.2.2.2.1) 35 4 y.2.2.2.2.1) 35 5 y.2.2.2.2.2.1) 35 10 y.2.2.2.2.2.2.2.2.2.1), (ua (ua (ua cb 35 7 y.2.2.2.2.2.2.1) 35 8 y.2.2.2.2.2.2.2.1) 35 9 y.2.2.2.2.2.2.2.2.1), (uA (uA (uA cA 36 y.2.2.2.2.2.2.2.2.2.2.1) 37 y.2.2.2.2.2.2.2.2.2.2.2.1) 38 y.2.2.2.2.2.2.2.2.2.2.2.2), ring, SS, q6, nl, LE, (ua (ua (ua (ua (ua (ua (ua (ua (ua ra 72 0 z.2.1) 72 3 z.2.2.1) 72 4 z.2.2.2.1) 72 5 z.2.2.2.2.1) 72 6 z.2.2.2.2.2.1) 72 7 z.2.2.2.2.2.2.1) 72 9 z.2.2.2.2.2.2.2.1) 72 10 z.2.2.2.2.2.2.2.2.1) 72 11 z.2.2.2.2.2.2.2.2.2.1), (ua (ua (ua rb 72 17 z.2.2.2.2.2.2.2.2.2.2.1) 72 18 z.2.2.2.2.2.2.2.2.2.2.2.1) 72 19 z.2.2.2.2.2.2.2.2.2.2.2.2.1), (uA (uA (uA (uA (uA rA 74 z.2.2.2.2.2.2.2.2.2.2.2.2.2.1) 75 z.2.2.2.2.2.2.2.2.2.2.2.2.2.2.1) 76 z.2.2.2.2.2.2.2.2.2.2.2.2.2.2.2.1) 77 z.2.2.2.2.2.2.2.2.2.2.2.2.2.2.2.2.1) 78 z.2.2.2.2.2.2.2.2.2.2.2.2.2.2.2.2.2), J, hc1.up (up_r rfl) hc.nx9 (e_dyn.up rfl hc1.dy), ⟨rfl, hr1.h73, rfl, rfl, rfl, rfl, rfl, hr1.h79, hr1.h80, hr1.h81, hr1.h82, hr1.h83, hr1.h84, hr1.h85, hr1.h86, hr1.h87, hr1.h88, hr1.h89, hr1.h90, hr1.h91, hr1.h92, hr1.h93, hr1.h94, hr1.h95, hr1.h96, hr1.h97⟩, hrel⟩, rfl⟩
set_option maxRecDepth 100000 in
theorem turn_feed (hG : e_GS G) (hk : k < 512) (hc : HC ca cb cA ring SS q6 nl LE h nx) (hr : HR ra rb rA J h) (hl : REL k ca cb cA ring SS nl ra rb rA) (p0 : Int32) (p1 : Int32) (p2 : Int32) (p3 : Int32) (p4 : Int32) : TURN k G la MX11_feed MX12_feed [.int p0, .int p1, .int p2, .int p3, .int p4] h nx := by
  obtain ⟨W, H, n, hW, hH, hWH, ⟨w1, w2, w3, w4⟩, ⟨t1, t2, ht⟩, hnow, hpast, ⟨i1, i2⟩, ⟨k1, k2⟩, hrf, ⟨s1, s2⟩, hnl⟩ := id hl
  have hok := hnow.1.2.1.okL hW hH
  have m40 : 40 * k ≤ 40 * (k + 1) := by omega
  have hnow' : nowR (40 * (k + 1)) W H (cA 41) (cA 55) (cA 43) (cA 44) (ca 54 1) (ca 42 0) (rA 79) := ⟨hnow.1.mono m40, hnow.2⟩
  have hpast' := hpast.mono m40
  have i2' : cb 32 8 = true → sv (40 * (k + 1)) W H (cA 59) (cA 60) (ca 58 2) (rA 97) := fun q => (i2 q).mono m40
  obtain ⟨y, z, e1, e2, e3⟩ := feed_sm ht p0 p1 p2 p3 p4 (ra 72 0)
  refine ⟨y.1, 0, 0, by decide, by decide, (eSem.toB (tX11_feed_32 hG hc.nx9 hc.h32 hc.h33 hc.h34 (by first | exact e1 | (simp only [w1, w2, t1, hnow.2.1]; exact e1)))).mono ?_⟩
  rintro r h1 nx1 ⟨rfl, rfl, rfl⟩
  have hc1 : HC (ua ca 33 1 y.2.1) cb (uA cA 34 y.2.2) ring SS q6 nl LE (e_up h [(33, o33 y.2.1), (34, o34 y.2.2)]) _ := ⟨hc.nx9, hc.h32, rfl, rfl, hc.h35, hc.h36, hc.h37, hc.h38, hc.h39, hc.h40, hc.h41, hc.h42, hc.h43, hc.h44, hc.h45, hc.h46, hc.h47, hc.h48, hc.h49, hc.h50, hc.h51, hc.h52, hc.h53, hc.h54, hc.h55, hc.h56, hc.h57, hc.h58, hc.h59, hc.h60, hc.h61, hc.h62, hc.h63, hc.h64, hc.h65, hc.h66, hc.h67, hc.h68, hc.h69, hc.h70, e_dyn.up rfl hc.dy⟩
  have hr1 : HR ra rb rA J (e_up h [(33, o33 y.2.1), (34, o34 y.2.2)]) := hr.up (up_c rfl)
  refine ⟨rfl, hc.nx9, ⟨_, hr1.h72⟩, (eSem.toB (tX12_feed_72 hG hc.nx9 hr1.h72 hr1.h73 (by first | exact e2 | (simp only [w3, w4, t2, ← s1, ← k1, ← i1]; exact e2)))).mono ?_⟩
  rintro r2 h2 nx2 ⟨rfl, rfl, rfl⟩
  have hrel : REL (k + 1) (ua ca 33 1 y.2.1) cb (uA cA 34 y.2.2) ring SS nl (ua (ua ra 72 0 z.2.1) 72 2 z.2.2.1) rb (uA rA 73 z.2.2.2) := by
    obtain ⟨_, _, f3, m, f4, f5⟩ := e3
    exact ⟨W, H, m, hW, hH, hWH, ⟨w1, w2, w3, w4⟩, ⟨f4, f3.trans f4, f5⟩, hnow', hpast', ⟨i1, i2'⟩, ⟨k1, k2⟩, hrf, ⟨s1, s2⟩, hnl⟩
  refine ⟨by rw [e3.1], ⟨(ua ca 33 1 y.2.1), cb, (uA cA 34 y.2.2), ring, SS, q6, nl, LE, (ua (ua ra 72 0 z.2.1) 72 2 z.2.2.1), rb, (uA rA 73 z.2.2.2), J, hc1.up (up_r rfl) hc.nx9 (e_dyn.up rfl hc1.dy), ⟨rfl, rfl, hr1.h74, hr1.h75, hr1.h76, hr1.h77, hr1.h78, hr1.h79, hr1.h80, hr1.h81, hr1.h82, hr1.h83, hr1.h84, hr1.h85, hr1.h86, hr1.h87, hr1.h88, hr1.h89, hr1.h90, hr1.h91, hr1.h92, hr1.h93, hr1.h94, hr1.h95, hr1.h96, hr1.h97⟩, hrel⟩, rfl⟩
set_option maxRecDepth 100000 in
theorem turn_end (hG : e_GS G) (hk : k < 512) (hc : HC ca cb cA ring SS q6 nl LE h nx) (hr : HR ra rb rA J h) (hl : REL k ca cb cA ring SS nl ra rb rA) (p0 : Int32) : TURN k G la MX11_end MX12_end [.int p0] h nx := by
  obtain ⟨W, H, n, hW, hH, hWH, ⟨w1, w2, w3, w4⟩, ⟨t1, t2, ht⟩, hnow, hpast, ⟨i1, i2⟩, ⟨k1, k2⟩, hrf, ⟨s1, s2⟩, hnl⟩ := id hl
  have hok := hnow.1.2.1.okL hW hH
  have m40 : 40 * k ≤ 40 * (k + 1) := by omega
  have hnow' : nowR (40 * (k + 1)) W H (cA 41) (cA 55) (cA 43) (cA 44) (ca 54 1) (ca 42 0) (rA 79) := ⟨hnow.1.mono m40, hnow.2⟩
  have hpast' := hpast.mono m40
  have i2' : cb 32 8 = true → sv (40 * (k + 1)) W H (cA 59) (cA 60) (ca 58 2) (rA 97) := fun q => (i2 q).mono m40
  obtain ⟨y, z, e1, e2, e3⟩ := end_sm ht.1 p0 (ra 72 0)
  refine ⟨(e_b y.1), 0, 0, by decide, by decide, (eSem.toB (tX11_end_32 hG hc.nx9 hc.h32 hc.h33 (by first | exact e1 | (simp only [w1, w2, t1, hnow.2.1]; exact e1)))).mono ?_⟩
  rintro r h1 nx1 ⟨rfl, rfl, rfl⟩
  have hc1 : HC (ua ca 33 1 y.2) cb cA ring SS q6 nl LE (e_up h [(33, o33 y.2)]) _ := ⟨hc.nx9, hc.h32, rfl, hc.h34, hc.h35, hc.h36, hc.h37, hc.h38, hc.h39, hc.h40, hc.h41, hc.h42, hc.h43, hc.h44, hc.h45, hc.h46, hc.h47, hc.h48, hc.h49, hc.h50, hc.h51, hc.h52, hc.h53, hc.h54, hc.h55, hc.h56, hc.h57, hc.h58, hc.h59, hc.h60, hc.h61, hc.h62, hc.h63, hc.h64, hc.h65, hc.h66, hc.h67, hc.h68, hc.h69, hc.h70, e_dyn.up rfl hc.dy⟩
  have hr1 : HR ra rb rA J (e_up h [(33, o33 y.2)]) := hr.up (up_c rfl)
  refine ⟨rfl, hc.nx9, ⟨_, hr1.h72⟩, (eSem.toB (tX12_end_72 hG hc.nx9 hr1.h72 (by first | exact e2 | (simp only [w3, w4, t2, ← s1, ← k1, ← i1]; exact e2)))).mono ?_⟩
  rintro r2 h2 nx2 ⟨rfl, rfl, rfl⟩
  have hrel : REL (k + 1) (ua ca 33 1 y.2) cb cA ring SS nl (ua (ua ra 72 0 z.2.1) 72 2 z.2.2) rb rA := by
    obtain ⟨_, _, f3, m, hm, f4⟩ := e3
    exact ⟨W, H, m, hW, hH, hWH, ⟨w1, w2, w3, w4⟩, ⟨f4, f3.trans f4, ⟨Nat.le_trans hm ht.1, fun j hj => ht.2 j (Nat.lt_of_lt_of_le hj hm)⟩⟩, hnow', hpast', ⟨i1, i2'⟩, ⟨k1, k2⟩, hrf, ⟨s1, s2⟩, hnl⟩
  refine ⟨by rw [e3.1], ⟨(ua ca 33 1 y.2), cb, cA, ring, SS, q6, nl, LE, (ua (ua ra 72 0 z.2.1) 72 2 z.2.2), rb, rA, J, hc1.up (up_r rfl) hc.nx9 (e_dyn.up rfl hc1.dy), ⟨rfl, hr1.h73, hr1.h74, hr1.h75, hr1.h76, hr1.h77, hr1.h78, hr1.h79, hr1.h80, hr1.h81, hr1.h82, hr1.h83, hr1.h84, hr1.h85, hr1.h86, hr1.h87, hr1.h88, hr1.h89, hr1.h90, hr1.h91, hr1.h92, hr1.h93, hr1.h94, hr1.h95, hr1.h96, hr1.h97⟩, hrel⟩, rfl⟩
end TURNS
