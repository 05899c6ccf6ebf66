/-! ===== turns of the law ===== -/
section TURNS
variable {G : eG} {la : Launch} {h : Nat → eO} {nx k : Nat} {ca : Nat → Nat → Int32} {cb : Nat → Nat → Bool} {cA : Nat → Nat → Int32} {ring : Nat → Option Nat} {SS : eSS} {q6 nl : Nat} {LE : Nat → Int32} {ra : Nat → Nat → Int32} {rb : Nat → Nat → Bool} {rA : Nat → Nat → Int32} {J : Int64}
set_option maxRecDepth 100000 in
theorem turn_face (hG : e_GS G) (hk : k < 512) (hc : HC ca cb cA ring SS q6 nl LE h nx) (hr : HR ra rb rA J h) (hl : REL k ca cb cA ring SS nl ra rb rA) (p0 : Int32) (p1 : Int32) (p2 : Int32) : TURN k G la MX11_face MX12_face [.int p0, .int p1, .int p2] h nx := by
  obtain ⟨W, H, n, hW, hH, hWH, ⟨w1, w2, w3, w4⟩, ⟨t1, t2, ht⟩, hnow, hpast, ⟨i1, i2⟩, ⟨k1, k2⟩, hrf, ⟨s1, s2⟩, hnl⟩ := id hl
  have hok := hnow.1.2.1.okL hW hH
  have m40 : 40 * k ≤ 40 * (k + 1) := by omega
  have hnow' : nowR (40 * (k + 1)) W H (cA 41) (cA 55) (cA 43) (cA 44) (ca 54 1) (ca 42 0) (rA 79) := ⟨hnow.1.mono m40, hnow.2⟩
  have hpast' := hpast.mono m40
  have i2' : cb 32 8 = true → sv (40 * (k + 1)) W H (cA 59) (cA 60) (ca 58 2) (rA 97) := fun q => (i2 q).mono m40
  obtain ⟨y, z, e1, e2, e3⟩ := face_sm (told := cA 53) (X := rA 81) (Y := rA 82) (Dx := rA 83) (Dy := rA 84) (Fo := rA 85) hnow.1.1 hW hH hok hnow.2.2 p0 p1 p2 (ra 72 0) (ra 72 29)
  refine ⟨y, 0, 0, by decide, by decide, (eSem.toB (tX11_face_32 hG hc.nx9 hc.h32 hc.h39 hc.h40 hc.h41 hc.h42 hc.h43 (by first | exact e1 | (simp only [w1, w2, t1, hnow.2.1]; exact e1)))).mono ?_⟩
  rintro r h1 nx1 ⟨rfl, rfl, rfl⟩
  have hc1 := hc
  have hr1 := hr
  refine ⟨rfl, hc.nx9, ⟨_, hr1.h72⟩, (eSem.toB (tX12_face_72 hG hc.nx9 hr1.h72 hr1.h79 hr1.h80 hr1.h81 hr1.h82 hr1.h83 hr1.h84 hr1.h85 (by first | exact e2 | (simp only [w3, w4, t2, ← s1, ← k1, ← i1]; exact e2)))).mono ?_⟩
  rintro r2 h2 nx2 ⟨rfl, rfl, rfl⟩
  have hrel : REL (k + 1) ca cb cA ring SS nl (ua (ua ra 72 0 z.2.1) 72 29 z.2.2.1) rb (uA (uA (uA (uA (uA rA 81 z.2.2.2.1) 82 z.2.2.2.2.1) 83 z.2.2.2.2.2.1) 84 z.2.2.2.2.2.2.1) 85 z.2.2.2.2.2.2.2) := ⟨W, H, n, hW, hH, hWH, ⟨w1, w2, w3, w4⟩, ⟨t1, t2, ht⟩, hnow', hpast', ⟨i1, i2'⟩, ⟨k1, k2⟩, hrf, ⟨s1, s2⟩, hnl⟩
  refine ⟨by rw [e3.1], ⟨ca, cb, cA, ring, SS, q6, nl, LE, (ua (ua ra 72 0 z.2.1) 72 29 z.2.2.1), rb, (uA (uA (uA (uA (uA rA 81 z.2.2.2.1) 82 z.2.2.2.2.1) 83 z.2.2.2.2.2.1) 84 z.2.2.2.2.2.2.1) 85 z.2.2.2.2.2.2.2), J, hc1.up (up_r rfl) hc.nx9 (e_dyn.up rfl hc1.dy), ⟨rfl, hr1.h73, hr1.h74, hr1.h75, hr1.h76, hr1.h77, hr1.h78, hr1.h79, hr1.h80, rfl, rfl, rfl, rfl, rfl, hr1.h86, hr1.h87, hr1.h88, hr1.h89, hr1.h90, hr1.h91, hr1.h92, hr1.h93, hr1.h94, hr1.h95, hr1.h96, hr1.h97⟩, hrel⟩, rfl⟩
set_option maxRecDepth 100000 in
theorem turn_link (hG : e_GS G) (hk : k < 512) (hc : HC ca cb cA ring SS q6 nl LE h nx) (hr : HR ra rb rA J h) (hl : REL k ca cb cA ring SS nl ra rb rA) (p0 : Int32) (p1 : Int32) (p2 : Bool) (p3 : Int32) : TURN k G la MX11_link MX12_link [.int p0, .int p1, .int (e_b p2), .int p3] h nx := by
  obtain ⟨W, H, n, hW, hH, hWH, ⟨w1, w2, w3, w4⟩, ⟨t1, t2, ht⟩, hnow, hpast, ⟨i1, i2⟩, ⟨k1, k2⟩, hrf, ⟨s1, s2⟩, hnl⟩ := id hl
  have hok := hnow.1.2.1.okL hW hH
  have m40 : 40 * k ≤ 40 * (k + 1) := by omega
  have hnow' : nowR (40 * (k + 1)) W H (cA 41) (cA 55) (cA 43) (cA 44) (ca 54 1) (ca 42 0) (rA 79) := ⟨hnow.1.mono m40, hnow.2⟩
  have hpast' := hpast.mono m40
  have i2' : cb 32 8 = true → sv (40 * (k + 1)) W H (cA 59) (cA 60) (ca 58 2) (rA 97) := fun q => (i2 q).mono m40
  obtain ⟨y, z, e1, e2, e3⟩ := link_sm hnow.1.1 hW hH p0 p1 p2 p3 (ra 72 0)
  refine ⟨y, 0, 0, by decide, by decide, (eSem.toB (tX11_link_32 hG hc.nx9 hc.h32 hc.h39 hc.h40 hc.h41 (by first | exact e1 | (simp only [w1, w2, t1, hnow.2.1]; exact e1)))).mono ?_⟩
  rintro r h1 nx1 ⟨rfl, rfl, rfl⟩
  have hc1 := hc
  have hr1 := hr
  refine ⟨rfl, hc.nx9, ⟨_, hr1.h72⟩, (eSem.toB (tX12_link_72 hG hc.nx9 hr1.h72 hr1.h79 (by first | exact e2 | (simp only [w3, w4, t2, ← s1, ← k1, ← i1]; exact e2)))).mono ?_⟩
  rintro r2 h2 nx2 ⟨rfl, rfl, rfl⟩
  have hrel : REL (k + 1) ca cb cA ring SS nl (ua ra 72 0 z.2) rb rA := ⟨W, H, n, hW, hH, hWH, ⟨w1, w2, w3, w4⟩, ⟨t1, t2, ht⟩, hnow', hpast', ⟨i1, i2'⟩, ⟨k1, k2⟩, hrf, ⟨s1, s2⟩, hnl⟩
  refine ⟨by rw [e3], ⟨ca, cb, cA, ring, SS, q6, nl, LE, (ua ra 72 0 z.2), rb, rA, J, hc1.up (up_r rfl) hc.nx9 (e_dyn.up rfl hc1.dy), ⟨rfl, hr1.h73, hr1.h74, hr1.h75, hr1.h76, hr1.h77, hr1.h78, hr1.h79, hr1.h80, hr1.h81, hr1.h82, hr1.h83, hr1.h84, hr1.h85, hr1.h86, hr1.h87, hr1.h88, hr1.h89, hr1.h90, hr1.h91, hr1.h92, hr1.h93, hr1.h94, hr1.h95, hr1.h96, hr1.h97⟩, hrel⟩, rfl⟩
set_option maxRecDepth 100000 in
theorem turn_status (hG : e_GS G) (hk : k < 512) (hc : HC ca cb cA ring SS q6 nl LE h nx) (hr : HR ra rb rA J h) (hl : REL k ca cb cA ring SS nl ra rb rA) (p0 : Int32) : TURN k G la MX11_status MX12_status [.int p0] h nx := by
  obtain ⟨W, H, n, hW, hH, hWH, ⟨w1, w2, w3, w4⟩, ⟨t1, t2, ht⟩, hnow, hpast, ⟨i1, i2⟩, ⟨k1, k2⟩, hrf, ⟨s1, s2⟩, hnl⟩ := id hl
  have hok := hnow.1.2.1.okL hW hH
  have m40 : 40 * k ≤ 40 * (k + 1) := by omega
  have hnow' : nowR (40 * (k + 1)) W H (cA 41) (cA 55) (cA 43) (cA 44) (ca 54 1) (ca 42 0) (rA 79) := ⟨hnow.1.mono m40, hnow.2⟩
  have hpast' := hpast.mono m40
  have i2' : cb 32 8 = true → sv (40 * (k + 1)) W H (cA 59) (cA 60) (ca 58 2) (rA 97) := fun q => (i2 q).mono m40
  obtain ⟨y, z, e1, e2, e3⟩ := status_sm hrf p0 (ra 72 0)
  refine ⟨y, 0, 0, by decide, by decide, (eSem.toB (tX11_status_32 hG hc.nx9 hc.h32 hc.h62 (by first | exact e1 | (simp only [w1, w2, t1, hnow.2.1]; exact e1)))).mono ?_⟩
  rintro r h1 nx1 ⟨rfl, rfl, rfl⟩
  have hc1 := hc
  have hr1 := hr
  refine ⟨rfl, hc.nx9, ⟨_, hr1.h72⟩, (eSem.toB (tX12_status_72 hG hc.nx9 hr1.h72 hr1.h87 (by first | exact e2 | (simp only [w3, w4, t2, ← s1, ← k1, ← i1]; exact e2)))).mono ?_⟩
  rintro r2 h2 nx2 ⟨rfl, rfl, rfl⟩
  have hrel : REL (k + 1) ca cb cA ring SS nl (ua ra 72 0 z.2) rb rA := ⟨W, H, n, hW, hH, hWH, ⟨w1, w2, w3, w4⟩, ⟨t1, t2, ht⟩, hnow', hpast', ⟨i1, i2'⟩, ⟨k1, k2⟩, hrf, ⟨s1, s2⟩, hnl⟩
  refine ⟨by rw [e3.1], ⟨ca, cb, cA, ring, SS, q6, nl, LE, (ua ra 72 0 z.2), rb, rA, J, hc1.up (up_r rfl) hc.nx9 (e_dyn.up rfl hc1.dy), ⟨rfl, hr1.h73, hr1.h74, hr1.h75, hr1.h76, hr1.h77, hr1.h78, hr1.h79, hr1.h80, hr1.h81, hr1.h82, hr1.h83, hr1.h84, hr1.h85, hr1.h86, hr1.h87, hr1.h88, hr1.h89, hr1.h90, hr1.h91, hr1.h92, hr1.h93, hr1.h94, hr1.h95, hr1.h96, hr1.h97⟩, hrel⟩, rfl⟩
set_option maxRecDepth 100000 in
theorem turn_stills (hG : e_GS G) (hk : k < 512) (hc : HC ca cb cA ring SS q6 nl LE h nx) (hr : HR ra rb rA J h) (hl : REL k ca cb cA ring SS nl ra rb rA) : TURN k G la MX11_stills MX12_stills [] h nx := by
  obtain ⟨W, H, n, hW, hH, hWH, ⟨w1, w2, w3, w4⟩, ⟨t1, t2, ht⟩, hnow, hpast, ⟨i1, i2⟩, ⟨k1, k2⟩, hrf, ⟨s1, s2⟩, hnl⟩ := id hl
  have hok := hnow.1.2.1.okL hW hH
  have m40 : 40 * k ≤ 40 * (k + 1) := by omega
  have hnow' : nowR (40 * (k + 1)) W H (cA 41) (cA 55) (cA 43) (cA 44) (ca 54 1) (ca 42 0) (rA 79) := ⟨hnow.1.mono m40, hnow.2⟩
  have hpast' := hpast.mono m40
  have i2' : cb 32 8 = true → sv (40 * (k + 1)) W H (cA 59) (cA 60) (ca 58 2) (rA 97) := fun q => (i2 q).mono m40
  obtain ⟨y, z, e1, e2, e3⟩ := stills_sm (told := cA 53) (X := rA 81) (Y := rA 82) (Dx := rA 83) (Dy := rA 84) (Fo := rA 85) hW hH hok hnow.2.2 (ra 72 0) (ra 72 29)
  refine ⟨y, 0, 0, by decide, by decide, (eSem.toB (tX11_stills_32 hG hc.nx9 hc.h32 hc.h39 hc.h40 hc.h42 hc.h43 hc.h44 hc.h53 (by first | exact e1 | (simp only [w1, w2, t1, hnow.2.1]; exact e1)))).mono ?_⟩
  rintro r h1 nx1 ⟨rfl, rfl, rfl⟩
  have hc1 := hc
  have hr1 := hr
  refine ⟨rfl, hc.nx9, ⟨_, hr1.h72⟩, (eSem.toB (tX12_stills_72 hG hc.nx9 hr1.h72 hr1.h79 hr1.h80 hr1.h81 hr1.h82 hr1.h83 hr1.h84 hr1.h85 (by first | exact e2 | (simp only [w3, w4, t2, ← s1, ← k1, ← i1]; exact e2)))).mono ?_⟩
  rintro r2 h2 nx2 ⟨rfl, rfl, rfl⟩
  have hrel : REL (k + 1) ca cb cA ring SS nl (ua (ua ra 72 0 z.2.1) 72 29 z.2.2.1) rb (uA (uA (uA (uA (uA rA 81 z.2.2.2.1) 82 z.2.2.2.2.1) 83 z.2.2.2.2.2.1) 84 z.2.2.2.2.2.2.1) 85 z.2.2.2.2.2.2.2) := ⟨W, H, n, hW, hH, hWH, ⟨w1, w2, w3, w4⟩, ⟨t1, t2, ht⟩, hnow', hpast', ⟨i1, i2'⟩, ⟨k1, k2⟩, hrf, ⟨s1, s2⟩, hnl⟩
  refine ⟨by rw [e3.1], ⟨ca, cb, cA, ring, SS, q6, nl, LE, (ua (ua ra 72 0 z.2.1) 72 29 z.2.2.1), rb, (uA (uA (uA (uA (uA rA 81 z.2.2.2.1) 82 z.2.2.2.2.1) 83 z.2.2.2.2.2.1) 84 z.2.2.2.2.2.2.1) 85 z.2.2.2.2.2.2.2), J, hc1.up (up_r rfl) hc.nx9 (e_dyn.up rfl hc1.dy), ⟨rfl, hr1.h73, hr1.h74, hr1.h75, hr1.h76, hr1.h77, hr1.h78, hr1.h79, hr1.h80, rfl, rfl, rfl, rfl, rfl, hr1.h86, hr1.h87, hr1.h88, hr1.h89, hr1.h90, hr1.h91, hr1.h92, hr1.h93, hr1.h94, hr1.h95, hr1.h96, hr1.h97⟩, hrel⟩, rfl⟩
set_option maxRecDepth 100000 in
theorem turn_gone (hG : e_GS G) (hk : k < 512) (hc : HC ca cb cA ring SS q6 nl LE h nx) (hr : HR ra rb rA J h) (hl : REL k ca cb cA ring SS nl ra rb rA) (p0 : Int32) : TURN k G la MX11_gone MX12_gone [.int p0] h nx := by
  obtain ⟨W, H, n, hW, hH, hWH, ⟨w1, w2, w3, w4⟩, ⟨t1, t2, ht⟩, hnow, hpast, ⟨i1, i2⟩, ⟨k1, k2⟩, hrf, ⟨s1, s2⟩, hnl⟩ := id hl
  have hok := hnow.1.2.1.okL hW hH
  have m40 : 40 * k ≤ 40 * (k + 1) := by omega
  have hnow' : nowR (40 * (k + 1)) W H (cA 41) (cA 55) (cA 43) (cA 44) (ca 54 1) (ca 42 0) (rA 79) := ⟨hnow.1.mono m40, hnow.2⟩
  have hpast' := hpast.mono m40
  have i2' : cb 32 8 = true → sv (40 * (k + 1)) W H (cA 59) (cA 60) (ca 58 2) (rA 97) := fun q => (i2 q).mono m40
  obtain ⟨y, z, e1, e2, e3⟩ := gone_sm k2 p0 (ra 72 0)
  refine ⟨y, 0, 0, by decide, by decide, (eSem.toB (tX11_gone_32 hG hc.nx9 hc.h32 hc.h61 (by first | exact e1 | (simp only [w1, w2, t1, hnow.2.1]; exact e1)))).mono ?_⟩
  rintro r h1 nx1 ⟨rfl, rfl, rfl⟩
  have hc1 := hc
  have hr1 := hr
  refine ⟨rfl, hc.nx9, ⟨_, hr1.h72⟩, (eSem.toB (tX12_gone_72 hG hc.nx9 hr1.h72 hr1.h90 (by first | exact e2 | (simp only [w3, w4, t2, ← s1, ← k1, ← i1]; exact e2)))).mono ?_⟩
  rintro r2 h2 nx2 ⟨rfl, rfl, rfl⟩
  have hrel : REL (k + 1) ca cb cA ring SS nl (ua ra 72 0 z.2) rb rA := ⟨W, H, n, hW, hH, hWH, ⟨w1, w2, w3, w4⟩, ⟨t1, t2, ht⟩, hnow', hpast', ⟨i1, i2'⟩, ⟨k1, k2⟩, hrf, ⟨s1, s2⟩, hnl⟩
  refine ⟨by rw [e3.1], ⟨ca, cb, cA, ring, SS, q6, nl, LE, (ua ra 72 0 z.2), rb, rA, J, hc1.up (up_r rfl) hc.nx9 (e_dyn.up rfl hc1.dy), ⟨rfl, hr1.h73, hr1.h74, hr1.h75, hr1.h76, hr1.h77, hr1.h78, hr1.h79, hr1.h80, hr1.h81, hr1.h82, hr1.h83, hr1.h84, hr1.h85, hr1.h86, hr1.h87, hr1.h88, hr1.h89, hr1.h90, hr1.h91, hr1.h92, hr1.h93, hr1.h94, hr1.h95, hr1.h96, hr1.h97⟩, hrel⟩, rfl⟩
set_option maxRecDepth 100000 in
theorem turn_layer (hG : e_GS G) (hk : k < 512) (hc : HC ca cb cA ring SS q6 nl LE h nx) (hr : HR ra rb rA J h) (hl : REL k ca cb cA ring SS nl ra rb rA) (p0 : Int32) (p1 : Int32) : TURN k G la MX11_layer MX12_layer [.int p0, .int p1] h nx := by
  obtain ⟨W, H, n, hW, hH, hWH, ⟨w1, w2, w3, w4⟩, ⟨t1, t2, ht⟩, hnow, hpast, ⟨i1, i2⟩, ⟨k1, k2⟩, hrf, ⟨s1, s2⟩, hnl⟩ := id hl
  have hok := hnow.1.2.1.okL hW hH
  have m40 : 40 * k ≤ 40 * (k + 1) := by omega
  have hnow' : nowR (40 * (k + 1)) W H (cA 41) (cA 55) (cA 43) (cA 44) (ca 54 1) (ca 42 0) (rA 79) := ⟨hnow.1.mono m40, hnow.2⟩
  have hpast' := hpast.mono m40
  have i2' : cb 32 8 = true → sv (40 * (k + 1)) W H (cA 59) (cA 60) (ca 58 2) (rA 97) := fun q => (i2 q).mono m40
  obtain ⟨y, z, e1, e2, e3⟩ := layer_sm hnow.1.1 hW hH p0 p1 (ra 72 0)
  refine ⟨y, 0, 0, by decide, by decide, (eSem.toB (tX11_layer_32 hG hc.nx9 hc.h32 hc.h39 hc.h40 hc.h41 (by first | exact e1 | (simp only [w1, w2, t1, hnow.2.1]; exact e1)))).mono ?_⟩
  rintro r h1 nx1 ⟨rfl, rfl, rfl⟩
  have hc1 := hc
  have hr1 := hr
  refine ⟨rfl, hc.nx9, ⟨_, hr1.h72⟩, (eSem.toB (tX12_layer_72 hG hc.nx9 hr1.h72 hr1.h79 (by first | exact e2 | (simp only [w3, w4, t2, ← s1, ← k1, ← i1]; exact e2)))).mono ?_⟩
  rintro r2 h2 nx2 ⟨rfl, rfl, rfl⟩
  have hrel : REL (k + 1) ca cb cA ring SS nl (ua ra 72 0 z.2) rb rA := ⟨W, H, n, hW, hH, hWH, ⟨w1, w2, w3, w4⟩, ⟨t1, t2, ht⟩, hnow', hpast', ⟨i1, i2'⟩, ⟨k1, k2⟩, hrf, ⟨s1, s2⟩, hnl⟩
  refine ⟨by rw [e3.1], ⟨ca, cb, cA, ring, SS, q6, nl, LE, (ua ra 72 0 z.2), rb, rA, J, hc1.up (up_r rfl) hc.nx9 (e_dyn.up rfl hc1.dy), ⟨rfl, hr1.h73, hr1.h74, hr1.h75, hr1.h76, hr1.h77, hr1.h78, hr1.h79, hr1.h80, hr1.h81, hr1.h82, hr1.h83, hr1.h84, hr1.h85, hr1.h86, hr1.h87, hr1.h88, hr1.h89, hr1.h90, hr1.h91, hr1.h92, hr1.h93, hr1.h94, hr1.h95, hr1.h96, hr1.h97⟩, hrel⟩, rfl⟩
set_option maxRecDepth 100000 in
theorem turn_line (hG : e_GS G) (hk : k < 512) (hc : HC ca cb cA ring SS q6 nl LE h nx) (hr : HR ra rb rA J h) (hl : REL k ca cb cA ring SS nl ra rb rA) (p0 : Int32) (p1 : Int32) : TURN k G la MX11_line MX12_line [.int p0, .int p1] h nx := by
  obtain ⟨W, H, n, hW, hH, hWH, ⟨w1, w2, w3, w4⟩, ⟨t1, t2, ht⟩, hnow, hpast, ⟨i1, i2⟩, ⟨k1, k2⟩, hrf, ⟨s1, s2⟩, hnl⟩ := id hl
  have hok := hnow.1.2.1.okL hW hH
  have m40 : 40 * k ≤ 40 * (k + 1) := by omega
  have hnow' : nowR (40 * (k + 1)) W H (cA 41) (cA 55) (cA 43) (cA 44) (ca 54 1) (ca 42 0) (rA 79) := ⟨hnow.1.mono m40, hnow.2⟩
  have hpast' := hpast.mono m40
  have i2' : cb 32 8 = true → sv (40 * (k + 1)) W H (cA 59) (cA 60) (ca 58 2) (rA 97) := fun q => (i2 q).mono m40
  obtain ⟨y, z, e1, e2, e3⟩ := line_sm (told := cA 53) (X := rA 81) (Y := rA 82) (Dx := rA 83) (Dy := rA 84) (Fo := rA 85) hW hH hok hnow.2.2 p0 p1 (ra 72 0) (ra 72 29)
  refine ⟨y, 0, 0, by decide, by decide, (eSem.toB (tX11_line_32 hG hc.nx9 hc.h32 hc.h39 hc.h42 hc.h43 hc.h44 (by first | exact e1 | (simp only [w1, w2, t1, hnow.2.1]; exact e1)))).mono ?_⟩
  rintro r h1 nx1 ⟨rfl, rfl, rfl⟩
  have hc1 := hc
  have hr1 := hr
  refine ⟨rfl, hc.nx9, ⟨_, hr1.h72⟩, (eSem.toB (tX12_line_72 hG hc.nx9 hr1.h72 hr1.h79 hr1.h80 hr1.h81 hr1.h82 hr1.h83 hr1.h84 hr1.h85 (by first | exact e2 | (simp only [w3, w4, t2, ← s1, ← k1, ← i1]; exact e2)))).mono ?_⟩
  rintro r2 h2 nx2 ⟨rfl, rfl, rfl⟩
  have hrel : REL (k + 1) ca cb cA ring SS nl (ua (ua ra 72 0 z.2.1) 72 29 z.2.2.1) rb (uA (uA (uA (uA (uA rA 81 z.2.2.2.1) 82 z.2.2.2.2.1) 83 z.2.2.2.2.2.1) 84 z.2.2.2.2.2.2.1) 85 z.2.2.2.2.2.2.2) := ⟨W, H, n, hW, hH, hWH, ⟨w1, w2, w3, w4⟩, ⟨t1, t2, ht⟩, hnow', hpast', ⟨i1, i2'⟩, ⟨k1, k2⟩, hrf, ⟨s1, s2⟩, hnl⟩
  refine ⟨by rw [e3.1], ⟨ca, cb, cA, ring, SS, q6, nl, LE, (ua (ua ra 72 0 z.2.1) 72 29 z.2.2.1), rb, (uA (uA (uA (uA (uA rA 81 z.2.2.2.1) 82 z.2.2.2.2.1) 83 z.2.2.2.2.2.1) 84 z.2.2.2.2.2.2.1) 85 z.2.2.2.2.2.2.2), J, hc1.up (up_r rfl) hc.nx9 (e_dyn.up rfl hc1.dy), ⟨rfl, hr1.h73, hr1.h74, hr1.h75, hr1.h76, hr1.h77, hr1.h78, hr1.h79, hr1.h80, rfl, rfl, rfl, rfl, rfl, hr1.h86, hr1.h87, hr1.h88, hr1.h89, hr1.h90, hr1.h91, hr1.h92, hr1.h93, hr1.h94, hr1.h95, hr1.h96, hr1.h97⟩, hrel⟩, rfl⟩
set_option maxRecDepth 100000 in
theorem turn_box (hG : e_GS G) (hk : k < 512) (hc : HC ca cb cA ring SS q6 nl LE h nx) (hr : HR ra rb rA J h) (hl : REL k ca cb cA ring SS nl ra rb rA) (p0 : Int32) (p1 : Int32) (p2 : Int32) (p3 : Int32) (p4 : Int32) : TURN k G la MX11_box MX12_box [.int p0, .int p1, .int p2, .int p3, .int p4] h nx := by
  obtain ⟨W, H, n, hW, hH, hWH, ⟨w1, w2, w3, w4⟩, ⟨t1, t2, ht⟩, hnow, hpast, ⟨i1, i2⟩, ⟨k1, k2⟩, hrf, ⟨s1, s2⟩, hnl⟩ := id hl
  have hok := hnow.1.2.1.okL hW hH
  have m40 : 40 * k ≤ 40 * (k + 1) := by omega
  have hnow' : nowR (40 * (k + 1)) W H (cA 41) (cA 55) (cA 43) (cA 44) (ca 54 1) (ca 42 0) (rA 79) := ⟨hnow.1.mono m40, hnow.2⟩
  have hpast' := hpast.mono m40
  have i2' : cb 32 8 = true → sv (40 * (k + 1)) W H (cA 59) (cA 60) (ca 58 2) (rA 97) := fun q => (i2 q).mono m40
  obtain ⟨y, z, e1, e2, e3⟩ := box_sm hnow.1.1 hW hH hok hnow.2.2 p0 p1 p2 p3 p4 (ra 72 0)
  refine ⟨y, 0, 0, by decide, by decide, (eSem.toB (tX11_box_32 hG hc.nx9 hc.h32 hc.h39 hc.h40 hc.h41 hc.h42 hc.h43 (by first | exact e1 | (simp only [w1, w2, t1, hnow.2.1]; exact e1)))).mono ?_⟩
  rintro r h1 nx1 ⟨rfl, rfl, rfl⟩
  have hc1 := hc
  have hr1 := hr
  refine ⟨rfl, hc.nx9, ⟨_, hr1.h72⟩, (eSem.toB (tX12_box_72 hG hc.nx9 hr1.h72 hr1.h79 (by first | exact e2 | (simp only [w3, w4, t2, ← s1, ← k1, ← i1]; exact e2)))).mono ?_⟩
  rintro r2 h2 nx2 ⟨rfl, rfl, rfl⟩
  have hrel : REL (k + 1) ca cb cA ring SS nl (ua ra 72 0 z.2) rb rA := ⟨W, H, n, hW, hH, hWH, ⟨w1, w2, w3, w4⟩, ⟨t1, t2, ht⟩, hnow', hpast', ⟨i1, i2'⟩, ⟨k1, k2⟩, hrf, ⟨s1, s2⟩, hnl⟩
  refine ⟨by rw [e3.1], ⟨ca, cb, cA, ring, SS, q6, nl, LE, (ua ra 72 0 z.2), rb, rA, J, hc1.up (up_r rfl) hc.nx9 (e_dyn.up rfl hc1.dy), ⟨rfl, hr1.h73, hr1.h74, hr1.h75, hr1.h76, hr1.h77, hr1.h78, hr1.h79, hr1.h80, hr1.h81, hr1.h82, hr1.h83, hr1.h84, hr1.h85, hr1.h86, hr1.h87, hr1.h88, hr1.h89, hr1.h90, hr1.h91, hr1.h92, hr1.h93, hr1.h94, hr1.h95, hr1.h96, hr1.h97⟩, hrel⟩, rfl⟩
end TURNS
