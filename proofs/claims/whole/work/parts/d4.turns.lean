/-! ===== turns of the law ===== -/
section TURNS
variable {G : eG} {la : Launch} {h : Nat → eO} {nx k : Nat} {ca : Nat → Nat → Int32} {cb : Nat → Nat → Bool} {cA : Nat → Nat → Int32} {ring : Nat → Option Nat} {SS : eSS} {q6 nl : Nat} {LE : Nat → Int32} {ra : Nat → Nat → Int32} {rb : Nat → Nat → Bool} {rA : Nat → Nat → Int32} {J : Int64}
set_option maxRecDepth 100000 in
theorem turn_path (hG : e_GS G) (hk : k < 512) (hc : HC ca cb cA ring SS q6 nl LE h nx) (hr : HR ra rb rA J h) (hl : REL k ca cb cA ring SS nl ra rb rA) (p0 : Int32) (p1 : Int32) : TURN k G la MX11_path MX12_path [.int p0, .int p1] h nx := by
  obtain ⟨W, H, n, hW, hH, hWH, ⟨w1, w2, w3, w4⟩, ⟨t1, t2, ht⟩, hnow, hpast, ⟨i1, i2⟩, ⟨k1, k2⟩, hrf, ⟨s1, s2⟩, hnl⟩ := id hl
  have hok := hnow.1.2.1.okL hW hH
  have m40 : 40 * k ≤ 40 * (k + 1) := by omega
  have hnow' : nowR (40 * (k + 1)) W H (cA 41) (cA 55) (cA 43) (cA 44) (ca 54 1) (ca 42 0) (rA 79) := ⟨hnow.1.mono m40, hnow.2⟩
  have hpast' := hpast.mono m40
  have i2' : cb 32 8 = true → sv (40 * (k + 1)) W H (cA 59) (cA 60) (ca 58 2) (rA 97) := fun q => (i2 q).mono m40
  obtain ⟨y, z, e1, e2, e3⟩ := path_sm hnow.1.1 hW hH ht.1 (fun j hj => (ht.2 j hj).1) k2 p0 p1 (ra 72 0)
  refine ⟨y.1, 0, 0, by decide, by decide, (eSem.toB (tX11_path_32 hG hc.nx9 hc.h32 hc.h33 hc.h34 hc.h39 hc.h40 hc.h41 hc.h61 (by first | exact e1 | (simp only [w1, w2, t1, hnow.2.1]; exact e1)))).mono ?_⟩
  rintro r h1 nx1 ⟨rfl, rfl, rfl⟩
  have hc1 : HC (ua ca 33 1 y.2.2.1) (ua cb 32 10 y.2.1) (uA cA 61 y.2.2.2) ring SS q6 nl LE (e_up h [(32, o32 (cb 32 8) y.2.1), (33, o33 y.2.2.1), (61, o61 y.2.2.2)]) _ := ⟨hc.nx9, rfl, rfl, hc.h34, hc.h35, hc.h36, hc.h37, hc.h38, hc.h39, hc.h40, hc.h41, hc.h42, hc.h43, hc.h44, hc.h45, hc.h46, hc.h47, hc.h48, hc.h49, hc.h50, hc.h51, hc.h52, hc.h53, hc.h54, hc.h55, hc.h56, hc.h57, hc.h58, hc.h59, hc.h60, rfl, hc.h62, hc.h63, hc.h64, hc.h65, hc.h66, hc.h67, hc.h68, hc.h69, hc.h70, e_dyn.up rfl hc.dy⟩
  have hr1 : HR ra rb rA J (e_up h [(32, o32 (cb 32 8) y.2.1), (33, o33 y.2.2.1), (61, o61 y.2.2.2)]) := hr.up (up_c rfl)
  refine ⟨rfl, hc.nx9, ⟨_, hr1.h72⟩, (eSem.toB (tX12_path_72 hG hc.nx9 hr1.h72 hr1.h73 hr1.h79 hr1.h90 (by first | exact e2 | (simp only [w3, w4, t2, ← s1, ← k1, ← i1]; exact e2)))).mono ?_⟩
  rintro r2 h2 nx2 ⟨rfl, rfl, rfl⟩
  have hrel : REL (k + 1) (ua ca 33 1 y.2.2.1) (ua cb 32 10 y.2.1) (uA cA 61 y.2.2.2) ring SS nl (ua (ua ra 72 0 z.2.1) 72 2 z.2.2.1) (ua rb 72 37 z.2.2.2.1) (uA rA 90 z.2.2.2.2) := by
    obtain ⟨_, _, f3, f4, f5, m, hm, f6⟩ := e3
    exact ⟨W, H, m, hW, hH, hWH, ⟨w1, w2, w3, w4⟩, ⟨f6, f3.trans f6, ⟨Nat.le_trans hm ht.1, fun j hj => ht.2 j (Nat.lt_of_lt_of_le hj hm)⟩⟩, hnow', hpast', ⟨i1, i2'⟩, ⟨f4.symm, f5⟩, hrf, ⟨s1, s2⟩, hnl⟩
  refine ⟨by rw [e3.1], ⟨(ua ca 33 1 y.2.2.1), (ua cb 32 10 y.2.1), (uA cA 61 y.2.2.2), ring, SS, q6, nl, LE, (ua (ua ra 72 0 z.2.1) 72 2 z.2.2.1), (ua rb 72 37 z.2.2.2.1), (uA rA 90 z.2.2.2.2), J, hc1.up (up_r rfl) hc.nx9 (e_dyn.up rfl hc1.dy), ⟨rfl, hr1.h73, hr1.h74, hr1.h75, hr1.h76, hr1.h77, hr1.h78, hr1.h79, hr1.h80, hr1.h81, hr1.h82, hr1.h83, hr1.h84, hr1.h85, hr1.h86, hr1.h87, hr1.h88, hr1.h89, rfl, hr1.h91, hr1.h92, hr1.h93, hr1.h94, hr1.h95, hr1.h96, hr1.h97⟩, hrel⟩, rfl⟩
set_option maxRecDepth 100000 in
theorem turn_set (hG : e_GS G) (hk : k < 512) (hc : HC ca cb cA ring SS q6 nl LE h nx) (hr : HR ra rb rA J h) (hl : REL k ca cb cA ring SS nl ra rb rA) (p0 : Int32) (p1 : Int32) : TURN k G la MX11_set MX12_set [.int p0, .int p1] h nx := by
  obtain ⟨W, H, n, hW, hH, hWH, ⟨w1, w2, w3, w4⟩, ⟨t1, t2, ht⟩, hnow, hpast, ⟨i1, i2⟩, ⟨k1, k2⟩, hrf, ⟨s1, s2⟩, hnl⟩ := id hl
  have hok := hnow.1.2.1.okL hW hH
  have m40 : 40 * k ≤ 40 * (k + 1) := by omega
  have hnow' : nowR (40 * (k + 1)) W H (cA 41) (cA 55) (cA 43) (cA 44) (ca 54 1) (ca 42 0) (rA 79) := ⟨hnow.1.mono m40, hnow.2⟩
  have hpast' := hpast.mono m40
  have i2' : cb 32 8 = true → sv (40 * (k + 1)) W H (cA 59) (cA 60) (ca 58 2) (rA 97) := fun q => (i2 q).mono m40
  obtain ⟨y, z, e1, e2, e3⟩ := set_sm hW hrf s2 p0 p1 (ra 72 0)
  refine ⟨y.1, 0, 0, by decide, by decide, (eSem.toB (tX11_set_32 hG hc.nx9 hc.h32 hc.h39 hc.h40 hc.h53 hc.h62 (by first | exact e1 | (simp only [w1, w2, t1, hnow.2.1]; exact e1)))).mono ?_⟩
  rintro r h1 nx1 ⟨rfl, rfl, rfl⟩
  have hc1 : HC ca cb (uA (uA cA 53 y.2.1) 62 y.2.2) ring SS q6 nl LE (e_up h [(53, o53 y.2.1), (62, o62 y.2.2)]) _ := ⟨hc.nx9, hc.h32, hc.h33, hc.h34, hc.h35, hc.h36, hc.h37, hc.h38, hc.h39, hc.h40, hc.h41, hc.h42, hc.h43, hc.h44, hc.h45, hc.h46, hc.h47, hc.h48, hc.h49, hc.h50, hc.h51, hc.h52, rfl, hc.h54, hc.h55, hc.h56, hc.h57, hc.h58, hc.h59, hc.h60, hc.h61, rfl, hc.h63, hc.h64, hc.h65, hc.h66, hc.h67, hc.h68, hc.h69, hc.h70, e_dyn.up rfl hc.dy⟩
  have hr1 : HR ra rb rA J (e_up h [(53, o53 y.2.1), (62, o62 y.2.2)]) := hr.up (up_c rfl)
  refine ⟨rfl, hc.nx9, ⟨_, hr1.h72⟩, (eSem.toB (tX12_set_72 hG hc.nx9 hr1.h72 hr1.h80 hr1.h87 (by first | exact e2 | (simp only [w3, w4, t2, ← s1, ← k1, ← i1]; exact e2)))).mono ?_⟩
  rintro r2 h2 nx2 ⟨rfl, rfl, rfl⟩
  have hrel : REL (k + 1) ca cb (uA (uA cA 53 y.2.1) 62 y.2.2) ring SS nl (ua ra 72 0 z.2.1) rb (uA (uA rA 80 z.2.2.1) 87 z.2.2.2) := by
    obtain ⟨_, _, f3, f4, f5⟩ := e3
    exact ⟨W, H, n, hW, hH, hWH, ⟨w1, w2, w3, w4⟩, ⟨t1, t2, ht⟩, hnow', hpast', ⟨i1, i2'⟩, ⟨k1, k2⟩, f5, ⟨f3, by rw [show (uA (uA cA 53 y.2.1) 62 y.2.2) 53 = y.2.1 from rfl, f3]; exact f4⟩, hnl⟩
  refine ⟨by rw [e3.1], ⟨ca, cb, (uA (uA cA 53 y.2.1) 62 y.2.2), ring, SS, q6, nl, LE, (ua ra 72 0 z.2.1), rb, (uA (uA rA 80 z.2.2.1) 87 z.2.2.2), J, hc1.up (up_r rfl) hc.nx9 (e_dyn.up rfl hc1.dy), ⟨rfl, hr1.h73, hr1.h74, hr1.h75, hr1.h76, hr1.h77, hr1.h78, hr1.h79, rfl, hr1.h81, hr1.h82, hr1.h83, hr1.h84, hr1.h85, hr1.h86, rfl, hr1.h88, hr1.h89, hr1.h90, hr1.h91, hr1.h92, hr1.h93, hr1.h94, hr1.h95, hr1.h96, hr1.h97⟩, hrel⟩, rfl⟩
set_option maxRecDepth 100000 in
theorem turn_undo (hG : e_GS G) (hk : k < 512) (hc : HC ca cb cA ring SS q6 nl LE h nx) (hr : HR ra rb rA J h) (hl : REL k ca cb cA ring SS nl ra rb rA) : TURN k G la MX11_undo MX12_undo [] h nx := by
  obtain ⟨W, H, n, hW, hH, hWH, ⟨w1, w2, w3, w4⟩, ⟨t1, t2, ht⟩, hnow, hpast, ⟨i1, i2⟩, ⟨k1, k2⟩, hrf, ⟨s1, s2⟩, hnl⟩ := id hl
  have hok := hnow.1.2.1.okL hW hH
  have m40 : 40 * k ≤ 40 * (k + 1) := by omega
  have hnow' : nowR (40 * (k + 1)) W H (cA 41) (cA 55) (cA 43) (cA 44) (ca 54 1) (ca 42 0) (rA 79) := ⟨hnow.1.mono m40, hnow.2⟩
  have hpast' := hpast.mono m40
  have i2' : cb 32 8 = true → sv (40 * (k + 1)) W H (cA 59) (cA 60) (ca 58 2) (rA 97) := fun q => (i2 q).mono m40
  obtain ⟨y, z, e1, e2, e3⟩ := undo_sm (t := ra 72 0) hW hH hnow hpast
  refine ⟨y.1, 0, 0, by decide, by decide, (eSem.toB (tX11_undo_32 hG hc.nx9 hc.h32 hc.h39 hc.h40 hc.h41 hc.h42 hc.h43 hc.h44 hc.h54 hc.h55 hc.h56 hc.h57 hc.dy (by first | exact e1 | (simp only [w1, w2]; exact e1)))).mono ?_⟩
  rintro r h1 nx1 ⟨rfl, rfl, rfl⟩
  have hc1 : HC (ua (ua (ua (ua ca 42 0 y.2.1) 54 1 y.2.2.1) 56 1 y.2.2.2.1) 56 2 y.2.2.2.2.1) cb (uA (uA (uA (uA cA 41 y.2.2.2.2.2.1) 43 y.2.2.2.2.2.2.1) 44 y.2.2.2.2.2.2.2.1) 55 y.2.2.2.2.2.2.2.2) ring SS q6 nl LE (e_up h [(41, o41 y.2.2.2.2.2.1), (42, o42 y.2.1), (43, o43 y.2.2.2.2.2.2.1), (44, o44 y.2.2.2.2.2.2.2.1), (54, o54 y.2.2.1), (55, o55 y.2.2.2.2.2.2.2.2), (56, o56 y.2.2.2.1 y.2.2.2.2.1)]) _ := ⟨hc.nx9, hc.h32, hc.h33, hc.h34, hc.h35, hc.h36, hc.h37, hc.h38, hc.h39, hc.h40, rfl, rfl, rfl, rfl, hc.h45, hc.h46, hc.h47, hc.h48, hc.h49, hc.h50, hc.h51, hc.h52, hc.h53, rfl, rfl, rfl, hc.h57, hc.h58, hc.h59, hc.h60, hc.h61, hc.h62, hc.h63, hc.h64, hc.h65, hc.h66, hc.h67, hc.h68, hc.h69, hc.h70, e_dyn.up rfl hc.dy⟩
  have hr1 : HR ra rb rA J (e_up h [(41, o41 y.2.2.2.2.2.1), (42, o42 y.2.1), (43, o43 y.2.2.2.2.2.2.1), (44, o44 y.2.2.2.2.2.2.2.1), (54, o54 y.2.2.1), (55, o55 y.2.2.2.2.2.2.2.2), (56, o56 y.2.2.2.1 y.2.2.2.2.1)]) := hr.up (up_c rfl)
  refine ⟨rfl, hc.nx9, ⟨_, hr1.h72⟩, (eSem.toB (tX12_undo_72 hG hc.nx9 hr1.h72 hr1.h79 hr1.h86 (by first | exact e2 | (simp only [w3, w4, t2, ← s1, ← k1, ← i1]; exact e2)))).mono ?_⟩
  rintro r2 h2 nx2 ⟨rfl, rfl, rfl⟩
  have hrel : REL (k + 1) (ua (ua (ua (ua ca 42 0 y.2.1) 54 1 y.2.2.1) 56 1 y.2.2.2.1) 56 2 y.2.2.2.2.1) cb (uA (uA (uA (uA cA 41 y.2.2.2.2.2.1) 43 y.2.2.2.2.2.2.1) 44 y.2.2.2.2.2.2.2.1) 55 y.2.2.2.2.2.2.2.2) ring SS nl (ua (ua ra 72 0 z.2.1) 72 31 z.2.2.1) rb (uA rA 79 z.2.2.2) := by
    obtain ⟨_, _, f3, f4⟩ := e3
    exact ⟨W, H, n, hW, hH, hWH, ⟨w1, w2, w3, w4⟩, ⟨t1, t2, ht⟩, ⟨f3.1.mono m40, f3.2⟩, f4.mono m40, ⟨i1, i2'⟩, ⟨k1, k2⟩, hrf, ⟨s1, s2⟩, hnl⟩
  refine ⟨by rw [e3.1], ⟨(ua (ua (ua (ua ca 42 0 y.2.1) 54 1 y.2.2.1) 56 1 y.2.2.2.1) 56 2 y.2.2.2.2.1), cb, (uA (uA (uA (uA cA 41 y.2.2.2.2.2.1) 43 y.2.2.2.2.2.2.1) 44 y.2.2.2.2.2.2.2.1) 55 y.2.2.2.2.2.2.2.2), ring, SS, q6, nl, LE, (ua (ua ra 72 0 z.2.1) 72 31 z.2.2.1), rb, (uA rA 79 z.2.2.2), J, hc1.up (up_r rfl) hc.nx9 (e_dyn.up rfl hc1.dy), ⟨rfl, hr1.h73, hr1.h74, hr1.h75, hr1.h76, hr1.h77, hr1.h78, rfl, hr1.h80, hr1.h81, hr1.h82, hr1.h83, hr1.h84, hr1.h85, hr1.h86, hr1.h87, hr1.h88, hr1.h89, hr1.h90, hr1.h91, hr1.h92, hr1.h93, hr1.h94, hr1.h95, hr1.h96, hr1.h97⟩, hrel⟩, rfl⟩
set_option maxRecDepth 100000 in
theorem turn_image (hG : e_GS G) (hk : k < 512) (hc : HC ca cb cA ring SS q6 nl LE h nx) (hr : HR ra rb rA J h) (hl : REL k ca cb cA ring SS nl ra rb rA) : TURN k G la MX11_image MX12_image [] h nx := by
  obtain ⟨W, H, n, hW, hH, hWH, ⟨w1, w2, w3, w4⟩, ⟨t1, t2, ht⟩, hnow, hpast, ⟨i1, i2⟩, ⟨k1, k2⟩, hrf, ⟨s1, s2⟩, hnl⟩ := id hl
  have hok := hnow.1.2.1.okL hW hH
  have m40 : 40 * k ≤ 40 * (k + 1) := by omega
  have hnow' : nowR (40 * (k + 1)) W H (cA 41) (cA 55) (cA 43) (cA 44) (ca 54 1) (ca 42 0) (rA 79) := ⟨hnow.1.mono m40, hnow.2⟩
  have hpast' := hpast.mono m40
  have i2' : cb 32 8 = true → sv (40 * (k + 1)) W H (cA 59) (cA 60) (ca 58 2) (rA 97) := fun q => (i2 q).mono m40
  obtain ⟨y, z, e1, e2, e3⟩ := image_sm (t := ra 72 0) hW hH hnow.1 i2
  refine ⟨y.1, 0, 0, by decide, by decide, (eSem.toB (tX11_image_32 hG hc.nx9 hc.h32 hc.h39 hc.h40 hc.h41 hc.h54 hc.h55 hc.h58 hc.h59 hc.h60 (by first | exact e1 | (simp only [w1, w2, t1, hnow.2.1]; exact e1)))).mono ?_⟩
  rintro r h1 nx1 ⟨rfl, rfl, rfl⟩
  have hc1 : HC (ua ca 58 2 y.2.2.1) (ua cb 32 8 y.2.1) (uA (uA cA 59 y.2.2.2.1) 60 y.2.2.2.2) ring SS q6 nl LE (e_up h [(32, o32 y.2.1 (cb 32 10)), (58, o58 y.2.2.1), (59, o59 y.2.2.2.1), (60, o60 y.2.2.2.2)]) _ := ⟨hc.nx9, rfl, hc.h33, hc.h34, hc.h35, hc.h36, hc.h37, hc.h38, hc.h39, hc.h40, hc.h41, hc.h42, hc.h43, hc.h44, hc.h45, hc.h46, hc.h47, hc.h48, hc.h49, hc.h50, hc.h51, hc.h52, hc.h53, hc.h54, hc.h55, hc.h56, hc.h57, rfl, rfl, rfl, hc.h61, hc.h62, hc.h63, hc.h64, hc.h65, hc.h66, hc.h67, hc.h68, hc.h69, hc.h70, e_dyn.up rfl hc.dy⟩
  have hr1 : HR ra rb rA J (e_up h [(32, o32 y.2.1 (cb 32 10)), (58, o58 y.2.2.1), (59, o59 y.2.2.2.1), (60, o60 y.2.2.2.2)]) := hr.up (up_c rfl)
  refine ⟨rfl, hc.nx9, ⟨_, hr1.h72⟩, (eSem.toB (tX12_image_72 hG hc.nx9 hr1.h72 hr1.h79 hr1.h97 (by first | exact e2 | (simp only [w3, w4, t2, ← s1, ← k1, ← i1]; exact e2)))).mono ?_⟩
  rintro r2 h2 nx2 ⟨rfl, rfl, rfl⟩
  have hrel : REL (k + 1) (ua ca 58 2 y.2.2.1) (ua cb 32 8 y.2.1) (uA (uA cA 59 y.2.2.2.1) 60 y.2.2.2.2) ring SS nl (ua ra 72 0 z.2.1) (ua rb 72 50 z.2.2.1) (uA rA 97 z.2.2.2) := by
    obtain ⟨_, _, f3, f4⟩ := e3
    exact ⟨W, H, n, hW, hH, hWH, ⟨w1, w2, w3, w4⟩, ⟨t1, t2, ht⟩, hnow', hpast', ⟨f3.symm, fun q => (f4 q).mono m40⟩, ⟨k1, k2⟩, hrf, ⟨s1, s2⟩, hnl⟩
  refine ⟨by rw [e3.1], ⟨(ua ca 58 2 y.2.2.1), (ua cb 32 8 y.2.1), (uA (uA cA 59 y.2.2.2.1) 60 y.2.2.2.2), ring, SS, q6, nl, LE, (ua ra 72 0 z.2.1), (ua rb 72 50 z.2.2.1), (uA rA 97 z.2.2.2), J, hc1.up (up_r rfl) hc.nx9 (e_dyn.up rfl hc1.dy), ⟨rfl, hr1.h73, hr1.h74, hr1.h75, hr1.h76, hr1.h77, hr1.h78, hr1.h79, hr1.h80, hr1.h81, hr1.h82, hr1.h83, hr1.h84, hr1.h85, hr1.h86, hr1.h87, hr1.h88, hr1.h89, hr1.h90, hr1.h91, hr1.h92, hr1.h93, hr1.h94, hr1.h95, hr1.h96, rfl⟩, hrel⟩, rfl⟩
set_option maxRecDepth 100000 in
theorem turn_back (hG : e_GS G) (hk : k < 512) (hc : HC ca cb cA ring SS q6 nl LE h nx) (hr : HR ra rb rA J h) (hl : REL k ca cb cA ring SS nl ra rb rA) : TURN k G la MX11_back MX12_back [] h nx := by
  obtain ⟨W, H, n, hW, hH, hWH, ⟨w1, w2, w3, w4⟩, ⟨t1, t2, ht⟩, hnow, hpast, ⟨i1, i2⟩, ⟨k1, k2⟩, hrf, ⟨s1, s2⟩, hnl⟩ := id hl
  have hok := hnow.1.2.1.okL hW hH
  have m40 : 40 * k ≤ 40 * (k + 1) := by omega
  have hnow' : nowR (40 * (k + 1)) W H (cA 41) (cA 55) (cA 43) (cA 44) (ca 54 1) (ca 42 0) (rA 79) := ⟨hnow.1.mono m40, hnow.2⟩
  have hpast' := hpast.mono m40
  have i2' : cb 32 8 = true → sv (40 * (k + 1)) W H (cA 59) (cA 60) (ca 58 2) (rA 97) := fun q => (i2 q).mono m40
  obtain ⟨y, z, e1, e2, e3⟩ := back_sm (t := ra 72 0) (size := ca 56 2) (acts := ra 72 31) hW hH hnow i2
  refine ⟨y.1, 0, 0, by decide, by decide, (eSem.toB (tX11_back_32 hG hc.nx9 hc.h32 hc.h39 hc.h40 hc.h41 hc.h42 hc.h43 hc.h44 hc.h54 hc.h55 hc.h56 hc.h58 hc.h59 hc.h60 (by first | exact e1 | (simp only [w1, w2]; exact e1)))).mono ?_⟩
  rintro r h1 nx1 ⟨rfl, rfl, rfl⟩
  have hc1 : HC (ua (ua (ua ca 42 0 y.2.1) 54 1 y.2.2.1) 56 2 y.2.2.2.1) cb (uA (uA (uA (uA cA 41 y.2.2.2.2.1) 43 y.2.2.2.2.2.1) 44 y.2.2.2.2.2.2.1) 55 y.2.2.2.2.2.2.2) ring SS q6 nl LE (e_up h [(41, o41 y.2.2.2.2.1), (42, o42 y.2.1), (43, o43 y.2.2.2.2.2.1), (44, o44 y.2.2.2.2.2.2.1), (54, o54 y.2.2.1), (55, o55 y.2.2.2.2.2.2.2), (56, o56 (ca 56 1) y.2.2.2.1)]) _ := ⟨hc.nx9, hc.h32, hc.h33, hc.h34, hc.h35, hc.h36, hc.h37, hc.h38, hc.h39, hc.h40, rfl, rfl, rfl, rfl, hc.h45, hc.h46, hc.h47, hc.h48, hc.h49, hc.h50, hc.h51, hc.h52, hc.h53, rfl, rfl, rfl, hc.h57, hc.h58, hc.h59, hc.h60, hc.h61, hc.h62, hc.h63, hc.h64, hc.h65, hc.h66, hc.h67, hc.h68, hc.h69, hc.h70, e_dyn.up rfl hc.dy⟩
  have hr1 : HR ra rb rA J (e_up h [(41, o41 y.2.2.2.2.1), (42, o42 y.2.1), (43, o43 y.2.2.2.2.2.1), (44, o44 y.2.2.2.2.2.2.1), (54, o54 y.2.2.1), (55, o55 y.2.2.2.2.2.2.2), (56, o56 (ca 56 1) y.2.2.2.1)]) := hr.up (up_c rfl)
  refine ⟨rfl, hc.nx9, ⟨_, hr1.h72⟩, (eSem.toB (tX12_back_72 hG hc.nx9 hr1.h72 hr1.h79 hr1.h97 (by first | exact e2 | (simp only [w3, w4, t2, ← s1, ← k1, ← i1]; exact e2)))).mono ?_⟩
  rintro r2 h2 nx2 ⟨rfl, rfl, rfl⟩
  have hrel : REL (k + 1) (ua (ua (ua ca 42 0 y.2.1) 54 1 y.2.2.1) 56 2 y.2.2.2.1) cb (uA (uA (uA (uA cA 41 y.2.2.2.2.1) 43 y.2.2.2.2.2.1) 44 y.2.2.2.2.2.2.1) 55 y.2.2.2.2.2.2.2) ring SS nl (ua (ua ra 72 0 z.2.1) 72 31 z.2.2.1) rb (uA rA 79 z.2.2.2) := by
    obtain ⟨_, _, f3, f4⟩ := e3
    have hp2 : pastR (40 * (k + 1)) W H ring SS (ca 56 1) y.2.2.2.1 z.2.2.1 (rA 86) := by
      rcases f4 with ⟨a, b⟩ | ⟨a, b⟩
      · obtain ⟨N, S, b1, b2, b3, b4, b5, b6⟩ := hpast'
        exact ⟨N, 0, b1, by omega, b3, a, b, fun i hi => by omega⟩
      · rw [a, b]; exact hpast'
    exact ⟨W, H, n, hW, hH, hWH, ⟨w1, w2, w3, w4⟩, ⟨t1, t2, ht⟩, ⟨f3.1.mono m40, f3.2⟩, hp2, ⟨i1, i2'⟩, ⟨k1, k2⟩, hrf, ⟨s1, s2⟩, hnl⟩
  refine ⟨by rw [e3.1], ⟨(ua (ua (ua ca 42 0 y.2.1) 54 1 y.2.2.1) 56 2 y.2.2.2.1), cb, (uA (uA (uA (uA cA 41 y.2.2.2.2.1) 43 y.2.2.2.2.2.1) 44 y.2.2.2.2.2.2.1) 55 y.2.2.2.2.2.2.2), ring, SS, q6, nl, LE, (ua (ua ra 72 0 z.2.1) 72 31 z.2.2.1), rb, (uA rA 79 z.2.2.2), J, hc1.up (up_r rfl) hc.nx9 (e_dyn.up rfl hc1.dy), ⟨rfl, hr1.h73, hr1.h74, hr1.h75, hr1.h76, hr1.h77, hr1.h78, rfl, hr1.h80, hr1.h81, hr1.h82, hr1.h83, hr1.h84, hr1.h85, hr1.h86, hr1.h87, hr1.h88, hr1.h89, hr1.h90, hr1.h91, hr1.h92, hr1.h93, hr1.h94, hr1.h95, hr1.h96, hr1.h97⟩, hrel⟩, rfl⟩
end TURNS
