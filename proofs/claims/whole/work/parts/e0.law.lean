/-! ===== cases of the law ===== -/
def ML_law : eM := (yL_law, cL_law, 7, some .boolean, 11, 384)
abbrev LL (i : Int32) (v5 v6 : Option Value) : List (Option Value) := [some (.ref 5), some (.ref 32), some (.ref 72), some (.ref 98), some (.int i), v5, v6]
section LAW
variable {G : eG} {X : eX} {h : Nat → eO} {nx k c sl N : Nat} {xs : Nat → Int32} {i : Int32} {v5 v6 : Option Value}
set_option maxRecDepth 100000 in
theorem law_feed (F : eFx G ML_law X) (hG : e_GS G) (hk : k < 512) (hN : e_stat G 5 = some (.int, N, xs)) (i1 : vp_in (i + 1) N) (i2 : vp_in (i + 2) N) (i3 : vp_in (i + 3) N) (i4 : vp_in (i + 4) N) (i5 : vp_in (i + 5) N) (hs : LwS k h nx) (hc : c + 60 ≤ (x_R X).cells) (hsl : sl + 9740 ≤ (x_R X).slots) (kk : ∀ h1 nx1 c1 s1, LwS (k + 1) h1 nx1 → h1 98 = h 98 → c1 ≤ c + 60 → s1 ≤ sl + 9740 → eRun G X 1339 (LL i v5 v6) [] h1 [] nx1 c1 s1) : eRun G X 184 (LL i v5 v6) [] h [] nx c sl := by
  obtain ⟨ca, cb, cA, ring, SS, q6, nl, LE, ra, rb, rA, J, hC, hR, hL⟩ := hs
  refine r_aload_n F dL_law_184 rfl ?_
  refine r_aload_n F dL_law_185 rfl ?_
  refine r_iload F dL_law_186 rfl ?_
  refine r_iconst F dL_law_188 (v := 1) (by decide) ?_
  refine r_iadd F dL_law_189 ?_
  refine r_ialdS F dL_law_190 hN i1 ?_
  refine r_aload_n F dL_law_191 rfl ?_
  refine r_iload F dL_law_192 rfl ?_
  refine r_iconst F dL_law_194 (v := 2) (by decide) ?_
  refine r_iadd F dL_law_195 ?_
  refine r_ialdS F dL_law_196 hN i2 ?_
  refine r_aload_n F dL_law_197 rfl ?_
  refine r_iload F dL_law_198 rfl ?_
  refine r_iconst F dL_law_200 (v := 3) (by decide) ?_
  refine r_iadd F dL_law_201 ?_
  refine r_ialdS F dL_law_202 hN i3 ?_
  refine r_aload_n F dL_law_203 rfl ?_
  refine r_iload F dL_law_204 rfl ?_
  refine r_iconst F dL_law_206 (v := 4) (by decide) ?_
  refine r_iadd F dL_law_207 ?_
  refine r_ialdS F dL_law_208 hN i4 ?_
  refine r_aload_n F dL_law_209 rfl ?_
  refine r_iload F dL_law_210 rfl ?_
  refine r_iconst F dL_law_212 (v := 5) (by decide) ?_
  refine r_iadd F dL_law_213 ?_
  refine r_ialdS F dL_law_214 hN i5 ?_
  obtain ⟨v, mc, ms, hmc, hms, sem⟩ := turn_feed (la := x_l X) hG hk hC hR hL ((xs (i + 1).toNatClampNeg)) ((xs (i + 2).toNatClampNeg)) ((xs (i + 3).toNatClampNeg)) ((xs (i + 4).toNatClampNeg)) ((xs (i + 5).toNatClampNeg))
  refine r_callVB F dL_law_215 (b := 32) (As := [.int (xs (i + 1).toNatClampNeg), .int (xs (i + 2).toNatClampNeg), .int (xs (i + 3).toNatClampNeg), .int (xs (i + 4).toNatClampNeg), .int (xs (i + 5).toNatClampNeg)]) (S0 := []) lkL_19 mX11_feed sem rfl rfl rfl (e_le rfl) (e_le rfl) (e_le rfl) hC.h32 (ci := 11) e_cl11.1 rfl (e_le rfl) (e_lt hC.nx9 rfl) (by omega) (by omega) ?_
  rintro r h1 nx1 ⟨rfl, n1, ⟨fs, h72⟩, sem2⟩
  refine r_aload_n F dL_law_218 rfl ?_
  refine r_aload_n F dL_law_219 rfl ?_
  refine r_iload F dL_law_220 rfl ?_
  refine r_iconst F dL_law_222 (v := 1) (by decide) ?_
  refine r_iadd F dL_law_223 ?_
  refine r_ialdS F dL_law_224 hN i1 ?_
  refine r_aload_n F dL_law_225 rfl ?_
  refine r_iload F dL_law_226 rfl ?_
  refine r_iconst F dL_law_228 (v := 2) (by decide) ?_
  refine r_iadd F dL_law_229 ?_
  refine r_ialdS F dL_law_230 hN i2 ?_
  refine r_aload_n F dL_law_231 rfl ?_
  refine r_iload F dL_law_232 rfl ?_
  refine r_iconst F dL_law_234 (v := 3) (by decide) ?_
  refine r_iadd F dL_law_235 ?_
  refine r_ialdS F dL_law_236 hN i3 ?_
  refine r_aload_n F dL_law_237 rfl ?_
  refine r_iload F dL_law_238 rfl ?_
  refine r_iconst F dL_law_240 (v := 4) (by decide) ?_
  refine r_iadd F dL_law_241 ?_
  refine r_ialdS F dL_law_242 hN i4 ?_
  refine r_aload_n F dL_law_243 rfl ?_
  refine r_iload F dL_law_244 rfl ?_
  refine r_iconst F dL_law_246 (v := 5) (by decide) ?_
  refine r_iadd F dL_law_247 ?_
  refine r_ialdS F dL_law_248 hN i5 ?_
  refine r_callVB F dL_law_249 (b := 72) (As := [.int (xs (i + 1).toNatClampNeg), .int (xs (i + 2).toNatClampNeg), .int (xs (i + 3).toNatClampNeg), .int (xs (i + 4).toNatClampNeg), .int (xs (i + 5).toNatClampNeg)]) (S0 := [.int v]) lkL_23 mX12_feed sem2 rfl rfl rfl (e_le rfl) (e_le rfl) (e_le rfl) h72 (ci := 12) e_cl12.1 rfl (e_le rfl) (e_lt n1 rfl) (by omega) (by omega) ?_
  rintro r2 h2 nx2 ⟨rfl, ls, h98⟩
  refine r_icmp_eq_t F dL_law_252 (tgt := 1339) (by decide) rfl ?_
  exact kk h2 nx2 _ _ ls h98 (by omega) (by omega)
set_option maxRecDepth 100000 in
theorem law_end (F : eFx G ML_law X) (hG : e_GS G) (hk : k < 512) (hN : e_stat G 5 = some (.int, N, xs)) (i1 : vp_in (i + 1) N) (i2 : vp_in (i + 2) N) (i3 : vp_in (i + 3) N) (i4 : vp_in (i + 4) N) (i5 : vp_in (i + 5) N) (hs : LwS k h nx) (hc : c + 60 ≤ (x_R X).cells) (hsl : sl + 9740 ≤ (x_R X).slots) (kk : ∀ h1 nx1 c1 s1, LwS (k + 1) h1 nx1 → h1 98 = h 98 → c1 ≤ c + 60 → s1 ≤ sl + 9740 → eRun G X 1339 (LL i v5 v6) [] h1 [] nx1 c1 s1) : eRun G X 257 (LL i v5 v6) [] h [] nx c sl := by
  obtain ⟨ca, cb, cA, ring, SS, q6, nl, LE, ra, rb, rA, J, hC, hR, hL⟩ := hs
  refine r_aload_n F dL_law_257 rfl ?_
  refine r_aload_n F dL_law_258 rfl ?_
  refine r_iload F dL_law_259 rfl ?_
  refine r_iconst F dL_law_261 (v := 1) (by decide) ?_
  refine r_iadd F dL_law_262 ?_
  refine r_ialdS F dL_law_263 hN i1 ?_
  obtain ⟨v, mc, ms, hmc, hms, sem⟩ := turn_end (la := x_l X) hG hk hC hR hL ((xs (i + 1).toNatClampNeg))
  refine r_callVB F dL_law_264 (b := 32) (As := [.int (xs (i + 1).toNatClampNeg)]) (S0 := []) lkL_24 mX11_end sem rfl rfl rfl (e_le rfl) (e_le rfl) (e_le rfl) hC.h32 (ci := 11) e_cl11.1 rfl (e_le rfl) (e_lt hC.nx9 rfl) (by omega) (by omega) ?_
  rintro r h1 nx1 ⟨rfl, n1, ⟨fs, h72⟩, sem2⟩
  refine r_aload_n F dL_law_267 rfl ?_
  refine r_aload_n F dL_law_268 rfl ?_
  refine r_iload F dL_law_269 rfl ?_
  refine r_iconst F dL_law_271 (v := 1) (by decide) ?_
  refine r_iadd F dL_law_272 ?_
  refine r_ialdS F dL_law_273 hN i1 ?_
  refine r_callVB F dL_law_274 (b := 72) (As := [.int (xs (i + 1).toNatClampNeg)]) (S0 := [.int v]) lkL_28 mX12_end sem2 rfl rfl rfl (e_le rfl) (e_le rfl) (e_le rfl) h72 (ci := 12) e_cl12.1 rfl (e_le rfl) (e_lt n1 rfl) (by omega) (by omega) ?_
  rintro r2 h2 nx2 ⟨rfl, ls, h98⟩
  refine r_icmp_eq_t F dL_law_277 (tgt := 1339) (by decide) rfl ?_
  exact kk h2 nx2 _ _ ls h98 (by omega) (by omega)
set_option maxRecDepth 100000 in
theorem law_fault (F : eFx G ML_law X) (hG : e_GS G) (hk : k < 512) (hN : e_stat G 5 = some (.int, N, xs)) (i1 : vp_in (i + 1) N) (i2 : vp_in (i + 2) N) (i3 : vp_in (i + 3) N) (i4 : vp_in (i + 4) N) (i5 : vp_in (i + 5) N) (hs : LwS k h nx) (hc : c + 60 ≤ (x_R X).cells) (hsl : sl + 9740 ≤ (x_R X).slots) (kk : ∀ h1 nx1 c1 s1, LwS (k + 1) h1 nx1 → h1 98 = h 98 → c1 ≤ c + 60 → s1 ≤ sl + 9740 → eRun G X 1339 (LL i v5 v6) [] h1 [] nx1 c1 s1) : eRun G X 282 (LL i v5 v6) [] h [] nx c sl := by
  obtain ⟨ca, cb, cA, ring, SS, q6, nl, LE, ra, rb, rA, J, hC, hR, hL⟩ := hs
  refine r_aload_n F dL_law_282 rfl ?_
  obtain ⟨v, mc, ms, hmc, hms, sem⟩ := turn_fault (la := x_l X) hG hk hC hR hL 
  refine r_callVB F dL_law_283 (b := 32) (As := []) (S0 := []) lkL_29 mX11_fault sem rfl rfl rfl (e_le rfl) (e_le rfl) (e_le rfl) hC.h32 (ci := 11) e_cl11.1 rfl (e_le rfl) (e_lt hC.nx9 rfl) (by omega) (by omega) ?_
  rintro r h1 nx1 ⟨rfl, n1, ⟨fs, h72⟩, sem2⟩
  refine r_aload_n F dL_law_286 rfl ?_
  refine r_callVB F dL_law_287 (b := 72) (As := []) (S0 := [.int v]) lkL_33 mX12_fault sem2 rfl rfl rfl (e_le rfl) (e_le rfl) (e_le rfl) h72 (ci := 12) e_cl12.1 rfl (e_le rfl) (e_lt n1 rfl) (by omega) (by omega) ?_
  rintro r2 h2 nx2 ⟨rfl, ls, h98⟩
  refine r_icmp_eq_t F dL_law_290 (tgt := 1339) (by decide) rfl ?_
  exact kk h2 nx2 _ _ ls h98 (by omega) (by omega)
set_option maxRecDepth 100000 in
theorem law_text (F : eFx G ML_law X) (hG : e_GS G) (hk : k < 512) (hN : e_stat G 5 = some (.int, N, xs)) (i1 : vp_in (i + 1) N) (i2 : vp_in (i + 2) N) (i3 : vp_in (i + 3) N) (i4 : vp_in (i + 4) N) (i5 : vp_in (i + 5) N) (hs : LwS k h nx) (hc : c + 60 ≤ (x_R X).cells) (hsl : sl + 9740 ≤ (x_R X).slots) (kk : ∀ h1 nx1 c1 s1, LwS (k + 1) h1 nx1 → h1 98 = h 98 → c1 ≤ c + 60 → s1 ≤ sl + 9740 → eRun G X 1339 (LL i v5 v6) [] h1 [] nx1 c1 s1) : eRun G X 295 (LL i v5 v6) [] h [] nx c sl := by
  obtain ⟨ca, cb, cA, ring, SS, q6, nl, LE, ra, rb, rA, J, hC, hR, hL⟩ := hs
  refine r_aload_n F dL_law_295 rfl ?_
  obtain ⟨v, mc, ms, hmc, hms, sem⟩ := turn_text (la := x_l X) hG hk hC hR hL 
  refine r_callVB F dL_law_296 (b := 32) (As := []) (S0 := []) lkL_34 mX11_text sem rfl rfl rfl (e_le rfl) (e_le rfl) (e_le rfl) hC.h32 (ci := 11) e_cl11.1 rfl (e_le rfl) (e_lt hC.nx9 rfl) (by omega) (by omega) ?_
  rintro r h1 nx1 ⟨rfl, n1, ⟨fs, h72⟩, sem2⟩
  refine r_aload_n F dL_law_299 rfl ?_
  refine r_callVB F dL_law_300 (b := 72) (As := []) (S0 := [.int v]) lkL_37 mX12_text sem2 rfl rfl rfl (e_le rfl) (e_le rfl) (e_le rfl) h72 (ci := 12) e_cl12.1 rfl (e_le rfl) (e_lt n1 rfl) (by omega) (by omega) ?_
  rintro r2 h2 nx2 ⟨rfl, ls, h98⟩
  refine r_icmp_eq_t F dL_law_303 (tgt := 1339) (by decide) rfl ?_
  exact kk h2 nx2 _ _ ls h98 (by omega) (by omega)
set_option maxRecDepth 100000 in
theorem law_rule (F : eFx G ML_law X) (hG : e_GS G) (hk : k < 512) (hN : e_stat G 5 = some (.int, N, xs)) (i1 : vp_in (i + 1) N) (i2 : vp_in (i + 2) N) (i3 : vp_in (i + 3) N) (i4 : vp_in (i + 4) N) (i5 : vp_in (i + 5) N) (hs : LwS k h nx) (hc : c + 60 ≤ (x_R X).cells) (hsl : sl + 9740 ≤ (x_R X).slots) (kk : ∀ h1 nx1 c1 s1, LwS (k + 1) h1 nx1 → h1 98 = h 98 → c1 ≤ c + 60 → s1 ≤ sl + 9740 → eRun G X 1339 (LL i v5 v6) [] h1 [] nx1 c1 s1) : eRun G X 308 (LL i v5 v6) [] h [] nx c sl := by
  obtain ⟨ca, cb, cA, ring, SS, q6, nl, LE, ra, rb, rA, J, hC, hR, hL⟩ := hs
  refine r_aload_n F dL_law_308 rfl ?_
  refine r_aload_n F dL_law_309 rfl ?_
  refine r_iload F dL_law_310 rfl ?_
  refine r_iconst F dL_law_312 (v := 1) (by decide) ?_
  refine r_iadd F dL_law_313 ?_
  refine r_ialdS F dL_law_314 hN i1 ?_
  obtain ⟨v, mc, ms, hmc, hms, sem⟩ := turn_rule (la := x_l X) hG hk hC hR hL ((xs (i + 1).toNatClampNeg))
  refine r_callVB F dL_law_315 (b := 32) (As := [.int (xs (i + 1).toNatClampNeg)]) (S0 := []) lkL_38 mX11_rule sem rfl rfl rfl (e_le rfl) (e_le rfl) (e_le rfl) hC.h32 (ci := 11) e_cl11.1 rfl (e_le rfl) (e_lt hC.nx9 rfl) (by omega) (by omega) ?_
  rintro r h1 nx1 ⟨rfl, n1, ⟨fs, h72⟩, sem2⟩
  refine r_aload_n F dL_law_318 rfl ?_
  refine r_aload_n F dL_law_319 rfl ?_
  refine r_iload F dL_law_320 rfl ?_
  refine r_iconst F dL_law_322 (v := 1) (by decide) ?_
  refine r_iadd F dL_law_323 ?_
  refine r_ialdS F dL_law_324 hN i1 ?_
  refine r_callVB F dL_law_325 (b := 72) (As := [.int (xs (i + 1).toNatClampNeg)]) (S0 := [.int v]) lkL_42 mX12_rule sem2 rfl rfl rfl (e_le rfl) (e_le rfl) (e_le rfl) h72 (ci := 12) e_cl12.1 rfl (e_le rfl) (e_lt n1 rfl) (by omega) (by omega) ?_
  rintro r2 h2 nx2 ⟨rfl, ls, h98⟩
  refine r_icmp_eq_t F dL_law_328 (tgt := 1339) (by decide) rfl ?_
  exact kk h2 nx2 _ _ ls h98 (by omega) (by omega)
set_option maxRecDepth 100000 in
theorem law_face (F : eFx G ML_law X) (hG : e_GS G) (hk : k < 512) (hN : e_stat G 5 = some (.int, N, xs)) (i1 : vp_in (i + 1) N) (i2 : vp_in (i + 2) N) (i3 : vp_in (i + 3) N) (i4 : vp_in (i + 4) N) (i5 : vp_in (i + 5) N) (hs : LwS k h nx) (hc : c + 60 ≤ (x_R X).cells) (hsl : sl + 9740 ≤ (x_R X).slots) (kk : ∀ h1 nx1 c1 s1, LwS (k + 1) h1 nx1 → h1 98 = h 98 → c1 ≤ c + 60 → s1 ≤ sl + 9740 → eRun G X 1339 (LL i v5 v6) [] h1 [] nx1 c1 s1) : eRun G X 401 (LL i v5 v6) [] h [] nx c sl := by
  obtain ⟨ca, cb, cA, ring, SS, q6, nl, LE, ra, rb, rA, J, hC, hR, hL⟩ := hs
  refine r_aload_n F dL_law_401 rfl ?_
  refine r_aload_n F dL_law_402 rfl ?_
  refine r_iload F dL_law_403 rfl ?_
  refine r_iconst F dL_law_405 (v := 1) (by decide) ?_
  refine r_iadd F dL_law_406 ?_
  refine r_ialdS F dL_law_407 hN i1 ?_
  refine r_aload_n F dL_law_408 rfl ?_
  refine r_iload F dL_law_409 rfl ?_
  refine r_iconst F dL_law_411 (v := 2) (by decide) ?_
  refine r_iadd F dL_law_412 ?_
  refine r_ialdS F dL_law_413 hN i2 ?_
  refine r_aload_n F dL_law_414 rfl ?_
  refine r_iload F dL_law_415 rfl ?_
  refine r_iconst F dL_law_417 (v := 3) (by decide) ?_
  refine r_iadd F dL_law_418 ?_
  refine r_ialdS F dL_law_419 hN i3 ?_
  obtain ⟨v, mc, ms, hmc, hms, sem⟩ := turn_face (la := x_l X) hG hk hC hR hL ((xs (i + 1).toNatClampNeg)) ((xs (i + 2).toNatClampNeg)) ((xs (i + 3).toNatClampNeg))
  refine r_callVB F dL_law_420 (b := 32) (As := [.int (xs (i + 1).toNatClampNeg), .int (xs (i + 2).toNatClampNeg), .int (xs (i + 3).toNatClampNeg)]) (S0 := []) lkL_52 mX11_face sem rfl rfl rfl (e_le rfl) (e_le rfl) (e_le rfl) hC.h32 (ci := 11) e_cl11.1 rfl (e_le rfl) (e_lt hC.nx9 rfl) (by omega) (by omega) ?_
  rintro r h1 nx1 ⟨rfl, n1, ⟨fs, h72⟩, sem2⟩
  refine r_aload_n F dL_law_423 rfl ?_
  refine r_aload_n F dL_law_424 rfl ?_
  refine r_iload F dL_law_425 rfl ?_
  refine r_iconst F dL_law_427 (v := 1) (by decide) ?_
  refine r_iadd F dL_law_428 ?_
  refine r_ialdS F dL_law_429 hN i1 ?_
  refine r_aload_n F dL_law_430 rfl ?_
  refine r_iload F dL_law_431 rfl ?_
  refine r_iconst F dL_law_433 (v := 2) (by decide) ?_
  refine r_iadd F dL_law_434 ?_
  refine r_ialdS F dL_law_435 hN i2 ?_
  refine r_aload_n F dL_law_436 rfl ?_
  refine r_iload F dL_law_437 rfl ?_
  refine r_iconst F dL_law_439 (v := 3) (by decide) ?_
  refine r_iadd F dL_law_440 ?_
  refine r_ialdS F dL_law_441 hN i3 ?_
  refine r_callVB F dL_law_442 (b := 72) (As := [.int (xs (i + 1).toNatClampNeg), .int (xs (i + 2).toNatClampNeg), .int (xs (i + 3).toNatClampNeg)]) (S0 := [.int v]) lkL_56 mX12_face sem2 rfl rfl rfl (e_le rfl) (e_le rfl) (e_le rfl) h72 (ci := 12) e_cl12.1 rfl (e_le rfl) (e_lt n1 rfl) (by omega) (by omega) ?_
  rintro r2 h2 nx2 ⟨rfl, ls, h98⟩
  refine r_icmp_eq_t F dL_law_445 (tgt := 1339) (by decide) rfl ?_
  exact kk h2 nx2 _ _ ls h98 (by omega) (by omega)
set_option maxRecDepth 100000 in
theorem law_link (F : eFx G ML_law X) (hG : e_GS G) (hk : k < 512) (hN : e_stat G 5 = some (.int, N, xs)) (i1 : vp_in (i + 1) N) (i2 : vp_in (i + 2) N) (i3 : vp_in (i + 3) N) (i4 : vp_in (i + 4) N) (i5 : vp_in (i + 5) N) (hs : LwS k h nx) (hc : c + 60 ≤ (x_R X).cells) (hsl : sl + 9740 ≤ (x_R X).slots) (kk : ∀ h1 nx1 c1 s1, LwS (k + 1) h1 nx1 → h1 98 = h 98 → c1 ≤ c + 60 → s1 ≤ sl + 9740 → eRun G X 1339 (LL i v5 v6) [] h1 [] nx1 c1 s1) : eRun G X 450 (LL i v5 v6) [] h [] nx c sl := by
  obtain ⟨ca, cb, cA, ring, SS, q6, nl, LE, ra, rb, rA, J, hC, hR, hL⟩ := hs
  by_cases hz : xs (i + 3).toNatClampNeg = 0
  · refine r_aload_n F dL_law_450 rfl ?_
    refine r_aload_n F dL_law_451 rfl ?_
    refine r_iload F dL_law_452 rfl ?_
    refine r_iconst F dL_law_454 (v := 1) (by decide) ?_
    refine r_iadd F dL_law_455 ?_
    refine r_ialdS F dL_law_456 hN i1 ?_
    refine r_aload_n F dL_law_457 rfl ?_
    refine r_iload F dL_law_458 rfl ?_
    refine r_iconst F dL_law_460 (v := 2) (by decide) ?_
    refine r_iadd F dL_law_461 ?_
    refine r_ialdS F dL_law_462 hN i2 ?_
    refine r_aload_n F dL_law_463 rfl ?_
    refine r_iload F dL_law_464 rfl ?_
    refine r_iconst F dL_law_466 (v := 3) (by decide) ?_
    refine r_iadd F dL_law_467 ?_
    refine r_ialdS F dL_law_468 hN i3 ?_
    refine r_if_eq_t F dL_law_469 (tgt := 476) (by decide) hz ?_
    refine r_iconst F dL_law_476 (v := 0) (by decide) ?_
    refine r_aload_n F dL_law_477 rfl ?_
    refine r_iload F dL_law_478 rfl ?_
    refine r_iconst F dL_law_480 (v := 4) (by decide) ?_
    refine r_iadd F dL_law_481 ?_
    refine r_ialdS F dL_law_482 hN i4 ?_
    obtain ⟨v, mc, ms, hmc, hms, sem⟩ := turn_link (la := x_l X) hG hk hC hR hL ((xs (i + 1).toNatClampNeg)) ((xs (i + 2).toNatClampNeg)) false ((xs (i + 4).toNatClampNeg))
    refine r_callVB F dL_law_483 (b := 32) (As := [.int (xs (i + 1).toNatClampNeg), .int (xs (i + 2).toNatClampNeg), .int (e_b false), .int (xs (i + 4).toNatClampNeg)]) (S0 := []) lkL_57 mX11_link sem rfl rfl rfl (e_le rfl) (e_le rfl) (e_le rfl) hC.h32 (ci := 11) e_cl11.1 rfl (e_le rfl) (e_lt hC.nx9 rfl) (by omega) (by omega) ?_
    rintro r h1 nx1 ⟨rfl, n1, ⟨fs, h72⟩, sem2⟩
    refine r_aload_n F dL_law_486 rfl ?_
    refine r_aload_n F dL_law_487 rfl ?_
    refine r_iload F dL_law_488 rfl ?_
    refine r_iconst F dL_law_490 (v := 1) (by decide) ?_
    refine r_iadd F dL_law_491 ?_
    refine r_ialdS F dL_law_492 hN i1 ?_
    refine r_aload_n F dL_law_493 rfl ?_
    refine r_iload F dL_law_494 rfl ?_
    refine r_iconst F dL_law_496 (v := 2) (by decide) ?_
    refine r_iadd F dL_law_497 ?_
    refine r_ialdS F dL_law_498 hN i2 ?_
    refine r_aload_n F dL_law_499 rfl ?_
    refine r_iload F dL_law_500 rfl ?_
    refine r_iconst F dL_law_502 (v := 3) (by decide) ?_
    refine r_iadd F dL_law_503 ?_
    refine r_ialdS F dL_law_504 hN i3 ?_
    refine r_if_eq_t F dL_law_505 (tgt := 512) (by decide) hz ?_
    refine r_iconst F dL_law_512 (v := 0) (by decide) ?_
    refine r_aload_n F dL_law_513 rfl ?_
    refine r_iload F dL_law_514 rfl ?_
    refine r_iconst F dL_law_516 (v := 4) (by decide) ?_
    refine r_iadd F dL_law_517 ?_
    refine r_ialdS F dL_law_518 hN i4 ?_
    refine r_callVB F dL_law_519 (b := 72) (As := [.int (xs (i + 1).toNatClampNeg), .int (xs (i + 2).toNatClampNeg), .int (e_b false), .int (xs (i + 4).toNatClampNeg)]) (S0 := [.int v]) lkL_61 mX12_link sem2 rfl rfl rfl (e_le rfl) (e_le rfl) (e_le rfl) h72 (ci := 12) e_cl12.1 rfl (e_le rfl) (e_lt n1 rfl) (by omega) (by omega) ?_
    rintro r2 h2 nx2 ⟨rfl, ls, h98⟩
    refine r_icmp_eq_t F dL_law_522 (tgt := 1339) (by decide) rfl ?_
    exact kk h2 nx2 _ _ ls h98 (by omega) (by omega)
  · refine r_aload_n F dL_law_450 rfl ?_
    refine r_aload_n F dL_law_451 rfl ?_
    refine r_iload F dL_law_452 rfl ?_
    refine r_iconst F dL_law_454 (v := 1) (by decide) ?_
    refine r_iadd F dL_law_455 ?_
    refine r_ialdS F dL_law_456 hN i1 ?_
    refine r_aload_n F dL_law_457 rfl ?_
    refine r_iload F dL_law_458 rfl ?_
    refine r_iconst F dL_law_460 (v := 2) (by decide) ?_
    refine r_iadd F dL_law_461 ?_
    refine r_ialdS F dL_law_462 hN i2 ?_
    refine r_aload_n F dL_law_463 rfl ?_
    refine r_iload F dL_law_464 rfl ?_
    refine r_iconst F dL_law_466 (v := 3) (by decide) ?_
    refine r_iadd F dL_law_467 ?_
    refine r_ialdS F dL_law_468 hN i3 ?_
    refine r_if_eq_f F dL_law_469 (tgt := 476) (by decide) hz ?_
    refine r_iconst F dL_law_472 (v := 1) (by decide) ?_
    refine r_goto F dL_law_473 (tgt := 477) (by decide) ?_
    refine r_aload_n F dL_law_477 rfl ?_
    refine r_iload F dL_law_478 rfl ?_
    refine r_iconst F dL_law_480 (v := 4) (by decide) ?_
    refine r_iadd F dL_law_481 ?_
    refine r_ialdS F dL_law_482 hN i4 ?_
    obtain ⟨v, mc, ms, hmc, hms, sem⟩ := turn_link (la := x_l X) hG hk hC hR hL ((xs (i + 1).toNatClampNeg)) ((xs (i + 2).toNatClampNeg)) true ((xs (i + 4).toNatClampNeg))
    refine r_callVB F dL_law_483 (b := 32) (As := [.int (xs (i + 1).toNatClampNeg), .int (xs (i + 2).toNatClampNeg), .int (e_b true), .int (xs (i + 4).toNatClampNeg)]) (S0 := []) lkL_57 mX11_link sem rfl rfl rfl (e_le rfl) (e_le rfl) (e_le rfl) hC.h32 (ci := 11) e_cl11.1 rfl (e_le rfl) (e_lt hC.nx9 rfl) (by omega) (by omega) ?_
    rintro r h1 nx1 ⟨rfl, n1, ⟨fs, h72⟩, sem2⟩
    refine r_aload_n F dL_law_486 rfl ?_
    refine r_aload_n F dL_law_487 rfl ?_
    refine r_iload F dL_law_488 rfl ?_
    refine r_iconst F dL_law_490 (v := 1) (by decide) ?_
    refine r_iadd F dL_law_491 ?_
    refine r_ialdS F dL_law_492 hN i1 ?_
    refine r_aload_n F dL_law_493 rfl ?_
    refine r_iload F dL_law_494 rfl ?_
    refine r_iconst F dL_law_496 (v := 2) (by decide) ?_
    refine r_iadd F dL_law_497 ?_
    refine r_ialdS F dL_law_498 hN i2 ?_
    refine r_aload_n F dL_law_499 rfl ?_
    refine r_iload F dL_law_500 rfl ?_
    refine r_iconst F dL_law_502 (v := 3) (by decide) ?_
    refine r_iadd F dL_law_503 ?_
    refine r_ialdS F dL_law_504 hN i3 ?_
    refine r_if_eq_f F dL_law_505 (tgt := 512) (by decide) hz ?_
    refine r_iconst F dL_law_508 (v := 1) (by decide) ?_
    refine r_goto F dL_law_509 (tgt := 513) (by decide) ?_
    refine r_aload_n F dL_law_513 rfl ?_
    refine r_iload F dL_law_514 rfl ?_
    refine r_iconst F dL_law_516 (v := 4) (by decide) ?_
    refine r_iadd F dL_law_517 ?_
    refine r_ialdS F dL_law_518 hN i4 ?_
    refine r_callVB F dL_law_519 (b := 72) (As := [.int (xs (i + 1).toNatClampNeg), .int (xs (i + 2).toNatClampNeg), .int (e_b true), .int (xs (i + 4).toNatClampNeg)]) (S0 := [.int v]) lkL_61 mX12_link sem2 rfl rfl rfl (e_le rfl) (e_le rfl) (e_le rfl) h72 (ci := 12) e_cl12.1 rfl (e_le rfl) (e_lt n1 rfl) (by omega) (by omega) ?_
    rintro r2 h2 nx2 ⟨rfl, ls, h98⟩
    refine r_icmp_eq_t F dL_law_522 (tgt := 1339) (by decide) rfl ?_
    exact kk h2 nx2 _ _ ls h98 (by omega) (by omega)
set_option maxRecDepth 100000 in
theorem law_box (F : eFx G ML_law X) (hG : e_GS G) (hk : k < 512) (hN : e_stat G 5 = some (.int, N, xs)) (i1 : vp_in (i + 1) N) (i2 : vp_in (i + 2) N) (i3 : vp_in (i + 3) N) (i4 : vp_in (i + 4) N) (i5 : vp_in (i + 5) N) (hs : LwS k h nx) (hc : c + 60 ≤ (x_R X).cells) (hsl : sl + 9740 ≤ (x_R X).slots) (kk : ∀ h1 nx1 c1 s1, LwS (k + 1) h1 nx1 → h1 98 = h 98 → c1 ≤ c + 60 → s1 ≤ sl + 9740 → eRun G X 1339 (LL i v5 v6) [] h1 [] nx1 c1 s1) : eRun G X 527 (LL i v5 v6) [] h [] nx c sl := by
  obtain ⟨ca, cb, cA, ring, SS, q6, nl, LE, ra, rb, rA, J, hC, hR, hL⟩ := hs
  refine r_aload_n F dL_law_527 rfl ?_
  refine r_aload_n F dL_law_528 rfl ?_
  refine r_iload F dL_law_529 rfl ?_
  refine r_iconst F dL_law_531 (v := 1) (by decide) ?_
  refine r_iadd F dL_law_532 ?_
  refine r_ialdS F dL_law_533 hN i1 ?_
  refine r_aload_n F dL_law_534 rfl ?_
  refine r_iload F dL_law_535 rfl ?_
  refine r_iconst F dL_law_537 (v := 2) (by decide) ?_
  refine r_iadd F dL_law_538 ?_
  refine r_ialdS F dL_law_539 hN i2 ?_
  refine r_aload_n F dL_law_540 rfl ?_
  refine r_iload F dL_law_541 rfl ?_
  refine r_iconst F dL_law_543 (v := 3) (by decide) ?_
  refine r_iadd F dL_law_544 ?_
  refine r_ialdS F dL_law_545 hN i3 ?_
  refine r_aload_n F dL_law_546 rfl ?_
  refine r_iload F dL_law_547 rfl ?_
  refine r_iconst F dL_law_549 (v := 4) (by decide) ?_
  refine r_iadd F dL_law_550 ?_
  refine r_ialdS F dL_law_551 hN i4 ?_
  refine r_aload_n F dL_law_552 rfl ?_
  refine r_iload F dL_law_553 rfl ?_
  refine r_iconst F dL_law_555 (v := 5) (by decide) ?_
  refine r_iadd F dL_law_556 ?_
  refine r_ialdS F dL_law_557 hN i5 ?_
  obtain ⟨v, mc, ms, hmc, hms, sem⟩ := turn_box (la := x_l X) hG hk hC hR hL ((xs (i + 1).toNatClampNeg)) ((xs (i + 2).toNatClampNeg)) ((xs (i + 3).toNatClampNeg)) ((xs (i + 4).toNatClampNeg)) ((xs (i + 5).toNatClampNeg))
  refine r_callVB F dL_law_558 (b := 32) (As := [.int (xs (i + 1).toNatClampNeg), .int (xs (i + 2).toNatClampNeg), .int (xs (i + 3).toNatClampNeg), .int (xs (i + 4).toNatClampNeg), .int (xs (i + 5).toNatClampNeg)]) (S0 := []) lkL_62 mX11_box sem rfl rfl rfl (e_le rfl) (e_le rfl) (e_le rfl) hC.h32 (ci := 11) e_cl11.1 rfl (e_le rfl) (e_lt hC.nx9 rfl) (by omega) (by omega) ?_
  rintro r h1 nx1 ⟨rfl, n1, ⟨fs, h72⟩, sem2⟩
  refine r_aload_n F dL_law_561 rfl ?_
  refine r_aload_n F dL_law_562 rfl ?_
  refine r_iload F dL_law_563 rfl ?_
  refine r_iconst F dL_law_565 (v := 1) (by decide) ?_
  refine r_iadd F dL_law_566 ?_
  refine r_ialdS F dL_law_567 hN i1 ?_
  refine r_aload_n F dL_law_568 rfl ?_
  refine r_iload F dL_law_569 rfl ?_
  refine r_iconst F dL_law_571 (v := 2) (by decide) ?_
  refine r_iadd F dL_law_572 ?_
  refine r_ialdS F dL_law_573 hN i2 ?_
  refine r_aload_n F dL_law_574 rfl ?_
  refine r_iload F dL_law_575 rfl ?_
  refine r_iconst F dL_law_577 (v := 3) (by decide) ?_
  refine r_iadd F dL_law_578 ?_
  refine r_ialdS F dL_law_579 hN i3 ?_
  refine r_aload_n F dL_law_580 rfl ?_
  refine r_iload F dL_law_581 rfl ?_
  refine r_iconst F dL_law_583 (v := 4) (by decide) ?_
  refine r_iadd F dL_law_584 ?_
  refine r_ialdS F dL_law_585 hN i4 ?_
  refine r_aload_n F dL_law_586 rfl ?_
  refine r_iload F dL_law_587 rfl ?_
  refine r_iconst F dL_law_589 (v := 5) (by decide) ?_
  refine r_iadd F dL_law_590 ?_
  refine r_ialdS F dL_law_591 hN i5 ?_
  refine r_callVB F dL_law_592 (b := 72) (As := [.int (xs (i + 1).toNatClampNeg), .int (xs (i + 2).toNatClampNeg), .int (xs (i + 3).toNatClampNeg), .int (xs (i + 4).toNatClampNeg), .int (xs (i + 5).toNatClampNeg)]) (S0 := [.int v]) lkL_65 mX12_box sem2 rfl rfl rfl (e_le rfl) (e_le rfl) (e_le rfl) h72 (ci := 12) e_cl12.1 rfl (e_le rfl) (e_lt n1 rfl) (by omega) (by omega) ?_
  rintro r2 h2 nx2 ⟨rfl, ls, h98⟩
  refine r_icmp_eq_t F dL_law_595 (tgt := 1339) (by decide) rfl ?_
  exact kk h2 nx2 _ _ ls h98 (by omega) (by omega)
set_option maxRecDepth 100000 in
theorem law_halved (F : eFx G ML_law X) (hG : e_GS G) (hk : k < 512) (hN : e_stat G 5 = some (.int, N, xs)) (i1 : vp_in (i + 1) N) (i2 : vp_in (i + 2) N) (i3 : vp_in (i + 3) N) (i4 : vp_in (i + 4) N) (i5 : vp_in (i + 5) N) (hs : LwS k h nx) (hc : c + 60 ≤ (x_R X).cells) (hsl : sl + 9740 ≤ (x_R X).slots) (kk : ∀ h1 nx1 c1 s1, LwS (k + 1) h1 nx1 → h1 98 = h 98 → c1 ≤ c + 60 → s1 ≤ sl + 9740 → eRun G X 1339 (LL i v5 v6) [] h1 [] nx1 c1 s1) : eRun G X 600 (LL i v5 v6) [] h [] nx c sl := by
  obtain ⟨ca, cb, cA, ring, SS, q6, nl, LE, ra, rb, rA, J, hC, hR, hL⟩ := hs
  refine r_aload_n F dL_law_600 rfl ?_
  refine r_aload_n F dL_law_601 rfl ?_
  refine r_iload F dL_law_602 rfl ?_
  refine r_iconst F dL_law_604 (v := 1) (by decide) ?_
  refine r_iadd F dL_law_605 ?_
  refine r_ialdS F dL_law_606 hN i1 ?_
  refine r_aload_n F dL_law_607 rfl ?_
  refine r_iload F dL_law_608 rfl ?_
  refine r_iconst F dL_law_610 (v := 2) (by decide) ?_
  refine r_iadd F dL_law_611 ?_
  refine r_ialdS F dL_law_612 hN i2 ?_
  obtain ⟨v, mc, ms, hmc, hms, sem⟩ := turn_halved (la := x_l X) hG hk hC hR hL ((xs (i + 1).toNatClampNeg)) ((xs (i + 2).toNatClampNeg))
  refine r_callVB F dL_law_613 (b := 32) (As := [.int (xs (i + 1).toNatClampNeg), .int (xs (i + 2).toNatClampNeg)]) (S0 := []) lkL_66 mX11_halved sem rfl rfl rfl (e_le rfl) (e_le rfl) (e_le rfl) hC.h32 (ci := 11) e_cl11.1 rfl (e_le rfl) (e_lt hC.nx9 rfl) (by omega) (by omega) ?_
  rintro r h1 nx1 ⟨rfl, n1, ⟨fs, h72⟩, sem2⟩
  refine r_aload_n F dL_law_616 rfl ?_
  refine r_aload_n F dL_law_617 rfl ?_
  refine r_iload F dL_law_618 rfl ?_
  refine r_iconst F dL_law_620 (v := 1) (by decide) ?_
  refine r_iadd F dL_law_621 ?_
  refine r_ialdS F dL_law_622 hN i1 ?_
  refine r_aload_n F dL_law_623 rfl ?_
  refine r_iload F dL_law_624 rfl ?_
  refine r_iconst F dL_law_626 (v := 2) (by decide) ?_
  refine r_iadd F dL_law_627 ?_
  refine r_ialdS F dL_law_628 hN i2 ?_
  refine r_callVB F dL_law_629 (b := 72) (As := [.int (xs (i + 1).toNatClampNeg), .int (xs (i + 2).toNatClampNeg)]) (S0 := [.int v]) lkL_69 mX12_halved sem2 rfl rfl rfl (e_le rfl) (e_le rfl) (e_le rfl) h72 (ci := 12) e_cl12.1 rfl (e_le rfl) (e_lt n1 rfl) (by omega) (by omega) ?_
  rintro r2 h2 nx2 ⟨rfl, ls, h98⟩
  refine r_icmp_eq_t F dL_law_632 (tgt := 1339) (by decide) rfl ?_
  exact kk h2 nx2 _ _ ls h98 (by omega) (by omega)
set_option maxRecDepth 100000 in
theorem law_path (F : eFx G ML_law X) (hG : e_GS G) (hk : k < 512) (hN : e_stat G 5 = some (.int, N, xs)) (i1 : vp_in (i + 1) N) (i2 : vp_in (i + 2) N) (i3 : vp_in (i + 3) N) (i4 : vp_in (i + 4) N) (i5 : vp_in (i + 5) N) (hs : LwS k h nx) (hc : c + 60 ≤ (x_R X).cells) (hsl : sl + 9740 ≤ (x_R X).slots) (kk : ∀ h1 nx1 c1 s1, LwS (k + 1) h1 nx1 → h1 98 = h 98 → c1 ≤ c + 60 → s1 ≤ sl + 9740 → eRun G X 1339 (LL i v5 v6) [] h1 [] nx1 c1 s1) : eRun G X 637 (LL i v5 v6) [] h [] nx c sl := by
  obtain ⟨ca, cb, cA, ring, SS, q6, nl, LE, ra, rb, rA, J, hC, hR, hL⟩ := hs
  refine r_aload_n F dL_law_637 rfl ?_
  refine r_aload_n F dL_law_638 rfl ?_
  refine r_iload F dL_law_639 rfl ?_
  refine r_iconst F dL_law_641 (v := 1) (by decide) ?_
  refine r_iadd F dL_law_642 ?_
  refine r_ialdS F dL_law_643 hN i1 ?_
  refine r_aload_n F dL_law_644 rfl ?_
  refine r_iload F dL_law_645 rfl ?_
  refine r_iconst F dL_law_647 (v := 2) (by decide) ?_
  refine r_iadd F dL_law_648 ?_
  refine r_ialdS F dL_law_649 hN i2 ?_
  obtain ⟨v, mc, ms, hmc, hms, sem⟩ := turn_path (la := x_l X) hG hk hC hR hL ((xs (i + 1).toNatClampNeg)) ((xs (i + 2).toNatClampNeg))
  refine r_callVB F dL_law_650 (b := 32) (As := [.int (xs (i + 1).toNatClampNeg), .int (xs (i + 2).toNatClampNeg)]) (S0 := []) lkL_70 mX11_path sem rfl rfl rfl (e_le rfl) (e_le rfl) (e_le rfl) hC.h32 (ci := 11) e_cl11.1 rfl (e_le rfl) (e_lt hC.nx9 rfl) (by omega) (by omega) ?_
  rintro r h1 nx1 ⟨rfl, n1, ⟨fs, h72⟩, sem2⟩
  refine r_aload_n F dL_law_653 rfl ?_
  refine r_aload_n F dL_law_654 rfl ?_
  refine r_iload F dL_law_655 rfl ?_
  refine r_iconst F dL_law_657 (v := 1) (by decide) ?_
  refine r_iadd F dL_law_658 ?_
  refine r_ialdS F dL_law_659 hN i1 ?_
  refine r_aload_n F dL_law_660 rfl ?_
  refine r_iload F dL_law_661 rfl ?_
  refine r_iconst F dL_law_663 (v := 2) (by decide) ?_
  refine r_iadd F dL_law_664 ?_
  refine r_ialdS F dL_law_665 hN i2 ?_
  refine r_callVB F dL_law_666 (b := 72) (As := [.int (xs (i + 1).toNatClampNeg), .int (xs (i + 2).toNatClampNeg)]) (S0 := [.int v]) lkL_73 mX12_path sem2 rfl rfl rfl (e_le rfl) (e_le rfl) (e_le rfl) h72 (ci := 12) e_cl12.1 rfl (e_le rfl) (e_lt n1 rfl) (by omega) (by omega) ?_
  rintro r2 h2 nx2 ⟨rfl, ls, h98⟩
  refine r_icmp_eq_t F dL_law_669 (tgt := 1339) (by decide) rfl ?_
  exact kk h2 nx2 _ _ ls h98 (by omega) (by omega)
set_option maxRecDepth 100000 in
theorem law_gone (F : eFx G ML_law X) (hG : e_GS G) (hk : k < 512) (hN : e_stat G 5 = some (.int, N, xs)) (i1 : vp_in (i + 1) N) (i2 : vp_in (i + 2) N) (i3 : vp_in (i + 3) N) (i4 : vp_in (i + 4) N) (i5 : vp_in (i + 5) N) (hs : LwS k h nx) (hc : c + 60 ≤ (x_R X).cells) (hsl : sl + 9740 ≤ (x_R X).slots) (kk : ∀ h1 nx1 c1 s1, LwS (k + 1) h1 nx1 → h1 98 = h 98 → c1 ≤ c + 60 → s1 ≤ sl + 9740 → eRun G X 1339 (LL i v5 v6) [] h1 [] nx1 c1 s1) : eRun G X 674 (LL i v5 v6) [] h [] nx c sl := by
  obtain ⟨ca, cb, cA, ring, SS, q6, nl, LE, ra, rb, rA, J, hC, hR, hL⟩ := hs
  refine r_aload_n F dL_law_674 rfl ?_
  refine r_aload_n F dL_law_675 rfl ?_
  refine r_iload F dL_law_676 rfl ?_
  refine r_iconst F dL_law_678 (v := 1) (by decide) ?_
  refine r_iadd F dL_law_679 ?_
  refine r_ialdS F dL_law_680 hN i1 ?_
  obtain ⟨v, mc, ms, hmc, hms, sem⟩ := turn_gone (la := x_l X) hG hk hC hR hL ((xs (i + 1).toNatClampNeg))
  refine r_callVB F dL_law_681 (b := 32) (As := [.int (xs (i + 1).toNatClampNeg)]) (S0 := []) lkL_74 mX11_gone sem rfl rfl rfl (e_le rfl) (e_le rfl) (e_le rfl) hC.h32 (ci := 11) e_cl11.1 rfl (e_le rfl) (e_lt hC.nx9 rfl) (by omega) (by omega) ?_
  rintro r h1 nx1 ⟨rfl, n1, ⟨fs, h72⟩, sem2⟩
  refine r_aload_n F dL_law_684 rfl ?_
  refine r_aload_n F dL_law_685 rfl ?_
  refine r_iload F dL_law_686 rfl ?_
  refine r_iconst F dL_law_688 (v := 1) (by decide) ?_
  refine r_iadd F dL_law_689 ?_
  refine r_ialdS F dL_law_690 hN i1 ?_
  refine r_callVB F dL_law_691 (b := 72) (As := [.int (xs (i + 1).toNatClampNeg)]) (S0 := [.int v]) lkL_77 mX12_gone sem2 rfl rfl rfl (e_le rfl) (e_le rfl) (e_le rfl) h72 (ci := 12) e_cl12.1 rfl (e_le rfl) (e_lt n1 rfl) (by omega) (by omega) ?_
  rintro r2 h2 nx2 ⟨rfl, ls, h98⟩
  refine r_icmp_eq_t F dL_law_694 (tgt := 1339) (by decide) rfl ?_
  exact kk h2 nx2 _ _ ls h98 (by omega) (by omega)
end LAW
