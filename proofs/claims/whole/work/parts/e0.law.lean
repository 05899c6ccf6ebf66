/-! ===== cases of the law ===== -/
def ML_law : eM := (yL_law, cL_law, 7, some .boolean, 11, 384)
abbrev LL (i : Int32) (v5 v6 : Option Value) : List (Option Value) := [some (.ref 5), some (.ref 32), some (.ref 72), some (.ref 98), some (.int i), v5, v6]
section LAW
variable {G : eG} {X : eX} {h : Nat → eO} {nx k c sl N : Nat} {xs : Nat → Int32} {i : Int32} {v5 v6 : Option Value}
set_option maxRecDepth 100000 in
theorem law_feed (F : eFx G ML_law X) (hG : e_GS G) (hk : k < 512) (hN : e_stat G 5 = some (.int, N, xs)) (i1 : vp_in (i + 1) N) (i2 : vp_in (i + 2) N) (i3 : vp_in (i + 3) N) (i4 : vp_in (i + 4) N) (i5 : vp_in (i + 5) N) (hs : LwS k h nx) (hc : c + 60 ≤ (x_R X).cells) (hsl : sl + 9740 ≤ (x_R X).slots) (kk : ∀ h1 nx1 c1 s1, LwS (k + 1) h1 nx1 → h1 98 = h 98 → c1 ≤ c + 60 → s1 ≤ sl + 9740 → eRun G X 1339 (LL i v5 v6) [] h1 [] nx1 c1 s1) : eRun G X 184 (LL i v5 v6) [] h [] nx c sl := by
  obtain ⟨ca, cb, cA, ring, SS, q6, nl, LE, ra, rb, rA, J, hC, hR, hL⟩ := hs
  refine r_aload_n F dL_law_184 rfl ?_
  refine r_aload_n F dL_law_185 rfl ?_
  refine r_iload F dL_law_186 rfl ?_
  refine r_iconst F dL_law_188 (v := 1) (by decide) ?_
  refine r_iadd F dL_law_189 ?_
  refine r_ialdS F dL_law_190 hN i1 ?_
  refine r_aload_n F dL_law_191 rfl ?_
  refine r_iload F dL_law_192 rfl ?_
  refine r_iconst F dL_law_194 (v := 2) (by decide) ?_
  refine r_iadd F dL_law_195 ?_
  refine r_ialdS F dL_law_196 hN i2 ?_
  refine r_aload_n F dL_law_197 rfl ?_
  refine r_iload F dL_law_198 rfl ?_
  refine r_iconst F dL_law_200 (v := 3) (by decide) ?_
  refine r_iadd F dL_law_201 ?_
  refine r_ialdS F dL_law_202 hN i3 ?_
  refine r_aload_n F dL_law_203 rfl ?_
  refine r_iload F dL_law_204 rfl ?_
  refine r_iconst F dL_law_206 (v := 4) (by decide) ?_
  refine r_iadd F dL_law_207 ?_
  refine r_ialdS F dL_law_208 hN i4 ?_
  refine r_aload_n F dL_law_209 rfl ?_
  refine r_iload F dL_law_210 rfl ?_
  refine r_iconst F dL_law_212 (v := 5) (by decide) ?_
  refine r_iadd F dL_law_213 ?_
  refine r_ialdS F dL_law_214 hN i5 ?_
  obtain ⟨v, mc, ms, hmc, hms, sem⟩ := turn_feed (la := x_l X) hG hk hC hR hL ((xs (i + 1).toNatClampNeg)) ((xs (i + 2).toNatClampNeg)) ((xs (i + 3).toNatClampNeg)) ((xs (i + 4).toNatClampNeg)) ((xs (i + 5).toNatClampNeg))
  refine r_callVB F dL_law_215 (b := 32) (As := [.int (xs (i + 1).toNatClampNeg), .int (xs (i + 2).toNatClampNeg), .int (xs (i + 3).toNatClampNeg), .int (xs (i + 4).toNatClampNeg), .int (xs (i + 5).toNatClampNeg)]) (S0 := []) lkL_19 mX11_feed sem rfl rfl rfl (e_le rfl) (e_le rfl) (e_le rfl) hC.h32 (ci := 11) e_cl11.1 rfl (e_le rfl) (e_lt hC.nx9 rfl) (by omega) (by omega) ?_
  rintro r h1 nx1 ⟨rfl, n1, ⟨fs, h72⟩, sem2⟩
  refine r_aload_n F dL_law_218 rfl ?_
  refine r_aload_n F dL_law_219 rfl ?_
  refine r_iload F dL_law_220 rfl ?_
  refine r_iconst F dL_law_222 (v := 1) (by decide) ?_
  refine r_iadd F dL_law_223 ?_
  refine r_ialdS F dL_law_224 hN i1 ?_
  refine r_aload_n F dL_law_225 rfl ?_
  refine r_iload F dL_law_226 rfl ?_
  refine r_iconst F dL_law_228 (v := 2) (by decide) ?_
  refine r_iadd F dL_law_229 ?_
  refine r_ialdS F dL_law_230 hN i2 ?_
  refine r_aload_n F dL_law_231 rfl ?_
  refine r_iload F dL_law_232 rfl ?_
  refine r_iconst F dL_law_234 (v := 3) (by decide) ?_
  refine r_iadd F dL_law_235 ?_
  refine r_ialdS F dL_law_236 hN i3 ?_
  refine r_aload_n F dL_law_237 rfl ?_
  refine r_iload F dL_law_238 rfl ?_
  refine r_iconst F dL_law_240 (v := 4) (by decide) ?_
  refine r_iadd F dL_law_241 ?_
  refine r_ialdS F dL_law_242 hN i4 ?_
  refine r_aload_n F dL_law_243 rfl ?_
  refine r_iload F dL_law_244 rfl ?_
  refine r_iconst F dL_law_246 (v := 5) (by decide) ?_
  refine r_iadd F dL_law_247 ?_
  refine r_ialdS F dL_law_248 hN i5 ?_
  refine r_callVB F dL_law_249 (b := 72) (As := [.int (xs (i + 1).toNatClampNeg), .int (xs (i + 2).toNatClampNeg), .int (xs (i + 3).toNatClampNeg), .int (xs (i + 4).toNatClampNeg), .int (xs (i + 5).toNatClampNeg)]) (S0 := [.int v]) lkL_23 mX12_feed sem2 rfl rfl rfl (e_le rfl) (e_le rfl) (e_le rfl) h72 (ci := 12) e_cl12.1 rfl (e_le rfl) (e_lt n1 rfl) (by omega) (by omega) ?_
  rintro r2 h2 nx2 ⟨rfl, ls, h98⟩
  refine r_icmp_eq_t F dL_law_252 (tgt := 1339) (by decide) rfl ?_
  exact kk h2 nx2 _ _ ls h98 (by omega) (by omega)
set_option maxRecDepth 100000 in
theorem law_end (F : eFx G ML_law X) (hG : e_GS G) (hk : k < 512) (hN : e_stat G 5 = some (.int, N, xs)) (i1 : vp_in (i + 1) N) (i2 : vp_in (i + 2) N) (i3 : vp_in (i + 3) N) (i4 : vp_in (i + 4) N) (i5 : vp_in (i + 5) N) (hs : LwS k h nx) (hc : c + 60 ≤ (x_R X).cells) (hsl : sl + 9740 ≤ (x_R X).slots) (kk : ∀ h1 nx1 c1 s1, LwS (k + 1) h1 nx1 → h1 98 = h 98 → c1 ≤ c + 60 → s1 ≤ sl + 9740 → eRun G X 1339 (LL i v5 v6) [] h1 [] nx1 c1 s1) : eRun G X 257 (LL i v5 v6) [] h [] nx c sl := by
  obtain ⟨ca, cb, cA, ring, SS, q6, nl, LE, ra, rb, rA, J, hC, hR, hL⟩ := hs
  refine r_aload_n F dL_law_257 rfl ?_
  refine r_aload_n F dL_law_258 rfl ?_
  refine r_iload F dL_law_259 rfl ?_
  refine r_iconst F dL_law_261 (v := 1) (by decide) ?_
  refine r_iadd F dL_law_262 ?_
  refine r_ialdS F dL_law_263 hN i1 ?_
  obtain ⟨v, mc, ms, hmc, hms, sem⟩ := turn_end (la := x_l X) hG hk hC hR hL ((xs (i + 1).toNatClampNeg))
  refine r_callVB F dL_law_264 (b := 32) (As := [.int (xs (i + 1).toNatClampNeg)]) (S0 := []) lkL_24 mX11_end sem rfl rfl rfl (e_le rfl) (e_le rfl) (e_le rfl) hC.h32 (ci := 11) e_cl11.1 rfl (e_le rfl) (e_lt hC.nx9 rfl) (by omega) (by omega) ?_
  rintro r h1 nx1 ⟨rfl, n1, ⟨fs, h72⟩, sem2⟩
  refine r_aload_n F dL_law_267 rfl ?_
  refine r_aload_n F dL_law_268 rfl ?_
  refine r_iload F dL_law_269 rfl ?_
  refine r_iconst F dL_law_271 (v := 1) (by decide) ?_
  refine r_iadd F dL_law_272 ?_
  refine r_ialdS F dL_law_273 hN i1 ?_
  refine r_callVB F dL_law_274 (b := 72) (As := [.int (xs (i + 1).toNatClampNeg)]) (S0 := [.int v]) lkL_28 mX12_end sem2 rfl rfl rfl (e_le rfl) (e_le rfl) (e_le rfl) h72 (ci := 12) e_cl12.1 rfl (e_le rfl) (e_lt n1 rfl) (by omega) (by omega) ?_
  rintro r2 h2 nx2 ⟨rfl, ls, h98⟩
  refine r_icmp_eq_t F dL_law_277 (tgt := 1339) (by decide) rfl ?_
  exact kk h2 nx2 _ _ ls h98 (by omega) (by omega)
set_option maxRecDepth 100000 in
theorem law_fault (F : eFx G ML_law X) (hG : e_GS G) (hk : k < 512) (hN : e_stat G 5 = some (.int, N, xs)) (i1 : vp_in (i + 1) N) (i2 : vp_in (i + 2) N) (i3 : vp_in (i + 3) N) (i4 : vp_in (i + 4) N) (i5 : vp_in (i + 5) N) (hs : LwS k h nx) (hc : c + 60 ≤ (x_R X).cells) (hsl : sl + 9740 ≤ (x_R X).slots) (kk : ∀ h1 nx1 c1 s1, LwS (k + 1) h1 nx1 → h1 98 = h 98 → c1 ≤ c + 60 → s1 ≤ sl + 9740 → eRun G X 1339 (LL i v5 v6) [] h1 [] nx1 c1 s1) : eRun G X 282 (LL i v5 v6) [] h [] nx c sl := by
  obtain ⟨ca, cb, cA, ring, SS, q6, nl, LE, ra, rb, rA, J, hC, hR, hL⟩ := hs
  refine r_aload_n F dL_law_282 rfl ?_
  obtain ⟨v, mc, ms, hmc, hms, sem⟩ := turn_fault (la := x_l X) hG hk hC hR hL 
  refine r_callVB F dL_law_283 (b := 32) (As := []) (S0 := []) lkL_29 mX11_fault sem rfl rfl rfl (e_le rfl) (e_le rfl) (e_le rfl) hC.h32 (ci := 11) e_cl11.1 rfl (e_le rfl) (e_lt hC.nx9 rfl) (by omega) (by omega) ?_
  rintro r h1 nx1 ⟨rfl, n1, ⟨fs, h72⟩, sem2⟩
  refine r_aload_n F dL_law_286 rfl ?_
  refine r_callVB F dL_law_287 (b := 72) (As := []) (S0 := [.int v]) lkL_33 mX12_fault sem2 rfl rfl rfl (e_le rfl) (e_le rfl) (e_le rfl) h72 (ci := 12) e_cl12.1 rfl (e_le rfl) (e_lt n1 rfl) (by omega) (by omega) ?_
  rintro r2 h2 nx2 ⟨rfl, ls, h98⟩
  refine r_icmp_eq_t F dL_law_290 (tgt := 1339) (by decide) rfl ?_
  exact kk h2 nx2 _ _ ls h98 (by omega) (by omega)
end LAW
