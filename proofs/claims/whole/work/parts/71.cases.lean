set_option maxRecDepth 20000 in
theorem lc_ringer {l : Launch} {K : gw_K} {X : gw_X} {bb Ls : Nat} {xs : Nat → Int32} (hst : l.stackTraces = false) (hX : FX l K X cL_law RL 13 482 627089 7214836) (hSX : SX X bb Ls xs) {i n kc ks : Nat} {h : gw_H} {thr : Int32} {o : Nat → Int64} (hi : i + 4 ≤ Ls) (hLs : Ls ≤ 2048) (hI : INV h n thr o) (hkc : kc + 200 ≤ 627089) (hks : ks + 1600 ≤ 7214836) (KK : ∀ (h' : gw_H) (n' kc' ks' : Nat) (thr' : Int32) (o' : Nat → Int64), INV h' n' thr' o' → kc' ≤ kc + 200 → ks' ≤ ks + 1600 → GL X bb 1483 [none, some (.ref 0), some (.ref 40), some (.ref 61), some (.int (nI i)), none, none, none, none] [] h' n' kc' ks') : GL X bb 136 [none, some (.ref 0), some (.ref 40), some (.ref 61), some (.int (nI i)), none, none, none, none] [] h n kc ks := by
  obtain ⟨k, P, hw, hm⟩ := pr_ringer hst hI (xs (i + 1)) (xs (i + 2)) (xs (i + 3))
  refine l_aload_n hX dL_law_136 rfl rfl ?_
  refine l_sck (i := i) (q := 1) hX hSX (by omega) (by omega) dL_law_137 dL_law_138 dL_law_140 (by decide) dL_law_141 dL_law_142 rfl ?_
  refine l_sck (i := i) (q := 2) hX hSX (by omega) (by omega) dL_law_143 dL_law_144 dL_law_146 (by decide) dL_law_147 dL_law_148 rfl ?_
  refine l_sck (i := i) (q := 3) hX hSX (by omega) (by omega) dL_law_149 dL_law_150 dL_law_152 (by decide) dL_law_153 dL_law_154 rfl ?_
  refine l_aload_n hX dL_law_155 rfl rfl ?_
  refine l_callSH (As := [.ref 0, .int (xs (i + 1)), .int (xs (i + 2)), .int (xs (i + 3)), .ref 61]) hX dL_law_156 ch_L_ringer ml_L_80 st_L_ringer rfl rfl hw (Nat.le_of_ble_eq_true rfl) (Nat.le_of_ble_eq_true rfl) (by omega) (by omega) (Nat.le_of_ble_eq_true rfl) (fun rv h1 n1 hn1 hp => ?_)
  obtain ⟨rfl, rfl, hk4, mc, ms, P2, o', hmc, hms, ho1, ⟨fs, h40⟩, hctr, hfin⟩ := hm rv h1 n1 hp
  refine l_istore (i := 5) hX dL_law_159 (Nat.le_of_ble_eq_true rfl) (by decide) rfl ?_
  refine l_aload_n hX dL_law_161 rfl rfl ?_
  refine l_sck (i := i) (q := 1) hX hSX (by omega) (by omega) dL_law_162 dL_law_163 dL_law_165 (by decide) dL_law_166 dL_law_167 rfl ?_
  refine l_sck (i := i) (q := 2) hX hSX (by omega) (by omega) dL_law_168 dL_law_169 dL_law_171 (by decide) dL_law_172 dL_law_173 rfl ?_
  refine l_sck (i := i) (q := 3) hX hSX (by omega) (by omega) dL_law_174 dL_law_175 dL_law_177 (by decide) dL_law_178 dL_law_179 rfl ?_
  refine l_callV (As := [.int (xs (i + 1)), .int (xs (i + 2)), .int (xs (i + 3))]) hX dL_law_180 cb_X5_ringer ml_L_85 im_X5_ringer se_X5_ringer rfl rfl h40 ⟨_, rfl, rfl⟩ hctr (Nat.le_of_ble_eq_true rfl) (Nat.le_of_ble_eq_true rfl) (by omega) (by omega) (Nat.le_of_ble_eq_true rfl) (fun rv2 h2 n2 hn2 hp2 => ?_)
  obtain ⟨v, rfl, hn9, hI2, hv⟩ := hfin rv2 h2 n2 hp2
  obtain ⟨rc9, mc9, tch9, frs9, len9, m9⟩ := hI2.m40
  refine l_istore (i := 6) hX dL_law_183 (Nat.le_of_ble_eq_true rfl) (by decide) rfl ?_
  refine l_aload_n hX dL_law_185 rfl rfl ?_
  refine l_callV (As := []) hX dL_law_186 cb_X5_thrown ml_L_86 im_X5_thrown se_X5_thrown rfl rfl m9 ⟨_, rfl, rfl⟩ (kX5_thrown hst m9) (Nat.le_of_ble_eq_true rfl) (Nat.le_of_ble_eq_true rfl) (by omega) (by omega) (Nat.le_of_ble_eq_true rfl) (fun rv3 h3 n3 hn3 hp3 => ?_)
  obtain ⟨rfl, rfl, rfl⟩ := hp3
  refine l_iload hX dL_law_189 rfl ?_
  refine l_icmp_eq (tgt := 196) hX dL_law_191 (by decide) (fun _ => ?_) (fun c => absurd rfl c)
  refine l_iload hX dL_law_196 rfl ?_
  refine l_if_ne (tgt := 213) hX dL_law_198 (by decide) (fun c1 => ?_) (fun c1 => ?_)
  · refine l_goto (tgt := 1483) hX dL_law_213 (by decide) ?_
    refine l_kill 5 ?_
    refine l_kill 6 ?_
    exact KK _ _ _ _ _ _ hI2 (by omega) (by omega)
  · have hk0 : k = 0 := (gn_eq (a := k) (b := 0) ⟨by omega, by omega⟩).mp c1
    subst hk0
    refine l_aload_n hX dL_law_201 rfl rfl ?_
    refine l_iconst (v := nI 0) hX dL_law_202 (by decide) ?_
    refine l_laload hX dL_law_203 hI2.2.1 0 (by omega) rfl (by omega) ?_
    refine l_iload hX dL_law_204 rfl ?_
    refine l_i2l hX dL_law_206 ?_
    refine l_lcmp hX dL_law_207 ?_
    refine l_if_eq (tgt := 213) hX dL_law_208 (by decide) (fun _ => ?_) (fun c => absurd (by rw [hv rfl]; exact lg_self _) c)
    refine l_goto (tgt := 1483) hX dL_law_213 (by decide) ?_
    refine l_kill 5 ?_
    refine l_kill 6 ?_
    exact KK _ _ _ _ _ _ hI2 (by omega) (by omega)
set_option maxRecDepth 20000 in
theorem lc_vote {l : Launch} {K : gw_K} {X : gw_X} {bb Ls : Nat} {xs : Nat → Int32} (hst : l.stackTraces = false) (hX : FX l K X cL_law RL 13 482 627089 7214836) (hSX : SX X bb Ls xs) {i n kc ks : Nat} {h : gw_H} {thr : Int32} {o : Nat → Int64} (hi : i + 4 ≤ Ls) (hLs : Ls ≤ 2048) (hI : INV h n thr o) (hkc : kc + 200 ≤ 627089) (hks : ks + 1600 ≤ 7214836) (KK : ∀ (h' : gw_H) (n' kc' ks' : Nat) (thr' : Int32) (o' : Nat → Int64), INV h' n' thr' o' → kc' ≤ kc + 200 → ks' ≤ ks + 1600 → GL X bb 1483 [none, some (.ref 0), some (.ref 40), some (.ref 61), some (.int (nI i)), none, none, none, none] [] h' n' kc' ks') : GL X bb 216 [none, some (.ref 0), some (.ref 40), some (.ref 61), some (.int (nI i)), none, none, none, none] [] h n kc ks := by
  obtain ⟨k, P, hw, hm⟩ := pr_vote hst hI (xs (i + 1)) (xs (i + 2))
  refine l_aload_n hX dL_law_216 rfl rfl ?_
  refine l_sck (i := i) (q := 1) hX hSX (by omega) (by omega) dL_law_217 dL_law_218 dL_law_220 (by decide) dL_law_221 dL_law_222 rfl ?_
  refine l_sck (i := i) (q := 2) hX hSX (by omega) (by omega) dL_law_223 dL_law_224 dL_law_226 (by decide) dL_law_227 dL_law_228 rfl ?_
  refine l_aload_n hX dL_law_229 rfl rfl ?_
  refine l_callSH (As := [.ref 0, .int (xs (i + 1)), .int (xs (i + 2)), .ref 61]) hX dL_law_230 ch_L_vote ml_L_89 st_L_vote rfl rfl hw (Nat.le_of_ble_eq_true rfl) (Nat.le_of_ble_eq_true rfl) (by omega) (by omega) (Nat.le_of_ble_eq_true rfl) (fun rv h1 n1 hn1 hp => ?_)
  obtain ⟨rfl, rfl, hk4, mc, ms, P2, o', hmc, hms, ho1, ⟨fs, h40⟩, hctr, hfin⟩ := hm rv h1 n1 hp
  refine l_istore (i := 5) hX dL_law_233 (Nat.le_of_ble_eq_true rfl) (by decide) rfl ?_
  refine l_aload_n hX dL_law_235 rfl rfl ?_
  refine l_sck (i := i) (q := 1) hX hSX (by omega) (by omega) dL_law_236 dL_law_237 dL_law_239 (by decide) dL_law_240 dL_law_241 rfl ?_
  refine l_sck (i := i) (q := 2) hX hSX (by omega) (by omega) dL_law_242 dL_law_243 dL_law_245 (by decide) dL_law_246 dL_law_247 rfl ?_
  refine l_callV (As := [.int (xs (i + 1)), .int (xs (i + 2))]) hX dL_law_248 cb_X5_vote ml_L_92 im_X5_vote se_X5_vote rfl rfl h40 ⟨_, rfl, rfl⟩ hctr (Nat.le_of_ble_eq_true rfl) (Nat.le_of_ble_eq_true rfl) (by omega) (by omega) (Nat.le_of_ble_eq_true rfl) (fun rv2 h2 n2 hn2 hp2 => ?_)
  obtain ⟨v, rfl, hn9, hI2, hv⟩ := hfin rv2 h2 n2 hp2
  obtain ⟨rc9, mc9, tch9, frs9, len9, m9⟩ := hI2.m40
  refine l_istore (i := 6) hX dL_law_251 (Nat.le_of_ble_eq_true rfl) (by decide) rfl ?_
  refine l_aload_n hX dL_law_253 rfl rfl ?_
  refine l_callV (As := []) hX dL_law_254 cb_X5_thrown ml_L_86 im_X5_thrown se_X5_thrown rfl rfl m9 ⟨_, rfl, rfl⟩ (kX5_thrown hst m9) (Nat.le_of_ble_eq_true rfl) (Nat.le_of_ble_eq_true rfl) (by omega) (by omega) (Nat.le_of_ble_eq_true rfl) (fun rv3 h3 n3 hn3 hp3 => ?_)
  obtain ⟨rfl, rfl, rfl⟩ := hp3
  refine l_iload hX dL_law_257 rfl ?_
  refine l_icmp_eq (tgt := 264) hX dL_law_259 (by decide) (fun _ => ?_) (fun c => absurd rfl c)
  refine l_iload hX dL_law_264 rfl ?_
  refine l_if_ne (tgt := 281) hX dL_law_266 (by decide) (fun c1 => ?_) (fun c1 => ?_)
  · refine l_goto (tgt := 1483) hX dL_law_281 (by decide) ?_
    refine l_kill 5 ?_
    refine l_kill 6 ?_
    exact KK _ _ _ _ _ _ hI2 (by omega) (by omega)
  · have hk0 : k = 0 := (gn_eq (a := k) (b := 0) ⟨by omega, by omega⟩).mp c1
    subst hk0
    refine l_aload_n hX dL_law_269 rfl rfl ?_
    refine l_iconst (v := nI 0) hX dL_law_270 (by decide) ?_
    refine l_laload hX dL_law_271 hI2.2.1 0 (by omega) rfl (by omega) ?_
    refine l_iload hX dL_law_272 rfl ?_
    refine l_i2l hX dL_law_274 ?_
    refine l_lcmp hX dL_law_275 ?_
    refine l_if_eq (tgt := 281) hX dL_law_276 (by decide) (fun _ => ?_) (fun c => absurd (by rw [hv rfl]; exact lg_self _) c)
    refine l_goto (tgt := 1483) hX dL_law_281 (by decide) ?_
    refine l_kill 5 ?_
    refine l_kill 6 ?_
    exact KK _ _ _ _ _ _ hI2 (by omega) (by omega)
set_option maxRecDepth 20000 in
theorem lc_seat {l : Launch} {K : gw_K} {X : gw_X} {bb Ls : Nat} {xs : Nat → Int32} (hst : l.stackTraces = false) (hX : FX l K X cL_law RL 13 482 627089 7214836) (hSX : SX X bb Ls xs) {i n kc ks : Nat} {h : gw_H} {thr : Int32} {o : Nat → Int64} (hi : i + 4 ≤ Ls) (hLs : Ls ≤ 2048) (hI : INV h n thr o) (hkc : kc + 200 ≤ 627089) (hks : ks + 1600 ≤ 7214836) (KK : ∀ (h' : gw_H) (n' kc' ks' : Nat) (thr' : Int32) (o' : Nat → Int64), INV h' n' thr' o' → kc' ≤ kc + 200 → ks' ≤ ks + 1600 → GL X bb 1483 [none, some (.ref 0), some (.ref 40), some (.ref 61), some (.int (nI i)), none, none, none, none] [] h' n' kc' ks') : GL X bb 284 [none, some (.ref 0), some (.ref 40), some (.ref 61), some (.int (nI i)), none, none, none, none] [] h n kc ks := by
  obtain ⟨k, P, hw, hm⟩ := pr_seat hst hI (xs (i + 1)) (xs (i + 2)) (xs (i + 3))
  refine l_aload_n hX dL_law_284 rfl rfl ?_
  refine l_sck (i := i) (q := 1) hX hSX (by omega) (by omega) dL_law_285 dL_law_286 dL_law_288 (by decide) dL_law_289 dL_law_290 rfl ?_
  refine l_sck (i := i) (q := 2) hX hSX (by omega) (by omega) dL_law_291 dL_law_292 dL_law_294 (by decide) dL_law_295 dL_law_296 rfl ?_
  refine l_sck (i := i) (q := 3) hX hSX (by omega) (by omega) dL_law_297 dL_law_298 dL_law_300 (by decide) dL_law_301 dL_law_302 rfl ?_
  refine l_aload_n hX dL_law_303 rfl rfl ?_
  refine l_callSH (As := [.ref 0, .int (xs (i + 1)), .int (xs (i + 2)), .int (xs (i + 3)), .ref 61]) hX dL_law_304 ch_L_seat ml_L_93 st_L_seat rfl rfl hw (Nat.le_of_ble_eq_true rfl) (Nat.le_of_ble_eq_true rfl) (by omega) (by omega) (Nat.le_of_ble_eq_true rfl) (fun rv h1 n1 hn1 hp => ?_)
  obtain ⟨rfl, rfl, hk4, mc, ms, P2, o', hmc, hms, ho1, ⟨fs, h40⟩, hctr, hfin⟩ := hm rv h1 n1 hp
  refine l_istore (i := 5) hX dL_law_307 (Nat.le_of_ble_eq_true rfl) (by decide) rfl ?_
  refine l_aload_n hX dL_law_309 rfl rfl ?_
  refine l_sck (i := i) (q := 1) hX hSX (by omega) (by omega) dL_law_310 dL_law_311 dL_law_313 (by decide) dL_law_314 dL_law_315 rfl ?_
  refine l_sck (i := i) (q := 2) hX hSX (by omega) (by omega) dL_law_316 dL_law_317 dL_law_319 (by decide) dL_law_320 dL_law_321 rfl ?_
  refine l_sck (i := i) (q := 3) hX hSX (by omega) (by omega) dL_law_322 dL_law_323 dL_law_325 (by decide) dL_law_326 dL_law_327 rfl ?_
  refine l_callV (As := [.int (xs (i + 1)), .int (xs (i + 2)), .int (xs (i + 3))]) hX dL_law_328 cb_X5_seat ml_L_95 im_X5_seat se_X5_seat rfl rfl h40 ⟨_, rfl, rfl⟩ hctr (Nat.le_of_ble_eq_true rfl) (Nat.le_of_ble_eq_true rfl) (by omega) (by omega) (Nat.le_of_ble_eq_true rfl) (fun rv2 h2 n2 hn2 hp2 => ?_)
  obtain ⟨v, rfl, hn9, hI2, hv⟩ := hfin rv2 h2 n2 hp2
  obtain ⟨rc9, mc9, tch9, frs9, len9, m9⟩ := hI2.m40
  refine l_istore (i := 6) hX dL_law_331 (Nat.le_of_ble_eq_true rfl) (by decide) rfl ?_
  refine l_aload_n hX dL_law_333 rfl rfl ?_
  refine l_callV (As := []) hX dL_law_334 cb_X5_thrown ml_L_86 im_X5_thrown se_X5_thrown rfl rfl m9 ⟨_, rfl, rfl⟩ (kX5_thrown hst m9) (Nat.le_of_ble_eq_true rfl) (Nat.le_of_ble_eq_true rfl) (by omega) (by omega) (Nat.le_of_ble_eq_true rfl) (fun rv3 h3 n3 hn3 hp3 => ?_)
  obtain ⟨rfl, rfl, rfl⟩ := hp3
  refine l_iload hX dL_law_337 rfl ?_
  refine l_icmp_eq (tgt := 344) hX dL_law_339 (by decide) (fun _ => ?_) (fun c => absurd rfl c)
  refine l_iload hX dL_law_344 rfl ?_
  refine l_if_ne (tgt := 361) hX dL_law_346 (by decide) (fun c1 => ?_) (fun c1 => ?_)
  · refine l_goto (tgt := 1483) hX dL_law_361 (by decide) ?_
    refine l_kill 5 ?_
    refine l_kill 6 ?_
    exact KK _ _ _ _ _ _ hI2 (by omega) (by omega)
  · have hk0 : k = 0 := (gn_eq (a := k) (b := 0) ⟨by omega, by omega⟩).mp c1
    subst hk0
    refine l_aload_n hX dL_law_349 rfl rfl ?_
    refine l_iconst (v := nI 0) hX dL_law_350 (by decide) ?_
    refine l_laload hX dL_law_351 hI2.2.1 0 (by omega) rfl (by omega) ?_
    refine l_iload hX dL_law_352 rfl ?_
    refine l_i2l hX dL_law_354 ?_
    refine l_lcmp hX dL_law_355 ?_
    refine l_if_eq (tgt := 361) hX dL_law_356 (by decide) (fun _ => ?_) (fun c => absurd (by rw [hv rfl]; exact lg_self _) c)
    refine l_goto (tgt := 1483) hX dL_law_361 (by decide) ?_
    refine l_kill 5 ?_
    refine l_kill 6 ?_
    exact KK _ _ _ _ _ _ hI2 (by omega) (by omega)
set_option maxRecDepth 20000 in
theorem lc_elect {l : Launch} {K : gw_K} {X : gw_X} {bb Ls : Nat} {xs : Nat → Int32} (hst : l.stackTraces = false) (hX : FX l K X cL_law RL 13 482 627089 7214836) (hSX : SX X bb Ls xs) {i n kc ks : Nat} {h : gw_H} {thr : Int32} {o : Nat → Int64} (hi : i + 4 ≤ Ls) (hLs : Ls ≤ 2048) (hI : INV h n thr o) (hkc : kc + 200 ≤ 627089) (hks : ks + 1600 ≤ 7214836) (KK : ∀ (h' : gw_H) (n' kc' ks' : Nat) (thr' : Int32) (o' : Nat → Int64), INV h' n' thr' o' → kc' ≤ kc + 200 → ks' ≤ ks + 1600 → GL X bb 1483 [none, some (.ref 0), some (.ref 40), some (.ref 61), some (.int (nI i)), none, none, none, none] [] h' n' kc' ks') : GL X bb 364 [none, some (.ref 0), some (.ref 40), some (.ref 61), some (.int (nI i)), none, none, none, none] [] h n kc ks := by
  obtain ⟨k, P, hw, hm⟩ := pr_elect hst hI (xs (i + 1))
  refine l_aload_n hX dL_law_364 rfl rfl ?_
  refine l_sck (i := i) (q := 1) hX hSX (by omega) (by omega) dL_law_365 dL_law_366 dL_law_368 (by decide) dL_law_369 dL_law_370 rfl ?_
  refine l_aload_n hX dL_law_371 rfl rfl ?_
  refine l_callSH (As := [.ref 0, .int (xs (i + 1)), .ref 61]) hX dL_law_372 ch_L_elect ml_L_96 st_L_elect rfl rfl hw (Nat.le_of_ble_eq_true rfl) (Nat.le_of_ble_eq_true rfl) (by omega) (by omega) (Nat.le_of_ble_eq_true rfl) (fun rv h1 n1 hn1 hp => ?_)
  obtain ⟨rfl, rfl, hk4, mc, ms, P2, o', hmc, hms, ho1, ⟨fs, h40⟩, hctr, hfin⟩ := hm rv h1 n1 hp
  refine l_istore (i := 5) hX dL_law_375 (Nat.le_of_ble_eq_true rfl) (by decide) rfl ?_
  refine l_aload_n hX dL_law_377 rfl rfl ?_
  refine l_sck (i := i) (q := 1) hX hSX (by omega) (by omega) dL_law_378 dL_law_379 dL_law_381 (by decide) dL_law_382 dL_law_383 rfl ?_
  refine l_callV (As := [.int (xs (i + 1))]) hX dL_law_384 cb_X5_elect ml_L_99 im_X5_elect se_X5_elect rfl rfl h40 ⟨_, rfl, rfl⟩ hctr (Nat.le_of_ble_eq_true rfl) (Nat.le_of_ble_eq_true rfl) (by omega) (by omega) (Nat.le_of_ble_eq_true rfl) (fun rv2 h2 n2 hn2 hp2 => ?_)
  obtain ⟨v, rfl, hn9, hI2, hv⟩ := hfin rv2 h2 n2 hp2
  obtain ⟨rc9, mc9, tch9, frs9, len9, m9⟩ := hI2.m40
  refine l_istore (i := 6) hX dL_law_387 (Nat.le_of_ble_eq_true rfl) (by decide) rfl ?_
  refine l_aload_n hX dL_law_389 rfl rfl ?_
  refine l_callV (As := []) hX dL_law_390 cb_X5_thrown ml_L_86 im_X5_thrown se_X5_thrown rfl rfl m9 ⟨_, rfl, rfl⟩ (kX5_thrown hst m9) (Nat.le_of_ble_eq_true rfl) (Nat.le_of_ble_eq_true rfl) (by omega) (by omega) (Nat.le_of_ble_eq_true rfl) (fun rv3 h3 n3 hn3 hp3 => ?_)
  obtain ⟨rfl, rfl, rfl⟩ := hp3
  refine l_iload hX dL_law_393 rfl ?_
  refine l_icmp_eq (tgt := 400) hX dL_law_395 (by decide) (fun _ => ?_) (fun c => absurd rfl c)
  refine l_iload hX dL_law_400 rfl ?_
  refine l_if_ne (tgt := 417) hX dL_law_402 (by decide) (fun c1 => ?_) (fun c1 => ?_)
  · refine l_goto (tgt := 1483) hX dL_law_417 (by decide) ?_
    refine l_kill 5 ?_
    refine l_kill 6 ?_
    exact KK _ _ _ _ _ _ hI2 (by omega) (by omega)
  · have hk0 : k = 0 := (gn_eq (a := k) (b := 0) ⟨by omega, by omega⟩).mp c1
    subst hk0
    refine l_aload_n hX dL_law_405 rfl rfl ?_
    refine l_iconst (v := nI 0) hX dL_law_406 (by decide) ?_
    refine l_laload hX dL_law_407 hI2.2.1 0 (by omega) rfl (by omega) ?_
    refine l_iload hX dL_law_408 rfl ?_
    refine l_i2l hX dL_law_410 ?_
    refine l_lcmp hX dL_law_411 ?_
    refine l_if_eq (tgt := 417) hX dL_law_412 (by decide) (fun _ => ?_) (fun c => absurd (by rw [hv rfl]; exact lg_self _) c)
    refine l_goto (tgt := 1483) hX dL_law_417 (by decide) ?_
    refine l_kill 5 ?_
    refine l_kill 6 ?_
    exact KK _ _ _ _ _ _ hI2 (by omega) (by omega)
set_option maxRecDepth 20000 in
theorem lc_put {l : Launch} {K : gw_K} {X : gw_X} {bb Ls : Nat} {xs : Nat → Int32} (hst : l.stackTraces = false) (hX : FX l K X cL_law RL 13 482 627089 7214836) (hSX : SX X bb Ls xs) {i n kc ks : Nat} {h : gw_H} {thr : Int32} {o : Nat → Int64} (hi : i + 4 ≤ Ls) (hLs : Ls ≤ 2048) (hI : INV h n thr o) (hkc : kc + 200 ≤ 627089) (hks : ks + 1600 ≤ 7214836) (KK : ∀ (h' : gw_H) (n' kc' ks' : Nat) (thr' : Int32) (o' : Nat → Int64), INV h' n' thr' o' → kc' ≤ kc + 200 → ks' ≤ ks + 1600 → GL X bb 1483 [none, some (.ref 0), some (.ref 40), some (.ref 61), some (.int (nI i)), none, none, none, none] [] h' n' kc' ks') : GL X bb 420 [none, some (.ref 0), some (.ref 40), some (.ref 61), some (.int (nI i)), none, none, none, none] [] h n kc ks := by
  obtain ⟨k, P, hw, hm⟩ := pr_put hst hI (xs (i + 1)) (xs (i + 2)) (xs (i + 3))
  refine l_aload_n hX dL_law_420 rfl rfl ?_
  refine l_sck (i := i) (q := 1) hX hSX (by omega) (by omega) dL_law_421 dL_law_422 dL_law_424 (by decide) dL_law_425 dL_law_426 rfl ?_
  refine l_sck (i := i) (q := 2) hX hSX (by omega) (by omega) dL_law_427 dL_law_428 dL_law_430 (by decide) dL_law_431 dL_law_432 rfl ?_
  refine l_sck (i := i) (q := 3) hX hSX (by omega) (by omega) dL_law_433 dL_law_434 dL_law_436 (by decide) dL_law_437 dL_law_438 rfl ?_
  refine l_aload_n hX dL_law_439 rfl rfl ?_
  refine l_callSH (As := [.ref 0, .int (xs (i + 1)), .int (xs (i + 2)), .int (xs (i + 3)), .ref 61]) hX dL_law_440 ch_L_put ml_L_100 st_L_put rfl rfl hw (Nat.le_of_ble_eq_true rfl) (Nat.le_of_ble_eq_true rfl) (by omega) (by omega) (Nat.le_of_ble_eq_true rfl) (fun rv h1 n1 hn1 hp => ?_)
  obtain ⟨rfl, rfl, hk4, mc, ms, P2, o', hmc, hms, ho1, ⟨fs, h40⟩, hctr, hfin⟩ := hm rv h1 n1 hp
  refine l_istore (i := 5) hX dL_law_443 (Nat.le_of_ble_eq_true rfl) (by decide) rfl ?_
  refine l_aload_n hX dL_law_445 rfl rfl ?_
  refine l_sck (i := i) (q := 1) hX hSX (by omega) (by omega) dL_law_446 dL_law_447 dL_law_449 (by decide) dL_law_450 dL_law_451 rfl ?_
  refine l_sck (i := i) (q := 2) hX hSX (by omega) (by omega) dL_law_452 dL_law_453 dL_law_455 (by decide) dL_law_456 dL_law_457 rfl ?_
  refine l_sck (i := i) (q := 3) hX hSX (by omega) (by omega) dL_law_458 dL_law_459 dL_law_461 (by decide) dL_law_462 dL_law_463 rfl ?_
  refine l_callV (As := [.int (xs (i + 1)), .int (xs (i + 2)), .int (xs (i + 3))]) hX dL_law_464 cb_X5_put ml_L_102 im_X5_put se_X5_put rfl rfl h40 ⟨_, rfl, rfl⟩ hctr (Nat.le_of_ble_eq_true rfl) (Nat.le_of_ble_eq_true rfl) (by omega) (by omega) (Nat.le_of_ble_eq_true rfl) (fun rv2 h2 n2 hn2 hp2 => ?_)
  obtain ⟨v, rfl, hn9, hI2, hv⟩ := hfin rv2 h2 n2 hp2
  obtain ⟨rc9, mc9, tch9, frs9, len9, m9⟩ := hI2.m40
  refine l_istore (i := 6) hX dL_law_467 (Nat.le_of_ble_eq_true rfl) (by decide) rfl ?_
  refine l_aload_n hX dL_law_469 rfl rfl ?_
  refine l_callV (As := []) hX dL_law_470 cb_X5_thrown ml_L_86 im_X5_thrown se_X5_thrown rfl rfl m9 ⟨_, rfl, rfl⟩ (kX5_thrown hst m9) (Nat.le_of_ble_eq_true rfl) (Nat.le_of_ble_eq_true rfl) (by omega) (by omega) (Nat.le_of_ble_eq_true rfl) (fun rv3 h3 n3 hn3 hp3 => ?_)
  obtain ⟨rfl, rfl, rfl⟩ := hp3
  refine l_iload hX dL_law_473 rfl ?_
  refine l_icmp_eq (tgt := 480) hX dL_law_475 (by decide) (fun _ => ?_) (fun c => absurd rfl c)
  refine l_iload hX dL_law_480 rfl ?_
  refine l_if_ne (tgt := 497) hX dL_law_482 (by decide) (fun c1 => ?_) (fun c1 => ?_)
  · refine l_goto (tgt := 1483) hX dL_law_497 (by decide) ?_
    refine l_kill 5 ?_
    refine l_kill 6 ?_
    exact KK _ _ _ _ _ _ hI2 (by omega) (by omega)
  · have hk0 : k = 0 := (gn_eq (a := k) (b := 0) ⟨by omega, by omega⟩).mp c1
    subst hk0
    refine l_aload_n hX dL_law_485 rfl rfl ?_
    refine l_iconst (v := nI 0) hX dL_law_486 (by decide) ?_
    refine l_laload hX dL_law_487 hI2.2.1 0 (by omega) rfl (by omega) ?_
    refine l_iload hX dL_law_488 rfl ?_
    refine l_i2l hX dL_law_490 ?_
    refine l_lcmp hX dL_law_491 ?_
    refine l_if_eq (tgt := 497) hX dL_law_492 (by decide) (fun _ => ?_) (fun c => absurd (by rw [hv rfl]; exact lg_self _) c)
    refine l_goto (tgt := 1483) hX dL_law_497 (by decide) ?_
    refine l_kill 5 ?_
    refine l_kill 6 ?_
    exact KK _ _ _ _ _ _ hI2 (by omega) (by omega)
set_option maxRecDepth 20000 in
theorem lc_leave {l : Launch} {K : gw_K} {X : gw_X} {bb Ls : Nat} {xs : Nat → Int32} (hst : l.stackTraces = false) (hX : FX l K X cL_law RL 13 482 627089 7214836) (hSX : SX X bb Ls xs) {i n kc ks : Nat} {h : gw_H} {thr : Int32} {o : Nat → Int64} (hi : i + 4 ≤ Ls) (hLs : Ls ≤ 2048) (hI : INV h n thr o) (hkc : kc + 200 ≤ 627089) (hks : ks + 1600 ≤ 7214836) (KK : ∀ (h' : gw_H) (n' kc' ks' : Nat) (thr' : Int32) (o' : Nat → Int64), INV h' n' thr' o' → kc' ≤ kc + 200 → ks' ≤ ks + 1600 → GL X bb 1483 [none, some (.ref 0), some (.ref 40), some (.ref 61), some (.int (nI i)), none, none, none, none] [] h' n' kc' ks') : GL X bb 500 [none, some (.ref 0), some (.ref 40), some (.ref 61), some (.int (nI i)), none, none, none, none] [] h n kc ks := by
  obtain ⟨k, P, hw, hm⟩ := pr_leave hst hI (xs (i + 1))
  refine l_aload_n hX dL_law_500 rfl rfl ?_
  refine l_sck (i := i) (q := 1) hX hSX (by omega) (by omega) dL_law_501 dL_law_502 dL_law_504 (by decide) dL_law_505 dL_law_506 rfl ?_
  refine l_aload_n hX dL_law_507 rfl rfl ?_
  refine l_callSH (As := [.ref 0, .int (xs (i + 1)), .ref 61]) hX dL_law_508 ch_L_leave ml_L_103 st_L_leave rfl rfl hw (Nat.le_of_ble_eq_true rfl) (Nat.le_of_ble_eq_true rfl) (by omega) (by omega) (Nat.le_of_ble_eq_true rfl) (fun rv h1 n1 hn1 hp => ?_)
  obtain ⟨rfl, rfl, hk4, mc, ms, P2, o', hmc, hms, ho1, ⟨fs, h40⟩, hctr, hfin⟩ := hm rv h1 n1 hp
  refine l_istore (i := 5) hX dL_law_511 (Nat.le_of_ble_eq_true rfl) (by decide) rfl ?_
  refine l_aload_n hX dL_law_513 rfl rfl ?_
  refine l_sck (i := i) (q := 1) hX hSX (by omega) (by omega) dL_law_514 dL_law_515 dL_law_517 (by decide) dL_law_518 dL_law_519 rfl ?_
  refine l_callV (As := [.int (xs (i + 1))]) hX dL_law_520 cb_X5_leave ml_L_105 im_X5_leave se_X5_leave rfl rfl h40 ⟨_, rfl, rfl⟩ hctr (Nat.le_of_ble_eq_true rfl) (Nat.le_of_ble_eq_true rfl) (by omega) (by omega) (Nat.le_of_ble_eq_true rfl) (fun rv2 h2 n2 hn2 hp2 => ?_)
  obtain ⟨v, rfl, hn9, hI2, hv⟩ := hfin rv2 h2 n2 hp2
  obtain ⟨rc9, mc9, tch9, frs9, len9, m9⟩ := hI2.m40
  refine l_istore (i := 6) hX dL_law_523 (Nat.le_of_ble_eq_true rfl) (by decide) rfl ?_
  refine l_aload_n hX dL_law_525 rfl rfl ?_
  refine l_callV (As := []) hX dL_law_526 cb_X5_thrown ml_L_86 im_X5_thrown se_X5_thrown rfl rfl m9 ⟨_, rfl, rfl⟩ (kX5_thrown hst m9) (Nat.le_of_ble_eq_true rfl) (Nat.le_of_ble_eq_true rfl) (by omega) (by omega) (Nat.le_of_ble_eq_true rfl) (fun rv3 h3 n3 hn3 hp3 => ?_)
  obtain ⟨rfl, rfl, rfl⟩ := hp3
  refine l_iload hX dL_law_529 rfl ?_
  refine l_icmp_eq (tgt := 536) hX dL_law_531 (by decide) (fun _ => ?_) (fun c => absurd rfl c)
  refine l_iload hX dL_law_536 rfl ?_
  refine l_if_ne (tgt := 553) hX dL_law_538 (by decide) (fun c1 => ?_) (fun c1 => ?_)
  · refine l_goto (tgt := 1483) hX dL_law_553 (by decide) ?_
    refine l_kill 5 ?_
    refine l_kill 6 ?_
    exact KK _ _ _ _ _ _ hI2 (by omega) (by omega)
  · have hk0 : k = 0 := (gn_eq (a := k) (b := 0) ⟨by omega, by omega⟩).mp c1
    subst hk0
    refine l_aload_n hX dL_law_541 rfl rfl ?_
    refine l_iconst (v := nI 0) hX dL_law_542 (by decide) ?_
    refine l_laload hX dL_law_543 hI2.2.1 0 (by omega) rfl (by omega) ?_
    refine l_iload hX dL_law_544 rfl ?_
    refine l_i2l hX dL_law_546 ?_
    refine l_lcmp hX dL_law_547 ?_
    refine l_if_eq (tgt := 553) hX dL_law_548 (by decide) (fun _ => ?_) (fun c => absurd (by rw [hv rfl]; exact lg_self _) c)
    refine l_goto (tgt := 1483) hX dL_law_553 (by decide) ?_
    refine l_kill 5 ?_
    refine l_kill 6 ?_
    exact KK _ _ _ _ _ _ hI2 (by omega) (by omega)
set_option maxRecDepth 20000 in
theorem lc_told {l : Launch} {K : gw_K} {X : gw_X} {bb Ls : Nat} {xs : Nat → Int32} (hst : l.stackTraces = false) (hX : FX l K X cL_law RL 13 482 627089 7214836) (hSX : SX X bb Ls xs) {i n kc ks : Nat} {h : gw_H} {thr : Int32} {o : Nat → Int64} (hi : i + 4 ≤ Ls) (hLs : Ls ≤ 2048) (hI : INV h n thr o) (hkc : kc + 200 ≤ 627089) (hks : ks + 1600 ≤ 7214836) (KK : ∀ (h' : gw_H) (n' kc' ks' : Nat) (thr' : Int32) (o' : Nat → Int64), INV h' n' thr' o' → kc' ≤ kc + 200 → ks' ≤ ks + 1600 → GL X bb 1483 [none, some (.ref 0), some (.ref 40), some (.ref 61), some (.int (nI i)), none, none, none, none] [] h' n' kc' ks') : GL X bb 556 [none, some (.ref 0), some (.ref 40), some (.ref 61), some (.int (nI i)), none, none, none, none] [] h n kc ks := by
  obtain ⟨k, P, hw, hm⟩ := pr_told hst hI (xs (i + 1)) (xs (i + 2))
  refine l_aload_n hX dL_law_556 rfl rfl ?_
  refine l_sck (i := i) (q := 1) hX hSX (by omega) (by omega) dL_law_557 dL_law_558 dL_law_560 (by decide) dL_law_561 dL_law_562 rfl ?_
  refine l_sck (i := i) (q := 2) hX hSX (by omega) (by omega) dL_law_563 dL_law_564 dL_law_566 (by decide) dL_law_567 dL_law_568 rfl ?_
  refine l_aload_n hX dL_law_569 rfl rfl ?_
  refine l_callSH (As := [.ref 0, .int (xs (i + 1)), .int (xs (i + 2)), .ref 61]) hX dL_law_570 ch_L_told ml_L_106 st_L_told rfl rfl hw (Nat.le_of_ble_eq_true rfl) (Nat.le_of_ble_eq_true rfl) (by omega) (by omega) (Nat.le_of_ble_eq_true rfl) (fun rv h1 n1 hn1 hp => ?_)
  obtain ⟨rfl, rfl, hk4, mc, ms, P2, o', hmc, hms, ho1, ⟨fs, h40⟩, hctr, hfin⟩ := hm rv h1 n1 hp
  refine l_istore (i := 5) hX dL_law_573 (Nat.le_of_ble_eq_true rfl) (by decide) rfl ?_
  refine l_aload_n hX dL_law_575 rfl rfl ?_
  refine l_sck (i := i) (q := 1) hX hSX (by omega) (by omega) dL_law_576 dL_law_577 dL_law_579 (by decide) dL_law_580 dL_law_581 rfl ?_
  refine l_sck (i := i) (q := 2) hX hSX (by omega) (by omega) dL_law_582 dL_law_583 dL_law_585 (by decide) dL_law_586 dL_law_587 rfl ?_
  refine l_callV (As := [.int (xs (i + 1)), .int (xs (i + 2))]) hX dL_law_588 cb_X5_told ml_L_108 im_X5_told se_X5_told rfl rfl h40 ⟨_, rfl, rfl⟩ hctr (Nat.le_of_ble_eq_true rfl) (Nat.le_of_ble_eq_true rfl) (by omega) (by omega) (Nat.le_of_ble_eq_true rfl) (fun rv2 h2 n2 hn2 hp2 => ?_)
  obtain ⟨v, rfl, hn9, hI2, hv⟩ := hfin rv2 h2 n2 hp2
  obtain ⟨rc9, mc9, tch9, frs9, len9, m9⟩ := hI2.m40
  refine l_istore (i := 6) hX dL_law_591 (Nat.le_of_ble_eq_true rfl) (by decide) rfl ?_
  refine l_aload_n hX dL_law_593 rfl rfl ?_
  refine l_callV (As := []) hX dL_law_594 cb_X5_thrown ml_L_86 im_X5_thrown se_X5_thrown rfl rfl m9 ⟨_, rfl, rfl⟩ (kX5_thrown hst m9) (Nat.le_of_ble_eq_true rfl) (Nat.le_of_ble_eq_true rfl) (by omega) (by omega) (Nat.le_of_ble_eq_true rfl) (fun rv3 h3 n3 hn3 hp3 => ?_)
  obtain ⟨rfl, rfl, rfl⟩ := hp3
  refine l_iload hX dL_law_597 rfl ?_
  refine l_icmp_eq (tgt := 604) hX dL_law_599 (by decide) (fun _ => ?_) (fun c => absurd rfl c)
  refine l_iload hX dL_law_604 rfl ?_
  refine l_if_ne (tgt := 621) hX dL_law_606 (by decide) (fun c1 => ?_) (fun c1 => ?_)
  · refine l_goto (tgt := 1483) hX dL_law_621 (by decide) ?_
    refine l_kill 5 ?_
    refine l_kill 6 ?_
    exact KK _ _ _ _ _ _ hI2 (by omega) (by omega)
  · have hk0 : k = 0 := (gn_eq (a := k) (b := 0) ⟨by omega, by omega⟩).mp c1
    subst hk0
    refine l_aload_n hX dL_law_609 rfl rfl ?_
    refine l_iconst (v := nI 0) hX dL_law_610 (by decide) ?_
    refine l_laload hX dL_law_611 hI2.2.1 0 (by omega) rfl (by omega) ?_
    refine l_iload hX dL_law_612 rfl ?_
    refine l_i2l hX dL_law_614 ?_
    refine l_lcmp hX dL_law_615 ?_
    refine l_if_eq (tgt := 621) hX dL_law_616 (by decide) (fun _ => ?_) (fun c => absurd (by rw [hv rfl]; exact lg_self _) c)
    refine l_goto (tgt := 1483) hX dL_law_621 (by decide) ?_
    refine l_kill 5 ?_
    refine l_kill 6 ?_
    exact KK _ _ _ _ _ _ hI2 (by omega) (by omega)
set_option maxRecDepth 20000 in
theorem lc_bell {l : Launch} {K : gw_K} {X : gw_X} {bb Ls : Nat} {xs : Nat → Int32} (hst : l.stackTraces = false) (hX : FX l K X cL_law RL 13 482 627089 7214836) (hSX : SX X bb Ls xs) {i n kc ks : Nat} {h : gw_H} {thr : Int32} {o : Nat → Int64} (hi : i + 4 ≤ Ls) (hLs : Ls ≤ 2048) (hI : INV h n thr o) (hkc : kc + 200 ≤ 627089) (hks : ks + 1600 ≤ 7214836) (KK : ∀ (h' : gw_H) (n' kc' ks' : Nat) (thr' : Int32) (o' : Nat → Int64), INV h' n' thr' o' → kc' ≤ kc + 200 → ks' ≤ ks + 1600 → GL X bb 1483 [none, some (.ref 0), some (.ref 40), some (.ref 61), some (.int (nI i)), none, none, none, none] [] h' n' kc' ks') : GL X bb 624 [none, some (.ref 0), some (.ref 40), some (.ref 61), some (.int (nI i)), none, none, none, none] [] h n kc ks := by
  obtain ⟨k, P, hw, hm⟩ := pr_bell hst hI (xs (i + 1)) (xs (i + 2)) (xs (i + 3))
  refine l_aload_n hX dL_law_624 rfl rfl ?_
  refine l_sck (i := i) (q := 1) hX hSX (by omega) (by omega) dL_law_625 dL_law_626 dL_law_628 (by decide) dL_law_629 dL_law_630 rfl ?_
  refine l_sck (i := i) (q := 2) hX hSX (by omega) (by omega) dL_law_631 dL_law_632 dL_law_634 (by decide) dL_law_635 dL_law_636 rfl ?_
  refine l_sck (i := i) (q := 3) hX hSX (by omega) (by omega) dL_law_637 dL_law_638 dL_law_640 (by decide) dL_law_641 dL_law_642 rfl ?_
  refine l_aload_n hX dL_law_643 rfl rfl ?_
  refine l_callSH (As := [.ref 0, .int (xs (i + 1)), .int (xs (i + 2)), .int (xs (i + 3)), .ref 61]) hX dL_law_644 ch_L_bell ml_L_109 st_L_bell rfl rfl hw (Nat.le_of_ble_eq_true rfl) (Nat.le_of_ble_eq_true rfl) (by omega) (by omega) (Nat.le_of_ble_eq_true rfl) (fun rv h1 n1 hn1 hp => ?_)
  obtain ⟨rfl, rfl, hk4, mc, ms, P2, o', hmc, hms, ho1, ⟨fs, h40⟩, hctr, hfin⟩ := hm rv h1 n1 hp
  refine l_istore (i := 5) hX dL_law_647 (Nat.le_of_ble_eq_true rfl) (by decide) rfl ?_
  refine l_aload_n hX dL_law_649 rfl rfl ?_
  refine l_sck (i := i) (q := 1) hX hSX (by omega) (by omega) dL_law_650 dL_law_651 dL_law_653 (by decide) dL_law_654 dL_law_655 rfl ?_
  refine l_sck (i := i) (q := 2) hX hSX (by omega) (by omega) dL_law_656 dL_law_657 dL_law_659 (by decide) dL_law_660 dL_law_661 rfl ?_
  refine l_sck (i := i) (q := 3) hX hSX (by omega) (by omega) dL_law_662 dL_law_663 dL_law_665 (by decide) dL_law_666 dL_law_667 rfl ?_
  refine l_callV (As := [.int (xs (i + 1)), .int (xs (i + 2)), .int (xs (i + 3))]) hX dL_law_668 cb_X5_bell ml_L_111 im_X5_bell se_X5_bell rfl rfl h40 ⟨_, rfl, rfl⟩ hctr (Nat.le_of_ble_eq_true rfl) (Nat.le_of_ble_eq_true rfl) (by omega) (by omega) (Nat.le_of_ble_eq_true rfl) (fun rv2 h2 n2 hn2 hp2 => ?_)
  obtain ⟨v, rfl, hn9, hI2, hv⟩ := hfin rv2 h2 n2 hp2
  obtain ⟨rc9, mc9, tch9, frs9, len9, m9⟩ := hI2.m40
  refine l_istore (i := 6) hX dL_law_671 (Nat.le_of_ble_eq_true rfl) (by decide) rfl ?_
  refine l_aload_n hX dL_law_673 rfl rfl ?_
  refine l_callV (As := []) hX dL_law_674 cb_X5_thrown ml_L_86 im_X5_thrown se_X5_thrown rfl rfl m9 ⟨_, rfl, rfl⟩ (kX5_thrown hst m9) (Nat.le_of_ble_eq_true rfl) (Nat.le_of_ble_eq_true rfl) (by omega) (by omega) (Nat.le_of_ble_eq_true rfl) (fun rv3 h3 n3 hn3 hp3 => ?_)
  obtain ⟨rfl, rfl, rfl⟩ := hp3
  refine l_iload hX dL_law_677 rfl ?_
  refine l_icmp_eq (tgt := 684) hX dL_law_679 (by decide) (fun _ => ?_) (fun c => absurd rfl c)
  refine l_iload hX dL_law_684 rfl ?_
  refine l_if_ne (tgt := 701) hX dL_law_686 (by decide) (fun c1 => ?_) (fun c1 => ?_)
  · refine l_goto (tgt := 1483) hX dL_law_701 (by decide) ?_
    refine l_kill 5 ?_
    refine l_kill 6 ?_
    exact KK _ _ _ _ _ _ hI2 (by omega) (by omega)
  · have hk0 : k = 0 := (gn_eq (a := k) (b := 0) ⟨by omega, by omega⟩).mp c1
    subst hk0
    refine l_aload_n hX dL_law_689 rfl rfl ?_
    refine l_iconst (v := nI 0) hX dL_law_690 (by decide) ?_
    refine l_laload hX dL_law_691 hI2.2.1 0 (by omega) rfl (by omega) ?_
    refine l_iload hX dL_law_692 rfl ?_
    refine l_i2l hX dL_law_694 ?_
    refine l_lcmp hX dL_law_695 ?_
    refine l_if_eq (tgt := 701) hX dL_law_696 (by decide) (fun _ => ?_) (fun c => absurd (by rw [hv rfl]; exact lg_self _) c)
    refine l_goto (tgt := 1483) hX dL_law_701 (by decide) ?_
    refine l_kill 5 ?_
    refine l_kill 6 ?_
    exact KK _ _ _ _ _ _ hI2 (by omega) (by omega)
set_option maxRecDepth 20000 in
theorem lc_method {l : Launch} {K : gw_K} {X : gw_X} {bb Ls : Nat} {xs : Nat → Int32} (hst : l.stackTraces = false) (hX : FX l K X cL_law RL 13 482 627089 7214836) (hSX : SX X bb Ls xs) {i n kc ks : Nat} {h : gw_H} {thr : Int32} {o : Nat → Int64} (hi : i + 4 ≤ Ls) (hLs : Ls ≤ 2048) (hI : INV h n thr o) (hkc : kc + 200 ≤ 627089) (hks : ks + 1600 ≤ 7214836) (KK : ∀ (h' : gw_H) (n' kc' ks' : Nat) (thr' : Int32) (o' : Nat → Int64), INV h' n' thr' o' → kc' ≤ kc + 200 → ks' ≤ ks + 1600 → GL X bb 1483 [none, some (.ref 0), some (.ref 40), some (.ref 61), some (.int (nI i)), none, none, none, none] [] h' n' kc' ks') : GL X bb 704 [none, some (.ref 0), some (.ref 40), some (.ref 61), some (.int (nI i)), none, none, none, none] [] h n kc ks := by
  obtain ⟨k, P, hw, hm⟩ := pr_method hst hI 
  refine l_aload_n hX dL_law_704 rfl rfl ?_
  refine l_aload_n hX dL_law_705 rfl rfl ?_
  refine l_callSH (As := [.ref 0, .ref 61]) hX dL_law_706 ch_L_method ml_L_112 st_L_method rfl rfl hw (Nat.le_of_ble_eq_true rfl) (Nat.le_of_ble_eq_true rfl) (by omega) (by omega) (Nat.le_of_ble_eq_true rfl) (fun rv h1 n1 hn1 hp => ?_)
  obtain ⟨rfl, rfl, hk4, mc, ms, P2, o', hmc, hms, ho1, ⟨fs, h40⟩, hctr, hfin⟩ := hm rv h1 n1 hp
  refine l_istore (i := 5) hX dL_law_709 (Nat.le_of_ble_eq_true rfl) (by decide) rfl ?_
  refine l_aload_n hX dL_law_711 rfl rfl ?_
  refine l_callV (As := []) hX dL_law_712 cb_X5_method ml_L_115 im_X5_method se_X5_method rfl rfl h40 ⟨_, rfl, rfl⟩ hctr (Nat.le_of_ble_eq_true rfl) (Nat.le_of_ble_eq_true rfl) (by omega) (by omega) (Nat.le_of_ble_eq_true rfl) (fun rv2 h2 n2 hn2 hp2 => ?_)
  obtain ⟨v, rfl, hn9, hI2, hv⟩ := hfin rv2 h2 n2 hp2
  obtain ⟨rc9, mc9, tch9, frs9, len9, m9⟩ := hI2.m40
  refine l_istore (i := 6) hX dL_law_715 (Nat.le_of_ble_eq_true rfl) (by decide) rfl ?_
  refine l_aload_n hX dL_law_717 rfl rfl ?_
  refine l_callV (As := []) hX dL_law_718 cb_X5_thrown ml_L_86 im_X5_thrown se_X5_thrown rfl rfl m9 ⟨_, rfl, rfl⟩ (kX5_thrown hst m9) (Nat.le_of_ble_eq_true rfl) (Nat.le_of_ble_eq_true rfl) (by omega) (by omega) (Nat.le_of_ble_eq_true rfl) (fun rv3 h3 n3 hn3 hp3 => ?_)
  obtain ⟨rfl, rfl, rfl⟩ := hp3
  refine l_iload hX dL_law_721 rfl ?_
  refine l_icmp_eq (tgt := 728) hX dL_law_723 (by decide) (fun _ => ?_) (fun c => absurd rfl c)
  refine l_iload hX dL_law_728 rfl ?_
  refine l_if_ne (tgt := 745) hX dL_law_730 (by decide) (fun c1 => ?_) (fun c1 => ?_)
  · refine l_goto (tgt := 1483) hX dL_law_745 (by decide) ?_
    refine l_kill 5 ?_
    refine l_kill 6 ?_
    exact KK _ _ _ _ _ _ hI2 (by omega) (by omega)
  · have hk0 : k = 0 := (gn_eq (a := k) (b := 0) ⟨by omega, by omega⟩).mp c1
    subst hk0
    refine l_aload_n hX dL_law_733 rfl rfl ?_
    refine l_iconst (v := nI 0) hX dL_law_734 (by decide) ?_
    refine l_laload hX dL_law_735 hI2.2.1 0 (by omega) rfl (by omega) ?_
    refine l_iload hX dL_law_736 rfl ?_
    refine l_i2l hX dL_law_738 ?_
    refine l_lcmp hX dL_law_739 ?_
    refine l_if_eq (tgt := 745) hX dL_law_740 (by decide) (fun _ => ?_) (fun c => absurd (by rw [hv rfl]; exact lg_self _) c)
    refine l_goto (tgt := 1483) hX dL_law_745 (by decide) ?_
    refine l_kill 5 ?_
    refine l_kill 6 ?_
    exact KK _ _ _ _ _ _ hI2 (by omega) (by omega)
set_option maxRecDepth 20000 in
theorem lc_add {l : Launch} {K : gw_K} {X : gw_X} {bb Ls : Nat} {xs : Nat → Int32} (hst : l.stackTraces = false) (hX : FX l K X cL_law RL 13 482 627089 7214836) (hSX : SX X bb Ls xs) {i n kc ks : Nat} {h : gw_H} {thr : Int32} {o : Nat → Int64} (hi : i + 4 ≤ Ls) (hLs : Ls ≤ 2048) (hI : INV h n thr o) (hkc : kc + 200 ≤ 627089) (hks : ks + 1600 ≤ 7214836) (KK : ∀ (h' : gw_H) (n' kc' ks' : Nat) (thr' : Int32) (o' : Nat → Int64), INV h' n' thr' o' → kc' ≤ kc + 200 → ks' ≤ ks + 1600 → GL X bb 1483 [none, some (.ref 0), some (.ref 40), some (.ref 61), some (.int (nI i)), none, none, none, none] [] h' n' kc' ks') : GL X bb 748 [none, some (.ref 0), some (.ref 40), some (.ref 61), some (.int (nI i)), none, none, none, none] [] h n kc ks := by
  obtain ⟨k, P, hw, hm⟩ := pr_add hst hI (xs (i + 1)) (xs (i + 2))
  refine l_aload_n hX dL_law_748 rfl rfl ?_
  refine l_sck (i := i) (q := 1) hX hSX (by omega) (by omega) dL_law_749 dL_law_750 dL_law_752 (by decide) dL_law_753 dL_law_754 rfl ?_
  refine l_sck (i := i) (q := 2) hX hSX (by omega) (by omega) dL_law_755 dL_law_756 dL_law_758 (by decide) dL_law_759 dL_law_760 rfl ?_
  refine l_aload_n hX dL_law_761 rfl rfl ?_
  refine l_callSH (As := [.ref 0, .int (xs (i + 1)), .int (xs (i + 2)), .ref 61]) hX dL_law_762 ch_L_add ml_L_116 st_L_add rfl rfl hw (Nat.le_of_ble_eq_true rfl) (Nat.le_of_ble_eq_true rfl) (by omega) (by omega) (Nat.le_of_ble_eq_true rfl) (fun rv h1 n1 hn1 hp => ?_)
  obtain ⟨rfl, rfl, hk4, mc, ms, P2, o', hmc, hms, ho1, ⟨fs, h40⟩, hctr, hfin⟩ := hm rv h1 n1 hp
  refine l_istore (i := 5) hX dL_law_765 (Nat.le_of_ble_eq_true rfl) (by decide) rfl ?_
  refine l_aload_n hX dL_law_767 rfl rfl ?_
  refine l_sck (i := i) (q := 1) hX hSX (by omega) (by omega) dL_law_768 dL_law_769 dL_law_771 (by decide) dL_law_772 dL_law_773 rfl ?_
  refine l_sck (i := i) (q := 2) hX hSX (by omega) (by omega) dL_law_774 dL_law_775 dL_law_777 (by decide) dL_law_778 dL_law_779 rfl ?_
  refine l_callV (As := [.int (xs (i + 1)), .int (xs (i + 2))]) hX dL_law_780 cb_X5_add ml_L_118 im_X5_add se_X5_add rfl rfl h40 ⟨_, rfl, rfl⟩ hctr (Nat.le_of_ble_eq_true rfl) (Nat.le_of_ble_eq_true rfl) (by omega) (by omega) (Nat.le_of_ble_eq_true rfl) (fun rv2 h2 n2 hn2 hp2 => ?_)
  obtain ⟨v, rfl, hn9, hI2, hv⟩ := hfin rv2 h2 n2 hp2
  obtain ⟨rc9, mc9, tch9, frs9, len9, m9⟩ := hI2.m40
  refine l_istore (i := 6) hX dL_law_783 (Nat.le_of_ble_eq_true rfl) (by decide) rfl ?_
  refine l_aload_n hX dL_law_785 rfl rfl ?_
  refine l_callV (As := []) hX dL_law_786 cb_X5_thrown ml_L_86 im_X5_thrown se_X5_thrown rfl rfl m9 ⟨_, rfl, rfl⟩ (kX5_thrown hst m9) (Nat.le_of_ble_eq_true rfl) (Nat.le_of_ble_eq_true rfl) (by omega) (by omega) (Nat.le_of_ble_eq_true rfl) (fun rv3 h3 n3 hn3 hp3 => ?_)
  obtain ⟨rfl, rfl, rfl⟩ := hp3
  refine l_iload hX dL_law_789 rfl ?_
  refine l_icmp_eq (tgt := 796) hX dL_law_791 (by decide) (fun _ => ?_) (fun c => absurd rfl c)
  refine l_iload hX dL_law_796 rfl ?_
  refine l_if_ne (tgt := 813) hX dL_law_798 (by decide) (fun c1 => ?_) (fun c1 => ?_)
  · refine l_goto (tgt := 1483) hX dL_law_813 (by decide) ?_
    refine l_kill 5 ?_
    refine l_kill 6 ?_
    exact KK _ _ _ _ _ _ hI2 (by omega) (by omega)
  · have hk0 : k = 0 := (gn_eq (a := k) (b := 0) ⟨by omega, by omega⟩).mp c1
    subst hk0
    refine l_aload_n hX dL_law_801 rfl rfl ?_
    refine l_iconst (v := nI 0) hX dL_law_802 (by decide) ?_
    refine l_laload hX dL_law_803 hI2.2.1 0 (by omega) rfl (by omega) ?_
    refine l_iload hX dL_law_804 rfl ?_
    refine l_i2l hX dL_law_806 ?_
    refine l_lcmp hX dL_law_807 ?_
    refine l_if_eq (tgt := 813) hX dL_law_808 (by decide) (fun _ => ?_) (fun c => absurd (by rw [hv rfl]; exact lg_self _) c)
    refine l_goto (tgt := 1483) hX dL_law_813 (by decide) ?_
    refine l_kill 5 ?_
    refine l_kill 6 ?_
    exact KK _ _ _ _ _ _ hI2 (by omega) (by omega)
set_option maxRecDepth 20000 in
theorem lc_about {l : Launch} {K : gw_K} {X : gw_X} {bb Ls : Nat} {xs : Nat → Int32} (hst : l.stackTraces = false) (hX : FX l K X cL_law RL 13 482 627089 7214836) (hSX : SX X bb Ls xs) {i n kc ks : Nat} {h : gw_H} {thr : Int32} {o : Nat → Int64} (hi : i + 4 ≤ Ls) (hLs : Ls ≤ 2048) (hI : INV h n thr o) (hkc : kc + 200 ≤ 627089) (hks : ks + 1600 ≤ 7214836) (KK : ∀ (h' : gw_H) (n' kc' ks' : Nat) (thr' : Int32) (o' : Nat → Int64), INV h' n' thr' o' → kc' ≤ kc + 200 → ks' ≤ ks + 1600 → GL X bb 1483 [none, some (.ref 0), some (.ref 40), some (.ref 61), some (.int (nI i)), none, none, none, none] [] h' n' kc' ks') : GL X bb 816 [none, some (.ref 0), some (.ref 40), some (.ref 61), some (.int (nI i)), none, none, none, none] [] h n kc ks := by
  obtain ⟨k, P, hw, hm⟩ := pr_about hst hI (xs (i + 1)) (xs (i + 2))
  refine l_aload_n hX dL_law_816 rfl rfl ?_
  refine l_sck (i := i) (q := 1) hX hSX (by omega) (by omega) dL_law_817 dL_law_818 dL_law_820 (by decide) dL_law_821 dL_law_822 rfl ?_
  refine l_sck (i := i) (q := 2) hX hSX (by omega) (by omega) dL_law_823 dL_law_824 dL_law_826 (by decide) dL_law_827 dL_law_828 rfl ?_
  refine l_aload_n hX dL_law_829 rfl rfl ?_
  refine l_callSH (As := [.ref 0, .int (xs (i + 1)), .int (xs (i + 2)), .ref 61]) hX dL_law_830 ch_L_about ml_L_119 st_L_about rfl rfl hw (Nat.le_of_ble_eq_true rfl) (Nat.le_of_ble_eq_true rfl) (by omega) (by omega) (Nat.le_of_ble_eq_true rfl) (fun rv h1 n1 hn1 hp => ?_)
  obtain ⟨rfl, rfl, hk4, mc, ms, P2, o', hmc, hms, ho1, ⟨fs, h40⟩, hctr, hfin⟩ := hm rv h1 n1 hp
  refine l_istore (i := 5) hX dL_law_833 (Nat.le_of_ble_eq_true rfl) (by decide) rfl ?_
  refine l_aload_n hX dL_law_835 rfl rfl ?_
  refine l_sck (i := i) (q := 1) hX hSX (by omega) (by omega) dL_law_836 dL_law_837 dL_law_839 (by decide) dL_law_840 dL_law_841 rfl ?_
  refine l_sck (i := i) (q := 2) hX hSX (by omega) (by omega) dL_law_842 dL_law_843 dL_law_845 (by decide) dL_law_846 dL_law_847 rfl ?_
  refine l_callV (As := [.int (xs (i + 1)), .int (xs (i + 2))]) hX dL_law_848 cb_X5_about ml_L_121 im_X5_about se_X5_about rfl rfl h40 ⟨_, rfl, rfl⟩ hctr (Nat.le_of_ble_eq_true rfl) (Nat.le_of_ble_eq_true rfl) (by omega) (by omega) (Nat.le_of_ble_eq_true rfl) (fun rv2 h2 n2 hn2 hp2 => ?_)
  obtain ⟨v, rfl, hn9, hI2, hv⟩ := hfin rv2 h2 n2 hp2
  obtain ⟨rc9, mc9, tch9, frs9, len9, m9⟩ := hI2.m40
  refine l_istore (i := 6) hX dL_law_851 (Nat.le_of_ble_eq_true rfl) (by decide) rfl ?_
  refine l_aload_n hX dL_law_853 rfl rfl ?_
  refine l_callV (As := []) hX dL_law_854 cb_X5_thrown ml_L_86 im_X5_thrown se_X5_thrown rfl rfl m9 ⟨_, rfl, rfl⟩ (kX5_thrown hst m9) (Nat.le_of_ble_eq_true rfl) (Nat.le_of_ble_eq_true rfl) (by omega) (by omega) (Nat.le_of_ble_eq_true rfl) (fun rv3 h3 n3 hn3 hp3 => ?_)
  obtain ⟨rfl, rfl, rfl⟩ := hp3
  refine l_iload hX dL_law_857 rfl ?_
  refine l_icmp_eq (tgt := 864) hX dL_law_859 (by decide) (fun _ => ?_) (fun c => absurd rfl c)
  refine l_iload hX dL_law_864 rfl ?_
  refine l_if_ne (tgt := 881) hX dL_law_866 (by decide) (fun c1 => ?_) (fun c1 => ?_)
  · refine l_goto (tgt := 1483) hX dL_law_881 (by decide) ?_
    refine l_kill 5 ?_
    refine l_kill 6 ?_
    exact KK _ _ _ _ _ _ hI2 (by omega) (by omega)
  · have hk0 : k = 0 := (gn_eq (a := k) (b := 0) ⟨by omega, by omega⟩).mp c1
    subst hk0
    refine l_aload_n hX dL_law_869 rfl rfl ?_
    refine l_iconst (v := nI 0) hX dL_law_870 (by decide) ?_
    refine l_laload hX dL_law_871 hI2.2.1 0 (by omega) rfl (by omega) ?_
    refine l_iload hX dL_law_872 rfl ?_
    refine l_i2l hX dL_law_874 ?_
    refine l_lcmp hX dL_law_875 ?_
    refine l_if_eq (tgt := 881) hX dL_law_876 (by decide) (fun _ => ?_) (fun c => absurd (by rw [hv rfl]; exact lg_self _) c)
    refine l_goto (tgt := 1483) hX dL_law_881 (by decide) ?_
    refine l_kill 5 ?_
    refine l_kill 6 ?_
    exact KK _ _ _ _ _ _ hI2 (by omega) (by omega)
set_option maxRecDepth 20000 in
theorem lc_row {l : Launch} {K : gw_K} {X : gw_X} {bb Ls : Nat} {xs : Nat → Int32} (hst : l.stackTraces = false) (hX : FX l K X cL_law RL 13 482 627089 7214836) (hSX : SX X bb Ls xs) {i n kc ks : Nat} {h : gw_H} {thr : Int32} {o : Nat → Int64} (hi : i + 4 ≤ Ls) (hLs : Ls ≤ 2048) (hI : INV h n thr o) (hkc : kc + 200 ≤ 627089) (hks : ks + 1600 ≤ 7214836) (KK : ∀ (h' : gw_H) (n' kc' ks' : Nat) (thr' : Int32) (o' : Nat → Int64), INV h' n' thr' o' → kc' ≤ kc + 200 → ks' ≤ ks + 1600 → GL X bb 1483 [none, some (.ref 0), some (.ref 40), some (.ref 61), some (.int (nI i)), none, none, none, none] [] h' n' kc' ks') : GL X bb 884 [none, some (.ref 0), some (.ref 40), some (.ref 61), some (.int (nI i)), none, none, none, none] [] h n kc ks := by
  obtain ⟨k, P, hw, hm⟩ := pr_row hst hI (xs (i + 1)) (xs (i + 2))
  refine l_aload_n hX dL_law_884 rfl rfl ?_
  refine l_sck (i := i) (q := 1) hX hSX (by omega) (by omega) dL_law_885 dL_law_886 dL_law_888 (by decide) dL_law_889 dL_law_890 rfl ?_
  refine l_sck (i := i) (q := 2) hX hSX (by omega) (by omega) dL_law_891 dL_law_892 dL_law_894 (by decide) dL_law_895 dL_law_896 rfl ?_
  refine l_aload_n hX dL_law_897 rfl rfl ?_
  refine l_callSH (As := [.ref 0, .int (xs (i + 1)), .int (xs (i + 2)), .ref 61]) hX dL_law_898 ch_L_row ml_L_122 st_L_row rfl rfl hw (Nat.le_of_ble_eq_true rfl) (Nat.le_of_ble_eq_true rfl) (by omega) (by omega) (Nat.le_of_ble_eq_true rfl) (fun rv h1 n1 hn1 hp => ?_)
  obtain ⟨rfl, rfl, hk4, mc, ms, P2, o', hmc, hms, ho1, ⟨fs, h40⟩, hctr, hfin⟩ := hm rv h1 n1 hp
  refine l_istore (i := 5) hX dL_law_901 (Nat.le_of_ble_eq_true rfl) (by decide) rfl ?_
  refine l_aload_n hX dL_law_903 rfl rfl ?_
  refine l_sck (i := i) (q := 1) hX hSX (by omega) (by omega) dL_law_904 dL_law_905 dL_law_907 (by decide) dL_law_908 dL_law_909 rfl ?_
  refine l_sck (i := i) (q := 2) hX hSX (by omega) (by omega) dL_law_910 dL_law_911 dL_law_913 (by decide) dL_law_914 dL_law_915 rfl ?_
  refine l_callV (As := [.int (xs (i + 1)), .int (xs (i + 2))]) hX dL_law_916 cb_X5_row ml_L_124 im_X5_row se_X5_row rfl rfl h40 ⟨_, rfl, rfl⟩ hctr (Nat.le_of_ble_eq_true rfl) (Nat.le_of_ble_eq_true rfl) (by omega) (by omega) (Nat.le_of_ble_eq_true rfl) (fun rv2 h2 n2 hn2 hp2 => ?_)
  obtain ⟨v, rfl, hn9, hI2, hv⟩ := hfin rv2 h2 n2 hp2
  obtain ⟨rc9, mc9, tch9, frs9, len9, m9⟩ := hI2.m40
  refine l_istore (i := 6) hX dL_law_919 (Nat.le_of_ble_eq_true rfl) (by decide) rfl ?_
  refine l_aload_n hX dL_law_921 rfl rfl ?_
  refine l_callV (As := []) hX dL_law_922 cb_X5_thrown ml_L_86 im_X5_thrown se_X5_thrown rfl rfl m9 ⟨_, rfl, rfl⟩ (kX5_thrown hst m9) (Nat.le_of_ble_eq_true rfl) (Nat.le_of_ble_eq_true rfl) (by omega) (by omega) (Nat.le_of_ble_eq_true rfl) (fun rv3 h3 n3 hn3 hp3 => ?_)
  obtain ⟨rfl, rfl, rfl⟩ := hp3
  refine l_iload hX dL_law_925 rfl ?_
  refine l_icmp_eq (tgt := 932) hX dL_law_927 (by decide) (fun _ => ?_) (fun c => absurd rfl c)
  refine l_iload hX dL_law_932 rfl ?_
  refine l_if_ne (tgt := 949) hX dL_law_934 (by decide) (fun c1 => ?_) (fun c1 => ?_)
  · refine l_goto (tgt := 1483) hX dL_law_949 (by decide) ?_
    refine l_kill 5 ?_
    refine l_kill 6 ?_
    exact KK _ _ _ _ _ _ hI2 (by omega) (by omega)
  · have hk0 : k = 0 := (gn_eq (a := k) (b := 0) ⟨by omega, by omega⟩).mp c1
    subst hk0
    refine l_aload_n hX dL_law_937 rfl rfl ?_
    refine l_iconst (v := nI 0) hX dL_law_938 (by decide) ?_
    refine l_laload hX dL_law_939 hI2.2.1 0 (by omega) rfl (by omega) ?_
    refine l_iload hX dL_law_940 rfl ?_
    refine l_i2l hX dL_law_942 ?_
    refine l_lcmp hX dL_law_943 ?_
    refine l_if_eq (tgt := 949) hX dL_law_944 (by decide) (fun _ => ?_) (fun c => absurd (by rw [hv rfl]; exact lg_self _) c)
    refine l_goto (tgt := 1483) hX dL_law_949 (by decide) ?_
    refine l_kill 5 ?_
    refine l_kill 6 ?_
    exact KK _ _ _ _ _ _ hI2 (by omega) (by omega)
set_option maxRecDepth 20000 in
theorem lc_dodges {l : Launch} {K : gw_K} {X : gw_X} {bb Ls : Nat} {xs : Nat → Int32} (hst : l.stackTraces = false) (hX : FX l K X cL_law RL 13 482 627089 7214836) (hSX : SX X bb Ls xs) {i n kc ks : Nat} {h : gw_H} {thr : Int32} {o : Nat → Int64} (hi : i + 4 ≤ Ls) (hLs : Ls ≤ 2048) (hI : INV h n thr o) (hkc : kc + 200 ≤ 627089) (hks : ks + 1600 ≤ 7214836) (KK : ∀ (h' : gw_H) (n' kc' ks' : Nat) (thr' : Int32) (o' : Nat → Int64), INV h' n' thr' o' → kc' ≤ kc + 200 → ks' ≤ ks + 1600 → GL X bb 1483 [none, some (.ref 0), some (.ref 40), some (.ref 61), some (.int (nI i)), none, none, none, none] [] h' n' kc' ks') : GL X bb 952 [none, some (.ref 0), some (.ref 40), some (.ref 61), some (.int (nI i)), none, none, none, none] [] h n kc ks := by
  obtain ⟨k, P, hw, hm⟩ := pr_dodges hst hI (xs (i + 1)) (xs (i + 2))
  refine l_aload_n hX dL_law_952 rfl rfl ?_
  refine l_sck (i := i) (q := 1) hX hSX (by omega) (by omega) dL_law_953 dL_law_954 dL_law_956 (by decide) dL_law_957 dL_law_958 rfl ?_
  refine l_sck (i := i) (q := 2) hX hSX (by omega) (by omega) dL_law_959 dL_law_960 dL_law_962 (by decide) dL_law_963 dL_law_964 rfl ?_
  refine l_aload_n hX dL_law_965 rfl rfl ?_
  refine l_callSH (As := [.ref 0, .int (xs (i + 1)), .int (xs (i + 2)), .ref 61]) hX dL_law_966 ch_L_dodges ml_L_125 st_L_dodges rfl rfl hw (Nat.le_of_ble_eq_true rfl) (Nat.le_of_ble_eq_true rfl) (by omega) (by omega) (Nat.le_of_ble_eq_true rfl) (fun rv h1 n1 hn1 hp => ?_)
  obtain ⟨rfl, rfl, hk4, mc, ms, P2, o', hmc, hms, ho1, ⟨fs, h40⟩, hctr, hfin⟩ := hm rv h1 n1 hp
  refine l_istore (i := 5) hX dL_law_969 (Nat.le_of_ble_eq_true rfl) (by decide) rfl ?_
  refine l_aload_n hX dL_law_971 rfl rfl ?_
  refine l_sck (i := i) (q := 1) hX hSX (by omega) (by omega) dL_law_972 dL_law_973 dL_law_975 (by decide) dL_law_976 dL_law_977 rfl ?_
  refine l_sck (i := i) (q := 2) hX hSX (by omega) (by omega) dL_law_978 dL_law_979 dL_law_981 (by decide) dL_law_982 dL_law_983 rfl ?_
  refine l_callV (As := [.int (xs (i + 1)), .int (xs (i + 2))]) hX dL_law_984 cb_X5_dodges ml_L_127 im_X5_dodges se_X5_dodges rfl rfl h40 ⟨_, rfl, rfl⟩ hctr (Nat.le_of_ble_eq_true rfl) (Nat.le_of_ble_eq_true rfl) (by omega) (by omega) (Nat.le_of_ble_eq_true rfl) (fun rv2 h2 n2 hn2 hp2 => ?_)
  obtain ⟨v, rfl, hn9, hI2, hv⟩ := hfin rv2 h2 n2 hp2
  obtain ⟨rc9, mc9, tch9, frs9, len9, m9⟩ := hI2.m40
  refine l_istore (i := 6) hX dL_law_987 (Nat.le_of_ble_eq_true rfl) (by decide) rfl ?_
  refine l_aload_n hX dL_law_989 rfl rfl ?_
  refine l_callV (As := []) hX dL_law_990 cb_X5_thrown ml_L_86 im_X5_thrown se_X5_thrown rfl rfl m9 ⟨_, rfl, rfl⟩ (kX5_thrown hst m9) (Nat.le_of_ble_eq_true rfl) (Nat.le_of_ble_eq_true rfl) (by omega) (by omega) (Nat.le_of_ble_eq_true rfl) (fun rv3 h3 n3 hn3 hp3 => ?_)
  obtain ⟨rfl, rfl, rfl⟩ := hp3
  refine l_iload hX dL_law_993 rfl ?_
  refine l_icmp_eq (tgt := 1000) hX dL_law_995 (by decide) (fun _ => ?_) (fun c => absurd rfl c)
  refine l_iload hX dL_law_1000 rfl ?_
  refine l_if_ne (tgt := 1017) hX dL_law_1002 (by decide) (fun c1 => ?_) (fun c1 => ?_)
  · refine l_goto (tgt := 1483) hX dL_law_1017 (by decide) ?_
    refine l_kill 5 ?_
    refine l_kill 6 ?_
    exact KK _ _ _ _ _ _ hI2 (by omega) (by omega)
  · have hk0 : k = 0 := (gn_eq (a := k) (b := 0) ⟨by omega, by omega⟩).mp c1
    subst hk0
    refine l_aload_n hX dL_law_1005 rfl rfl ?_
    refine l_iconst (v := nI 0) hX dL_law_1006 (by decide) ?_
    refine l_laload hX dL_law_1007 hI2.2.1 0 (by omega) rfl (by omega) ?_
    refine l_iload hX dL_law_1008 rfl ?_
    refine l_i2l hX dL_law_1010 ?_
    refine l_lcmp hX dL_law_1011 ?_
    refine l_if_eq (tgt := 1017) hX dL_law_1012 (by decide) (fun _ => ?_) (fun c => absurd (by rw [hv rfl]; exact lg_self _) c)
    refine l_goto (tgt := 1483) hX dL_law_1017 (by decide) ?_
    refine l_kill 5 ?_
    refine l_kill 6 ?_
    exact KK _ _ _ _ _ _ hI2 (by omega) (by omega)
set_option maxRecDepth 20000 in
theorem lc_ring {l : Launch} {K : gw_K} {X : gw_X} {bb Ls : Nat} {xs : Nat → Int32} (hst : l.stackTraces = false) (hX : FX l K X cL_law RL 13 482 627089 7214836) (hSX : SX X bb Ls xs) {i n kc ks : Nat} {h : gw_H} {thr : Int32} {o : Nat → Int64} (hi : i + 4 ≤ Ls) (hLs : Ls ≤ 2048) (hI : INV h n thr o) (hkc : kc + 200 ≤ 627089) (hks : ks + 1600 ≤ 7214836) (KK : ∀ (h' : gw_H) (n' kc' ks' : Nat) (thr' : Int32) (o' : Nat → Int64), INV h' n' thr' o' → kc' ≤ kc + 200 → ks' ≤ ks + 1600 → GL X bb 1483 [none, some (.ref 0), some (.ref 40), some (.ref 61), some (.int (nI i)), none, none, none, none] [] h' n' kc' ks') : GL X bb 1020 [none, some (.ref 0), some (.ref 40), some (.ref 61), some (.int (nI i)), none, none, none, none] [] h n kc ks := by
  obtain ⟨k, P, hw, hm⟩ := pr_ring hst hI (xs (i + 1)) (xs (i + 2)) (xs (i + 3))
  refine l_aload_n hX dL_law_1020 rfl rfl ?_
  refine l_sck (i := i) (q := 1) hX hSX (by omega) (by omega) dL_law_1021 dL_law_1022 dL_law_1024 (by decide) dL_law_1025 dL_law_1026 rfl ?_
  refine l_sck (i := i) (q := 2) hX hSX (by omega) (by omega) dL_law_1027 dL_law_1028 dL_law_1030 (by decide) dL_law_1031 dL_law_1032 rfl ?_
  refine l_sck (i := i) (q := 3) hX hSX (by omega) (by omega) dL_law_1033 dL_law_1034 dL_law_1036 (by decide) dL_law_1037 dL_law_1038 rfl ?_
  refine l_aload_n hX dL_law_1039 rfl rfl ?_
  refine l_callSH (As := [.ref 0, .int (xs (i + 1)), .int (xs (i + 2)), .int (xs (i + 3)), .ref 61]) hX dL_law_1040 ch_L_ring ml_L_128 st_L_ring rfl rfl hw (Nat.le_of_ble_eq_true rfl) (Nat.le_of_ble_eq_true rfl) (by omega) (by omega) (Nat.le_of_ble_eq_true rfl) (fun rv h1 n1 hn1 hp => ?_)
  obtain ⟨rfl, rfl, hk4, mc, ms, P2, o', hmc, hms, ho1, ⟨fs, h40⟩, hctr, hfin⟩ := hm rv h1 n1 hp
  refine l_istore (i := 5) hX dL_law_1043 (Nat.le_of_ble_eq_true rfl) (by decide) rfl ?_
  refine l_aload_n hX dL_law_1045 rfl rfl ?_
  refine l_sck (i := i) (q := 1) hX hSX (by omega) (by omega) dL_law_1046 dL_law_1047 dL_law_1049 (by decide) dL_law_1050 dL_law_1051 rfl ?_
  refine l_sck (i := i) (q := 2) hX hSX (by omega) (by omega) dL_law_1052 dL_law_1053 dL_law_1055 (by decide) dL_law_1056 dL_law_1057 rfl ?_
  refine l_sck (i := i) (q := 3) hX hSX (by omega) (by omega) dL_law_1058 dL_law_1059 dL_law_1061 (by decide) dL_law_1062 dL_law_1063 rfl ?_
  refine l_callV (As := [.int (xs (i + 1)), .int (xs (i + 2)), .int (xs (i + 3))]) hX dL_law_1064 cb_X5_ring ml_L_130 im_X5_ring se_X5_ring rfl rfl h40 ⟨_, rfl, rfl⟩ hctr (Nat.le_of_ble_eq_true rfl) (Nat.le_of_ble_eq_true rfl) (by omega) (by omega) (Nat.le_of_ble_eq_true rfl) (fun rv2 h2 n2 hn2 hp2 => ?_)
  obtain ⟨v, rfl, hn9, hI2, hv⟩ := hfin rv2 h2 n2 hp2
  obtain ⟨rc9, mc9, tch9, frs9, len9, m9⟩ := hI2.m40
  refine l_istore (i := 6) hX dL_law_1067 (Nat.le_of_ble_eq_true rfl) (by decide) rfl ?_
  refine l_aload_n hX dL_law_1069 rfl rfl ?_
  refine l_callV (As := []) hX dL_law_1070 cb_X5_thrown ml_L_86 im_X5_thrown se_X5_thrown rfl rfl m9 ⟨_, rfl, rfl⟩ (kX5_thrown hst m9) (Nat.le_of_ble_eq_true rfl) (Nat.le_of_ble_eq_true rfl) (by omega) (by omega) (Nat.le_of_ble_eq_true rfl) (fun rv3 h3 n3 hn3 hp3 => ?_)
  obtain ⟨rfl, rfl, rfl⟩ := hp3
  refine l_iload hX dL_law_1073 rfl ?_
  refine l_icmp_eq (tgt := 1080) hX dL_law_1075 (by decide) (fun _ => ?_) (fun c => absurd rfl c)
  refine l_iload hX dL_law_1080 rfl ?_
  refine l_if_ne (tgt := 1097) hX dL_law_1082 (by decide) (fun c1 => ?_) (fun c1 => ?_)
  · refine l_goto (tgt := 1483) hX dL_law_1097 (by decide) ?_
    refine l_kill 5 ?_
    refine l_kill 6 ?_
    exact KK _ _ _ _ _ _ hI2 (by omega) (by omega)
  · have hk0 : k = 0 := (gn_eq (a := k) (b := 0) ⟨by omega, by omega⟩).mp c1
    subst hk0
    refine l_aload_n hX dL_law_1085 rfl rfl ?_
    refine l_iconst (v := nI 0) hX dL_law_1086 (by decide) ?_
    refine l_laload hX dL_law_1087 hI2.2.1 0 (by omega) rfl (by omega) ?_
    refine l_iload hX dL_law_1088 rfl ?_
    refine l_i2l hX dL_law_1090 ?_
    refine l_lcmp hX dL_law_1091 ?_
    refine l_if_eq (tgt := 1097) hX dL_law_1092 (by decide) (fun _ => ?_) (fun c => absurd (by rw [hv rfl]; exact lg_self _) c)
    refine l_goto (tgt := 1483) hX dL_law_1097 (by decide) ?_
    refine l_kill 5 ?_
    refine l_kill 6 ?_
    exact KK _ _ _ _ _ _ hI2 (by omega) (by omega)
set_option maxRecDepth 20000 in
theorem lc_would {l : Launch} {K : gw_K} {X : gw_X} {bb Ls : Nat} {xs : Nat → Int32} (hst : l.stackTraces = false) (hX : FX l K X cL_law RL 13 482 627089 7214836) (hSX : SX X bb Ls xs) {i n kc ks : Nat} {h : gw_H} {thr : Int32} {o : Nat → Int64} (hi : i + 4 ≤ Ls) (hLs : Ls ≤ 2048) (hI : INV h n thr o) (hkc : kc + 200 ≤ 627089) (hks : ks + 1600 ≤ 7214836) (KK : ∀ (h' : gw_H) (n' kc' ks' : Nat) (thr' : Int32) (o' : Nat → Int64), INV h' n' thr' o' → kc' ≤ kc + 200 → ks' ≤ ks + 1600 → GL X bb 1483 [none, some (.ref 0), some (.ref 40), some (.ref 61), some (.int (nI i)), none, none, none, none] [] h' n' kc' ks') : GL X bb 1100 [none, some (.ref 0), some (.ref 40), some (.ref 61), some (.int (nI i)), none, none, none, none] [] h n kc ks := by
  obtain ⟨k, P, hw, hm⟩ := pr_would hst hI (xs (i + 1)) (xs (i + 2)) (xs (i + 3))
  refine l_aload_n hX dL_law_1100 rfl rfl ?_
  refine l_sck (i := i) (q := 1) hX hSX (by omega) (by omega) dL_law_1101 dL_law_1102 dL_law_1104 (by decide) dL_law_1105 dL_law_1106 rfl ?_
  refine l_sck (i := i) (q := 2) hX hSX (by omega) (by omega) dL_law_1107 dL_law_1108 dL_law_1110 (by decide) dL_law_1111 dL_law_1112 rfl ?_
  refine l_sck (i := i) (q := 3) hX hSX (by omega) (by omega) dL_law_1113 dL_law_1114 dL_law_1116 (by decide) dL_law_1117 dL_law_1118 rfl ?_
  refine l_aload_n hX dL_law_1119 rfl rfl ?_
  refine l_callSH (As := [.ref 0, .int (xs (i + 1)), .int (xs (i + 2)), .int (xs (i + 3)), .ref 61]) hX dL_law_1120 ch_L_would ml_L_131 st_L_would rfl rfl hw (Nat.le_of_ble_eq_true rfl) (Nat.le_of_ble_eq_true rfl) (by omega) (by omega) (Nat.le_of_ble_eq_true rfl) (fun rv h1 n1 hn1 hp => ?_)
  obtain ⟨rfl, rfl, hk4, mc, ms, P2, o', hmc, hms, ho1, ⟨fs, h40⟩, hctr, hfin⟩ := hm rv h1 n1 hp
  refine l_istore (i := 5) hX dL_law_1123 (Nat.le_of_ble_eq_true rfl) (by decide) rfl ?_
  refine l_aload_n hX dL_law_1125 rfl rfl ?_
  refine l_sck (i := i) (q := 1) hX hSX (by omega) (by omega) dL_law_1126 dL_law_1127 dL_law_1129 (by decide) dL_law_1130 dL_law_1131 rfl ?_
  refine l_sck (i := i) (q := 2) hX hSX (by omega) (by omega) dL_law_1132 dL_law_1133 dL_law_1135 (by decide) dL_law_1136 dL_law_1137 rfl ?_
  refine l_sck (i := i) (q := 3) hX hSX (by omega) (by omega) dL_law_1138 dL_law_1139 dL_law_1141 (by decide) dL_law_1142 dL_law_1143 rfl ?_
  refine l_callV (As := [.int (xs (i + 1)), .int (xs (i + 2)), .int (xs (i + 3))]) hX dL_law_1144 cb_X5_would ml_L_133 im_X5_would se_X5_would rfl rfl h40 ⟨_, rfl, rfl⟩ hctr (Nat.le_of_ble_eq_true rfl) (Nat.le_of_ble_eq_true rfl) (by omega) (by omega) (Nat.le_of_ble_eq_true rfl) (fun rv2 h2 n2 hn2 hp2 => ?_)
  obtain ⟨v, rfl, hn9, hI2, hv⟩ := hfin rv2 h2 n2 hp2
  obtain ⟨rc9, mc9, tch9, frs9, len9, m9⟩ := hI2.m40
  refine l_istore (i := 6) hX dL_law_1147 (Nat.le_of_ble_eq_true rfl) (by decide) rfl ?_
  refine l_aload_n hX dL_law_1149 rfl rfl ?_
  refine l_callV (As := []) hX dL_law_1150 cb_X5_thrown ml_L_86 im_X5_thrown se_X5_thrown rfl rfl m9 ⟨_, rfl, rfl⟩ (kX5_thrown hst m9) (Nat.le_of_ble_eq_true rfl) (Nat.le_of_ble_eq_true rfl) (by omega) (by omega) (Nat.le_of_ble_eq_true rfl) (fun rv3 h3 n3 hn3 hp3 => ?_)
  obtain ⟨rfl, rfl, rfl⟩ := hp3
  refine l_iload hX dL_law_1153 rfl ?_
  refine l_icmp_eq (tgt := 1160) hX dL_law_1155 (by decide) (fun _ => ?_) (fun c => absurd rfl c)
  refine l_iload hX dL_law_1160 rfl ?_
  refine l_if_ne (tgt := 1177) hX dL_law_1162 (by decide) (fun c1 => ?_) (fun c1 => ?_)
  · refine l_goto (tgt := 1483) hX dL_law_1177 (by decide) ?_
    refine l_kill 5 ?_
    refine l_kill 6 ?_
    exact KK _ _ _ _ _ _ hI2 (by omega) (by omega)
  · have hk0 : k = 0 := (gn_eq (a := k) (b := 0) ⟨by omega, by omega⟩).mp c1
    subst hk0
    refine l_aload_n hX dL_law_1165 rfl rfl ?_
    refine l_iconst (v := nI 0) hX dL_law_1166 (by decide) ?_
    refine l_laload hX dL_law_1167 hI2.2.1 0 (by omega) rfl (by omega) ?_
    refine l_iload hX dL_law_1168 rfl ?_
    refine l_i2l hX dL_law_1170 ?_
    refine l_lcmp hX dL_law_1171 ?_
    refine l_if_eq (tgt := 1177) hX dL_law_1172 (by decide) (fun _ => ?_) (fun c => absurd (by rw [hv rfl]; exact lg_self _) c)
    refine l_goto (tgt := 1483) hX dL_law_1177 (by decide) ?_
    refine l_kill 5 ?_
    refine l_kill 6 ?_
    exact KK _ _ _ _ _ _ hI2 (by omega) (by omega)
set_option maxRecDepth 20000 in
theorem lc_advise {l : Launch} {K : gw_K} {X : gw_X} {bb Ls : Nat} {xs : Nat → Int32} (hst : l.stackTraces = false) (hX : FX l K X cL_law RL 13 482 627089 7214836) (hSX : SX X bb Ls xs) {i n kc ks : Nat} {h : gw_H} {thr : Int32} {o : Nat → Int64} (hi : i + 4 ≤ Ls) (hLs : Ls ≤ 2048) (hI : INV h n thr o) (hkc : kc + 200 ≤ 627089) (hks : ks + 1600 ≤ 7214836) (KK : ∀ (h' : gw_H) (n' kc' ks' : Nat) (thr' : Int32) (o' : Nat → Int64), INV h' n' thr' o' → kc' ≤ kc + 200 → ks' ≤ ks + 1600 → GL X bb 1483 [none, some (.ref 0), some (.ref 40), some (.ref 61), some (.int (nI i)), none, none, none, none] [] h' n' kc' ks') : GL X bb 1180 [none, some (.ref 0), some (.ref 40), some (.ref 61), some (.int (nI i)), none, none, none, none] [] h n kc ks := by
  obtain ⟨k, P, hw, hm⟩ := pr_advise hst hI (xs (i + 1))
  refine l_aload_n hX dL_law_1180 rfl rfl ?_
  refine l_sck (i := i) (q := 1) hX hSX (by omega) (by omega) dL_law_1181 dL_law_1182 dL_law_1184 (by decide) dL_law_1185 dL_law_1186 rfl ?_
  refine l_aload_n hX dL_law_1187 rfl rfl ?_
  refine l_callSH (As := [.ref 0, .int (xs (i + 1)), .ref 61]) hX dL_law_1188 ch_L_advise ml_L_134 st_L_advise rfl rfl hw (Nat.le_of_ble_eq_true rfl) (Nat.le_of_ble_eq_true rfl) (by omega) (by omega) (Nat.le_of_ble_eq_true rfl) (fun rv h1 n1 hn1 hp => ?_)
  obtain ⟨rfl, rfl, hk4, mc, ms, P2, o', hmc, hms, ho1, ⟨fs, h40⟩, hctr, hfin⟩ := hm rv h1 n1 hp
  refine l_istore (i := 5) hX dL_law_1191 (Nat.le_of_ble_eq_true rfl) (by decide) rfl ?_
  refine l_aload_n hX dL_law_1193 rfl rfl ?_
  refine l_sck (i := i) (q := 1) hX hSX (by omega) (by omega) dL_law_1194 dL_law_1195 dL_law_1197 (by decide) dL_law_1198 dL_law_1199 rfl ?_
  refine l_callV (As := [.int (xs (i + 1))]) hX dL_law_1200 cb_X5_advise ml_L_136 im_X5_advise se_X5_advise rfl rfl h40 ⟨_, rfl, rfl⟩ hctr (Nat.le_of_ble_eq_true rfl) (Nat.le_of_ble_eq_true rfl) (by omega) (by omega) (Nat.le_of_ble_eq_true rfl) (fun rv2 h2 n2 hn2 hp2 => ?_)
  obtain ⟨v, rfl, hn9, hI2, hv⟩ := hfin rv2 h2 n2 hp2
  obtain ⟨rc9, mc9, tch9, frs9, len9, m9⟩ := hI2.m40
  refine l_istore (i := 6) hX dL_law_1203 (Nat.le_of_ble_eq_true rfl) (by decide) rfl ?_
  refine l_aload_n hX dL_law_1205 rfl rfl ?_
  refine l_callV (As := []) hX dL_law_1206 cb_X5_thrown ml_L_86 im_X5_thrown se_X5_thrown rfl rfl m9 ⟨_, rfl, rfl⟩ (kX5_thrown hst m9) (Nat.le_of_ble_eq_true rfl) (Nat.le_of_ble_eq_true rfl) (by omega) (by omega) (Nat.le_of_ble_eq_true rfl) (fun rv3 h3 n3 hn3 hp3 => ?_)
  obtain ⟨rfl, rfl, rfl⟩ := hp3
  refine l_iload hX dL_law_1209 rfl ?_
  refine l_icmp_eq (tgt := 1216) hX dL_law_1211 (by decide) (fun _ => ?_) (fun c => absurd rfl c)
  refine l_iload hX dL_law_1216 rfl ?_
  refine l_if_ne (tgt := 1233) hX dL_law_1218 (by decide) (fun c1 => ?_) (fun c1 => ?_)
  · refine l_goto (tgt := 1483) hX dL_law_1233 (by decide) ?_
    refine l_kill 5 ?_
    refine l_kill 6 ?_
    exact KK _ _ _ _ _ _ hI2 (by omega) (by omega)
  · have hk0 : k = 0 := (gn_eq (a := k) (b := 0) ⟨by omega, by omega⟩).mp c1
    subst hk0
    refine l_aload_n hX dL_law_1221 rfl rfl ?_
    refine l_iconst (v := nI 0) hX dL_law_1222 (by decide) ?_
    refine l_laload hX dL_law_1223 hI2.2.1 0 (by omega) rfl (by omega) ?_
    refine l_iload hX dL_law_1224 rfl ?_
    refine l_i2l hX dL_law_1226 ?_
    refine l_lcmp hX dL_law_1227 ?_
    refine l_if_eq (tgt := 1233) hX dL_law_1228 (by decide) (fun _ => ?_) (fun c => absurd (by rw [hv rfl]; exact lg_self _) c)
    refine l_goto (tgt := 1483) hX dL_law_1233 (by decide) ?_
    refine l_kill 5 ?_
    refine l_kill 6 ?_
    exact KK _ _ _ _ _ _ hI2 (by omega) (by omega)
set_option maxRecDepth 20000 in
theorem lc_count {l : Launch} {K : gw_K} {X : gw_X} {bb Ls : Nat} {xs : Nat → Int32} (hst : l.stackTraces = false) (hX : FX l K X cL_law RL 13 482 627089 7214836) (hSX : SX X bb Ls xs) {i n kc ks : Nat} {h : gw_H} {thr : Int32} {o : Nat → Int64} (hi : i + 4 ≤ Ls) (hLs : Ls ≤ 2048) (hI : INV h n thr o) (hkc : kc + 200 ≤ 627089) (hks : ks + 1600 ≤ 7214836) (KK : ∀ (h' : gw_H) (n' kc' ks' : Nat) (thr' : Int32) (o' : Nat → Int64), INV h' n' thr' o' → kc' ≤ kc + 200 → ks' ≤ ks + 1600 → GL X bb 1483 [none, some (.ref 0), some (.ref 40), some (.ref 61), some (.int (nI i)), none, none, none, none] [] h' n' kc' ks') : GL X bb 1236 [none, some (.ref 0), some (.ref 40), some (.ref 61), some (.int (nI i)), none, none, none, none] [] h n kc ks := by
  obtain ⟨k, P, hw, hm⟩ := pr_count hst hI (xs (i + 1))
  refine l_aload_n hX dL_law_1236 rfl rfl ?_
  refine l_sck (i := i) (q := 1) hX hSX (by omega) (by omega) dL_law_1237 dL_law_1238 dL_law_1240 (by decide) dL_law_1241 dL_law_1242 rfl ?_
  refine l_aload_n hX dL_law_1243 rfl rfl ?_
  refine l_callSH (As := [.ref 0, .int (xs (i + 1)), .ref 61]) hX dL_law_1244 ch_L_count ml_L_137 st_L_count rfl rfl hw (Nat.le_of_ble_eq_true rfl) (Nat.le_of_ble_eq_true rfl) (by omega) (by omega) (Nat.le_of_ble_eq_true rfl) (fun rv h1 n1 hn1 hp => ?_)
  obtain ⟨rfl, rfl, hk4, mc, ms, P2, o', hmc, hms, ho1, ⟨fs, h40⟩, hctr, hfin⟩ := hm rv h1 n1 hp
  refine l_istore (i := 5) hX dL_law_1247 (Nat.le_of_ble_eq_true rfl) (by decide) rfl ?_
  refine l_aload_n hX dL_law_1249 rfl rfl ?_
  refine l_sck (i := i) (q := 1) hX hSX (by omega) (by omega) dL_law_1250 dL_law_1251 dL_law_1253 (by decide) dL_law_1254 dL_law_1255 rfl ?_
  refine l_callV (As := [.int (xs (i + 1))]) hX dL_law_1256 cb_X5_count ml_L_139 im_X5_count se_X5_count rfl rfl h40 ⟨_, rfl, rfl⟩ hctr (Nat.le_of_ble_eq_true rfl) (Nat.le_of_ble_eq_true rfl) (by omega) (by omega) (Nat.le_of_ble_eq_true rfl) (fun rv2 h2 n2 hn2 hp2 => ?_)
  obtain ⟨v, rfl, hn9, hI2, hv⟩ := hfin rv2 h2 n2 hp2
  obtain ⟨rc9, mc9, tch9, frs9, len9, m9⟩ := hI2.m40
  refine l_istore (i := 6) hX dL_law_1259 (Nat.le_of_ble_eq_true rfl) (by decide) rfl ?_
  refine l_aload_n hX dL_law_1261 rfl rfl ?_
  refine l_callV (As := []) hX dL_law_1262 cb_X5_thrown ml_L_86 im_X5_thrown se_X5_thrown rfl rfl m9 ⟨_, rfl, rfl⟩ (kX5_thrown hst m9) (Nat.le_of_ble_eq_true rfl) (Nat.le_of_ble_eq_true rfl) (by omega) (by omega) (Nat.le_of_ble_eq_true rfl) (fun rv3 h3 n3 hn3 hp3 => ?_)
  obtain ⟨rfl, rfl, rfl⟩ := hp3
  refine l_iload hX dL_law_1265 rfl ?_
  refine l_icmp_eq (tgt := 1272) hX dL_law_1267 (by decide) (fun _ => ?_) (fun c => absurd rfl c)
  refine l_iload hX dL_law_1272 rfl ?_
  refine l_if_ne (tgt := 1289) hX dL_law_1274 (by decide) (fun c1 => ?_) (fun c1 => ?_)
  · refine l_goto (tgt := 1483) hX dL_law_1289 (by decide) ?_
    refine l_kill 5 ?_
    refine l_kill 6 ?_
    exact KK _ _ _ _ _ _ hI2 (by omega) (by omega)
  · have hk0 : k = 0 := (gn_eq (a := k) (b := 0) ⟨by omega, by omega⟩).mp c1
    subst hk0
    refine l_aload_n hX dL_law_1277 rfl rfl ?_
    refine l_iconst (v := nI 0) hX dL_law_1278 (by decide) ?_
    refine l_laload hX dL_law_1279 hI2.2.1 0 (by omega) rfl (by omega) ?_
    refine l_iload hX dL_law_1280 rfl ?_
    refine l_i2l hX dL_law_1282 ?_
    refine l_lcmp hX dL_law_1283 ?_
    refine l_if_eq (tgt := 1289) hX dL_law_1284 (by decide) (fun _ => ?_) (fun c => absurd (by rw [hv rfl]; exact lg_self _) c)
    refine l_goto (tgt := 1483) hX dL_law_1289 (by decide) ?_
    refine l_kill 5 ?_
    refine l_kill 6 ?_
    exact KK _ _ _ _ _ _ hI2 (by omega) (by omega)
set_option maxRecDepth 20000 in
theorem lc_pass {l : Launch} {K : gw_K} {X : gw_X} {bb Ls : Nat} {xs : Nat → Int32} (hst : l.stackTraces = false) (hX : FX l K X cL_law RL 13 482 627089 7214836) (hSX : SX X bb Ls xs) {i n kc ks : Nat} {h : gw_H} {thr : Int32} {o : Nat → Int64} (hi : i + 4 ≤ Ls) (hLs : Ls ≤ 2048) (hI : INV h n thr o) (hkc : kc + 200 ≤ 627089) (hks : ks + 1600 ≤ 7214836) (KK : ∀ (h' : gw_H) (n' kc' ks' : Nat) (thr' : Int32) (o' : Nat → Int64), INV h' n' thr' o' → kc' ≤ kc + 200 → ks' ≤ ks + 1600 → GL X bb 1483 [none, some (.ref 0), some (.ref 40), some (.ref 61), some (.int (nI i)), none, none, none, none] [] h' n' kc' ks') : GL X bb 1292 [none, some (.ref 0), some (.ref 40), some (.ref 61), some (.int (nI i)), none, none, none, none] [] h n kc ks := by
  obtain ⟨k, P, hw, hm⟩ := pr_pass hst hI (xs (i + 1))
  refine l_aload_n hX dL_law_1292 rfl rfl ?_
  refine l_sck (i := i) (q := 1) hX hSX (by omega) (by omega) dL_law_1293 dL_law_1294 dL_law_1296 (by decide) dL_law_1297 dL_law_1298 rfl ?_
  refine l_aload_n hX dL_law_1299 rfl rfl ?_
  refine l_callSH (As := [.ref 0, .int (xs (i + 1)), .ref 61]) hX dL_law_1300 ch_L_pass ml_L_140 st_L_pass rfl rfl hw (Nat.le_of_ble_eq_true rfl) (Nat.le_of_ble_eq_true rfl) (by omega) (by omega) (Nat.le_of_ble_eq_true rfl) (fun rv h1 n1 hn1 hp => ?_)
  obtain ⟨rfl, rfl, hk4, mc, ms, P2, o', hmc, hms, ho1, ⟨fs, h40⟩, hctr, hfin⟩ := hm rv h1 n1 hp
  refine l_istore (i := 5) hX dL_law_1303 (Nat.le_of_ble_eq_true rfl) (by decide) rfl ?_
  refine l_aload_n hX dL_law_1305 rfl rfl ?_
  refine l_sck (i := i) (q := 1) hX hSX (by omega) (by omega) dL_law_1306 dL_law_1307 dL_law_1309 (by decide) dL_law_1310 dL_law_1311 rfl ?_
  refine l_callV (As := [.int (xs (i + 1))]) hX dL_law_1312 cb_X5_pass ml_L_142 im_X5_pass se_X5_pass rfl rfl h40 ⟨_, rfl, rfl⟩ hctr (Nat.le_of_ble_eq_true rfl) (Nat.le_of_ble_eq_true rfl) (by omega) (by omega) (Nat.le_of_ble_eq_true rfl) (fun rv2 h2 n2 hn2 hp2 => ?_)
  obtain ⟨v, rfl, hn9, hI2, hv⟩ := hfin rv2 h2 n2 hp2
  obtain ⟨rc9, mc9, tch9, frs9, len9, m9⟩ := hI2.m40
  refine l_istore (i := 6) hX dL_law_1315 (Nat.le_of_ble_eq_true rfl) (by decide) rfl ?_
  refine l_aload_n hX dL_law_1317 rfl rfl ?_
  refine l_callV (As := []) hX dL_law_1318 cb_X5_thrown ml_L_86 im_X5_thrown se_X5_thrown rfl rfl m9 ⟨_, rfl, rfl⟩ (kX5_thrown hst m9) (Nat.le_of_ble_eq_true rfl) (Nat.le_of_ble_eq_true rfl) (by omega) (by omega) (Nat.le_of_ble_eq_true rfl) (fun rv3 h3 n3 hn3 hp3 => ?_)
  obtain ⟨rfl, rfl, rfl⟩ := hp3
  refine l_iload hX dL_law_1321 rfl ?_
  refine l_icmp_eq (tgt := 1328) hX dL_law_1323 (by decide) (fun _ => ?_) (fun c => absurd rfl c)
  refine l_iload hX dL_law_1328 rfl ?_
  refine l_if_ne (tgt := 1345) hX dL_law_1330 (by decide) (fun c1 => ?_) (fun c1 => ?_)
  · refine l_goto (tgt := 1483) hX dL_law_1345 (by decide) ?_
    refine l_kill 5 ?_
    refine l_kill 6 ?_
    exact KK _ _ _ _ _ _ hI2 (by omega) (by omega)
  · have hk0 : k = 0 := (gn_eq (a := k) (b := 0) ⟨by omega, by omega⟩).mp c1
    subst hk0
    refine l_aload_n hX dL_law_1333 rfl rfl ?_
    refine l_iconst (v := nI 0) hX dL_law_1334 (by decide) ?_
    refine l_laload hX dL_law_1335 hI2.2.1 0 (by omega) rfl (by omega) ?_
    refine l_iload hX dL_law_1336 rfl ?_
    refine l_i2l hX dL_law_1338 ?_
    refine l_lcmp hX dL_law_1339 ?_
    refine l_if_eq (tgt := 1345) hX dL_law_1340 (by decide) (fun _ => ?_) (fun c => absurd (by rw [hv rfl]; exact lg_self _) c)
    refine l_goto (tgt := 1483) hX dL_law_1345 (by decide) ?_
    refine l_kill 5 ?_
    refine l_kill 6 ?_
    exact KK _ _ _ _ _ _ hI2 (by omega) (by omega)
set_option maxRecDepth 20000 in
theorem lc_foresee {l : Launch} {K : gw_K} {X : gw_X} {bb Ls : Nat} {xs : Nat → Int32} (hst : l.stackTraces = false) (hX : FX l K X cL_law RL 13 482 627089 7214836) (hSX : SX X bb Ls xs) {i n kc ks : Nat} {h : gw_H} {thr : Int32} {o : Nat → Int64} (hi : i + 4 ≤ Ls) (hLs : Ls ≤ 2048) (hI : INV h n thr o) (hkc : kc + 200 ≤ 627089) (hks : ks + 1600 ≤ 7214836) (KK : ∀ (h' : gw_H) (n' kc' ks' : Nat) (thr' : Int32) (o' : Nat → Int64), INV h' n' thr' o' → kc' ≤ kc + 200 → ks' ≤ ks + 1600 → GL X bb 1483 [none, some (.ref 0), some (.ref 40), some (.ref 61), some (.int (nI i)), none, none, none, none] [] h' n' kc' ks') : GL X bb 1348 [none, some (.ref 0), some (.ref 40), some (.ref 61), some (.int (nI i)), none, none, none, none] [] h n kc ks := by
  obtain ⟨k, P, hw, hm⟩ := pr_foresee hst hI (xs (i + 1)) (xs (i + 2)) (xs (i + 3))
  refine l_aload_n hX dL_law_1348 rfl rfl ?_
  refine l_sck (i := i) (q := 1) hX hSX (by omega) (by omega) dL_law_1349 dL_law_1350 dL_law_1352 (by decide) dL_law_1353 dL_law_1354 rfl ?_
  refine l_sck (i := i) (q := 2) hX hSX (by omega) (by omega) dL_law_1355 dL_law_1356 dL_law_1358 (by decide) dL_law_1359 dL_law_1360 rfl ?_
  refine l_sck (i := i) (q := 3) hX hSX (by omega) (by omega) dL_law_1361 dL_law_1362 dL_law_1364 (by decide) dL_law_1365 dL_law_1366 rfl ?_
  refine l_aload_n hX dL_law_1367 rfl rfl ?_
  refine l_callSH (As := [.ref 0, .int (xs (i + 1)), .int (xs (i + 2)), .int (xs (i + 3)), .ref 61]) hX dL_law_1368 ch_L_foresee ml_L_143 st_L_foresee rfl rfl hw (Nat.le_of_ble_eq_true rfl) (Nat.le_of_ble_eq_true rfl) (by omega) (by omega) (Nat.le_of_ble_eq_true rfl) (fun rv h1 n1 hn1 hp => ?_)
  obtain ⟨rfl, rfl, hk4, mc, ms, P2, o', hmc, hms, ho1, ⟨fs, h40⟩, hctr, hfin⟩ := hm rv h1 n1 hp
  refine l_istore (i := 5) hX dL_law_1371 (Nat.le_of_ble_eq_true rfl) (by decide) rfl ?_
  refine l_aload_n hX dL_law_1373 rfl rfl ?_
  refine l_sck (i := i) (q := 1) hX hSX (by omega) (by omega) dL_law_1374 dL_law_1375 dL_law_1377 (by decide) dL_law_1378 dL_law_1379 rfl ?_
  refine l_sck (i := i) (q := 2) hX hSX (by omega) (by omega) dL_law_1380 dL_law_1381 dL_law_1383 (by decide) dL_law_1384 dL_law_1385 rfl ?_
  refine l_sck (i := i) (q := 3) hX hSX (by omega) (by omega) dL_law_1386 dL_law_1387 dL_law_1389 (by decide) dL_law_1390 dL_law_1391 rfl ?_
  refine l_callV (As := [.int (xs (i + 1)), .int (xs (i + 2)), .int (xs (i + 3))]) hX dL_law_1392 cb_X5_foresee ml_L_145 im_X5_foresee se_X5_foresee rfl rfl h40 ⟨_, rfl, rfl⟩ hctr (Nat.le_of_ble_eq_true rfl) (Nat.le_of_ble_eq_true rfl) (by omega) (by omega) (Nat.le_of_ble_eq_true rfl) (fun rv2 h2 n2 hn2 hp2 => ?_)
  obtain ⟨v, rfl, hn9, hI2, hv⟩ := hfin rv2 h2 n2 hp2
  obtain ⟨rc9, mc9, tch9, frs9, len9, m9⟩ := hI2.m40
  refine l_istore (i := 6) hX dL_law_1395 (Nat.le_of_ble_eq_true rfl) (by decide) rfl ?_
  refine l_aload_n hX dL_law_1397 rfl rfl ?_
  refine l_callV (As := []) hX dL_law_1398 cb_X5_thrown ml_L_86 im_X5_thrown se_X5_thrown rfl rfl m9 ⟨_, rfl, rfl⟩ (kX5_thrown hst m9) (Nat.le_of_ble_eq_true rfl) (Nat.le_of_ble_eq_true rfl) (by omega) (by omega) (Nat.le_of_ble_eq_true rfl) (fun rv3 h3 n3 hn3 hp3 => ?_)
  obtain ⟨rfl, rfl, rfl⟩ := hp3
  refine l_iload hX dL_law_1401 rfl ?_
  refine l_icmp_eq (tgt := 1408) hX dL_law_1403 (by decide) (fun _ => ?_) (fun c => absurd rfl c)
  refine l_iload hX dL_law_1408 rfl ?_
  refine l_if_ne (tgt := 1425) hX dL_law_1410 (by decide) (fun c1 => ?_) (fun c1 => ?_)
  · refine l_goto (tgt := 1483) hX dL_law_1425 (by decide) ?_
    refine l_kill 5 ?_
    refine l_kill 6 ?_
    exact KK _ _ _ _ _ _ hI2 (by omega) (by omega)
  · have hk0 : k = 0 := (gn_eq (a := k) (b := 0) ⟨by omega, by omega⟩).mp c1
    subst hk0
    refine l_aload_n hX dL_law_1413 rfl rfl ?_
    refine l_iconst (v := nI 0) hX dL_law_1414 (by decide) ?_
    refine l_laload hX dL_law_1415 hI2.2.1 0 (by omega) rfl (by omega) ?_
    refine l_iload hX dL_law_1416 rfl ?_
    refine l_i2l hX dL_law_1418 ?_
    refine l_lcmp hX dL_law_1419 ?_
    refine l_if_eq (tgt := 1425) hX dL_law_1420 (by decide) (fun _ => ?_) (fun c => absurd (by rw [hv rfl]; exact lg_self _) c)
    refine l_goto (tgt := 1483) hX dL_law_1425 (by decide) ?_
    refine l_kill 5 ?_
    refine l_kill 6 ?_
    exact KK _ _ _ _ _ _ hI2 (by omega) (by omega)
set_option maxRecDepth 20000 in
theorem lc_mean {l : Launch} {K : gw_K} {X : gw_X} {bb Ls : Nat} {xs : Nat → Int32} (hst : l.stackTraces = false) (hX : FX l K X cL_law RL 13 482 627089 7214836) (hSX : SX X bb Ls xs) {i n kc ks : Nat} {h : gw_H} {thr : Int32} {o : Nat → Int64} (hi : i + 4 ≤ Ls) (hLs : Ls ≤ 2048) (hI : INV h n thr o) (hkc : kc + 200 ≤ 627089) (hks : ks + 1600 ≤ 7214836) (KK : ∀ (h' : gw_H) (n' kc' ks' : Nat) (thr' : Int32) (o' : Nat → Int64), INV h' n' thr' o' → kc' ≤ kc + 200 → ks' ≤ ks + 1600 → GL X bb 1483 [none, some (.ref 0), some (.ref 40), some (.ref 61), some (.int (nI i)), none, none, none, none] [] h' n' kc' ks') : GL X bb 1428 [none, some (.ref 0), some (.ref 40), some (.ref 61), some (.int (nI i)), none, none, none, none] [] h n kc ks := by
  obtain ⟨w, fs, h0, P, hc, hm⟩ := pr_mean hst hI
  refine l_aload_n hX dL_law_1428 rfl rfl ?_
  refine l_callV (As := []) hX dL_law_1429 cb_X3_mean ml_L_146 im_X3_mean se_X3_mean rfl rfl h0 ⟨_, rfl, rfl⟩ hc (Nat.le_of_ble_eq_true rfl) (Nat.le_of_ble_eq_true rfl) (by omega) (by omega) (Nat.le_of_ble_eq_true rfl) (fun rv1 h1 n1 hn1 hp1 => ?_)
  obtain ⟨rfl, rfl, fs2, h40, P2, hc2, hf⟩ := hm _ _ _ hp1
  refine l_dstore (i := 5) hX dL_law_1432 (Nat.le_of_ble_eq_true rfl) (by decide) rfl ?_
  refine l_aload_n hX dL_law_1434 rfl rfl ?_
  refine l_callV (As := []) hX dL_law_1435 cb_X5_mean ml_L_150 im_X5_mean se_X5_mean rfl rfl h40 ⟨_, rfl, rfl⟩ hc2 (Nat.le_of_ble_eq_true rfl) (Nat.le_of_ble_eq_true rfl) (by omega) (by omega) (Nat.le_of_ble_eq_true rfl) (fun rv2 h2 n2 hn2 hp2 => ?_)
  obtain ⟨rfl, rfl, hI2⟩ := hf _ _ _ hp2
  refine l_dstore (i := 7) hX dL_law_1438 (Nat.le_of_ble_eq_true rfl) (by decide) rfl ?_
  refine l_dload hX dL_law_1440 rfl ?_
  refine l_dload hX dL_law_1442 rfl ?_
  refine l_dcmp hX dL_law_1444 ?_
  refine l_if_eq (tgt := 1466) hX dL_law_1445 (by decide) (fun _ => ?_) (fun c1 => ?_)
  · refine l_goto (tgt := 1483) hX dL_law_1466 (by decide) ?_
    refine l_kill 5 ?_
    refine l_kill 7 ?_
    exact KK _ _ _ _ _ _ hI2 (by omega) (by omega)
  · refine l_dload hX dL_law_1448 rfl ?_
    refine l_dload hX dL_law_1450 rfl ?_
    refine l_dcmp hX dL_law_1452 ?_
    refine l_if_eq (tgt := 1464) hX dL_law_1453 (by decide) (fun c2 => absurd c2 c1) (fun _ => ?_)
    refine l_dload hX dL_law_1456 rfl ?_
    refine l_dload hX dL_law_1458 rfl ?_
    refine l_dcmp hX dL_law_1460 ?_
    refine l_if_ne (tgt := 1466) hX dL_law_1461 (by decide) (fun _ => ?_) (fun c2 => absurd c2 c1)
    refine l_goto (tgt := 1483) hX dL_law_1466 (by decide) ?_
    refine l_kill 5 ?_
    refine l_kill 7 ?_
    exact KK _ _ _ _ _ _ hI2 (by omega) (by omega)
set_option maxRecDepth 20000 in
theorem lc_digest {l : Launch} {K : gw_K} {X : gw_X} {bb Ls : Nat} {xs : Nat → Int32} (hst : l.stackTraces = false) (hX : FX l K X cL_law RL 13 482 627089 7214836) (hSX : SX X bb Ls xs) {i n kc ks : Nat} {h : gw_H} {thr : Int32} {o : Nat → Int64} (hi : i + 4 ≤ Ls) (hLs : Ls ≤ 2048) (hI : INV h n thr o) (hkc : kc + 200 ≤ 627089) (hks : ks + 1600 ≤ 7214836) (KK : ∀ (h' : gw_H) (n' kc' ks' : Nat) (thr' : Int32) (o' : Nat → Int64), INV h' n' thr' o' → kc' ≤ kc + 200 → ks' ≤ ks + 1600 → GL X bb 1483 [none, some (.ref 0), some (.ref 40), some (.ref 61), some (.int (nI i)), none, none, none, none] [] h' n' kc' ks') : GL X bb 1469 [none, some (.ref 0), some (.ref 40), some (.ref 61), some (.int (nI i)), none, none, none, none] [] h n kc ks := by
  obtain ⟨w, fs, h0, P, hc, hm⟩ := pr_digest hst hI
  refine l_aload_n hX dL_law_1469 rfl rfl ?_
  refine l_callV (As := []) hX dL_law_1470 cb_X3_digest ml_L_151 im_X3_digest se_X3_digest rfl rfl h0 ⟨_, rfl, rfl⟩ hc (Nat.le_of_ble_eq_true rfl) (Nat.le_of_ble_eq_true rfl) (by omega) (by omega) (Nat.le_of_ble_eq_true rfl) (fun rv1 h1 n1 hn1 hp1 => ?_)
  obtain ⟨rfl, rfl, fs2, h40, mc, ms, P2, hmc, hms, hc2, hf⟩ := hm _ _ _ hp1
  refine l_aload_n hX dL_law_1473 rfl rfl ?_
  refine l_callV (As := []) hX dL_law_1474 cb_X5_digest ml_L_155 im_X5_digest se_X5_digest rfl rfl h40 ⟨_, rfl, rfl⟩ hc2 (Nat.le_of_ble_eq_true rfl) (Nat.le_of_ble_eq_true rfl) (by omega) (by omega) (Nat.le_of_ble_eq_true rfl) (fun rv2 h2 n2 hn2 hp2 => ?_)
  obtain ⟨rfl, hn9, hI2⟩ := hf _ _ _ hp2
  refine l_lcmp hX dL_law_1477 ?_
  refine l_if_eq (tgt := 1483) hX dL_law_1478 (by decide) (fun _ => ?_) (fun c => absurd (lg_self _) c)
  exact KK _ _ _ _ _ _ hI2 (by omega) (by omega)
