/-! THE LAW'S CASES (WRITTEN BY genlaw.py) -/
section ElCases
variable {G : evG} {S : evS} {n : Nat}
theorem el_room {d ml : Nat} (h : d + 1 ≤ 11 ∧ 8 + (ml + 11) + 40 * d ≤ 446) : d + 1 ≤ (F_L G).1.frames ∧ 8 + (ml + 11) + 40 * d ≤ (F_L G).1.locals := h
theorem el_fit : (F_L G).2.1 ≤ (F_L G).1.cells ∧ (F_L G).2.2.1 ≤ (F_L G).1.slots := (show 206 ≤ 600000 ∧ 3363 ≤ 7302250 by decide)
theorem el_cat {r : Int32} : (List.map (fun v => v.category) [Value.int r]).sum ≤ 8 := by simp [Value.category]
theorem lc_type (hCl : evCl G) (hV0 : (0, 0) ∈ evKs G) (hV1 : (30, 0) ∈ evKs G) (hn : n + 5 ≤ evL G) (hL : evL G ≤ 2560) {A : Ab} (hC : RepC A S) (hM : RepM A S) (w : WfA A) (k : ∀ (A' : Ab) (S' : evS), RepC A' S' → RepM A' S' → WfA A' → evAt G M_L (F_L G) 870 (lvL G n) [] S') : evAt G M_L (F_L G) 152 (lvL G n) [] S := by
  refine ea_aload_n dL_law_152 rfl 2 rfl rfl ?_
  refine el_arg (k := 1) (by decide) (by decide) dL_law_153 dL_law_154 dL_law_155 dL_law_156 dL_law_157 hn hL rfl ?_
  refine ea_cvi (d := 1) (As := [.int (evxs G (n + 1))]) (st := []) (n := 1) mv_X5_type (ev_in (by decide +kernel) rfl) kok_0 hV0 rfl rfl dL_law_158 rfl (by decide) (el_room (by decide)) el_fit (x_type (d := 0) hCl hV0 hC w) rfl (fun r S1 hq => ?_)
  refine ea_aload_n dL_law_161 rfl 1 rfl rfl ?_
  refine el_arg (k := 1) (by decide) (by decide) dL_law_162 dL_law_163 dL_law_164 dL_law_165 dL_law_166 hn hL rfl ?_
  refine ea_cvi (d := 1) (As := [.int (evxs G (n + 1))]) (st := [.int r]) (n := 1) mv_X6_type (ev_in (by decide +kernel) rfl) kok_30 hV1 rfl rfl dL_law_167 rfl el_cat (el_room (by decide)) el_fit (y_type (d := 0) hCl hV1 (hM.fr hq.2.2) w) rfl (fun r2 S2 hq2 => ?_)
  exact ea_icmp_eq dL_law_170 (tgt := 870) rfl rfl (fun _ => k _ S2 (hq.2.1.fr hq2.2.2) hq2.2.1 (w_type w _)) (fun hne => absurd (hq.1.trans hq2.1.symm) hne)
theorem lc_clear (hCl : evCl G) (hV0 : (0, 0) ∈ evKs G) (hV1 : (30, 0) ∈ evKs G) (hn : n + 5 ≤ evL G) (hL : evL G ≤ 2560) {A : Ab} (hC : RepC A S) (hM : RepM A S) (w : WfA A) (k : ∀ (A' : Ab) (S' : evS), RepC A' S' → RepM A' S' → WfA A' → evAt G M_L (F_L G) 870 (lvL G n) [] S') : evAt G M_L (F_L G) 175 (lvL G n) [] S := by
  refine ea_aload_n dL_law_175 rfl 2 rfl rfl ?_
  refine ea_cvi (d := 1) (As := []) (st := []) (n := 0) mv_X5_clear (ev_in (by decide +kernel) rfl) kok_0 hV0 rfl rfl dL_law_176 rfl (by decide) (el_room (by decide)) el_fit (x_clear (d := 0) hCl hV0 hC w) rfl (fun r S1 hq => ?_)
  refine ea_aload_n dL_law_179 rfl 1 rfl rfl ?_
  refine ea_cvi (d := 1) (As := []) (st := [.int r]) (n := 0) mv_X6_clear (ev_in (by decide +kernel) rfl) kok_30 hV1 rfl rfl dL_law_180 rfl el_cat (el_room (by decide)) el_fit (y_clear (d := 0) hCl hV1 (hM.fr hq.2.2) w) rfl (fun r2 S2 hq2 => ?_)
  exact ea_icmp_eq dL_law_183 (tgt := 870) rfl rfl (fun _ => k _ S2 (hq.2.1.fr hq2.2.2) hq2.2.1 (w_clear w)) (fun hne => absurd (hq.1.trans hq2.1.symm) hne)
theorem lc_tells (hCl : evCl G) (hV0 : (0, 0) ∈ evKs G) (hV1 : (30, 0) ∈ evKs G) (hn : n + 5 ≤ evL G) (hL : evL G ≤ 2560) {A : Ab} (hC : RepC A S) (hM : RepM A S) (w : WfA A) (k : ∀ (A' : Ab) (S' : evS), RepC A' S' → RepM A' S' → WfA A' → evAt G M_L (F_L G) 870 (lvL G n) [] S') : evAt G M_L (F_L G) 188 (lvL G n) [] S := by
  refine ea_aload_n dL_law_188 rfl 2 rfl rfl ?_
  refine el_arg (k := 1) (by decide) (by decide) dL_law_189 dL_law_190 dL_law_191 dL_law_192 dL_law_193 hn hL rfl ?_
  refine ea_cvi (d := 5) (As := [.int (evxs G (n + 1))]) (st := []) (n := 1) mv_X5_tells (ev_in (by decide +kernel) rfl) kok_0 hV0 rfl rfl dL_law_194 rfl (by decide) (el_room (by decide)) el_fit (x_tells (d := 0) hCl hV0 hC w) rfl (fun r S1 hq => ?_)
  refine ea_aload_n dL_law_197 rfl 1 rfl rfl ?_
  refine el_arg (k := 1) (by decide) (by decide) dL_law_198 dL_law_199 dL_law_200 dL_law_201 dL_law_202 hn hL rfl ?_
  refine ea_cvi (d := 5) (As := [.int (evxs G (n + 1))]) (st := [.int r]) (n := 1) mv_X6_tells (ev_in (by decide +kernel) rfl) kok_30 hV1 rfl rfl dL_law_203 rfl el_cat (el_room (by decide)) el_fit (y_tells (d := 0) hCl hV1 (hM.fr hq.2.2) w) rfl (fun r2 S2 hq2 => ?_)
  exact ea_icmp_eq dL_law_206 (tgt := 870) rfl rfl (fun _ => k _ S2 (hq.2.1.fr hq2.2.2) hq2.2.1 (w_tells w _)) (fun hne => absurd (hq.1.trans hq2.1.symm) hne)
theorem lc_sails (hCl : evCl G) (hV0 : (0, 0) ∈ evKs G) (hV1 : (30, 0) ∈ evKs G) (hn : n + 5 ≤ evL G) (hL : evL G ≤ 2560) {A : Ab} (hC : RepC A S) (hM : RepM A S) (w : WfA A) (k : ∀ (A' : Ab) (S' : evS), RepC A' S' → RepM A' S' → WfA A' → evAt G M_L (F_L G) 870 (lvL G n) [] S') : evAt G M_L (F_L G) 211 (lvL G n) [] S := by
  refine ea_aload_n dL_law_211 rfl 2 rfl rfl ?_
  refine el_arg (k := 1) (by decide) (by decide) dL_law_212 dL_law_213 dL_law_214 dL_law_215 dL_law_216 hn hL rfl ?_
  refine ea_cvi (d := 6) (As := [.int (evxs G (n + 1))]) (st := []) (n := 1) mv_X5_sails (ev_in (by decide +kernel) rfl) kok_0 hV0 rfl rfl dL_law_217 rfl (by decide) (el_room (by decide)) el_fit (x_sails (d := 0) hCl hV0 hC w) rfl (fun r S1 hq => ?_)
  refine ea_aload_n dL_law_220 rfl 1 rfl rfl ?_
  refine el_arg (k := 1) (by decide) (by decide) dL_law_221 dL_law_222 dL_law_223 dL_law_224 dL_law_225 hn hL rfl ?_
  refine ea_cvi (d := 6) (As := [.int (evxs G (n + 1))]) (st := [.int r]) (n := 1) mv_X6_sails (ev_in (by decide +kernel) rfl) kok_30 hV1 rfl rfl dL_law_226 rfl el_cat (el_room (by decide)) el_fit (y_sails (d := 0) hCl hV1 (hM.fr hq.2.2) w) rfl (fun r2 S2 hq2 => ?_)
  exact ea_icmp_eq dL_law_229 (tgt := 870) rfl rfl (fun _ => k _ S2 (hq.2.1.fr hq2.2.2) hq2.2.1 (w_sails w _)) (fun hne => absurd (hq.1.trans hq2.1.symm) hne)
theorem lc_holds (hCl : evCl G) (hV0 : (0, 0) ∈ evKs G) (hV1 : (30, 0) ∈ evKs G) (hn : n + 5 ≤ evL G) (hL : evL G ≤ 2560) {A : Ab} (hC : RepC A S) (hM : RepM A S) (w : WfA A) (k : ∀ (A' : Ab) (S' : evS), RepC A' S' → RepM A' S' → WfA A' → evAt G M_L (F_L G) 870 (lvL G n) [] S') : evAt G M_L (F_L G) 234 (lvL G n) [] S := by
  refine ea_aload_n dL_law_234 rfl 2 rfl rfl ?_
  refine el_arg (k := 1) (by decide) (by decide) dL_law_235 dL_law_236 dL_law_237 dL_law_238 dL_law_239 hn hL rfl ?_
  refine el_arg (k := 2) (by decide) (by decide) dL_law_240 dL_law_241 dL_law_242 dL_law_243 dL_law_244 hn hL rfl ?_
  refine ea_cvi (d := 4) (As := [.int (evxs G (n + 1)), .int (evxs G (n + 2))]) (st := []) (n := 2) mv_X5_holds (ev_in (by decide +kernel) rfl) kok_0 hV0 rfl rfl dL_law_245 rfl (by decide) (el_room (by decide)) el_fit (x_holds (d := 0) hCl hV0 hC w) rfl (fun r S1 hq => ?_)
  refine ea_aload_n dL_law_248 rfl 1 rfl rfl ?_
  refine el_arg (k := 1) (by decide) (by decide) dL_law_249 dL_law_250 dL_law_251 dL_law_252 dL_law_253 hn hL rfl ?_
  refine el_arg (k := 2) (by decide) (by decide) dL_law_254 dL_law_255 dL_law_256 dL_law_257 dL_law_258 hn hL rfl ?_
  refine ea_cvi (d := 2) (As := [.int (evxs G (n + 1)), .int (evxs G (n + 2))]) (st := [.int r]) (n := 2) mv_X6_holds (ev_in (by decide +kernel) rfl) kok_30 hV1 rfl rfl dL_law_259 rfl el_cat (el_room (by decide)) el_fit (y_holds (d := 0) hCl hV1 (hM.fr hq.2.2) w) rfl (fun r2 S2 hq2 => ?_)
  exact ea_icmp_eq dL_law_262 (tgt := 870) rfl rfl (fun _ => k _ S2 (hq.2.1.fr hq2.2.2) hq2.2.1 (w_holds w _ _)) (fun hne => absurd (hq.1.trans hq2.1.symm) hne)
theorem lc_moves (hCl : evCl G) (hV0 : (0, 0) ∈ evKs G) (hV1 : (30, 0) ∈ evKs G) (hn : n + 5 ≤ evL G) (hL : evL G ≤ 2560) {A : Ab} (hC : RepC A S) (hM : RepM A S) (w : WfA A) (k : ∀ (A' : Ab) (S' : evS), RepC A' S' → RepM A' S' → WfA A' → evAt G M_L (F_L G) 870 (lvL G n) [] S') : evAt G M_L (F_L G) 267 (lvL G n) [] S := by
  refine ea_aload_n dL_law_267 rfl 2 rfl rfl ?_
  refine el_arg (k := 1) (by decide) (by decide) dL_law_268 dL_law_269 dL_law_270 dL_law_271 dL_law_272 hn hL rfl ?_
  refine el_arg (k := 2) (by decide) (by decide) dL_law_273 dL_law_274 dL_law_275 dL_law_276 dL_law_277 hn hL rfl ?_
  refine el_arg (k := 3) (by decide) (by decide) dL_law_278 dL_law_279 dL_law_280 dL_law_281 dL_law_282 hn hL rfl ?_
  refine el_arg (k := 4) (by decide) (by decide) dL_law_283 dL_law_284 dL_law_285 dL_law_286 dL_law_287 hn hL rfl ?_
  refine ea_cvi (d := 4) (As := [.int (evxs G (n + 1)), .int (evxs G (n + 2)), .int (evxs G (n + 3)), .int (evxs G (n + 4))]) (st := []) (n := 4) mv_X5_moves (ev_in (by decide +kernel) rfl) kok_0 hV0 rfl rfl dL_law_288 rfl (by decide) (el_room (by decide)) el_fit (x_moves (d := 0) hCl hV0 hC w) rfl (fun r S1 hq => ?_)
  refine ea_aload_n dL_law_291 rfl 1 rfl rfl ?_
  refine el_arg (k := 1) (by decide) (by decide) dL_law_292 dL_law_293 dL_law_294 dL_law_295 dL_law_296 hn hL rfl ?_
  refine el_arg (k := 2) (by decide) (by decide) dL_law_297 dL_law_298 dL_law_299 dL_law_300 dL_law_301 hn hL rfl ?_
  refine el_arg (k := 3) (by decide) (by decide) dL_law_302 dL_law_303 dL_law_304 dL_law_305 dL_law_306 hn hL rfl ?_
  refine el_arg (k := 4) (by decide) (by decide) dL_law_307 dL_law_308 dL_law_309 dL_law_310 dL_law_311 hn hL rfl ?_
  refine ea_cvi (d := 3) (As := [.int (evxs G (n + 1)), .int (evxs G (n + 2)), .int (evxs G (n + 3)), .int (evxs G (n + 4))]) (st := [.int r]) (n := 4) mv_X6_moves (ev_in (by decide +kernel) rfl) kok_30 hV1 rfl rfl dL_law_312 rfl el_cat (el_room (by decide)) el_fit (y_moves (d := 0) hCl hV1 (hM.fr hq.2.2) w) rfl (fun r2 S2 hq2 => ?_)
  exact ea_icmp_eq dL_law_315 (tgt := 870) rfl rfl (fun _ => k _ S2 (hq.2.1.fr hq2.2.2) hq2.2.1 (w_moves w _ _ _ _)) (fun hne => absurd (hq.1.trans hq2.1.symm) hne)
theorem lc_fastens (hCl : evCl G) (hV0 : (0, 0) ∈ evKs G) (hV1 : (30, 0) ∈ evKs G) (hn : n + 5 ≤ evL G) (hL : evL G ≤ 2560) {A : Ab} (hC : RepC A S) (hM : RepM A S) (w : WfA A) (k : ∀ (A' : Ab) (S' : evS), RepC A' S' → RepM A' S' → WfA A' → evAt G M_L (F_L G) 870 (lvL G n) [] S') : evAt G M_L (F_L G) 320 (lvL G n) [] S := by
  refine ea_aload_n dL_law_320 rfl 2 rfl rfl ?_
  refine el_arg (k := 1) (by decide) (by decide) dL_law_321 dL_law_322 dL_law_323 dL_law_324 dL_law_325 hn hL rfl ?_
  refine el_arg (k := 2) (by decide) (by decide) dL_law_326 dL_law_327 dL_law_328 dL_law_329 dL_law_330 hn hL rfl ?_
  refine ea_cvi (d := 4) (As := [.int (evxs G (n + 1)), .int (evxs G (n + 2))]) (st := []) (n := 2) mv_X5_fastens (ev_in (by decide +kernel) rfl) kok_0 hV0 rfl rfl dL_law_331 rfl (by decide) (el_room (by decide)) el_fit (x_fastens (d := 0) hCl hV0 hC w) rfl (fun r S1 hq => ?_)
  refine ea_aload_n dL_law_334 rfl 1 rfl rfl ?_
  refine el_arg (k := 1) (by decide) (by decide) dL_law_335 dL_law_336 dL_law_337 dL_law_338 dL_law_339 hn hL rfl ?_
  refine el_arg (k := 2) (by decide) (by decide) dL_law_340 dL_law_341 dL_law_342 dL_law_343 dL_law_344 hn hL rfl ?_
  refine ea_cvi (d := 2) (As := [.int (evxs G (n + 1)), .int (evxs G (n + 2))]) (st := [.int r]) (n := 2) mv_X6_fastens (ev_in (by decide +kernel) rfl) kok_30 hV1 rfl rfl dL_law_345 rfl el_cat (el_room (by decide)) el_fit (y_fastens (d := 0) hCl hV1 (hM.fr hq.2.2) w) rfl (fun r2 S2 hq2 => ?_)
  exact ea_icmp_eq dL_law_348 (tgt := 870) rfl rfl (fun _ => k _ S2 (hq.2.1.fr hq2.2.2) hq2.2.1 (w_fastens w _ _)) (fun hne => absurd (hq.1.trans hq2.1.symm) hne)
theorem lc_undo (hCl : evCl G) (hV0 : (0, 0) ∈ evKs G) (hV1 : (30, 0) ∈ evKs G) (hn : n + 5 ≤ evL G) (hL : evL G ≤ 2560) {A : Ab} (hC : RepC A S) (hM : RepM A S) (w : WfA A) (k : ∀ (A' : Ab) (S' : evS), RepC A' S' → RepM A' S' → WfA A' → evAt G M_L (F_L G) 870 (lvL G n) [] S') : evAt G M_L (F_L G) 353 (lvL G n) [] S := by
  refine ea_aload_n dL_law_353 rfl 2 rfl rfl ?_
  refine ea_cvi (d := 4) (As := []) (st := []) (n := 0) mv_X5_undo (ev_in (by decide +kernel) rfl) kok_0 hV0 rfl rfl dL_law_354 rfl (by decide) (el_room (by decide)) el_fit (x_undo (d := 0) hCl hV0 hC w) rfl (fun r S1 hq => ?_)
  refine ea_aload_n dL_law_357 rfl 1 rfl rfl ?_
  refine ea_cvi (d := 1) (As := []) (st := [.int r]) (n := 0) mv_X6_undo (ev_in (by decide +kernel) rfl) kok_30 hV1 rfl rfl dL_law_358 rfl el_cat (el_room (by decide)) el_fit (y_undo (d := 0) hCl hV1 (hM.fr hq.2.2) w) rfl (fun r2 S2 hq2 => ?_)
  exact ea_icmp_eq dL_law_361 (tgt := 870) rfl rfl (fun _ => k _ S2 (hq.2.1.fr hq2.2.2) hq2.2.1 (w_undo w)) (fun hne => absurd (hq.1.trans hq2.1.symm) hne)
theorem lc_ship (hCl : evCl G) (hV0 : (0, 0) ∈ evKs G) (hV1 : (30, 0) ∈ evKs G) (hn : n + 5 ≤ evL G) (hL : evL G ≤ 2560) {A : Ab} (hC : RepC A S) (hM : RepM A S) (w : WfA A) (k : ∀ (A' : Ab) (S' : evS), RepC A' S' → RepM A' S' → WfA A' → evAt G M_L (F_L G) 870 (lvL G n) [] S') : evAt G M_L (F_L G) 366 (lvL G n) [] S := by
  refine ea_aload_n dL_law_366 rfl 2 rfl rfl ?_
  refine el_arg (k := 1) (by decide) (by decide) dL_law_367 dL_law_368 dL_law_369 dL_law_370 dL_law_371 hn hL rfl ?_
  refine el_arg (k := 2) (by decide) (by decide) dL_law_372 dL_law_373 dL_law_374 dL_law_375 dL_law_376 hn hL rfl ?_
  refine ea_cvi (d := 1) (As := [.int (evxs G (n + 1)), .int (evxs G (n + 2))]) (st := []) (n := 2) mv_X5_ship (ev_in (by decide +kernel) rfl) kok_0 hV0 rfl rfl dL_law_377 rfl (by decide) (el_room (by decide)) el_fit (x_ship (d := 0) hCl hV0 hC w) rfl (fun r S1 hq => ?_)
  refine ea_aload_n dL_law_380 rfl 1 rfl rfl ?_
  refine el_arg (k := 1) (by decide) (by decide) dL_law_381 dL_law_382 dL_law_383 dL_law_384 dL_law_385 hn hL rfl ?_
  refine el_arg (k := 2) (by decide) (by decide) dL_law_386 dL_law_387 dL_law_388 dL_law_389 dL_law_390 hn hL rfl ?_
  refine ea_cvi (d := 2) (As := [.int (evxs G (n + 1)), .int (evxs G (n + 2))]) (st := [.int r]) (n := 2) mv_X6_ship (ev_in (by decide +kernel) rfl) kok_30 hV1 rfl rfl dL_law_391 rfl el_cat (el_room (by decide)) el_fit (y_ship (d := 0) hCl hV1 (hM.fr hq.2.2) w) rfl (fun r2 S2 hq2 => ?_)
  exact ea_icmp_eq dL_law_394 (tgt := 870) rfl rfl (fun _ => k _ S2 (hq.2.1.fr hq2.2.2) hq2.2.1 (w_same w s_ship)) (fun hne => absurd (hq.1.trans hq2.1.symm) hne)
theorem lc_leg (hCl : evCl G) (hV0 : (0, 0) ∈ evKs G) (hV1 : (30, 0) ∈ evKs G) (hn : n + 5 ≤ evL G) (hL : evL G ≤ 2560) {A : Ab} (hC : RepC A S) (hM : RepM A S) (w : WfA A) (k : ∀ (A' : Ab) (S' : evS), RepC A' S' → RepM A' S' → WfA A' → evAt G M_L (F_L G) 870 (lvL G n) [] S') : evAt G M_L (F_L G) 399 (lvL G n) [] S := by
  refine ea_aload_n dL_law_399 rfl 2 rfl rfl ?_
  refine el_arg (k := 1) (by decide) (by decide) dL_law_400 dL_law_401 dL_law_402 dL_law_403 dL_law_404 hn hL rfl ?_
  refine el_arg (k := 2) (by decide) (by decide) dL_law_405 dL_law_406 dL_law_407 dL_law_408 dL_law_409 hn hL rfl ?_
  refine el_arg (k := 3) (by decide) (by decide) dL_law_410 dL_law_411 dL_law_412 dL_law_413 dL_law_414 hn hL rfl ?_
  refine ea_cvi (d := 2) (As := [.int (evxs G (n + 1)), .int (evxs G (n + 2)), .int (evxs G (n + 3))]) (st := []) (n := 3) mv_X5_leg (ev_in (by decide +kernel) rfl) kok_0 hV0 rfl rfl dL_law_415 rfl (by decide) (el_room (by decide)) el_fit (x_leg (d := 0) hCl hV0 hC w) rfl (fun r S1 hq => ?_)
  refine ea_aload_n dL_law_418 rfl 1 rfl rfl ?_
  refine el_arg (k := 1) (by decide) (by decide) dL_law_419 dL_law_420 dL_law_421 dL_law_422 dL_law_423 hn hL rfl ?_
  refine el_arg (k := 2) (by decide) (by decide) dL_law_424 dL_law_425 dL_law_426 dL_law_427 dL_law_428 hn hL rfl ?_
  refine el_arg (k := 3) (by decide) (by decide) dL_law_429 dL_law_430 dL_law_431 dL_law_432 dL_law_433 hn hL rfl ?_
  refine ea_cvi (d := 2) (As := [.int (evxs G (n + 1)), .int (evxs G (n + 2)), .int (evxs G (n + 3))]) (st := [.int r]) (n := 3) mv_X6_leg (ev_in (by decide +kernel) rfl) kok_30 hV1 rfl rfl dL_law_434 rfl el_cat (el_room (by decide)) el_fit (y_leg (d := 0) hCl hV1 (hM.fr hq.2.2) w) rfl (fun r2 S2 hq2 => ?_)
  exact ea_icmp_eq dL_law_437 (tgt := 870) rfl rfl (fun _ => k _ S2 (hq.2.1.fr hq2.2.2) hq2.2.1 (w_same w s_leg)) (fun hne => absurd (hq.1.trans hq2.1.symm) hne)
theorem lc_plan (hCl : evCl G) (hV0 : (0, 0) ∈ evKs G) (hV1 : (30, 0) ∈ evKs G) (hn : n + 5 ≤ evL G) (hL : evL G ≤ 2560) {A : Ab} (hC : RepC A S) (hM : RepM A S) (w : WfA A) (k : ∀ (A' : Ab) (S' : evS), RepC A' S' → RepM A' S' → WfA A' → evAt G M_L (F_L G) 870 (lvL G n) [] S') : evAt G M_L (F_L G) 442 (lvL G n) [] S := by
  refine ea_aload_n dL_law_442 rfl 2 rfl rfl ?_
  refine el_arg (k := 1) (by decide) (by decide) dL_law_443 dL_law_444 dL_law_445 dL_law_446 dL_law_447 hn hL rfl ?_
  refine el_arg (k := 2) (by decide) (by decide) dL_law_448 dL_law_449 dL_law_450 dL_law_451 dL_law_452 hn hL rfl ?_
  refine ea_cvi (d := 6) (As := [.int (evxs G (n + 1)), .int (evxs G (n + 2))]) (st := []) (n := 2) mv_X5_plan (ev_in (by decide +kernel) rfl) kok_0 hV0 rfl rfl dL_law_453 rfl (by decide) (el_room (by decide)) el_fit (x_plan (d := 0) hCl hV0 hC w) rfl (fun r S1 hq => ?_)
  refine ea_aload_n dL_law_456 rfl 1 rfl rfl ?_
  refine el_arg (k := 1) (by decide) (by decide) dL_law_457 dL_law_458 dL_law_459 dL_law_460 dL_law_461 hn hL rfl ?_
  refine el_arg (k := 2) (by decide) (by decide) dL_law_462 dL_law_463 dL_law_464 dL_law_465 dL_law_466 hn hL rfl ?_
  refine ea_cvi (d := 6) (As := [.int (evxs G (n + 1)), .int (evxs G (n + 2))]) (st := [.int r]) (n := 2) mv_X6_plan (ev_in (by decide +kernel) rfl) kok_30 hV1 rfl rfl dL_law_467 rfl el_cat (el_room (by decide)) el_fit (y_plan (d := 0) hCl hV1 (hM.fr hq.2.2) w) rfl (fun r2 S2 hq2 => ?_)
  exact ea_icmp_eq dL_law_470 (tgt := 870) rfl rfl (fun _ => k _ S2 (hq.2.1.fr hq2.2.2) hq2.2.1 (w_same w s_plan)) (fun hne => absurd (hq.1.trans hq2.1.symm) hne)
theorem lc_time (hCl : evCl G) (hV0 : (0, 0) ∈ evKs G) (hV1 : (30, 0) ∈ evKs G) (hn : n + 5 ≤ evL G) (hL : evL G ≤ 2560) {A : Ab} (hC : RepC A S) (hM : RepM A S) (w : WfA A) (k : ∀ (A' : Ab) (S' : evS), RepC A' S' → RepM A' S' → WfA A' → evAt G M_L (F_L G) 870 (lvL G n) [] S') : evAt G M_L (F_L G) 475 (lvL G n) [] S := by
  refine ea_aload_n dL_law_475 rfl 2 rfl rfl ?_
  refine el_arg (k := 1) (by decide) (by decide) dL_law_476 dL_law_477 dL_law_478 dL_law_479 dL_law_480 hn hL rfl ?_
  refine el_arg (k := 2) (by decide) (by decide) dL_law_481 dL_law_482 dL_law_483 dL_law_484 dL_law_485 hn hL rfl ?_
  refine el_arg (k := 3) (by decide) (by decide) dL_law_486 dL_law_487 dL_law_488 dL_law_489 dL_law_490 hn hL rfl ?_
  refine ea_cvi (d := 6) (As := [.int (evxs G (n + 1)), .int (evxs G (n + 2)), .int (evxs G (n + 3))]) (st := []) (n := 3) mv_X5_time (ev_in (by decide +kernel) rfl) kok_0 hV0 rfl rfl dL_law_491 rfl (by decide) (el_room (by decide)) el_fit (x_time (d := 0) hCl hV0 hC w) rfl (fun r S1 hq => ?_)
  refine ea_aload_n dL_law_494 rfl 1 rfl rfl ?_
  refine el_arg (k := 1) (by decide) (by decide) dL_law_495 dL_law_496 dL_law_497 dL_law_498 dL_law_499 hn hL rfl ?_
  refine el_arg (k := 2) (by decide) (by decide) dL_law_500 dL_law_501 dL_law_502 dL_law_503 dL_law_504 hn hL rfl ?_
  refine el_arg (k := 3) (by decide) (by decide) dL_law_505 dL_law_506 dL_law_507 dL_law_508 dL_law_509 hn hL rfl ?_
  refine ea_cvi (d := 6) (As := [.int (evxs G (n + 1)), .int (evxs G (n + 2)), .int (evxs G (n + 3))]) (st := [.int r]) (n := 3) mv_X6_time (ev_in (by decide +kernel) rfl) kok_30 hV1 rfl rfl dL_law_510 rfl el_cat (el_room (by decide)) el_fit (y_time (d := 0) hCl hV1 (hM.fr hq.2.2) w) rfl (fun r2 S2 hq2 => ?_)
  exact ea_icmp_eq dL_law_513 (tgt := 870) rfl rfl (fun _ => k _ S2 (hq.2.1.fr hq2.2.2) hq2.2.1 (w_same w s_time)) (fun hne => absurd (hq.1.trans hq2.1.symm) hne)
theorem lc_speed (hCl : evCl G) (hV0 : (0, 0) ∈ evKs G) (hV1 : (30, 0) ∈ evKs G) (hn : n + 5 ≤ evL G) (hL : evL G ≤ 2560) {A : Ab} (hC : RepC A S) (hM : RepM A S) (w : WfA A) (k : ∀ (A' : Ab) (S' : evS), RepC A' S' → RepM A' S' → WfA A' → evAt G M_L (F_L G) 870 (lvL G n) [] S') : evAt G M_L (F_L G) 518 (lvL G n) [] S := by
  refine ea_aload_n dL_law_518 rfl 2 rfl rfl ?_
  refine el_arg (k := 1) (by decide) (by decide) dL_law_519 dL_law_520 dL_law_521 dL_law_522 dL_law_523 hn hL rfl ?_
  refine el_arg (k := 2) (by decide) (by decide) dL_law_524 dL_law_525 dL_law_526 dL_law_527 dL_law_528 hn hL rfl ?_
  refine el_arg (k := 3) (by decide) (by decide) dL_law_529 dL_law_530 dL_law_531 dL_law_532 dL_law_533 hn hL rfl ?_
  refine ea_cvi (d := 6) (As := [.int (evxs G (n + 1)), .int (evxs G (n + 2)), .int (evxs G (n + 3))]) (st := []) (n := 3) mv_X5_speed (ev_in (by decide +kernel) rfl) kok_0 hV0 rfl rfl dL_law_534 rfl (by decide) (el_room (by decide)) el_fit (x_speed (d := 0) hCl hV0 hC w) rfl (fun r S1 hq => ?_)
  refine ea_aload_n dL_law_537 rfl 1 rfl rfl ?_
  refine el_arg (k := 1) (by decide) (by decide) dL_law_538 dL_law_539 dL_law_540 dL_law_541 dL_law_542 hn hL rfl ?_
  refine el_arg (k := 2) (by decide) (by decide) dL_law_543 dL_law_544 dL_law_545 dL_law_546 dL_law_547 hn hL rfl ?_
  refine el_arg (k := 3) (by decide) (by decide) dL_law_548 dL_law_549 dL_law_550 dL_law_551 dL_law_552 hn hL rfl ?_
  refine ea_cvi (d := 6) (As := [.int (evxs G (n + 1)), .int (evxs G (n + 2)), .int (evxs G (n + 3))]) (st := [.int r]) (n := 3) mv_X6_speed (ev_in (by decide +kernel) rfl) kok_30 hV1 rfl rfl dL_law_553 rfl el_cat (el_room (by decide)) el_fit (y_speed (d := 0) hCl hV1 (hM.fr hq.2.2) w) rfl (fun r2 S2 hq2 => ?_)
  exact ea_icmp_eq dL_law_556 (tgt := 870) rfl rfl (fun _ => k _ S2 (hq.2.1.fr hq2.2.2) hq2.2.1 (w_same w s_speed)) (fun hne => absurd (hq.1.trans hq2.1.symm) hne)
theorem lc_closed (hCl : evCl G) (hV0 : (0, 0) ∈ evKs G) (hV1 : (30, 0) ∈ evKs G) (hn : n + 5 ≤ evL G) (hL : evL G ≤ 2560) {A : Ab} (hC : RepC A S) (hM : RepM A S) (w : WfA A) (k : ∀ (A' : Ab) (S' : evS), RepC A' S' → RepM A' S' → WfA A' → evAt G M_L (F_L G) 870 (lvL G n) [] S') : evAt G M_L (F_L G) 561 (lvL G n) [] S := by
  refine ea_aload_n dL_law_561 rfl 2 rfl rfl ?_
  refine el_arg (k := 1) (by decide) (by decide) dL_law_562 dL_law_563 dL_law_564 dL_law_565 dL_law_566 hn hL rfl ?_
  refine el_arg (k := 2) (by decide) (by decide) dL_law_567 dL_law_568 dL_law_569 dL_law_570 dL_law_571 hn hL rfl ?_
  refine ea_cvi (d := 6) (As := [.int (evxs G (n + 1)), .int (evxs G (n + 2))]) (st := []) (n := 2) mv_X5_closed (ev_in (by decide +kernel) rfl) kok_0 hV0 rfl rfl dL_law_572 rfl (by decide) (el_room (by decide)) el_fit (x_closed (d := 0) hCl hV0 hC w) rfl (fun r S1 hq => ?_)
  refine ea_aload_n dL_law_575 rfl 1 rfl rfl ?_
  refine el_arg (k := 1) (by decide) (by decide) dL_law_576 dL_law_577 dL_law_578 dL_law_579 dL_law_580 hn hL rfl ?_
  refine el_arg (k := 2) (by decide) (by decide) dL_law_581 dL_law_582 dL_law_583 dL_law_584 dL_law_585 hn hL rfl ?_
  refine ea_cvi (d := 6) (As := [.int (evxs G (n + 1)), .int (evxs G (n + 2))]) (st := [.int r]) (n := 2) mv_X6_closed (ev_in (by decide +kernel) rfl) kok_30 hV1 rfl rfl dL_law_586 rfl el_cat (el_room (by decide)) el_fit (y_closed (d := 0) hCl hV1 (hM.fr hq.2.2) w) rfl (fun r2 S2 hq2 => ?_)
  exact ea_icmp_eq dL_law_589 (tgt := 870) rfl rfl (fun _ => k _ S2 (hq.2.1.fr hq2.2.2) hq2.2.1 (w_same w s_closed)) (fun hne => absurd (hq.1.trans hq2.1.symm) hne)
theorem lc_cost (hCl : evCl G) (hV0 : (0, 0) ∈ evKs G) (hV1 : (30, 0) ∈ evKs G) (hn : n + 5 ≤ evL G) (hL : evL G ≤ 2560) {A : Ab} (hC : RepC A S) (hM : RepM A S) (w : WfA A) (k : ∀ (A' : Ab) (S' : evS), RepC A' S' → RepM A' S' → WfA A' → evAt G M_L (F_L G) 870 (lvL G n) [] S') : evAt G M_L (F_L G) 594 (lvL G n) [] S := by
  refine ea_aload_n dL_law_594 rfl 2 rfl rfl ?_
  refine el_arg (k := 1) (by decide) (by decide) dL_law_595 dL_law_596 dL_law_597 dL_law_598 dL_law_599 hn hL rfl ?_
  refine el_arg (k := 2) (by decide) (by decide) dL_law_600 dL_law_601 dL_law_602 dL_law_603 dL_law_604 hn hL rfl ?_
  refine ea_cvi (d := 6) (As := [.int (evxs G (n + 1)), .int (evxs G (n + 2))]) (st := []) (n := 2) mv_X5_cost (ev_in (by decide +kernel) rfl) kok_0 hV0 rfl rfl dL_law_605 rfl (by decide) (el_room (by decide)) el_fit (x_cost (d := 0) hCl hV0 hC w) rfl (fun r S1 hq => ?_)
  refine ea_aload_n dL_law_608 rfl 1 rfl rfl ?_
  refine el_arg (k := 1) (by decide) (by decide) dL_law_609 dL_law_610 dL_law_611 dL_law_612 dL_law_613 hn hL rfl ?_
  refine el_arg (k := 2) (by decide) (by decide) dL_law_614 dL_law_615 dL_law_616 dL_law_617 dL_law_618 hn hL rfl ?_
  refine ea_cvi (d := 6) (As := [.int (evxs G (n + 1)), .int (evxs G (n + 2))]) (st := [.int r]) (n := 2) mv_X6_cost (ev_in (by decide +kernel) rfl) kok_30 hV1 rfl rfl dL_law_619 rfl el_cat (el_room (by decide)) el_fit (y_cost (d := 0) hCl hV1 (hM.fr hq.2.2) w) rfl (fun r2 S2 hq2 => ?_)
  exact ea_icmp_eq dL_law_622 (tgt := 870) rfl rfl (fun _ => k _ S2 (hq.2.1.fr hq2.2.2) hq2.2.1 (w_same w s_cost)) (fun hne => absurd (hq.1.trans hq2.1.symm) hne)
theorem lc_slack (hCl : evCl G) (hV0 : (0, 0) ∈ evKs G) (hV1 : (30, 0) ∈ evKs G) (hn : n + 5 ≤ evL G) (hL : evL G ≤ 2560) {A : Ab} (hC : RepC A S) (hM : RepM A S) (w : WfA A) (k : ∀ (A' : Ab) (S' : evS), RepC A' S' → RepM A' S' → WfA A' → evAt G M_L (F_L G) 870 (lvL G n) [] S') : evAt G M_L (F_L G) 627 (lvL G n) [] S := by
  refine ea_aload_n dL_law_627 rfl 2 rfl rfl ?_
  refine el_arg (k := 1) (by decide) (by decide) dL_law_628 dL_law_629 dL_law_630 dL_law_631 dL_law_632 hn hL rfl ?_
  refine ea_cvi (d := 5) (As := [.int (evxs G (n + 1))]) (st := []) (n := 1) mv_X5_slack (ev_in (by decide +kernel) rfl) kok_0 hV0 rfl rfl dL_law_633 rfl (by decide) (el_room (by decide)) el_fit (x_slack (d := 0) hCl hV0 hC w) rfl (fun r S1 hq => ?_)
  refine ea_aload_n dL_law_636 rfl 1 rfl rfl ?_
  refine el_arg (k := 1) (by decide) (by decide) dL_law_637 dL_law_638 dL_law_639 dL_law_640 dL_law_641 hn hL rfl ?_
  refine ea_cvi (d := 5) (As := [.int (evxs G (n + 1))]) (st := [.int r]) (n := 1) mv_X6_slack (ev_in (by decide +kernel) rfl) kok_30 hV1 rfl rfl dL_law_642 rfl el_cat (el_room (by decide)) el_fit (y_slack (d := 0) hCl hV1 (hM.fr hq.2.2) w) rfl (fun r2 S2 hq2 => ?_)
  exact ea_icmp_eq dL_law_645 (tgt := 870) rfl rfl (fun _ => k _ S2 (hq.2.1.fr hq2.2.2) hq2.2.1 (w_same w s_slack)) (fun hne => absurd (hq.1.trans hq2.1.symm) hne)
theorem lc_needs (hCl : evCl G) (hV0 : (0, 0) ∈ evKs G) (hV1 : (30, 0) ∈ evKs G) (hn : n + 5 ≤ evL G) (hL : evL G ≤ 2560) {A : Ab} (hC : RepC A S) (hM : RepM A S) (w : WfA A) (k : ∀ (A' : Ab) (S' : evS), RepC A' S' → RepM A' S' → WfA A' → evAt G M_L (F_L G) 870 (lvL G n) [] S') : evAt G M_L (F_L G) 650 (lvL G n) [] S := by
  refine ea_aload_n dL_law_650 rfl 2 rfl rfl ?_
  refine el_arg (k := 1) (by decide) (by decide) dL_law_651 dL_law_652 dL_law_653 dL_law_654 dL_law_655 hn hL rfl ?_
  refine ea_cvi (d := 6) (As := [.int (evxs G (n + 1))]) (st := []) (n := 1) mv_X5_needs (ev_in (by decide +kernel) rfl) kok_0 hV0 rfl rfl dL_law_656 rfl (by decide) (el_room (by decide)) el_fit (x_needs (d := 0) hCl hV0 hC w) rfl (fun r S1 hq => ?_)
  refine ea_aload_n dL_law_659 rfl 1 rfl rfl ?_
  refine el_arg (k := 1) (by decide) (by decide) dL_law_660 dL_law_661 dL_law_662 dL_law_663 dL_law_664 hn hL rfl ?_
  refine ea_cvi (d := 5) (As := [.int (evxs G (n + 1))]) (st := [.int r]) (n := 1) mv_X6_needs (ev_in (by decide +kernel) rfl) kok_30 hV1 rfl rfl dL_law_665 rfl el_cat (el_room (by decide)) el_fit (y_needs (d := 0) hCl hV1 (hM.fr hq.2.2) w) rfl (fun r2 S2 hq2 => ?_)
  exact ea_icmp_eq dL_law_668 (tgt := 870) rfl rfl (fun _ => k _ S2 (hq.2.1.fr hq2.2.2) hq2.2.1 (w_same w s_needs)) (fun hne => absurd (hq.1.trans hq2.1.symm) hne)
theorem lc_eased (hCl : evCl G) (hV0 : (0, 0) ∈ evKs G) (hV1 : (30, 0) ∈ evKs G) (hn : n + 5 ≤ evL G) (hL : evL G ≤ 2560) {A : Ab} (hC : RepC A S) (hM : RepM A S) (w : WfA A) (k : ∀ (A' : Ab) (S' : evS), RepC A' S' → RepM A' S' → WfA A' → evAt G M_L (F_L G) 870 (lvL G n) [] S') : evAt G M_L (F_L G) 673 (lvL G n) [] S := by
  refine ea_aload_n dL_law_673 rfl 2 rfl rfl ?_
  refine el_arg (k := 1) (by decide) (by decide) dL_law_674 dL_law_675 dL_law_676 dL_law_677 dL_law_678 hn hL rfl ?_
  refine ea_cvi (d := 6) (As := [.int (evxs G (n + 1))]) (st := []) (n := 1) mv_X5_eased (ev_in (by decide +kernel) rfl) kok_0 hV0 rfl rfl dL_law_679 rfl (by decide) (el_room (by decide)) el_fit (x_eased (d := 0) hCl hV0 hC w) rfl (fun r S1 hq => ?_)
  refine ea_aload_n dL_law_682 rfl 1 rfl rfl ?_
  refine el_arg (k := 1) (by decide) (by decide) dL_law_683 dL_law_684 dL_law_685 dL_law_686 dL_law_687 hn hL rfl ?_
  refine ea_cvi (d := 6) (As := [.int (evxs G (n + 1))]) (st := [.int r]) (n := 1) mv_X6_eased (ev_in (by decide +kernel) rfl) kok_30 hV1 rfl rfl dL_law_688 rfl el_cat (el_room (by decide)) el_fit (y_eased (d := 0) hCl hV1 (hM.fr hq.2.2) w) rfl (fun r2 S2 hq2 => ?_)
  exact ea_icmp_eq dL_law_691 (tgt := 870) rfl rfl (fun _ => k _ S2 (hq.2.1.fr hq2.2.2) hq2.2.1 (w_same w s_eased)) (fun hne => absurd (hq.1.trans hq2.1.symm) hne)
theorem lc_mile (hCl : evCl G) (hV0 : (0, 0) ∈ evKs G) (hV1 : (30, 0) ∈ evKs G) (hn : n + 5 ≤ evL G) (hL : evL G ≤ 2560) {A : Ab} (hC : RepC A S) (hM : RepM A S) (w : WfA A) (k : ∀ (A' : Ab) (S' : evS), RepC A' S' → RepM A' S' → WfA A' → evAt G M_L (F_L G) 870 (lvL G n) [] S') : evAt G M_L (F_L G) 696 (lvL G n) [] S := by
  refine ea_aload_n dL_law_696 rfl 2 rfl rfl ?_
  refine el_arg (k := 1) (by decide) (by decide) dL_law_697 dL_law_698 dL_law_699 dL_law_700 dL_law_701 hn hL rfl ?_
  refine el_arg (k := 2) (by decide) (by decide) dL_law_702 dL_law_703 dL_law_704 dL_law_705 dL_law_706 hn hL rfl ?_
  refine ea_cvi (d := 6) (As := [.int (evxs G (n + 1)), .int (evxs G (n + 2))]) (st := []) (n := 2) mv_X5_mile (ev_in (by decide +kernel) rfl) kok_0 hV0 rfl rfl dL_law_707 rfl (by decide) (el_room (by decide)) el_fit (x_mile (d := 0) hCl hV0 hC w) rfl (fun r S1 hq => ?_)
  refine ea_aload_n dL_law_710 rfl 1 rfl rfl ?_
  refine el_arg (k := 1) (by decide) (by decide) dL_law_711 dL_law_712 dL_law_713 dL_law_714 dL_law_715 hn hL rfl ?_
  refine el_arg (k := 2) (by decide) (by decide) dL_law_716 dL_law_717 dL_law_718 dL_law_719 dL_law_720 hn hL rfl ?_
  refine ea_cvi (d := 7) (As := [.int (evxs G (n + 1)), .int (evxs G (n + 2))]) (st := [.int r]) (n := 2) mv_X6_mile (ev_in (by decide +kernel) rfl) kok_30 hV1 rfl rfl dL_law_721 rfl el_cat (el_room (by decide)) el_fit (y_mile (d := 0) hCl hV1 (hM.fr hq.2.2) w) rfl (fun r2 S2 hq2 => ?_)
  exact ea_icmp_eq dL_law_724 (tgt := 870) rfl rfl (fun _ => k _ S2 (hq.2.1.fr hq2.2.2) hq2.2.1 (w_same w s_mile)) (fun hne => absurd (hq.1.trans hq2.1.symm) hne)
theorem lc_sees (hCl : evCl G) (hV0 : (0, 0) ∈ evKs G) (hV1 : (30, 0) ∈ evKs G) (hn : n + 5 ≤ evL G) (hL : evL G ≤ 2560) {A : Ab} (hC : RepC A S) (hM : RepM A S) (w : WfA A) (k : ∀ (A' : Ab) (S' : evS), RepC A' S' → RepM A' S' → WfA A' → evAt G M_L (F_L G) 870 (lvL G n) [] S') : evAt G M_L (F_L G) 729 (lvL G n) [] S := by
  refine ea_aload_n dL_law_729 rfl 2 rfl rfl ?_
  refine el_arg (k := 1) (by decide) (by decide) dL_law_730 dL_law_731 dL_law_732 dL_law_733 dL_law_734 hn hL rfl ?_
  refine el_arg (k := 2) (by decide) (by decide) dL_law_735 dL_law_736 dL_law_737 dL_law_738 dL_law_739 hn hL rfl ?_
  refine ea_cvi (d := 1) (As := [.int (evxs G (n + 1)), .int (evxs G (n + 2))]) (st := []) (n := 2) mv_X5_sees (ev_in (by decide +kernel) rfl) kok_0 hV0 rfl rfl dL_law_740 rfl (by decide) (el_room (by decide)) el_fit (x_sees (d := 0) hCl hV0 hC w) rfl (fun r S1 hq => ?_)
  refine ea_aload_n dL_law_743 rfl 1 rfl rfl ?_
  refine el_arg (k := 1) (by decide) (by decide) dL_law_744 dL_law_745 dL_law_746 dL_law_747 dL_law_748 hn hL rfl ?_
  refine el_arg (k := 2) (by decide) (by decide) dL_law_749 dL_law_750 dL_law_751 dL_law_752 dL_law_753 hn hL rfl ?_
  refine ea_cvi (d := 1) (As := [.int (evxs G (n + 1)), .int (evxs G (n + 2))]) (st := [.int r]) (n := 2) mv_X6_sees (ev_in (by decide +kernel) rfl) kok_30 hV1 rfl rfl dL_law_754 rfl el_cat (el_room (by decide)) el_fit (y_sees (d := 0) hCl hV1 (hM.fr hq.2.2) w) rfl (fun r2 S2 hq2 => ?_)
  exact ea_icmp_eq dL_law_757 (tgt := 870) rfl rfl (fun _ => k _ S2 (hq.2.1.fr hq2.2.2) hq2.2.1 (w_sees w _ _)) (fun hne => absurd (hq.1.trans hq2.1.symm) hne)
theorem lc_forget (hCl : evCl G) (hV0 : (0, 0) ∈ evKs G) (hV1 : (30, 0) ∈ evKs G) (hn : n + 5 ≤ evL G) (hL : evL G ≤ 2560) {A : Ab} (hC : RepC A S) (hM : RepM A S) (w : WfA A) (k : ∀ (A' : Ab) (S' : evS), RepC A' S' → RepM A' S' → WfA A' → evAt G M_L (F_L G) 870 (lvL G n) [] S') : evAt G M_L (F_L G) 762 (lvL G n) [] S := by
  refine ea_aload_n dL_law_762 rfl 2 rfl rfl ?_
  refine ea_cvi (d := 1) (As := []) (st := []) (n := 0) mv_X5_forget (ev_in (by decide +kernel) rfl) kok_0 hV0 rfl rfl dL_law_763 rfl (by decide) (el_room (by decide)) el_fit (x_forget (d := 0) hCl hV0 hC w) rfl (fun r S1 hq => ?_)
  refine ea_aload_n dL_law_766 rfl 1 rfl rfl ?_
  refine ea_cvi (d := 1) (As := []) (st := [.int r]) (n := 0) mv_X6_forget (ev_in (by decide +kernel) rfl) kok_30 hV1 rfl rfl dL_law_767 rfl el_cat (el_room (by decide)) el_fit (y_forget (d := 0) hCl hV1 (hM.fr hq.2.2) w) rfl (fun r2 S2 hq2 => ?_)
  exact ea_icmp_eq dL_law_770 (tgt := 870) rfl rfl (fun _ => k _ S2 (hq.2.1.fr hq2.2.2) hq2.2.1 (w_forget w)) (fun hne => absurd (hq.1.trans hq2.1.symm) hne)
theorem lc_which (hCl : evCl G) (hV0 : (0, 0) ∈ evKs G) (hV1 : (30, 0) ∈ evKs G) (hn : n + 5 ≤ evL G) (hL : evL G ≤ 2560) {A : Ab} (hC : RepC A S) (hM : RepM A S) (w : WfA A) (k : ∀ (A' : Ab) (S' : evS), RepC A' S' → RepM A' S' → WfA A' → evAt G M_L (F_L G) 870 (lvL G n) [] S') : evAt G M_L (F_L G) 775 (lvL G n) [] S := by
  refine ea_aload_n dL_law_775 rfl 2 rfl rfl ?_
  refine ea_cvi (d := 6) (As := []) (st := []) (n := 0) mv_X5_which (ev_in (by decide +kernel) rfl) kok_0 hV0 rfl rfl dL_law_776 rfl (by decide) (el_room (by decide)) el_fit (x_which (d := 0) hCl hV0 hC w) rfl (fun r S1 hq => ?_)
  refine ea_aload_n dL_law_779 rfl 1 rfl rfl ?_
  refine ea_cvi (d := 8) (As := []) (st := [.int r]) (n := 0) mv_X6_which (ev_in (by decide +kernel) rfl) kok_30 hV1 rfl rfl dL_law_780 rfl el_cat (el_room (by decide)) el_fit (y_which (d := 0) hCl hV1 (hM.fr hq.2.2) w) rfl (fun r2 S2 hq2 => ?_)
  exact ea_icmp_eq dL_law_783 (tgt := 870) rfl rfl (fun _ => k _ S2 (hq.2.1.fr hq2.2.2) hq2.2.1 w) (fun hne => absurd (hq.1.trans hq2.1.symm) hne)
theorem lc_look (hCl : evCl G) (hV0 : (0, 0) ∈ evKs G) (hV1 : (30, 0) ∈ evKs G) (hn : n + 5 ≤ evL G) (hL : evL G ≤ 2560) {A : Ab} (hC : RepC A S) (hM : RepM A S) (w : WfA A) (k : ∀ (A' : Ab) (S' : evS), RepC A' S' → RepM A' S' → WfA A' → evAt G M_L (F_L G) 870 (lvL G n) [] S') : evAt G M_L (F_L G) 788 (lvL G n) [] S := by
  refine ea_aload_n dL_law_788 rfl 2 rfl rfl ?_
  refine ea_cvi (d := 6) (As := []) (st := []) (n := 0) mv_X5_look (ev_in (by decide +kernel) rfl) kok_0 hV0 rfl rfl dL_law_789 rfl (by decide) (el_room (by decide)) el_fit (x_look (d := 0) hCl hV0 hC w) rfl (fun r S1 hq => ?_)
  refine ea_aload_n dL_law_792 rfl 1 rfl rfl ?_
  refine ea_cvi (d := 8) (As := []) (st := [.int r]) (n := 0) mv_X6_look (ev_in (by decide +kernel) rfl) kok_30 hV1 rfl rfl dL_law_793 rfl el_cat (el_room (by decide)) el_fit (y_look (d := 0) hCl hV1 (hM.fr hq.2.2) w) rfl (fun r2 S2 hq2 => ?_)
  exact ea_icmp_eq dL_law_796 (tgt := 870) rfl rfl (fun _ => k _ S2 (hq.2.1.fr hq2.2.2) hq2.2.1 w) (fun hne => absurd (hq.1.trans hq2.1.symm) hne)
theorem lc_keep (hCl : evCl G) (hV0 : (0, 0) ∈ evKs G) (hV1 : (30, 0) ∈ evKs G) (hn : n + 5 ≤ evL G) (hL : evL G ≤ 2560) {A : Ab} (hC : RepC A S) (hM : RepM A S) (w : WfA A) (k : ∀ (A' : Ab) (S' : evS), RepC A' S' → RepM A' S' → WfA A' → evAt G M_L (F_L G) 870 (lvL G n) [] S') : evAt G M_L (F_L G) 801 (lvL G n) [] S := by
  refine ea_aload_n dL_law_801 rfl 2 rfl rfl ?_
  refine el_arg (k := 1) (by decide) (by decide) dL_law_802 dL_law_803 dL_law_804 dL_law_805 dL_law_806 hn hL rfl ?_
  refine ea_cvi (d := 3) (As := [.int (evxs G (n + 1))]) (st := []) (n := 1) mv_X5_keep (ev_in (by decide +kernel) rfl) kok_0 hV0 rfl rfl dL_law_807 rfl (by decide) (el_room (by decide)) el_fit (x_keep (d := 0) hCl hV0 hC w) rfl (fun r S1 hq => ?_)
  refine ea_aload_n dL_law_810 rfl 1 rfl rfl ?_
  refine el_arg (k := 1) (by decide) (by decide) dL_law_811 dL_law_812 dL_law_813 dL_law_814 dL_law_815 hn hL rfl ?_
  refine ea_cvi (d := 2) (As := [.int (evxs G (n + 1))]) (st := [.int r]) (n := 1) mv_X6_keep (ev_in (by decide +kernel) rfl) kok_30 hV1 rfl rfl dL_law_816 rfl el_cat (el_room (by decide)) el_fit (y_keep (d := 0) hCl hV1 (hM.fr hq.2.2) w) rfl (fun r2 S2 hq2 => ?_)
  exact ea_icmp_eq dL_law_819 (tgt := 870) rfl rfl (fun _ => k _ S2 (hq.2.1.fr hq2.2.2) hq2.2.1 (w_keep w _)) (fun hne => absurd (hq.1.trans hq2.1.symm) hne)
theorem lc_back (hCl : evCl G) (hV0 : (0, 0) ∈ evKs G) (hV1 : (30, 0) ∈ evKs G) (hn : n + 5 ≤ evL G) (hL : evL G ≤ 2560) {A : Ab} (hC : RepC A S) (hM : RepM A S) (w : WfA A) (k : ∀ (A' : Ab) (S' : evS), RepC A' S' → RepM A' S' → WfA A' → evAt G M_L (F_L G) 870 (lvL G n) [] S') : evAt G M_L (F_L G) 824 (lvL G n) [] S := by
  refine ea_aload_n dL_law_824 rfl 2 rfl rfl ?_
  refine el_arg (k := 1) (by decide) (by decide) dL_law_825 dL_law_826 dL_law_827 dL_law_828 dL_law_829 hn hL rfl ?_
  refine ea_cvi (d := 3) (As := [.int (evxs G (n + 1))]) (st := []) (n := 1) mv_X5_back (ev_in (by decide +kernel) rfl) kok_0 hV0 rfl rfl dL_law_830 rfl (by decide) (el_room (by decide)) el_fit (x_back (d := 0) hCl hV0 hC w) rfl (fun r S1 hq => ?_)
  refine ea_aload_n dL_law_833 rfl 1 rfl rfl ?_
  refine el_arg (k := 1) (by decide) (by decide) dL_law_834 dL_law_835 dL_law_836 dL_law_837 dL_law_838 hn hL rfl ?_
  refine ea_cvi (d := 2) (As := [.int (evxs G (n + 1))]) (st := [.int r]) (n := 1) mv_X6_back (ev_in (by decide +kernel) rfl) kok_30 hV1 rfl rfl dL_law_839 rfl el_cat (el_room (by decide)) el_fit (y_back (d := 0) hCl hV1 (hM.fr hq.2.2) w) rfl (fun r2 S2 hq2 => ?_)
  exact ea_icmp_eq dL_law_842 (tgt := 870) rfl rfl (fun _ => k _ S2 (hq.2.1.fr hq2.2.2) hq2.2.1 (w_back w _)) (fun hne => absurd (hq.1.trans hq2.1.symm) hne)
theorem lc_count (hCl : evCl G) (hV0 : (0, 0) ∈ evKs G) (hV1 : (30, 0) ∈ evKs G) (hn : n + 5 ≤ evL G) (hL : evL G ≤ 2560) {A : Ab} (hC : RepC A S) (hM : RepM A S) (w : WfA A) (k : ∀ (A' : Ab) (S' : evS), RepC A' S' → RepM A' S' → WfA A' → evAt G M_L (F_L G) 870 (lvL G n) [] S') : evAt G M_L (F_L G) 847 (lvL G n) [] S := by
  refine ea_aload_n dL_law_847 rfl 2 rfl rfl ?_
  refine el_arg (k := 1) (by decide) (by decide) dL_law_848 dL_law_849 dL_law_850 dL_law_851 dL_law_852 hn hL rfl ?_
  refine ea_cvi (d := 2) (As := [.int (evxs G (n + 1))]) (st := []) (n := 1) mv_X5_count (ev_in (by decide +kernel) rfl) kok_0 hV0 rfl rfl dL_law_853 rfl (by decide) (el_room (by decide)) el_fit (x_count (d := 0) hCl hV0 hC w) rfl (fun r S1 hq => ?_)
  refine ea_aload_n dL_law_856 rfl 1 rfl rfl ?_
  refine el_arg (k := 1) (by decide) (by decide) dL_law_857 dL_law_858 dL_law_859 dL_law_860 dL_law_861 hn hL rfl ?_
  refine ea_cvi (d := 2) (As := [.int (evxs G (n + 1))]) (st := [.int r]) (n := 1) mv_X6_count (ev_in (by decide +kernel) rfl) kok_30 hV1 rfl rfl dL_law_862 rfl el_cat (el_room (by decide)) el_fit (y_count (d := 0) hCl hV1 (hM.fr hq.2.2) w) rfl (fun r2 S2 hq2 => ?_)
  exact ea_icmp_eq dL_law_865 (tgt := 870) rfl rfl (fun _ => k _ S2 (hq.2.1.fr hq2.2.2) hq2.2.1 (w_same w s_count)) (fun hne => absurd (hq.1.trans hq2.1.symm) hne)
end ElCases
