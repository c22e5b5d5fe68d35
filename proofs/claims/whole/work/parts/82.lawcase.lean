/-! each call of the law -/
section LAWC
variable {p : Program} {l : Launch} {e : Env} {s : State} {m : MethodId} {below : List Frame} {meth : Method} {c : Code} {b L : Nat} {xs : Nat → Int32} {G : fw_G} {f : fw_F} {H : Heap} {locs : List Loc} {cells slots t i hm hc : Nat} {Q : State → Prop} {ls : Array Slot} {rest : List Value} {pc : Nat}
set_option maxRecDepth 20000 in
theorem law_name (hL : L ≤ 3072) (C0 : lw_At p s m meth c b L xs) (S : fw_S G (lA s) s f H locs) (W0 : WR G f hm hc t) (ht : t + 8 ≤ 6400) (hl : lv_has ls 4 [(0, .ref b), (1, .ref hc), (2, .ref hm), (3, .int (nI i))]) (hi : i + 6 ≤ L) (hR : cells + 8 ≤ room_1.cells ∧ slots + 519 ≤ room_1.slots) (kk : ∀ (f' : fw_F) (H' : Heap) (locs' : List Loc), fw_S G (lA s) s f' H' locs' → WR G f' hm hc (t + 8) → W p l e room_1 s m #[Value.ref b] below meth c H' locs' (cells + 8) (slots + 519) Q (F0 m 681 ls [])) : W p l e room_1 s m #[Value.ref b] below meth c H locs cells slots Q (F0 m 108 ls []) := by
  obtain ⟨hx, hb, hr, hml, hown, hts, hX, hbl, hlocks, hgv⟩ := id C0
  have C : CallFix p m c code 4 s #[Value.ref b] lw_tbl RL := ⟨hx, hb, hml, hown, hts⟩
  have h0 := lv_at hl 0 rfl
  have h3 := lv_at hl 3 rfl
  have hS := S.2.2.2.2.2
  obtain ⟨P1, M1, K1⟩ := (C_name W0)
  obtain ⟨fs1, e1⟩ := W_hc W0
  refine lv_aload_n hx hb dL_law_108 rfl (lv_at hl 1 rfl) ?_
  refine q_callQi (As := []) (rest := []) C S hl e1 rfl (M1 l (lA s)) (cwV 0 hts gL_X4_name rfl rfl rfl (by decide +kernel) ⟨Nat.le_of_ble_eq_true rfl, Nat.le_of_ble_eq_true rfl⟩) rfl rfl (Nat.le_of_ble_eq_true rfl) ⟨by omega, by omega⟩ dL_law_109 (fun r1 f1 H1 locs1 hv1 S1 => ?_)
  obtain ⟨⟨fs2, e2⟩, P2, M2, K2⟩ := K1 r1 f1 hv1
  have hS := S1.2.2.2.2.2
  refine lv_aload_n hx hb dL_law_112 rfl (lv_at hl 2 rfl) ?_
  refine q_callQi (As := []) (rest := [.int r1]) C S1 hl e2 rfl (M2 l (lA s)) (cwV 0 hts gL_X5_name rfl rfl rfl (by decide +kernel) ⟨Nat.le_of_ble_eq_true rfl, Nat.le_of_ble_eq_true rfl⟩) rfl rfl (Nat.le_of_ble_eq_true rfl) ⟨by omega, by omega⟩ dL_law_113 (fun r2 f2 H2 locs2 hv2 S2 => ?_)
  obtain ⟨er, W2⟩ := K2 r2 f2 hv2
  refine lv_icmp_eq (tgt := 681) hx hb dL_law_116 (by decide) (fun _ => ?_) (fun q => absurd er q)
  exact W.widen (by omega) (by omega) (kk f2 H2 locs2 S2 W2)
set_option maxRecDepth 20000 in
theorem law_span (hL : L ≤ 3072) (C0 : lw_At p s m meth c b L xs) (S : fw_S G (lA s) s f H locs) (W0 : WR G f hm hc t) (ht : t + 8 ≤ 6400) (hl : lv_has ls 4 [(0, .ref b), (1, .ref hc), (2, .ref hm), (3, .int (nI i))]) (hi : i + 6 ≤ L) (hR : cells + 8 ≤ room_1.cells ∧ slots + 519 ≤ room_1.slots) (kk : ∀ (f' : fw_F) (H' : Heap) (locs' : List Loc), fw_S G (lA s) s f' H' locs' → WR G f' hm hc (t + 8) → W p l e room_1 s m #[Value.ref b] below meth c H' locs' (cells + 8) (slots + 519) Q (F0 m 681 ls [])) : W p l e room_1 s m #[Value.ref b] below meth c H locs cells slots Q (F0 m 121 ls []) := by
  obtain ⟨hx, hb, hr, hml, hown, hts, hX, hbl, hlocks, hgv⟩ := id C0
  have C : CallFix p m c code 4 s #[Value.ref b] lw_tbl RL := ⟨hx, hb, hml, hown, hts⟩
  have h0 := lv_at hl 0 rfl
  have h3 := lv_at hl 3 rfl
  have hS := S.2.2.2.2.2
  obtain ⟨P1, M1, K1⟩ := (C_span W0 (xs (i + 1)) (lgv (xs (i + 2)) (xs (i + (2 + 1)))) (lgv (xs (i + 4)) (xs (i + (4 + 1)))) ht)
  obtain ⟨fs1, e1⟩ := W_hc W0
  refine lv_aload_n hx hb dL_law_121 rfl (lv_at hl 1 rfl) ?_
  refine l_ld C0 hS h0 h3 1 (by decide) (by omega) hL dL_law_122 dL_law_123 dL_law_124 dL_law_125 dL_law_126 ?_
  refine l_lg C0 hS h0 h3 2 (by decide) (by decide) (by omega) hL dL_law_127 dL_law_128 dL_law_129 dL_law_130 dL_law_131 dL_law_132 dL_law_133 dL_law_135 dL_law_136 dL_law_137 dL_law_138 dL_law_139 dL_law_140 dL_law_141 dL_law_142 dL_law_145 dL_law_146 ?_
  refine l_lg C0 hS h0 h3 4 (by decide) (by decide) (by omega) hL dL_law_147 dL_law_148 dL_law_149 dL_law_150 dL_law_151 dL_law_152 dL_law_153 dL_law_155 dL_law_156 dL_law_157 dL_law_158 dL_law_159 dL_law_160 dL_law_161 dL_law_162 dL_law_165 dL_law_166 ?_
  refine q_callQi (As := [.int (xs (i + 1)), .long (lgv (xs (i + 2)) (xs (i + (2 + 1)))), .long (lgv (xs (i + 4)) (xs (i + (4 + 1))))]) (rest := []) C S hl e1 rfl (M1 l (lA s)) (cwV 3 hts gL_X4_span rfl rfl rfl (by decide +kernel) ⟨Nat.le_of_ble_eq_true rfl, Nat.le_of_ble_eq_true rfl⟩) rfl rfl (Nat.le_of_ble_eq_true rfl) ⟨by omega, by omega⟩ dL_law_167 (fun r1 f1 H1 locs1 hv1 S1 => ?_)
  obtain ⟨⟨fs2, e2⟩, P2, M2, K2⟩ := K1 r1 f1 hv1
  have hS := S1.2.2.2.2.2
  refine lv_aload_n hx hb dL_law_170 rfl (lv_at hl 2 rfl) ?_
  refine l_ld C0 hS h0 h3 1 (by decide) (by omega) hL dL_law_171 dL_law_172 dL_law_173 dL_law_174 dL_law_175 ?_
  refine l_lg C0 hS h0 h3 2 (by decide) (by decide) (by omega) hL dL_law_176 dL_law_177 dL_law_178 dL_law_179 dL_law_180 dL_law_181 dL_law_182 dL_law_184 dL_law_185 dL_law_186 dL_law_187 dL_law_188 dL_law_189 dL_law_190 dL_law_191 dL_law_194 dL_law_195 ?_
  refine l_lg C0 hS h0 h3 4 (by decide) (by decide) (by omega) hL dL_law_196 dL_law_197 dL_law_198 dL_law_199 dL_law_200 dL_law_201 dL_law_202 dL_law_204 dL_law_205 dL_law_206 dL_law_207 dL_law_208 dL_law_209 dL_law_210 dL_law_211 dL_law_214 dL_law_215 ?_
  refine q_callQi (As := [.int (xs (i + 1)), .long (lgv (xs (i + 2)) (xs (i + (2 + 1)))), .long (lgv (xs (i + 4)) (xs (i + (4 + 1))))]) (rest := [.int r1]) C S1 hl e2 rfl (M2 l (lA s)) (cwV 3 hts gL_X5_span rfl rfl rfl (by decide +kernel) ⟨Nat.le_of_ble_eq_true rfl, Nat.le_of_ble_eq_true rfl⟩) rfl rfl (Nat.le_of_ble_eq_true rfl) ⟨by omega, by omega⟩ dL_law_216 (fun r2 f2 H2 locs2 hv2 S2 => ?_)
  obtain ⟨er, W2⟩ := K2 r2 f2 hv2
  refine lv_icmp_eq (tgt := 681) hx hb dL_law_219 (by decide) (fun _ => ?_) (fun q => absurd er q)
  exact W.widen (by omega) (by omega) (kk f2 H2 locs2 S2 W2)
set_option maxRecDepth 20000 in
theorem law_give (hL : L ≤ 3072) (C0 : lw_At p s m meth c b L xs) (S : fw_S G (lA s) s f H locs) (W0 : WR G f hm hc t) (ht : t + 8 ≤ 6400) (hl : lv_has ls 4 [(0, .ref b), (1, .ref hc), (2, .ref hm), (3, .int (nI i))]) (hi : i + 6 ≤ L) (hR : cells + 8 ≤ room_1.cells ∧ slots + 519 ≤ room_1.slots) (kk : ∀ (f' : fw_F) (H' : Heap) (locs' : List Loc), fw_S G (lA s) s f' H' locs' → WR G f' hm hc (t + 8) → W p l e room_1 s m #[Value.ref b] below meth c H' locs' (cells + 8) (slots + 519) Q (F0 m 681 ls [])) : W p l e room_1 s m #[Value.ref b] below meth c H locs cells slots Q (F0 m 224 ls []) := by
  obtain ⟨hx, hb, hr, hml, hown, hts, hX, hbl, hlocks, hgv⟩ := id C0
  have C : CallFix p m c code 4 s #[Value.ref b] lw_tbl RL := ⟨hx, hb, hml, hown, hts⟩
  have h0 := lv_at hl 0 rfl
  have h3 := lv_at hl 3 rfl
  have hS := S.2.2.2.2.2
  obtain ⟨P1, M1, K1⟩ := (C_give W0 (xs (i + 1)) (lgv (xs (i + 2)) (xs (i + (2 + 1)))) ht)
  obtain ⟨fs1, e1⟩ := W_hc W0
  refine lv_aload_n hx hb dL_law_224 rfl (lv_at hl 1 rfl) ?_
  refine l_ld C0 hS h0 h3 1 (by decide) (by omega) hL dL_law_225 dL_law_226 dL_law_227 dL_law_228 dL_law_229 ?_
  refine l_lg C0 hS h0 h3 2 (by decide) (by decide) (by omega) hL dL_law_230 dL_law_231 dL_law_232 dL_law_233 dL_law_234 dL_law_235 dL_law_236 dL_law_238 dL_law_239 dL_law_240 dL_law_241 dL_law_242 dL_law_243 dL_law_244 dL_law_245 dL_law_248 dL_law_249 ?_
  refine q_callQi (As := [.int (xs (i + 1)), .long (lgv (xs (i + 2)) (xs (i + (2 + 1))))]) (rest := []) C S hl e1 rfl (M1 l (lA s)) (cwV 2 hts gL_X4_give rfl rfl rfl (by decide +kernel) ⟨Nat.le_of_ble_eq_true rfl, Nat.le_of_ble_eq_true rfl⟩) rfl rfl (Nat.le_of_ble_eq_true rfl) ⟨by omega, by omega⟩ dL_law_250 (fun r1 f1 H1 locs1 hv1 S1 => ?_)
  obtain ⟨⟨fs2, e2⟩, P2, M2, K2⟩ := K1 r1 f1 hv1
  have hS := S1.2.2.2.2.2
  refine lv_aload_n hx hb dL_law_253 rfl (lv_at hl 2 rfl) ?_
  refine l_ld C0 hS h0 h3 1 (by decide) (by omega) hL dL_law_254 dL_law_255 dL_law_256 dL_law_257 dL_law_258 ?_
  refine l_lg C0 hS h0 h3 2 (by decide) (by decide) (by omega) hL dL_law_259 dL_law_260 dL_law_261 dL_law_262 dL_law_263 dL_law_264 dL_law_265 dL_law_267 dL_law_268 dL_law_269 dL_law_270 dL_law_271 dL_law_272 dL_law_273 dL_law_274 dL_law_277 dL_law_278 ?_
  refine q_callQi (As := [.int (xs (i + 1)), .long (lgv (xs (i + 2)) (xs (i + (2 + 1))))]) (rest := [.int r1]) C S1 hl e2 rfl (M2 l (lA s)) (cwV 2 hts gL_X5_give rfl rfl rfl (by decide +kernel) ⟨Nat.le_of_ble_eq_true rfl, Nat.le_of_ble_eq_true rfl⟩) rfl rfl (Nat.le_of_ble_eq_true rfl) ⟨by omega, by omega⟩ dL_law_279 (fun r2 f2 H2 locs2 hv2 S2 => ?_)
  obtain ⟨er, W2⟩ := K2 r2 f2 hv2
  refine lv_icmp_eq (tgt := 681) hx hb dL_law_282 (by decide) (fun _ => ?_) (fun q => absurd er q)
  exact W.widen (by omega) (by omega) (kk f2 H2 locs2 S2 W2)
set_option maxRecDepth 20000 in
theorem law_equal (hL : L ≤ 3072) (C0 : lw_At p s m meth c b L xs) (S : fw_S G (lA s) s f H locs) (W0 : WR G f hm hc t) (ht : t + 8 ≤ 6400) (hl : lv_has ls 4 [(0, .ref b), (1, .ref hc), (2, .ref hm), (3, .int (nI i))]) (hi : i + 6 ≤ L) (hR : cells + 8 ≤ room_1.cells ∧ slots + 519 ≤ room_1.slots) (kk : ∀ (f' : fw_F) (H' : Heap) (locs' : List Loc), fw_S G (lA s) s f' H' locs' → WR G f' hm hc (t + 8) → W p l e room_1 s m #[Value.ref b] below meth c H' locs' (cells + 8) (slots + 519) Q (F0 m 681 ls [])) : W p l e room_1 s m #[Value.ref b] below meth c H locs cells slots Q (F0 m 287 ls []) := by
  obtain ⟨hx, hb, hr, hml, hown, hts, hX, hbl, hlocks, hgv⟩ := id C0
  have C : CallFix p m c code 4 s #[Value.ref b] lw_tbl RL := ⟨hx, hb, hml, hown, hts⟩
  have h0 := lv_at hl 0 rfl
  have h3 := lv_at hl 3 rfl
  have hS := S.2.2.2.2.2
  obtain ⟨P1, M1, K1⟩ := (C_equal W0 (xs (i + 1)) (xs (i + 2)) ht)
  obtain ⟨fs1, e1⟩ := W_hc W0
  refine lv_aload_n hx hb dL_law_287 rfl (lv_at hl 1 rfl) ?_
  refine l_ld C0 hS h0 h3 1 (by decide) (by omega) hL dL_law_288 dL_law_289 dL_law_290 dL_law_291 dL_law_292 ?_
  refine l_ld C0 hS h0 h3 2 (by decide) (by omega) hL dL_law_293 dL_law_294 dL_law_295 dL_law_296 dL_law_297 ?_
  refine q_callQi (As := [.int (xs (i + 1)), .int (xs (i + 2))]) (rest := []) C S hl e1 rfl (M1 l (lA s)) (cwV 2 hts gL_X4_equal rfl rfl rfl (by decide +kernel) ⟨Nat.le_of_ble_eq_true rfl, Nat.le_of_ble_eq_true rfl⟩) rfl rfl (Nat.le_of_ble_eq_true rfl) ⟨by omega, by omega⟩ dL_law_298 (fun r1 f1 H1 locs1 hv1 S1 => ?_)
  obtain ⟨⟨fs2, e2⟩, P2, M2, K2⟩ := K1 r1 f1 hv1
  have hS := S1.2.2.2.2.2
  refine lv_aload_n hx hb dL_law_301 rfl (lv_at hl 2 rfl) ?_
  refine l_ld C0 hS h0 h3 1 (by decide) (by omega) hL dL_law_302 dL_law_303 dL_law_304 dL_law_305 dL_law_306 ?_
  refine l_ld C0 hS h0 h3 2 (by decide) (by omega) hL dL_law_307 dL_law_308 dL_law_309 dL_law_310 dL_law_311 ?_
  refine q_callQi (As := [.int (xs (i + 1)), .int (xs (i + 2))]) (rest := [.int r1]) C S1 hl e2 rfl (M2 l (lA s)) (cwV 2 hts gL_X5_equal rfl rfl rfl (by decide +kernel) ⟨Nat.le_of_ble_eq_true rfl, Nat.le_of_ble_eq_true rfl⟩) rfl rfl (Nat.le_of_ble_eq_true rfl) ⟨by omega, by omega⟩ dL_law_312 (fun r2 f2 H2 locs2 hv2 S2 => ?_)
  obtain ⟨er, W2⟩ := K2 r2 f2 hv2
  refine lv_icmp_eq (tgt := 681) hx hb dL_law_315 (by decide) (fun _ => ?_) (fun q => absurd er q)
  exact W.widen (by omega) (by omega) (kk f2 H2 locs2 S2 W2)
set_option maxRecDepth 20000 in
theorem law_put (hL : L ≤ 3072) (C0 : lw_At p s m meth c b L xs) (S : fw_S G (lA s) s f H locs) (W0 : WR G f hm hc t) (ht : t + 8 ≤ 6400) (hl : lv_has ls 4 [(0, .ref b), (1, .ref hc), (2, .ref hm), (3, .int (nI i))]) (hi : i + 6 ≤ L) (hR : cells + 8 ≤ room_1.cells ∧ slots + 519 ≤ room_1.slots) (kk : ∀ (f' : fw_F) (H' : Heap) (locs' : List Loc), fw_S G (lA s) s f' H' locs' → WR G f' hm hc (t + 8) → W p l e room_1 s m #[Value.ref b] below meth c H' locs' (cells + 8) (slots + 519) Q (F0 m 681 ls [])) : W p l e room_1 s m #[Value.ref b] below meth c H locs cells slots Q (F0 m 320 ls []) := by
  obtain ⟨hx, hb, hr, hml, hown, hts, hX, hbl, hlocks, hgv⟩ := id C0
  have C : CallFix p m c code 4 s #[Value.ref b] lw_tbl RL := ⟨hx, hb, hml, hown, hts⟩
  have h0 := lv_at hl 0 rfl
  have h3 := lv_at hl 3 rfl
  have hS := S.2.2.2.2.2
  obtain ⟨P1, M1, K1⟩ := (C_put W0 (xs (i + 1)) (lgv (xs (i + 2)) (xs (i + (2 + 1)))))
  obtain ⟨fs1, e1⟩ := W_hc W0
  refine lv_aload_n hx hb dL_law_320 rfl (lv_at hl 1 rfl) ?_
  refine l_ld C0 hS h0 h3 1 (by decide) (by omega) hL dL_law_321 dL_law_322 dL_law_323 dL_law_324 dL_law_325 ?_
  refine l_lg C0 hS h0 h3 2 (by decide) (by decide) (by omega) hL dL_law_326 dL_law_327 dL_law_328 dL_law_329 dL_law_330 dL_law_331 dL_law_332 dL_law_334 dL_law_335 dL_law_336 dL_law_337 dL_law_338 dL_law_339 dL_law_340 dL_law_341 dL_law_344 dL_law_345 ?_
  refine q_callQi (As := [.int (xs (i + 1)), .long (lgv (xs (i + 2)) (xs (i + (2 + 1))))]) (rest := []) C S hl e1 rfl (M1 l (lA s)) (cwV 2 hts gL_X4_put rfl rfl rfl (by decide +kernel) ⟨Nat.le_of_ble_eq_true rfl, Nat.le_of_ble_eq_true rfl⟩) rfl rfl (Nat.le_of_ble_eq_true rfl) ⟨by omega, by omega⟩ dL_law_346 (fun r1 f1 H1 locs1 hv1 S1 => ?_)
  obtain ⟨⟨fs2, e2⟩, P2, M2, K2⟩ := K1 r1 f1 hv1
  have hS := S1.2.2.2.2.2
  refine lv_aload_n hx hb dL_law_349 rfl (lv_at hl 2 rfl) ?_
  refine l_ld C0 hS h0 h3 1 (by decide) (by omega) hL dL_law_350 dL_law_351 dL_law_352 dL_law_353 dL_law_354 ?_
  refine l_lg C0 hS h0 h3 2 (by decide) (by decide) (by omega) hL dL_law_355 dL_law_356 dL_law_357 dL_law_358 dL_law_359 dL_law_360 dL_law_361 dL_law_363 dL_law_364 dL_law_365 dL_law_366 dL_law_367 dL_law_368 dL_law_369 dL_law_370 dL_law_373 dL_law_374 ?_
  refine q_callQi (As := [.int (xs (i + 1)), .long (lgv (xs (i + 2)) (xs (i + (2 + 1))))]) (rest := [.int r1]) C S1 hl e2 rfl (M2 l (lA s)) (cwV 2 hts gL_X5_put rfl rfl rfl (by decide +kernel) ⟨Nat.le_of_ble_eq_true rfl, Nat.le_of_ble_eq_true rfl⟩) rfl rfl (Nat.le_of_ble_eq_true rfl) ⟨by omega, by omega⟩ dL_law_375 (fun r2 f2 H2 locs2 hv2 S2 => ?_)
  obtain ⟨er, W2⟩ := K2 r2 f2 hv2
  refine lv_icmp_eq (tgt := 681) hx hb dL_law_378 (by decide) (fun _ => ?_) (fun q => absurd er q)
  exact W.widen (by omega) (by omega) (kk f2 H2 locs2 S2 W2)
set_option maxRecDepth 20000 in
theorem law_keep (hL : L ≤ 3072) (C0 : lw_At p s m meth c b L xs) (S : fw_S G (lA s) s f H locs) (W0 : WR G f hm hc t) (ht : t + 8 ≤ 6400) (hl : lv_has ls 4 [(0, .ref b), (1, .ref hc), (2, .ref hm), (3, .int (nI i))]) (hi : i + 6 ≤ L) (hR : cells + 8 ≤ room_1.cells ∧ slots + 519 ≤ room_1.slots) (kk : ∀ (f' : fw_F) (H' : Heap) (locs' : List Loc), fw_S G (lA s) s f' H' locs' → WR G f' hm hc (t + 8) → W p l e room_1 s m #[Value.ref b] below meth c H' locs' (cells + 8) (slots + 519) Q (F0 m 681 ls [])) : W p l e room_1 s m #[Value.ref b] below meth c H locs cells slots Q (F0 m 383 ls []) := by
  obtain ⟨hx, hb, hr, hml, hown, hts, hX, hbl, hlocks, hgv⟩ := id C0
  have C : CallFix p m c code 4 s #[Value.ref b] lw_tbl RL := ⟨hx, hb, hml, hown, hts⟩
  have h0 := lv_at hl 0 rfl
  have h3 := lv_at hl 3 rfl
  have hS := S.2.2.2.2.2
  obtain ⟨P1, M1, K1⟩ := (C_keep W0 (xs (i + 1)) (lgv (xs (i + 2)) (xs (i + (2 + 1)))))
  obtain ⟨fs1, e1⟩ := W_hc W0
  refine lv_aload_n hx hb dL_law_383 rfl (lv_at hl 1 rfl) ?_
  refine l_ld C0 hS h0 h3 1 (by decide) (by omega) hL dL_law_384 dL_law_385 dL_law_386 dL_law_387 dL_law_388 ?_
  refine l_lg C0 hS h0 h3 2 (by decide) (by decide) (by omega) hL dL_law_389 dL_law_390 dL_law_391 dL_law_392 dL_law_393 dL_law_394 dL_law_395 dL_law_397 dL_law_398 dL_law_399 dL_law_400 dL_law_401 dL_law_402 dL_law_403 dL_law_404 dL_law_407 dL_law_408 ?_
  refine q_callQi (As := [.int (xs (i + 1)), .long (lgv (xs (i + 2)) (xs (i + (2 + 1))))]) (rest := []) C S hl e1 rfl (M1 l (lA s)) (cwV 2 hts gL_X4_keep rfl rfl rfl (by decide +kernel) ⟨Nat.le_of_ble_eq_true rfl, Nat.le_of_ble_eq_true rfl⟩) rfl rfl (Nat.le_of_ble_eq_true rfl) ⟨by omega, by omega⟩ dL_law_409 (fun r1 f1 H1 locs1 hv1 S1 => ?_)
  obtain ⟨⟨fs2, e2⟩, P2, M2, K2⟩ := K1 r1 f1 hv1
  have hS := S1.2.2.2.2.2
  refine lv_aload_n hx hb dL_law_412 rfl (lv_at hl 2 rfl) ?_
  refine l_ld C0 hS h0 h3 1 (by decide) (by omega) hL dL_law_413 dL_law_414 dL_law_415 dL_law_416 dL_law_417 ?_
  refine l_lg C0 hS h0 h3 2 (by decide) (by decide) (by omega) hL dL_law_418 dL_law_419 dL_law_420 dL_law_421 dL_law_422 dL_law_423 dL_law_424 dL_law_426 dL_law_427 dL_law_428 dL_law_429 dL_law_430 dL_law_431 dL_law_432 dL_law_433 dL_law_436 dL_law_437 ?_
  refine q_callQi (As := [.int (xs (i + 1)), .long (lgv (xs (i + 2)) (xs (i + (2 + 1))))]) (rest := [.int r1]) C S1 hl e2 rfl (M2 l (lA s)) (cwV 2 hts gL_X5_keep rfl rfl rfl (by decide +kernel) ⟨Nat.le_of_ble_eq_true rfl, Nat.le_of_ble_eq_true rfl⟩) rfl rfl (Nat.le_of_ble_eq_true rfl) ⟨by omega, by omega⟩ dL_law_438 (fun r2 f2 H2 locs2 hv2 S2 => ?_)
  obtain ⟨er, W2⟩ := K2 r2 f2 hv2
  refine lv_icmp_eq (tgt := 681) hx hb dL_law_441 (by decide) (fun _ => ?_) (fun q => absurd er q)
  exact W.widen (by omega) (by omega) (kk f2 H2 locs2 S2 W2)
set_option maxRecDepth 20000 in
theorem law_label (hL : L ≤ 3072) (C0 : lw_At p s m meth c b L xs) (S : fw_S G (lA s) s f H locs) (W0 : WR G f hm hc t) (ht : t + 8 ≤ 6400) (hl : lv_has ls 4 [(0, .ref b), (1, .ref hc), (2, .ref hm), (3, .int (nI i))]) (hi : i + 6 ≤ L) (hR : cells + 8 ≤ room_1.cells ∧ slots + 519 ≤ room_1.slots) (kk : ∀ (f' : fw_F) (H' : Heap) (locs' : List Loc), fw_S G (lA s) s f' H' locs' → WR G f' hm hc (t + 8) → W p l e room_1 s m #[Value.ref b] below meth c H' locs' (cells + 8) (slots + 519) Q (F0 m 681 ls [])) : W p l e room_1 s m #[Value.ref b] below meth c H locs cells slots Q (F0 m 446 ls []) := by
  obtain ⟨hx, hb, hr, hml, hown, hts, hX, hbl, hlocks, hgv⟩ := id C0
  have C : CallFix p m c code 4 s #[Value.ref b] lw_tbl RL := ⟨hx, hb, hml, hown, hts⟩
  have h0 := lv_at hl 0 rfl
  have h3 := lv_at hl 3 rfl
  have hS := S.2.2.2.2.2
  obtain ⟨P1, M1, K1⟩ := (C_label W0)
  obtain ⟨fs1, e1⟩ := W_hc W0
  refine lv_aload_n hx hb dL_law_446 rfl (lv_at hl 1 rfl) ?_
  refine q_callQi (As := []) (rest := []) C S hl e1 rfl (M1 l (lA s)) (cwV 0 hts gL_X4_label rfl rfl rfl (by decide +kernel) ⟨Nat.le_of_ble_eq_true rfl, Nat.le_of_ble_eq_true rfl⟩) rfl rfl (Nat.le_of_ble_eq_true rfl) ⟨by omega, by omega⟩ dL_law_447 (fun r1 f1 H1 locs1 hv1 S1 => ?_)
  obtain ⟨⟨fs2, e2⟩, P2, M2, K2⟩ := K1 r1 f1 hv1
  have hS := S1.2.2.2.2.2
  refine lv_aload_n hx hb dL_law_450 rfl (lv_at hl 2 rfl) ?_
  refine q_callQi (As := []) (rest := [.int r1]) C S1 hl e2 rfl (M2 l (lA s)) (cwV 0 hts gL_X5_label rfl rfl rfl (by decide +kernel) ⟨Nat.le_of_ble_eq_true rfl, Nat.le_of_ble_eq_true rfl⟩) rfl rfl (Nat.le_of_ble_eq_true rfl) ⟨by omega, by omega⟩ dL_law_451 (fun r2 f2 H2 locs2 hv2 S2 => ?_)
  obtain ⟨er, W2⟩ := K2 r2 f2 hv2
  refine lv_icmp_eq (tgt := 681) hx hb dL_law_454 (by decide) (fun _ => ?_) (fun q => absurd er q)
  exact W.widen (by omega) (by omega) (kk f2 H2 locs2 S2 W2)
set_option maxRecDepth 20000 in
theorem law_way (hL : L ≤ 3072) (C0 : lw_At p s m meth c b L xs) (S : fw_S G (lA s) s f H locs) (W0 : WR G f hm hc t) (ht : t + 8 ≤ 6400) (hl : lv_has ls 4 [(0, .ref b), (1, .ref hc), (2, .ref hm), (3, .int (nI i))]) (hi : i + 6 ≤ L) (hR : cells + 8 ≤ room_1.cells ∧ slots + 519 ≤ room_1.slots) (kk : ∀ (f' : fw_F) (H' : Heap) (locs' : List Loc), fw_S G (lA s) s f' H' locs' → WR G f' hm hc (t + 8) → W p l e room_1 s m #[Value.ref b] below meth c H' locs' (cells + 8) (slots + 519) Q (F0 m 681 ls [])) : W p l e room_1 s m #[Value.ref b] below meth c H locs cells slots Q (F0 m 459 ls []) := by
  obtain ⟨hx, hb, hr, hml, hown, hts, hX, hbl, hlocks, hgv⟩ := id C0
  have C : CallFix p m c code 4 s #[Value.ref b] lw_tbl RL := ⟨hx, hb, hml, hown, hts⟩
  have h0 := lv_at hl 0 rfl
  have h3 := lv_at hl 3 rfl
  have hS := S.2.2.2.2.2
  obtain ⟨P1, M1, P2, M2, K2⟩ := (C_way W0 (xs (i + 1)) (xs (i + 2)))
  obtain ⟨fs1, e1⟩ := W_hc W0
  obtain ⟨fs2, e2⟩ := W_hm W0
  refine lv_aload_n hx hb dL_law_459 rfl (lv_at hl 1 rfl) ?_
  refine l_ld C0 hS h0 h3 1 (by decide) (by omega) hL dL_law_460 dL_law_461 dL_law_462 dL_law_463 dL_law_464 ?_
  refine l_ld C0 hS h0 h3 2 (by decide) (by omega) hL dL_law_465 dL_law_466 dL_law_467 dL_law_468 dL_law_469 ?_
  refine q_callSl (As := [.int (xs (i + 1)), .int (xs (i + 2))]) (rest := []) C S hl e1 rfl (M1 l (lA s)) (cwV 2 hts gL_X4_way rfl rfl rfl (by decide +kernel) ⟨Nat.le_of_ble_eq_true rfl, Nat.le_of_ble_eq_true rfl⟩) rfl rfl (Nat.le_of_ble_eq_true rfl) ⟨by omega, by omega⟩ dL_law_470 (fun r1 hv1 => ?_)
  refine lv_aload_n hx hb dL_law_473 rfl (lv_at hl 2 rfl) ?_
  refine l_ld C0 hS h0 h3 1 (by decide) (by omega) hL dL_law_474 dL_law_475 dL_law_476 dL_law_477 dL_law_478 ?_
  refine l_ld C0 hS h0 h3 2 (by decide) (by omega) hL dL_law_479 dL_law_480 dL_law_481 dL_law_482 dL_law_483 ?_
  refine q_callSl (As := [.int (xs (i + 1)), .int (xs (i + 2))]) (rest := [.long r1]) C S hl e2 rfl (M2 l (lA s)) (cwV 2 hts gL_X5_way rfl rfl rfl (by decide +kernel) ⟨Nat.le_of_ble_eq_true rfl, Nat.le_of_ble_eq_true rfl⟩) rfl rfl (Nat.le_of_ble_eq_true rfl) ⟨by omega, by omega⟩ dL_law_484 (fun r2 hv2 => ?_)
  have er := K2 r1 r2 hv1 hv2
  refine W.lcmp hx hb dL_law_487 ?_
  refine lv_if_eq (tgt := 681) hx hb dL_law_488 (by decide) (fun _ => ?_) (fun q => absurd (cmp_z er) q)
  exact W.widen (by omega) (by omega) (kk f H locs S (W_le W0 (by omega)))
set_option maxRecDepth 20000 in
theorem law_take (hL : L ≤ 3072) (C0 : lw_At p s m meth c b L xs) (S : fw_S G (lA s) s f H locs) (W0 : WR G f hm hc t) (ht : t + 8 ≤ 6400) (hl : lv_has ls 4 [(0, .ref b), (1, .ref hc), (2, .ref hm), (3, .int (nI i))]) (hi : i + 6 ≤ L) (hR : cells + 8 ≤ room_1.cells ∧ slots + 519 ≤ room_1.slots) (kk : ∀ (f' : fw_F) (H' : Heap) (locs' : List Loc), fw_S G (lA s) s f' H' locs' → WR G f' hm hc (t + 8) → W p l e room_1 s m #[Value.ref b] below meth c H' locs' (cells + 8) (slots + 519) Q (F0 m 681 ls [])) : W p l e room_1 s m #[Value.ref b] below meth c H locs cells slots Q (F0 m 493 ls []) := by
  obtain ⟨hx, hb, hr, hml, hown, hts, hX, hbl, hlocks, hgv⟩ := id C0
  have C : CallFix p m c code 4 s #[Value.ref b] lw_tbl RL := ⟨hx, hb, hml, hown, hts⟩
  have h0 := lv_at hl 0 rfl
  have h3 := lv_at hl 3 rfl
  have hS := S.2.2.2.2.2
  obtain ⟨P1, M1, K1⟩ := (C_take W0 (xs (i + 1)) ht)
  obtain ⟨fs1, e1⟩ := W_hc W0
  refine lv_aload_n hx hb dL_law_493 rfl (lv_at hl 1 rfl) ?_
  refine l_ld C0 hS h0 h3 1 (by decide) (by omega) hL dL_law_494 dL_law_495 dL_law_496 dL_law_497 dL_law_498 ?_
  refine q_callQi (As := [.int (xs (i + 1))]) (rest := []) C S hl e1 rfl (M1 l (lA s)) (cwV 1 hts gL_X4_take rfl rfl rfl (by decide +kernel) ⟨Nat.le_of_ble_eq_true rfl, Nat.le_of_ble_eq_true rfl⟩) rfl rfl (Nat.le_of_ble_eq_true rfl) ⟨by omega, by omega⟩ dL_law_499 (fun r1 f1 H1 locs1 hv1 S1 => ?_)
  obtain ⟨⟨fs2, e2⟩, P2, M2, K2⟩ := K1 r1 f1 hv1
  have hS := S1.2.2.2.2.2
  refine lv_aload_n hx hb dL_law_502 rfl (lv_at hl 2 rfl) ?_
  refine l_ld C0 hS h0 h3 1 (by decide) (by omega) hL dL_law_503 dL_law_504 dL_law_505 dL_law_506 dL_law_507 ?_
  refine q_callQi (As := [.int (xs (i + 1))]) (rest := [.int r1]) C S1 hl e2 rfl (M2 l (lA s)) (cwV 1 hts gL_X5_take rfl rfl rfl (by decide +kernel) ⟨Nat.le_of_ble_eq_true rfl, Nat.le_of_ble_eq_true rfl⟩) rfl rfl (Nat.le_of_ble_eq_true rfl) ⟨by omega, by omega⟩ dL_law_508 (fun r2 f2 H2 locs2 hv2 S2 => ?_)
  obtain ⟨er, W2⟩ := K2 r2 f2 hv2
  refine lv_icmp_eq (tgt := 681) hx hb dL_law_511 (by decide) (fun _ => ?_) (fun q => absurd er q)
  exact W.widen (by omega) (by omega) (kk f2 H2 locs2 S2 W2)
set_option maxRecDepth 20000 in
theorem law_mark (hL : L ≤ 3072) (C0 : lw_At p s m meth c b L xs) (S : fw_S G (lA s) s f H locs) (W0 : WR G f hm hc t) (ht : t + 8 ≤ 6400) (hl : lv_has ls 4 [(0, .ref b), (1, .ref hc), (2, .ref hm), (3, .int (nI i))]) (hi : i + 6 ≤ L) (hR : cells + 8 ≤ room_1.cells ∧ slots + 519 ≤ room_1.slots) (kk : ∀ (f' : fw_F) (H' : Heap) (locs' : List Loc), fw_S G (lA s) s f' H' locs' → WR G f' hm hc (t + 8) → W p l e room_1 s m #[Value.ref b] below meth c H' locs' (cells + 8) (slots + 519) Q (F0 m 681 ls [])) : W p l e room_1 s m #[Value.ref b] below meth c H locs cells slots Q (F0 m 516 ls []) := by
  obtain ⟨hx, hb, hr, hml, hown, hts, hX, hbl, hlocks, hgv⟩ := id C0
  have C : CallFix p m c code 4 s #[Value.ref b] lw_tbl RL := ⟨hx, hb, hml, hown, hts⟩
  have h0 := lv_at hl 0 rfl
  have h3 := lv_at hl 3 rfl
  have hS := S.2.2.2.2.2
  obtain ⟨P1, M1, K1⟩ := (C_mark W0)
  obtain ⟨fs1, e1⟩ := W_hc W0
  refine lv_aload_n hx hb dL_law_516 rfl (lv_at hl 1 rfl) ?_
  refine q_callQi (As := []) (rest := []) C S hl e1 rfl (M1 l (lA s)) (cwV 0 hts gL_X4_mark rfl rfl rfl (by decide +kernel) ⟨Nat.le_of_ble_eq_true rfl, Nat.le_of_ble_eq_true rfl⟩) rfl rfl (Nat.le_of_ble_eq_true rfl) ⟨by omega, by omega⟩ dL_law_517 (fun r1 f1 H1 locs1 hv1 S1 => ?_)
  obtain ⟨⟨fs2, e2⟩, P2, M2, K2⟩ := K1 r1 f1 hv1
  have hS := S1.2.2.2.2.2
  refine lv_aload_n hx hb dL_law_520 rfl (lv_at hl 2 rfl) ?_
  refine q_callQi (As := []) (rest := [.int r1]) C S1 hl e2 rfl (M2 l (lA s)) (cwV 0 hts gL_X5_mark rfl rfl rfl (by decide +kernel) ⟨Nat.le_of_ble_eq_true rfl, Nat.le_of_ble_eq_true rfl⟩) rfl rfl (Nat.le_of_ble_eq_true rfl) ⟨by omega, by omega⟩ dL_law_521 (fun r2 f2 H2 locs2 hv2 S2 => ?_)
  obtain ⟨er, W2⟩ := K2 r2 f2 hv2
  refine lv_icmp_eq (tgt := 681) hx hb dL_law_524 (by decide) (fun _ => ?_) (fun q => absurd er q)
  exact W.widen (by omega) (by omega) (kk f2 H2 locs2 S2 W2)
set_option maxRecDepth 20000 in
theorem law_back (hL : L ≤ 3072) (C0 : lw_At p s m meth c b L xs) (S : fw_S G (lA s) s f H locs) (W0 : WR G f hm hc t) (ht : t + 8 ≤ 6400) (hl : lv_has ls 4 [(0, .ref b), (1, .ref hc), (2, .ref hm), (3, .int (nI i))]) (hi : i + 6 ≤ L) (hR : cells + 8 ≤ room_1.cells ∧ slots + 519 ≤ room_1.slots) (kk : ∀ (f' : fw_F) (H' : Heap) (locs' : List Loc), fw_S G (lA s) s f' H' locs' → WR G f' hm hc (t + 8) → W p l e room_1 s m #[Value.ref b] below meth c H' locs' (cells + 8) (slots + 519) Q (F0 m 681 ls [])) : W p l e room_1 s m #[Value.ref b] below meth c H locs cells slots Q (F0 m 529 ls []) := by
  obtain ⟨hx, hb, hr, hml, hown, hts, hX, hbl, hlocks, hgv⟩ := id C0
  have C : CallFix p m c code 4 s #[Value.ref b] lw_tbl RL := ⟨hx, hb, hml, hown, hts⟩
  have h0 := lv_at hl 0 rfl
  have h3 := lv_at hl 3 rfl
  have hS := S.2.2.2.2.2
  obtain ⟨P1, M1, K1⟩ := (C_back W0)
  obtain ⟨fs1, e1⟩ := W_hc W0
  refine lv_aload_n hx hb dL_law_529 rfl (lv_at hl 1 rfl) ?_
  refine q_callQi (As := []) (rest := []) C S hl e1 rfl (M1 l (lA s)) (cwV 0 hts gL_X4_back rfl rfl rfl (by decide +kernel) ⟨Nat.le_of_ble_eq_true rfl, Nat.le_of_ble_eq_true rfl⟩) rfl rfl (Nat.le_of_ble_eq_true rfl) ⟨by omega, by omega⟩ dL_law_530 (fun r1 f1 H1 locs1 hv1 S1 => ?_)
  obtain ⟨⟨fs2, e2⟩, P2, M2, K2⟩ := K1 r1 f1 hv1
  have hS := S1.2.2.2.2.2
  refine lv_aload_n hx hb dL_law_533 rfl (lv_at hl 2 rfl) ?_
  refine q_callQi (As := []) (rest := [.int r1]) C S1 hl e2 rfl (M2 l (lA s)) (cwV 0 hts gL_X5_back rfl rfl rfl (by decide +kernel) ⟨Nat.le_of_ble_eq_true rfl, Nat.le_of_ble_eq_true rfl⟩) rfl rfl (Nat.le_of_ble_eq_true rfl) ⟨by omega, by omega⟩ dL_law_534 (fun r2 f2 H2 locs2 hv2 S2 => ?_)
  obtain ⟨er, W2⟩ := K2 r2 f2 hv2
  refine lv_icmp_eq (tgt := 681) hx hb dL_law_537 (by decide) (fun _ => ?_) (fun q => absurd er q)
  exact W.widen (by omega) (by omega) (kk f2 H2 locs2 S2 W2)
set_option maxRecDepth 20000 in
theorem law_about (hL : L ≤ 3072) (C0 : lw_At p s m meth c b L xs) (S : fw_S G (lA s) s f H locs) (W0 : WR G f hm hc t) (ht : t + 8 ≤ 6400) (hl : lv_has ls 4 [(0, .ref b), (1, .ref hc), (2, .ref hm), (3, .int (nI i))]) (hi : i + 6 ≤ L) (hR : cells + 8 ≤ room_1.cells ∧ slots + 519 ≤ room_1.slots) (kk : ∀ (f' : fw_F) (H' : Heap) (locs' : List Loc), fw_S G (lA s) s f' H' locs' → WR G f' hm hc (t + 8) → W p l e room_1 s m #[Value.ref b] below meth c H' locs' (cells + 8) (slots + 519) Q (F0 m 681 ls [])) : W p l e room_1 s m #[Value.ref b] below meth c H locs cells slots Q (F0 m 542 ls []) := by
  obtain ⟨hx, hb, hr, hml, hown, hts, hX, hbl, hlocks, hgv⟩ := id C0
  have C : CallFix p m c code 4 s #[Value.ref b] lw_tbl RL := ⟨hx, hb, hml, hown, hts⟩
  have h0 := lv_at hl 0 rfl
  have h3 := lv_at hl 3 rfl
  have hS := S.2.2.2.2.2
  obtain ⟨P1, M1, P2, M2, K2⟩ := (C_about W0 (xs (i + 1)) (xs (i + 2)))
  obtain ⟨fs1, e1⟩ := W_hc W0
  obtain ⟨fs2, e2⟩ := W_hm W0
  refine lv_aload_n hx hb dL_law_542 rfl (lv_at hl 1 rfl) ?_
  refine l_ld C0 hS h0 h3 1 (by decide) (by omega) hL dL_law_543 dL_law_544 dL_law_545 dL_law_546 dL_law_547 ?_
  refine l_ld C0 hS h0 h3 2 (by decide) (by omega) hL dL_law_548 dL_law_549 dL_law_550 dL_law_551 dL_law_552 ?_
  refine q_callSi (As := [.int (xs (i + 1)), .int (xs (i + 2))]) (rest := []) C S hl e1 rfl (M1 l (lA s)) (cwV 2 hts gL_X4_about rfl rfl rfl (by decide +kernel) ⟨Nat.le_of_ble_eq_true rfl, Nat.le_of_ble_eq_true rfl⟩) rfl rfl (Nat.le_of_ble_eq_true rfl) ⟨by omega, by omega⟩ dL_law_553 (fun r1 hv1 => ?_)
  refine lv_aload_n hx hb dL_law_556 rfl (lv_at hl 2 rfl) ?_
  refine l_ld C0 hS h0 h3 1 (by decide) (by omega) hL dL_law_557 dL_law_558 dL_law_559 dL_law_560 dL_law_561 ?_
  refine l_ld C0 hS h0 h3 2 (by decide) (by omega) hL dL_law_562 dL_law_563 dL_law_564 dL_law_565 dL_law_566 ?_
  refine q_callSi (As := [.int (xs (i + 1)), .int (xs (i + 2))]) (rest := [.int r1]) C S hl e2 rfl (M2 l (lA s)) (cwV 2 hts gL_X5_about rfl rfl rfl (by decide +kernel) ⟨Nat.le_of_ble_eq_true rfl, Nat.le_of_ble_eq_true rfl⟩) rfl rfl (Nat.le_of_ble_eq_true rfl) ⟨by omega, by omega⟩ dL_law_567 (fun r2 hv2 => ?_)
  have er := K2 r1 r2 hv1 hv2
  refine lv_icmp_eq (tgt := 681) hx hb dL_law_570 (by decide) (fun _ => ?_) (fun q => absurd er q)
  exact W.widen (by omega) (by omega) (kk f H locs S (W_le W0 (by omega)))
set_option maxRecDepth 20000 in
theorem law_bound (hL : L ≤ 3072) (C0 : lw_At p s m meth c b L xs) (S : fw_S G (lA s) s f H locs) (W0 : WR G f hm hc t) (ht : t + 8 ≤ 6400) (hl : lv_has ls 4 [(0, .ref b), (1, .ref hc), (2, .ref hm), (3, .int (nI i))]) (hi : i + 6 ≤ L) (hR : cells + 8 ≤ room_1.cells ∧ slots + 519 ≤ room_1.slots) (kk : ∀ (f' : fw_F) (H' : Heap) (locs' : List Loc), fw_S G (lA s) s f' H' locs' → WR G f' hm hc (t + 8) → W p l e room_1 s m #[Value.ref b] below meth c H' locs' (cells + 8) (slots + 519) Q (F0 m 681 ls [])) : W p l e room_1 s m #[Value.ref b] below meth c H locs cells slots Q (F0 m 575 ls []) := by
  obtain ⟨hx, hb, hr, hml, hown, hts, hX, hbl, hlocks, hgv⟩ := id C0
  have C : CallFix p m c code 4 s #[Value.ref b] lw_tbl RL := ⟨hx, hb, hml, hown, hts⟩
  have h0 := lv_at hl 0 rfl
  have h3 := lv_at hl 3 rfl
  have hS := S.2.2.2.2.2
  by_cases hz : xs (i + 2) = 0
  · obtain ⟨P1, M1, P2, M2, K2⟩ := (C_bound W0 (xs (i + 1)) false)
    obtain ⟨fs1, e1⟩ := W_hc W0
    obtain ⟨fs2, e2⟩ := W_hm W0
    refine lv_aload_n hx hb dL_law_575 rfl (lv_at hl 1 rfl) ?_
    refine l_ld C0 hS h0 h3 1 (by decide) (by omega) hL dL_law_576 dL_law_577 dL_law_578 dL_law_579 dL_law_580 ?_
    refine l_ld C0 hS h0 h3 2 (by decide) (by omega) hL dL_law_581 dL_law_582 dL_law_583 dL_law_584 dL_law_585 ?_
    refine lv_if_eq (tgt := 593) hx hb dL_law_586 (by decide) (fun _ => ?_) (fun q => absurd hz q)
    refine lv_iconst (v := bI false) hx hb dL_law_593 (by decide) ?_
    refine q_callSl (As := [.int (xs (i + 1)), .int (bI false)]) (rest := []) C S hl e1 rfl (M1 l (lA s)) (cwV 2 hts gL_X4_bound rfl rfl rfl (by decide +kernel) ⟨Nat.le_of_ble_eq_true rfl, Nat.le_of_ble_eq_true rfl⟩) rfl rfl (Nat.le_of_ble_eq_true rfl) ⟨by omega, by omega⟩ dL_law_594 (fun r1 hv1 => ?_)
    refine lv_aload_n hx hb dL_law_597 rfl (lv_at hl 2 rfl) ?_
    refine l_ld C0 hS h0 h3 1 (by decide) (by omega) hL dL_law_598 dL_law_599 dL_law_600 dL_law_601 dL_law_602 ?_
    refine l_ld C0 hS h0 h3 2 (by decide) (by omega) hL dL_law_603 dL_law_604 dL_law_605 dL_law_606 dL_law_607 ?_
    refine lv_if_eq (tgt := 615) hx hb dL_law_608 (by decide) (fun _ => ?_) (fun q => absurd hz q)
    refine lv_iconst (v := bI false) hx hb dL_law_615 (by decide) ?_
    refine q_callSl (As := [.int (xs (i + 1)), .int (bI false)]) (rest := [.long r1]) C S hl e2 rfl (M2 l (lA s)) (cwV 2 hts gL_X5_bound rfl rfl rfl (by decide +kernel) ⟨Nat.le_of_ble_eq_true rfl, Nat.le_of_ble_eq_true rfl⟩) rfl rfl (Nat.le_of_ble_eq_true rfl) ⟨by omega, by omega⟩ dL_law_616 (fun r2 hv2 => ?_)
    have er := K2 r1 r2 hv1 hv2
    refine W.lcmp hx hb dL_law_619 ?_
    refine lv_if_eq (tgt := 681) hx hb dL_law_620 (by decide) (fun _ => ?_) (fun q => absurd (cmp_z er) q)
    exact W.widen (by omega) (by omega) (kk f H locs S (W_le W0 (by omega)))
  · obtain ⟨P1, M1, P2, M2, K2⟩ := (C_bound W0 (xs (i + 1)) true)
    obtain ⟨fs1, e1⟩ := W_hc W0
    obtain ⟨fs2, e2⟩ := W_hm W0
    refine lv_aload_n hx hb dL_law_575 rfl (lv_at hl 1 rfl) ?_
    refine l_ld C0 hS h0 h3 1 (by decide) (by omega) hL dL_law_576 dL_law_577 dL_law_578 dL_law_579 dL_law_580 ?_
    refine l_ld C0 hS h0 h3 2 (by decide) (by omega) hL dL_law_581 dL_law_582 dL_law_583 dL_law_584 dL_law_585 ?_
    refine lv_if_eq (tgt := 593) hx hb dL_law_586 (by decide) (fun q => absurd q hz) (fun _ => ?_)
    refine lv_iconst (v := bI true) hx hb dL_law_589 (by decide) ?_
    refine lv_goto (tgt := 594) hx hb dL_law_590 (by decide) ?_
    refine q_callSl (As := [.int (xs (i + 1)), .int (bI true)]) (rest := []) C S hl e1 rfl (M1 l (lA s)) (cwV 2 hts gL_X4_bound rfl rfl rfl (by decide +kernel) ⟨Nat.le_of_ble_eq_true rfl, Nat.le_of_ble_eq_true rfl⟩) rfl rfl (Nat.le_of_ble_eq_true rfl) ⟨by omega, by omega⟩ dL_law_594 (fun r1 hv1 => ?_)
    refine lv_aload_n hx hb dL_law_597 rfl (lv_at hl 2 rfl) ?_
    refine l_ld C0 hS h0 h3 1 (by decide) (by omega) hL dL_law_598 dL_law_599 dL_law_600 dL_law_601 dL_law_602 ?_
    refine l_ld C0 hS h0 h3 2 (by decide) (by omega) hL dL_law_603 dL_law_604 dL_law_605 dL_law_606 dL_law_607 ?_
    refine lv_if_eq (tgt := 615) hx hb dL_law_608 (by decide) (fun q => absurd q hz) (fun _ => ?_)
    refine lv_iconst (v := bI true) hx hb dL_law_611 (by decide) ?_
    refine lv_goto (tgt := 616) hx hb dL_law_612 (by decide) ?_
    refine q_callSl (As := [.int (xs (i + 1)), .int (bI true)]) (rest := [.long r1]) C S hl e2 rfl (M2 l (lA s)) (cwV 2 hts gL_X5_bound rfl rfl rfl (by decide +kernel) ⟨Nat.le_of_ble_eq_true rfl, Nat.le_of_ble_eq_true rfl⟩) rfl rfl (Nat.le_of_ble_eq_true rfl) ⟨by omega, by omega⟩ dL_law_616 (fun r2 hv2 => ?_)
    have er := K2 r1 r2 hv1 hv2
    refine W.lcmp hx hb dL_law_619 ?_
    refine lv_if_eq (tgt := 681) hx hb dL_law_620 (by decide) (fun _ => ?_) (fun q => absurd (cmp_z er) q)
    exact W.widen (by omega) (by omega) (kk f H locs S (W_le W0 (by omega)))
set_option maxRecDepth 20000 in
theorem law_kept (hL : L ≤ 3072) (C0 : lw_At p s m meth c b L xs) (S : fw_S G (lA s) s f H locs) (W0 : WR G f hm hc t) (ht : t + 8 ≤ 6400) (hl : lv_has ls 4 [(0, .ref b), (1, .ref hc), (2, .ref hm), (3, .int (nI i))]) (hi : i + 6 ≤ L) (hR : cells + 8 ≤ room_1.cells ∧ slots + 519 ≤ room_1.slots) (kk : ∀ (f' : fw_F) (H' : Heap) (locs' : List Loc), fw_S G (lA s) s f' H' locs' → WR G f' hm hc (t + 8) → W p l e room_1 s m #[Value.ref b] below meth c H' locs' (cells + 8) (slots + 519) Q (F0 m 681 ls [])) : W p l e room_1 s m #[Value.ref b] below meth c H locs cells slots Q (F0 m 625 ls []) := by
  obtain ⟨hx, hb, hr, hml, hown, hts, hX, hbl, hlocks, hgv⟩ := id C0
  have C : CallFix p m c code 4 s #[Value.ref b] lw_tbl RL := ⟨hx, hb, hml, hown, hts⟩
  have h0 := lv_at hl 0 rfl
  have h3 := lv_at hl 3 rfl
  have hS := S.2.2.2.2.2
  obtain ⟨P1, M1, P2, M2, K2⟩ := (C_kept W0 (xs (i + 1)) (xs (i + 2)))
  obtain ⟨fs1, e1⟩ := W_hc W0
  obtain ⟨fs2, e2⟩ := W_hm W0
  refine lv_aload_n hx hb dL_law_625 rfl (lv_at hl 1 rfl) ?_
  refine l_ld C0 hS h0 h3 1 (by decide) (by omega) hL dL_law_626 dL_law_627 dL_law_628 dL_law_629 dL_law_630 ?_
  refine l_ld C0 hS h0 h3 2 (by decide) (by omega) hL dL_law_631 dL_law_632 dL_law_633 dL_law_634 dL_law_635 ?_
  refine q_callSi (As := [.int (xs (i + 1)), .int (xs (i + 2))]) (rest := []) C S hl e1 rfl (M1 l (lA s)) (cwV 2 hts gL_X4_kept rfl rfl rfl (by decide +kernel) ⟨Nat.le_of_ble_eq_true rfl, Nat.le_of_ble_eq_true rfl⟩) rfl rfl (Nat.le_of_ble_eq_true rfl) ⟨by omega, by omega⟩ dL_law_636 (fun r1 hv1 => ?_)
  refine lv_aload_n hx hb dL_law_639 rfl (lv_at hl 2 rfl) ?_
  refine l_ld C0 hS h0 h3 1 (by decide) (by omega) hL dL_law_640 dL_law_641 dL_law_642 dL_law_643 dL_law_644 ?_
  refine l_ld C0 hS h0 h3 2 (by decide) (by omega) hL dL_law_645 dL_law_646 dL_law_647 dL_law_648 dL_law_649 ?_
  refine q_callSi (As := [.int (xs (i + 1)), .int (xs (i + 2))]) (rest := [.int r1]) C S hl e2 rfl (M2 l (lA s)) (cwV 2 hts gL_X5_kept rfl rfl rfl (by decide +kernel) ⟨Nat.le_of_ble_eq_true rfl, Nat.le_of_ble_eq_true rfl⟩) rfl rfl (Nat.le_of_ble_eq_true rfl) ⟨by omega, by omega⟩ dL_law_650 (fun r2 hv2 => ?_)
  have er := K2 r1 r2 hv1 hv2
  refine lv_icmp_eq (tgt := 681) hx hb dL_law_653 (by decide) (fun _ => ?_) (fun q => absurd er q)
  exact W.widen (by omega) (by omega) (kk f H locs S (W_le W0 (by omega)))
set_option maxRecDepth 20000 in
theorem law_count (hL : L ≤ 3072) (C0 : lw_At p s m meth c b L xs) (S : fw_S G (lA s) s f H locs) (W0 : WR G f hm hc t) (ht : t + 8 ≤ 6400) (hl : lv_has ls 4 [(0, .ref b), (1, .ref hc), (2, .ref hm), (3, .int (nI i))]) (hi : i + 6 ≤ L) (hR : cells + 8 ≤ room_1.cells ∧ slots + 519 ≤ room_1.slots) (kk : ∀ (f' : fw_F) (H' : Heap) (locs' : List Loc), fw_S G (lA s) s f' H' locs' → WR G f' hm hc (t + 8) → W p l e room_1 s m #[Value.ref b] below meth c H' locs' (cells + 8) (slots + 519) Q (F0 m 681 ls [])) : W p l e room_1 s m #[Value.ref b] below meth c H locs cells slots Q (F0 m 658 ls []) := by
  obtain ⟨hx, hb, hr, hml, hown, hts, hX, hbl, hlocks, hgv⟩ := id C0
  have C : CallFix p m c code 4 s #[Value.ref b] lw_tbl RL := ⟨hx, hb, hml, hown, hts⟩
  have h0 := lv_at hl 0 rfl
  have h3 := lv_at hl 3 rfl
  have hS := S.2.2.2.2.2
  obtain ⟨P1, M1, P2, M2, K2⟩ := (C_count W0 (xs (i + 1)))
  obtain ⟨fs1, e1⟩ := W_hc W0
  obtain ⟨fs2, e2⟩ := W_hm W0
  refine lv_aload_n hx hb dL_law_658 rfl (lv_at hl 1 rfl) ?_
  refine l_ld C0 hS h0 h3 1 (by decide) (by omega) hL dL_law_659 dL_law_660 dL_law_661 dL_law_662 dL_law_663 ?_
  refine q_callSi (As := [.int (xs (i + 1))]) (rest := []) C S hl e1 rfl (M1 l (lA s)) (cwV 1 hts gL_X4_count rfl rfl rfl (by decide +kernel) ⟨Nat.le_of_ble_eq_true rfl, Nat.le_of_ble_eq_true rfl⟩) rfl rfl (Nat.le_of_ble_eq_true rfl) ⟨by omega, by omega⟩ dL_law_664 (fun r1 hv1 => ?_)
  refine lv_aload_n hx hb dL_law_667 rfl (lv_at hl 2 rfl) ?_
  refine l_ld C0 hS h0 h3 1 (by decide) (by omega) hL dL_law_668 dL_law_669 dL_law_670 dL_law_671 dL_law_672 ?_
  refine q_callSi (As := [.int (xs (i + 1))]) (rest := [.int r1]) C S hl e2 rfl (M2 l (lA s)) (cwV 1 hts gL_X5_count rfl rfl rfl (by decide +kernel) ⟨Nat.le_of_ble_eq_true rfl, Nat.le_of_ble_eq_true rfl⟩) rfl rfl (Nat.le_of_ble_eq_true rfl) ⟨by omega, by omega⟩ dL_law_673 (fun r2 hv2 => ?_)
  have er := K2 r1 r2 hv1 hv2
  refine lv_icmp_eq (tgt := 681) hx hb dL_law_676 (by decide) (fun _ => ?_) (fun q => absurd er q)
  exact W.widen (by omega) (by omega) (kk f H locs S (W_le W0 (by omega)))
end LAWC
