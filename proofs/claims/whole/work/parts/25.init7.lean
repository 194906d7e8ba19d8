noncomputable def f_init7 (mem : Mem) : Option Mem :=
  ob (f_X7_anew mem) fun m223 => wr m223 64 16 5 1 fun m232 => ob (f_X7_spells 1 3 5 0 m232) fun m238 => ob (f_X7_spells 2 1 4 0 m238) fun m246 => ob (f_X7_spells 6 1 4 5 m246) fun m255 => ob (f_X7_spells 3 1 6 5 m255) fun m264 => ob (f_X7_spells 4 5 0 0 m264) fun m272 => ob (f_X7_spells 1 2 5 0 m272) fun m280 => ob (f_X7_spells 6 5 4 0 m280) fun m289 => wr m289 65 16 0 6 fun m299 => ob (f_X7_comes 0 0 2 m299) fun m304 => ob (f_X7_comes 1 0 3 m304) fun m311 => ob (f_X7_comes 2 1 4 m311) fun m318 => ob (f_X7_comes 3 2 6 m318) fun m326 => ob (f_X7_comes 4 0 3 m326) fun m333 => ob (f_X7_comes 0 3 1 m333) fun m340 => ob (f_X7_laid m340) fun m344 => some m344
set_option maxRecDepth 100000 in
set_option maxHeartbeats 4000000 in
theorem tail7 {E : Ex} {κ : Kx} {ad : Nat → Nat} {sh sp d ce sl : Nat} (C : Cx E κ cX7_init RX7 1 none d) (hd : 2 ≤ d) (hce : Ce κ ce sl) {mem x : Mem} {n : Nat} {ad0 : Nat → Nat} (h : f_init7 mem = some x) (hP : QrN E κ n ad0 (LC sh sp ++ LM) x ce sl) (hA : Agr n ad0 ad) : Gw E κ 1 ce sl 222 [some (.ref (ad 62))] [] ad (LC sh sp ++ LM) mem := by
  unfold f_init7 at h
  refine g_aload_n (pc := 222) (i := 0) (x := ad 62) C dX7_init_222 rfl rfl ?_
  obtain ⟨m223, hcall223, h⟩ := ob_some h
  refine g_callV (pc := 223) C hce mi_X7_anew mv_X7_anew wm_X7_92 dX7_init_223 ok_X7 [] [] la_62 (by omega) rfl rfl (Nat.le_of_ble_eq_true rfl) (m_X7_anew (d := d - 1) (by omega)  hcall223) ?_
  show Gw E κ 1 ce sl 226 [some (.ref (ad 62))] [] ad (LC sh sp ++ LM) m223
  refine g_aload_n (pc := 226) (i := 0) (x := ad 62) C dX7_init_226 rfl rfl ?_
  refine g_get (pc := 227) (v := .ref (ad 64)) C ok_X7 8 (by decide) wf_X7_13 dX7_init_227 la_62 rfl ?_
  refine g_iconst (pc := 230) (v := 5) C dX7_init_230 rfl ?_
  refine g_iconst (pc := 231) (v := 1) C dX7_init_231 rfl ?_
  obtain ⟨m232, hm232, hi232, h⟩ := wr_some h
  refine g_iast (pc := 232) C dX7_init_232 la_64 hi232 ?_
  refine g_mem hm232 ?_
  refine g_aload_n (pc := 233) (i := 0) (x := ad 62) C dX7_init_233 rfl rfl ?_
  refine g_iconst (pc := 234) (v := 1) C dX7_init_234 rfl ?_
  refine g_iconst (pc := 235) (v := 3) C dX7_init_235 rfl ?_
  refine g_iconst (pc := 236) (v := 5) C dX7_init_236 rfl ?_
  refine g_iconst (pc := 237) (v := 0) C dX7_init_237 rfl ?_
  obtain ⟨m238, hcall238, h⟩ := ob_some h
  refine g_callV (pc := 238) C hce mi_X7_spells mv_X7_spells wm_X7_95 dX7_init_238 ok_X7 [.int 1, .int 3, .int 5, .int 0] [] la_62 (by omega) rfl rfl (Nat.le_of_ble_eq_true rfl) (m_X7_spells (d := d - 1) (by omega)  hcall238) ?_
  show Gw E κ 1 ce sl 241 [some (.ref (ad 62))] [] ad (LC sh sp ++ LM) m238
  refine g_aload_n (pc := 241) (i := 0) (x := ad 62) C dX7_init_241 rfl rfl ?_
  refine g_iconst (pc := 242) (v := 2) C dX7_init_242 rfl ?_
  refine g_iconst (pc := 243) (v := 1) C dX7_init_243 rfl ?_
  refine g_iconst (pc := 244) (v := 4) C dX7_init_244 rfl ?_
  refine g_iconst (pc := 245) (v := 0) C dX7_init_245 rfl ?_
  obtain ⟨m246, hcall246, h⟩ := ob_some h
  refine g_callV (pc := 246) C hce mi_X7_spells mv_X7_spells wm_X7_95 dX7_init_246 ok_X7 [.int 2, .int 1, .int 4, .int 0] [] la_62 (by omega) rfl rfl (Nat.le_of_ble_eq_true rfl) (m_X7_spells (d := d - 1) (by omega)  hcall246) ?_
  show Gw E κ 1 ce sl 249 [some (.ref (ad 62))] [] ad (LC sh sp ++ LM) m246
  refine g_aload_n (pc := 249) (i := 0) (x := ad 62) C dX7_init_249 rfl rfl ?_
  refine g_bipush (pc := 250) (v := 6) C dX7_init_250 rfl ?_
  refine g_iconst (pc := 252) (v := 1) C dX7_init_252 rfl ?_
  refine g_iconst (pc := 253) (v := 4) C dX7_init_253 rfl ?_
  refine g_iconst (pc := 254) (v := 5) C dX7_init_254 rfl ?_
  obtain ⟨m255, hcall255, h⟩ := ob_some h
  refine g_callV (pc := 255) C hce mi_X7_spells mv_X7_spells wm_X7_95 dX7_init_255 ok_X7 [.int 6, .int 1, .int 4, .int 5] [] la_62 (by omega) rfl rfl (Nat.le_of_ble_eq_true rfl) (m_X7_spells (d := d - 1) (by omega)  hcall255) ?_
  show Gw E κ 1 ce sl 258 [some (.ref (ad 62))] [] ad (LC sh sp ++ LM) m255
  refine g_aload_n (pc := 258) (i := 0) (x := ad 62) C dX7_init_258 rfl rfl ?_
  refine g_iconst (pc := 259) (v := 3) C dX7_init_259 rfl ?_
  refine g_iconst (pc := 260) (v := 1) C dX7_init_260 rfl ?_
  refine g_bipush (pc := 261) (v := 6) C dX7_init_261 rfl ?_
  refine g_iconst (pc := 263) (v := 5) C dX7_init_263 rfl ?_
  obtain ⟨m264, hcall264, h⟩ := ob_some h
  refine g_callV (pc := 264) C hce mi_X7_spells mv_X7_spells wm_X7_95 dX7_init_264 ok_X7 [.int 3, .int 1, .int 6, .int 5] [] la_62 (by omega) rfl rfl (Nat.le_of_ble_eq_true rfl) (m_X7_spells (d := d - 1) (by omega)  hcall264) ?_
  show Gw E κ 1 ce sl 267 [some (.ref (ad 62))] [] ad (LC sh sp ++ LM) m264
  refine g_aload_n (pc := 267) (i := 0) (x := ad 62) C dX7_init_267 rfl rfl ?_
  refine g_iconst (pc := 268) (v := 4) C dX7_init_268 rfl ?_
  refine g_iconst (pc := 269) (v := 5) C dX7_init_269 rfl ?_
  refine g_iconst (pc := 270) (v := 0) C dX7_init_270 rfl ?_
  refine g_iconst (pc := 271) (v := 0) C dX7_init_271 rfl ?_
  obtain ⟨m272, hcall272, h⟩ := ob_some h
  refine g_callV (pc := 272) C hce mi_X7_spells mv_X7_spells wm_X7_95 dX7_init_272 ok_X7 [.int 4, .int 5, .int 0, .int 0] [] la_62 (by omega) rfl rfl (Nat.le_of_ble_eq_true rfl) (m_X7_spells (d := d - 1) (by omega)  hcall272) ?_
  show Gw E κ 1 ce sl 275 [some (.ref (ad 62))] [] ad (LC sh sp ++ LM) m272
  refine g_aload_n (pc := 275) (i := 0) (x := ad 62) C dX7_init_275 rfl rfl ?_
  refine g_iconst (pc := 276) (v := 1) C dX7_init_276 rfl ?_
  refine g_iconst (pc := 277) (v := 2) C dX7_init_277 rfl ?_
  refine g_iconst (pc := 278) (v := 5) C dX7_init_278 rfl ?_
  refine g_iconst (pc := 279) (v := 0) C dX7_init_279 rfl ?_
  obtain ⟨m280, hcall280, h⟩ := ob_some h
  refine g_callV (pc := 280) C hce mi_X7_spells mv_X7_spells wm_X7_95 dX7_init_280 ok_X7 [.int 1, .int 2, .int 5, .int 0] [] la_62 (by omega) rfl rfl (Nat.le_of_ble_eq_true rfl) (m_X7_spells (d := d - 1) (by omega)  hcall280) ?_
  show Gw E κ 1 ce sl 283 [some (.ref (ad 62))] [] ad (LC sh sp ++ LM) m280
  refine g_aload_n (pc := 283) (i := 0) (x := ad 62) C dX7_init_283 rfl rfl ?_
  refine g_bipush (pc := 284) (v := 6) C dX7_init_284 rfl ?_
  refine g_iconst (pc := 286) (v := 5) C dX7_init_286 rfl ?_
  refine g_iconst (pc := 287) (v := 4) C dX7_init_287 rfl ?_
  refine g_iconst (pc := 288) (v := 0) C dX7_init_288 rfl ?_
  obtain ⟨m289, hcall289, h⟩ := ob_some h
  refine g_callV (pc := 289) C hce mi_X7_spells mv_X7_spells wm_X7_95 dX7_init_289 ok_X7 [.int 6, .int 5, .int 4, .int 0] [] la_62 (by omega) rfl rfl (Nat.le_of_ble_eq_true rfl) (m_X7_spells (d := d - 1) (by omega)  hcall289) ?_
  show Gw E κ 1 ce sl 292 [some (.ref (ad 62))] [] ad (LC sh sp ++ LM) m289
  refine g_aload_n (pc := 292) (i := 0) (x := ad 62) C dX7_init_292 rfl rfl ?_
  refine g_get (pc := 293) (v := .ref (ad 65)) C ok_X7 9 (by decide) wf_X7_16 dX7_init_293 la_62 rfl ?_
  refine g_iconst (pc := 296) (v := 0) C dX7_init_296 rfl ?_
  refine g_bipush (pc := 297) (v := 6) C dX7_init_297 rfl ?_
  obtain ⟨m299, hm299, hi299, h⟩ := wr_some h
  refine g_iast (pc := 299) C dX7_init_299 la_65 hi299 ?_
  refine g_mem hm299 ?_
  refine g_aload_n (pc := 300) (i := 0) (x := ad 62) C dX7_init_300 rfl rfl ?_
  refine g_iconst (pc := 301) (v := 0) C dX7_init_301 rfl ?_
  refine g_iconst (pc := 302) (v := 0) C dX7_init_302 rfl ?_
  refine g_iconst (pc := 303) (v := 2) C dX7_init_303 rfl ?_
  obtain ⟨m304, hcall304, h⟩ := ob_some h
  refine g_callV (pc := 304) C hce mi_X7_comes mv_X7_comes wm_X7_99 dX7_init_304 ok_X7 [.int 0, .int 0, .int 2] [] la_62 (by omega) rfl rfl (Nat.le_of_ble_eq_true rfl) (m_X7_comes (d := d - 1) (by omega)  hcall304) ?_
  show Gw E κ 1 ce sl 307 [some (.ref (ad 62))] [] ad (LC sh sp ++ LM) m304
  refine g_aload_n (pc := 307) (i := 0) (x := ad 62) C dX7_init_307 rfl rfl ?_
  refine g_iconst (pc := 308) (v := 1) C dX7_init_308 rfl ?_
  refine g_iconst (pc := 309) (v := 0) C dX7_init_309 rfl ?_
  refine g_iconst (pc := 310) (v := 3) C dX7_init_310 rfl ?_
  obtain ⟨m311, hcall311, h⟩ := ob_some h
  refine g_callV (pc := 311) C hce mi_X7_comes mv_X7_comes wm_X7_99 dX7_init_311 ok_X7 [.int 1, .int 0, .int 3] [] la_62 (by omega) rfl rfl (Nat.le_of_ble_eq_true rfl) (m_X7_comes (d := d - 1) (by omega)  hcall311) ?_
  show Gw E κ 1 ce sl 314 [some (.ref (ad 62))] [] ad (LC sh sp ++ LM) m311
  refine g_aload_n (pc := 314) (i := 0) (x := ad 62) C dX7_init_314 rfl rfl ?_
  refine g_iconst (pc := 315) (v := 2) C dX7_init_315 rfl ?_
  refine g_iconst (pc := 316) (v := 1) C dX7_init_316 rfl ?_
  refine g_iconst (pc := 317) (v := 4) C dX7_init_317 rfl ?_
  obtain ⟨m318, hcall318, h⟩ := ob_some h
  refine g_callV (pc := 318) C hce mi_X7_comes mv_X7_comes wm_X7_99 dX7_init_318 ok_X7 [.int 2, .int 1, .int 4] [] la_62 (by omega) rfl rfl (Nat.le_of_ble_eq_true rfl) (m_X7_comes (d := d - 1) (by omega)  hcall318) ?_
  show Gw E κ 1 ce sl 321 [some (.ref (ad 62))] [] ad (LC sh sp ++ LM) m318
  refine g_aload_n (pc := 321) (i := 0) (x := ad 62) C dX7_init_321 rfl rfl ?_
  refine g_iconst (pc := 322) (v := 3) C dX7_init_322 rfl ?_
  refine g_iconst (pc := 323) (v := 2) C dX7_init_323 rfl ?_
  refine g_bipush (pc := 324) (v := 6) C dX7_init_324 rfl ?_
  obtain ⟨m326, hcall326, h⟩ := ob_some h
  refine g_callV (pc := 326) C hce mi_X7_comes mv_X7_comes wm_X7_99 dX7_init_326 ok_X7 [.int 3, .int 2, .int 6] [] la_62 (by omega) rfl rfl (Nat.le_of_ble_eq_true rfl) (m_X7_comes (d := d - 1) (by omega)  hcall326) ?_
  show Gw E κ 1 ce sl 329 [some (.ref (ad 62))] [] ad (LC sh sp ++ LM) m326
  refine g_aload_n (pc := 329) (i := 0) (x := ad 62) C dX7_init_329 rfl rfl ?_
  refine g_iconst (pc := 330) (v := 4) C dX7_init_330 rfl ?_
  refine g_iconst (pc := 331) (v := 0) C dX7_init_331 rfl ?_
  refine g_iconst (pc := 332) (v := 3) C dX7_init_332 rfl ?_
  obtain ⟨m333, hcall333, h⟩ := ob_some h
  refine g_callV (pc := 333) C hce mi_X7_comes mv_X7_comes wm_X7_99 dX7_init_333 ok_X7 [.int 4, .int 0, .int 3] [] la_62 (by omega) rfl rfl (Nat.le_of_ble_eq_true rfl) (m_X7_comes (d := d - 1) (by omega)  hcall333) ?_
  show Gw E κ 1 ce sl 336 [some (.ref (ad 62))] [] ad (LC sh sp ++ LM) m333
  refine g_aload_n (pc := 336) (i := 0) (x := ad 62) C dX7_init_336 rfl rfl ?_
  refine g_iconst (pc := 337) (v := 0) C dX7_init_337 rfl ?_
  refine g_iconst (pc := 338) (v := 3) C dX7_init_338 rfl ?_
  refine g_iconst (pc := 339) (v := 1) C dX7_init_339 rfl ?_
  obtain ⟨m340, hcall340, h⟩ := ob_some h
  refine g_callV (pc := 340) C hce mi_X7_comes mv_X7_comes wm_X7_99 dX7_init_340 ok_X7 [.int 0, .int 3, .int 1] [] la_62 (by omega) rfl rfl (Nat.le_of_ble_eq_true rfl) (m_X7_comes (d := d - 1) (by omega)  hcall340) ?_
  show Gw E κ 1 ce sl 343 [some (.ref (ad 62))] [] ad (LC sh sp ++ LM) m340
  refine g_aload_n (pc := 343) (i := 0) (x := ad 62) C dX7_init_343 rfl rfl ?_
  obtain ⟨m344, hcall344, h⟩ := ob_some h
  refine g_callV (pc := 344) C hce mi_X7_laid mv_X7_laid wm_X7_103 dX7_init_344 ok_X7 [] [] la_62 (by omega) rfl rfl (Nat.le_of_ble_eq_true rfl) (m_X7_laid (d := d - 1) (by omega)  hcall344) ?_
  show Gw E κ 1 ce sl 347 [some (.ref (ad 62))] [] ad (LC sh sp ++ LM) m344
  cases h
  exact g_vretN (pc := 347) C hP hA dX7_init_347
def Y_28 : List Ent := [.inr (6, [some 1, some 17, some 3, some 31, some 35, some 39, some 44, some 52, some 56, some 60, some 61, none]), .inr (2, [some 2, none, none]), .inl (false, 200), .inr (5, [none, none, some 4, none, some 5, some 6, some 7, none, some 8, some 9, some 10, some 11, none, some 12, some 13]), .inl (true, 16), .inl (false, 8), .inl (false, 32), .inl (true, 8), .inl (false, 9), .inl (false, 9), .inl (false, 5), .inl (false, 28), .inl (false, 6), .inr (0, [some 14, some 15, some 16]), .inl (false, 16), .inl (false, 6), .inl (false, 6), .inr (5, [none, none, some 18, none, some 19, some 20, some 21, none, some 22, some 23, some 24, some 25, none, some 26, some 27]), .inl (true, 16), .inl (false, 8), .inl (false, 32), .inl (true, 8), .inl (false, 9), .inl (false, 9), .inl (false, 5), .inl (false, 28), .inl (false, 6), .inr (0, [some 28, some 29, some 30]), .inl (false, 16), .inl (false, 6), .inl (false, 6), .inr (0, [some 32, some 33, some 34]), .inl (false, 16), .inl (false, 6), .inl (false, 6), .inr (0, [some 36, some 37, some 38]), .inl (false, 16), .inl (false, 6), .inl (false, 6), .inr (3, [some 40, some 41, some 42, some 43]), .inl (false, 6), .inl (false, 6), .inl (true, 6), .inl (true, 6), .inr (4, [some 45, some 49, some 50, some 51, none, none]), .inr (0, [some 46, some 47, some 48]), .inl (false, 16), .inl (false, 6), .inl (false, 6), .inl (false, 8), .inl (false, 8), .inl (false, 16), .inr (1, [none, some 53, some 54, some 55, none]), .inl (false, 128), .inl (false, 48), .inl (false, 48), .inr (1, [none, some 57, some 58, some 59, none]), .inl (false, 32), .inl (false, 12), .inl (false, 12), .inl (false, 6), .inl (true, 6), .inr (7, [none, none, none, none, none, none, none, none, none, none, none, none, none, none, none, none, none, none, none, none, none, none, none, none, none, none, none, none, none, none, none, none, none, none, none, none, none, none, none, none, none, none, none, none, none])]
def Y_29 : List Ent := [.inr (6, [some 1, some 17, some 3, some 31, some 35, some 39, some 44, some 52, some 56, some 60, some 61, none]), .inr (2, [some 2, none, none]), .inl (false, 200), .inr (5, [none, none, some 4, none, some 5, some 6, some 7, none, some 8, some 9, some 10, some 11, none, some 12, some 13]), .inl (true, 16), .inl (false, 8), .inl (false, 32), .inl (true, 8), .inl (false, 9), .inl (false, 9), .inl (false, 5), .inl (false, 28), .inl (false, 6), .inr (0, [some 14, some 15, some 16]), .inl (false, 16), .inl (false, 6), .inl (false, 6), .inr (5, [none, none, some 18, none, some 19, some 20, some 21, none, some 22, some 23, some 24, some 25, none, some 26, some 27]), .inl (true, 16), .inl (false, 8), .inl (false, 32), .inl (true, 8), .inl (false, 9), .inl (false, 9), .inl (false, 5), .inl (false, 28), .inl (false, 6), .inr (0, [some 28, some 29, some 30]), .inl (false, 16), .inl (false, 6), .inl (false, 6), .inr (0, [some 32, some 33, some 34]), .inl (false, 16), .inl (false, 6), .inl (false, 6), .inr (0, [some 36, some 37, some 38]), .inl (false, 16), .inl (false, 6), .inl (false, 6), .inr (3, [some 40, some 41, some 42, some 43]), .inl (false, 6), .inl (false, 6), .inl (true, 6), .inl (true, 6), .inr (4, [some 45, some 49, some 50, some 51, none, none]), .inr (0, [some 46, some 47, some 48]), .inl (false, 16), .inl (false, 6), .inl (false, 6), .inl (false, 8), .inl (false, 8), .inl (false, 16), .inr (1, [none, some 53, some 54, some 55, none]), .inl (false, 128), .inl (false, 48), .inl (false, 48), .inr (1, [none, some 57, some 58, some 59, none]), .inl (false, 32), .inl (false, 12), .inl (false, 12), .inl (false, 6), .inl (true, 6), .inr (7, [none, some 63, none, none, none, none, none, none, some 64, some 65, some 66, some 67, some 68, some 69, none, none, none, none, none, some 70, some 71, some 72, some 73, some 74, some 75, some 76, some 77, some 78, some 79, some 80, some 81, none, none, some 82, some 83, some 84, some 85, some 86, none, none, none, some 87, some 88, none, some 89]), .inl (false, 200), .inl (false, 16), .inl (false, 16), .inl (false, 9), .inl (false, 36), .inl (false, 18), .inl (false, 4), .inl (false, 16), .inl (false, 9), .inl (false, 36), .inl (false, 6), .inl (false, 8), .inl (false, 8), .inl (false, 8), .inl (false, 28), .inl (false, 28), .inl (false, 6), .inl (false, 72), .inl (true, 72), .inl (false, 224), .inl (false, 144), .inl (false, 8), .inl (false, 8), .inl (false, 16), .inl (false, 6), .inl (true, 6), .inl (false, 56)]
set_option maxRecDepth 100000 in
set_option maxHeartbeats 4000000 in
theorem i_X7_62 {E : Ex} {a0 : Nat → Nat} {d : Nat} (hd : 2 ≤ d) {mem x : Mem} (hz : ∀ a, 62 ≤ a → mem a = fun _ => 0) (h : f_init7 mem = some x) : ClN E yX7_init cX7_init 1 d 27 1064 [.ref (a0 62)] 63 a0 Y_28 mem (LC 17 3 ++ LM) x := by
  refine ClN.of [some (.ref (a0 62))] (by decide +kernel) rfl rfl (Nat.le_of_ble_eq_true rfl) (fun κ C hI hce hP => ?_)
  have C : Cx E κ cX7_init RX7 1 none d := C
  have hA : Agr 63 a0 a0 := Agr.rf
  refine g_aload_n (pc := 0) (i := 0) (x := a0 62) C dX7_init_0 rfl rfl ?_
  refine g_objInit (pc := 1) C (by omega) wo_X7_1 wo_i wo_c dX7_init_1 (Nat.le_of_ble_eq_true rfl) ?_
  refine g_aload_n (pc := 4) (i := 0) (x := a0 62) C dX7_init_4 rfl rfl ?_
  refine g_sipush (pc := 5) (v := 200) C dX7_init_5 rfl ?_
  refine g_newA (pc := 8) (n := 63) (len := 200) C false rfl wa_I dX7_init_8 (by decide +kernel) (by decide +kernel) (hz _ (by decide)) (by decide) (by decide) (by decide) (hce.mono (by decide) (by decide)) (fun a1 h1 => ?_)
  rw [← h1 62 (by decide)]
  have hA := Agr.tr hA (by decide) h1
  refine g_putFR (pc := 10) (a := 62) (r := 63) (rs := [none, none, none, none, none, none, none, none, none, none, none, none, none, none, none, none, none, none, none, none, none, none, none, none, none, none, none, none, none, none, none, none, none, none, none, none, none, none, none, none, none, none, none, none, none]) C hI ok_X7 1 (by decide) wf_X7_7 dX7_init_10 rfl rfl rfl rfl (by decide) rfl (by decide +kernel) ?_
  refine g_aload_n (pc := 13) (i := 0) (x := a1 62) C dX7_init_13 rfl rfl ?_
  refine g_bipush (pc := 14) (v := 16) C dX7_init_14 rfl ?_
  refine g_newA (pc := 16) (n := 64) (len := 16) C false rfl wa_I dX7_init_16 (by decide +kernel) (by decide +kernel) (hz _ (by decide)) (by decide) (by decide) (by decide) (hce.mono (by decide) (by decide)) (fun a2 h2 => ?_)
  rw [← h2 62 (by decide)]
  have hA := Agr.tr hA (by decide) h2
  refine g_putFR (pc := 18) (a := 62) (r := 64) (rs := [none, some 63, none, none, none, none, none, none, none, none, none, none, none, none, none, none, none, none, none, none, none, none, none, none, none, none, none, none, none, none, none, none, none, none, none, none, none, none, none, none, none, none, none, none, none]) C hI ok_X7 8 (by decide) wf_X7_13 dX7_init_18 rfl rfl rfl rfl (by decide) rfl (by decide +kernel) ?_
  refine g_aload_n (pc := 21) (i := 0) (x := a2 62) C dX7_init_21 rfl rfl ?_
  refine g_bipush (pc := 22) (v := 16) C dX7_init_22 rfl ?_
  refine g_newA (pc := 24) (n := 65) (len := 16) C false rfl wa_I dX7_init_24 (by decide +kernel) (by decide +kernel) (hz _ (by decide)) (by decide) (by decide) (by decide) (hce.mono (by decide) (by decide)) (fun a3 h3 => ?_)
  rw [← h3 62 (by decide)]
  have hA := Agr.tr hA (by decide) h3
  refine g_putFR (pc := 26) (a := 62) (r := 65) (rs := [none, some 63, none, none, none, none, none, none, some 64, none, none, none, none, none, none, none, none, none, none, none, none, none, none, none, none, none, none, none, none, none, none, none, none, none, none, none, none, none, none, none, none, none, none, none, none]) C hI ok_X7 9 (by decide) wf_X7_16 dX7_init_26 rfl rfl rfl rfl (by decide) rfl (by decide +kernel) ?_
  refine g_aload_n (pc := 29) (i := 0) (x := a3 62) C dX7_init_29 rfl rfl ?_
  refine g_bipush (pc := 30) (v := 9) C dX7_init_30 rfl ?_
  refine g_newA (pc := 32) (n := 66) (len := 9) C false rfl wa_I dX7_init_32 (by decide +kernel) (by decide +kernel) (hz _ (by decide)) (by decide) (by decide) (by decide) (hce.mono (by decide) (by decide)) (fun a4 h4 => ?_)
  rw [← h4 62 (by decide)]
  have hA := Agr.tr hA (by decide) h4
  refine g_putFR (pc := 34) (a := 62) (r := 66) (rs := [none, some 63, none, none, none, none, none, none, some 64, some 65, none, none, none, none, none, none, none, none, none, none, none, none, none, none, none, none, none, none, none, none, none, none, none, none, none, none, none, none, none, none, none, none, none, none, none]) C hI ok_X7 10 (by decide) wf_X7_19 dX7_init_34 rfl rfl rfl rfl (by decide) rfl (by decide +kernel) ?_
  refine g_aload_n (pc := 37) (i := 0) (x := a4 62) C dX7_init_37 rfl rfl ?_
  refine g_bipush (pc := 38) (v := 36) C dX7_init_38 rfl ?_
  refine g_newA (pc := 40) (n := 67) (len := 36) C false rfl wa_I dX7_init_40 (by decide +kernel) (by decide +kernel) (hz _ (by decide)) (by decide) (by decide) (by decide) (hce.mono (by decide) (by decide)) (fun a5 h5 => ?_)
  rw [← h5 62 (by decide)]
  have hA := Agr.tr hA (by decide) h5
  refine g_putFR (pc := 42) (a := 62) (r := 67) (rs := [none, some 63, none, none, none, none, none, none, some 64, some 65, some 66, none, none, none, none, none, none, none, none, none, none, none, none, none, none, none, none, none, none, none, none, none, none, none, none, none, none, none, none, none, none, none, none, none, none]) C hI ok_X7 11 (by decide) wf_X7_22 dX7_init_42 rfl rfl rfl rfl (by decide) rfl (by decide +kernel) ?_
  refine g_aload_n (pc := 45) (i := 0) (x := a5 62) C dX7_init_45 rfl rfl ?_
  refine g_bipush (pc := 46) (v := 18) C dX7_init_46 rfl ?_
  refine g_newA (pc := 48) (n := 68) (len := 18) C false rfl wa_I dX7_init_48 (by decide +kernel) (by decide +kernel) (hz _ (by decide)) (by decide) (by decide) (by decide) (hce.mono (by decide) (by decide)) (fun a6 h6 => ?_)
  rw [← h6 62 (by decide)]
  have hA := Agr.tr hA (by decide) h6
  refine g_putFR (pc := 50) (a := 62) (r := 68) (rs := [none, some 63, none, none, none, none, none, none, some 64, some 65, some 66, some 67, none, none, none, none, none, none, none, none, none, none, none, none, none, none, none, none, none, none, none, none, none, none, none, none, none, none, none, none, none, none, none, none, none]) C hI ok_X7 12 (by decide) wf_X7_25 dX7_init_50 rfl rfl rfl rfl (by decide) rfl (by decide +kernel) ?_
  refine g_aload_n (pc := 53) (i := 0) (x := a6 62) C dX7_init_53 rfl rfl ?_
  refine g_iconst (pc := 54) (v := 4) C dX7_init_54 rfl ?_
  refine g_newA (pc := 55) (n := 69) (len := 4) C false rfl wa_I dX7_init_55 (by decide +kernel) (by decide +kernel) (hz _ (by decide)) (by decide) (by decide) (by decide) (hce.mono (by decide) (by decide)) (fun a7 h7 => ?_)
  rw [← h7 62 (by decide)]
  have hA := Agr.tr hA (by decide) h7
  refine g_putFR (pc := 57) (a := 62) (r := 69) (rs := [none, some 63, none, none, none, none, none, none, some 64, some 65, some 66, some 67, some 68, none, none, none, none, none, none, none, none, none, none, none, none, none, none, none, none, none, none, none, none, none, none, none, none, none, none, none, none, none, none, none, none]) C hI ok_X7 13 (by decide) wf_X7_28 dX7_init_57 rfl rfl rfl rfl (by decide) rfl (by decide +kernel) ?_
  refine g_aload_n (pc := 60) (i := 0) (x := a7 62) C dX7_init_60 rfl rfl ?_
  refine g_bipush (pc := 61) (v := 16) C dX7_init_61 rfl ?_
  refine g_newA (pc := 63) (n := 70) (len := 16) C false rfl wa_I dX7_init_63 (by decide +kernel) (by decide +kernel) (hz _ (by decide)) (by decide) (by decide) (by decide) (hce.mono (by decide) (by decide)) (fun a8 h8 => ?_)
  rw [← h8 62 (by decide)]
  have hA := Agr.tr hA (by decide) h8
  refine g_putFR (pc := 65) (a := 62) (r := 70) (rs := [none, some 63, none, none, none, none, none, none, some 64, some 65, some 66, some 67, some 68, some 69, none, none, none, none, none, none, none, none, none, none, none, none, none, none, none, none, none, none, none, none, none, none, none, none, none, none, none, none, none, none, none]) C hI ok_X7 19 (by decide) wf_X7_31 dX7_init_65 rfl rfl rfl rfl (by decide) rfl (by decide +kernel) ?_
  refine g_aload_n (pc := 68) (i := 0) (x := a8 62) C dX7_init_68 rfl rfl ?_
  refine g_bipush (pc := 69) (v := 9) C dX7_init_69 rfl ?_
  refine g_newA (pc := 71) (n := 71) (len := 9) C false rfl wa_I dX7_init_71 (by decide +kernel) (by decide +kernel) (hz _ (by decide)) (by decide) (by decide) (by decide) (hce.mono (by decide) (by decide)) (fun a9 h9 => ?_)
  rw [← h9 62 (by decide)]
  have hA := Agr.tr hA (by decide) h9
  refine g_putFR (pc := 73) (a := 62) (r := 71) (rs := [none, some 63, none, none, none, none, none, none, some 64, some 65, some 66, some 67, some 68, some 69, none, none, none, none, none, some 70, none, none, none, none, none, none, none, none, none, none, none, none, none, none, none, none, none, none, none, none, none, none, none, none, none]) C hI ok_X7 20 (by decide) wf_X7_34 dX7_init_73 rfl rfl rfl rfl (by decide) rfl (by decide +kernel) ?_
  refine g_aload_n (pc := 76) (i := 0) (x := a9 62) C dX7_init_76 rfl rfl ?_
  refine g_bipush (pc := 77) (v := 36) C dX7_init_77 rfl ?_
  refine g_newA (pc := 79) (n := 72) (len := 36) C false rfl wa_I dX7_init_79 (by decide +kernel) (by decide +kernel) (hz _ (by decide)) (by decide) (by decide) (by decide) (hce.mono (by decide) (by decide)) (fun a10 h10 => ?_)
  rw [← h10 62 (by decide)]
  have hA := Agr.tr hA (by decide) h10
  refine g_putFR (pc := 81) (a := 62) (r := 72) (rs := [none, some 63, none, none, none, none, none, none, some 64, some 65, some 66, some 67, some 68, some 69, none, none, none, none, none, some 70, some 71, none, none, none, none, none, none, none, none, none, none, none, none, none, none, none, none, none, none, none, none, none, none, none, none]) C hI ok_X7 21 (by decide) wf_X7_37 dX7_init_81 rfl rfl rfl rfl (by decide) rfl (by decide +kernel) ?_
  refine g_aload_n (pc := 84) (i := 0) (x := a10 62) C dX7_init_84 rfl rfl ?_
  refine g_bipush (pc := 85) (v := 6) C dX7_init_85 rfl ?_
  refine g_newA (pc := 87) (n := 73) (len := 6) C false rfl wa_I dX7_init_87 (by decide +kernel) (by decide +kernel) (hz _ (by decide)) (by decide) (by decide) (by decide) (hce.mono (by decide) (by decide)) (fun a11 h11 => ?_)
  rw [← h11 62 (by decide)]
  have hA := Agr.tr hA (by decide) h11
  refine g_putFR (pc := 89) (a := 62) (r := 73) (rs := [none, some 63, none, none, none, none, none, none, some 64, some 65, some 66, some 67, some 68, some 69, none, none, none, none, none, some 70, some 71, some 72, none, none, none, none, none, none, none, none, none, none, none, none, none, none, none, none, none, none, none, none, none, none, none]) C hI ok_X7 22 (by decide) wf_X7_40 dX7_init_89 rfl rfl rfl rfl (by decide) rfl (by decide +kernel) ?_
  refine g_aload_n (pc := 92) (i := 0) (x := a11 62) C dX7_init_92 rfl rfl ?_
  refine g_bipush (pc := 93) (v := 8) C dX7_init_93 rfl ?_
  refine g_newA (pc := 95) (n := 74) (len := 8) C false rfl wa_I dX7_init_95 (by decide +kernel) (by decide +kernel) (hz _ (by decide)) (by decide) (by decide) (by decide) (hce.mono (by decide) (by decide)) (fun a12 h12 => ?_)
  rw [← h12 62 (by decide)]
  have hA := Agr.tr hA (by decide) h12
  refine g_putFR (pc := 97) (a := 62) (r := 74) (rs := [none, some 63, none, none, none, none, none, none, some 64, some 65, some 66, some 67, some 68, some 69, none, none, none, none, none, some 70, some 71, some 72, some 73, none, none, none, none, none, none, none, none, none, none, none, none, none, none, none, none, none, none, none, none, none, none]) C hI ok_X7 23 (by decide) wf_X7_43 dX7_init_97 rfl rfl rfl rfl (by decide) rfl (by decide +kernel) ?_
  refine g_aload_n (pc := 100) (i := 0) (x := a12 62) C dX7_init_100 rfl rfl ?_
  refine g_bipush (pc := 101) (v := 8) C dX7_init_101 rfl ?_
  refine g_newA (pc := 103) (n := 75) (len := 8) C false rfl wa_I dX7_init_103 (by decide +kernel) (by decide +kernel) (hz _ (by decide)) (by decide) (by decide) (by decide) (hce.mono (by decide) (by decide)) (fun a13 h13 => ?_)
  rw [← h13 62 (by decide)]
  have hA := Agr.tr hA (by decide) h13
  refine g_putFR (pc := 105) (a := 62) (r := 75) (rs := [none, some 63, none, none, none, none, none, none, some 64, some 65, some 66, some 67, some 68, some 69, none, none, none, none, none, some 70, some 71, some 72, some 73, some 74, none, none, none, none, none, none, none, none, none, none, none, none, none, none, none, none, none, none, none, none, none]) C hI ok_X7 24 (by decide) wf_X7_46 dX7_init_105 rfl rfl rfl rfl (by decide) rfl (by decide +kernel) ?_
  refine g_aload_n (pc := 108) (i := 0) (x := a13 62) C dX7_init_108 rfl rfl ?_
  refine g_bipush (pc := 109) (v := 8) C dX7_init_109 rfl ?_
  refine g_newA (pc := 111) (n := 76) (len := 8) C false rfl wa_I dX7_init_111 (by decide +kernel) (by decide +kernel) (hz _ (by decide)) (by decide) (by decide) (by decide) (hce.mono (by decide) (by decide)) (fun a14 h14 => ?_)
  rw [← h14 62 (by decide)]
  have hA := Agr.tr hA (by decide) h14
  refine g_putFR (pc := 113) (a := 62) (r := 76) (rs := [none, some 63, none, none, none, none, none, none, some 64, some 65, some 66, some 67, some 68, some 69, none, none, none, none, none, some 70, some 71, some 72, some 73, some 74, some 75, none, none, none, none, none, none, none, none, none, none, none, none, none, none, none, none, none, none, none, none]) C hI ok_X7 25 (by decide) wf_X7_49 dX7_init_113 rfl rfl rfl rfl (by decide) rfl (by decide +kernel) ?_
  refine g_aload_n (pc := 116) (i := 0) (x := a14 62) C dX7_init_116 rfl rfl ?_
  refine g_bipush (pc := 117) (v := 28) C dX7_init_117 rfl ?_
  refine g_newA (pc := 119) (n := 77) (len := 28) C false rfl wa_I dX7_init_119 (by decide +kernel) (by decide +kernel) (hz _ (by decide)) (by decide) (by decide) (by decide) (hce.mono (by decide) (by decide)) (fun a15 h15 => ?_)
  rw [← h15 62 (by decide)]
  have hA := Agr.tr hA (by decide) h15
  refine g_putFR (pc := 121) (a := 62) (r := 77) (rs := [none, some 63, none, none, none, none, none, none, some 64, some 65, some 66, some 67, some 68, some 69, none, none, none, none, none, some 70, some 71, some 72, some 73, some 74, some 75, some 76, none, none, none, none, none, none, none, none, none, none, none, none, none, none, none, none, none, none, none]) C hI ok_X7 26 (by decide) wf_X7_52 dX7_init_121 rfl rfl rfl rfl (by decide) rfl (by decide +kernel) ?_
  refine g_aload_n (pc := 124) (i := 0) (x := a15 62) C dX7_init_124 rfl rfl ?_
  refine g_bipush (pc := 125) (v := 28) C dX7_init_125 rfl ?_
  refine g_newA (pc := 127) (n := 78) (len := 28) C false rfl wa_I dX7_init_127 (by decide +kernel) (by decide +kernel) (hz _ (by decide)) (by decide) (by decide) (by decide) (hce.mono (by decide) (by decide)) (fun a16 h16 => ?_)
  rw [← h16 62 (by decide)]
  have hA := Agr.tr hA (by decide) h16
  refine g_putFR (pc := 129) (a := 62) (r := 78) (rs := [none, some 63, none, none, none, none, none, none, some 64, some 65, some 66, some 67, some 68, some 69, none, none, none, none, none, some 70, some 71, some 72, some 73, some 74, some 75, some 76, some 77, none, none, none, none, none, none, none, none, none, none, none, none, none, none, none, none, none, none]) C hI ok_X7 27 (by decide) wf_X7_55 dX7_init_129 rfl rfl rfl rfl (by decide) rfl (by decide +kernel) ?_
  refine g_aload_n (pc := 132) (i := 0) (x := a16 62) C dX7_init_132 rfl rfl ?_
  refine g_bipush (pc := 133) (v := 6) C dX7_init_133 rfl ?_
  refine g_newA (pc := 135) (n := 79) (len := 6) C false rfl wa_I dX7_init_135 (by decide +kernel) (by decide +kernel) (hz _ (by decide)) (by decide) (by decide) (by decide) (hce.mono (by decide) (by decide)) (fun a17 h17 => ?_)
  rw [← h17 62 (by decide)]
  have hA := Agr.tr hA (by decide) h17
  refine g_putFR (pc := 137) (a := 62) (r := 79) (rs := [none, some 63, none, none, none, none, none, none, some 64, some 65, some 66, some 67, some 68, some 69, none, none, none, none, none, some 70, some 71, some 72, some 73, some 74, some 75, some 76, some 77, some 78, none, none, none, none, none, none, none, none, none, none, none, none, none, none, none, none, none]) C hI ok_X7 28 (by decide) wf_X7_58 dX7_init_137 rfl rfl rfl rfl (by decide) rfl (by decide +kernel) ?_
  refine g_aload_n (pc := 140) (i := 0) (x := a17 62) C dX7_init_140 rfl rfl ?_
  refine g_bipush (pc := 141) (v := 72) C dX7_init_141 rfl ?_
  refine g_newA (pc := 143) (n := 80) (len := 72) C false rfl wa_I dX7_init_143 (by decide +kernel) (by decide +kernel) (hz _ (by decide)) (by decide) (by decide) (by decide) (hce.mono (by decide) (by decide)) (fun a18 h18 => ?_)
  rw [← h18 62 (by decide)]
  have hA := Agr.tr hA (by decide) h18
  refine g_putFR (pc := 145) (a := 62) (r := 80) (rs := [none, some 63, none, none, none, none, none, none, some 64, some 65, some 66, some 67, some 68, some 69, none, none, none, none, none, some 70, some 71, some 72, some 73, some 74, some 75, some 76, some 77, some 78, some 79, none, none, none, none, none, none, none, none, none, none, none, none, none, none, none, none]) C hI ok_X7 29 (by decide) wf_X7_61 dX7_init_145 rfl rfl rfl rfl (by decide) rfl (by decide +kernel) ?_
  refine g_aload_n (pc := 148) (i := 0) (x := a18 62) C dX7_init_148 rfl rfl ?_
  refine g_bipush (pc := 149) (v := 72) C dX7_init_149 rfl ?_
  refine g_newA (pc := 151) (n := 81) (len := 72) C true rfl wa_Z dX7_init_151 (by decide +kernel) (by decide +kernel) (hz _ (by decide)) (by decide) (by decide) (by decide) (hce.mono (by decide) (by decide)) (fun a19 h19 => ?_)
  rw [← h19 62 (by decide)]
  have hA := Agr.tr hA (by decide) h19
  refine g_putFR (pc := 153) (a := 62) (r := 81) (rs := [none, some 63, none, none, none, none, none, none, some 64, some 65, some 66, some 67, some 68, some 69, none, none, none, none, none, some 70, some 71, some 72, some 73, some 74, some 75, some 76, some 77, some 78, some 79, some 80, none, none, none, none, none, none, none, none, none, none, none, none, none, none, none]) C hI ok_X7 30 (by decide) wf_X7_64 dX7_init_153 rfl rfl rfl rfl (by decide) rfl (by decide +kernel) ?_
  refine g_aload_n (pc := 156) (i := 0) (x := a19 62) C dX7_init_156 rfl rfl ?_
  refine g_sipush (pc := 157) (v := 224) C dX7_init_157 rfl ?_
  refine g_newA (pc := 160) (n := 82) (len := 224) C false rfl wa_I dX7_init_160 (by decide +kernel) (by decide +kernel) (hz _ (by decide)) (by decide) (by decide) (by decide) (hce.mono (by decide) (by decide)) (fun a20 h20 => ?_)
  rw [← h20 62 (by decide)]
  have hA := Agr.tr hA (by decide) h20
  refine g_putFR (pc := 162) (a := 62) (r := 82) (rs := [none, some 63, none, none, none, none, none, none, some 64, some 65, some 66, some 67, some 68, some 69, none, none, none, none, none, some 70, some 71, some 72, some 73, some 74, some 75, some 76, some 77, some 78, some 79, some 80, some 81, none, none, none, none, none, none, none, none, none, none, none, none, none, none]) C hI ok_X7 33 (by decide) wf_X7_68 dX7_init_162 rfl rfl rfl rfl (by decide) rfl (by decide +kernel) ?_
  refine g_aload_n (pc := 165) (i := 0) (x := a20 62) C dX7_init_165 rfl rfl ?_
  refine g_sipush (pc := 166) (v := 144) C dX7_init_166 rfl ?_
  refine g_newA (pc := 169) (n := 83) (len := 144) C false rfl wa_I dX7_init_169 (by decide +kernel) (by decide +kernel) (hz _ (by decide)) (by decide) (by decide) (by decide) (hce.mono (by decide) (by decide)) (fun a21 h21 => ?_)
  rw [← h21 62 (by decide)]
  have hA := Agr.tr hA (by decide) h21
  refine g_putFR (pc := 171) (a := 62) (r := 83) (rs := [none, some 63, none, none, none, none, none, none, some 64, some 65, some 66, some 67, some 68, some 69, none, none, none, none, none, some 70, some 71, some 72, some 73, some 74, some 75, some 76, some 77, some 78, some 79, some 80, some 81, none, none, some 82, none, none, none, none, none, none, none, none, none, none, none]) C hI ok_X7 34 (by decide) wf_X7_71 dX7_init_171 rfl rfl rfl rfl (by decide) rfl (by decide +kernel) ?_
  refine g_aload_n (pc := 174) (i := 0) (x := a21 62) C dX7_init_174 rfl rfl ?_
  refine g_bipush (pc := 175) (v := 8) C dX7_init_175 rfl ?_
  refine g_newA (pc := 177) (n := 84) (len := 8) C false rfl wa_I dX7_init_177 (by decide +kernel) (by decide +kernel) (hz _ (by decide)) (by decide) (by decide) (by decide) (hce.mono (by decide) (by decide)) (fun a22 h22 => ?_)
  rw [← h22 62 (by decide)]
  have hA := Agr.tr hA (by decide) h22
  refine g_putFR (pc := 179) (a := 62) (r := 84) (rs := [none, some 63, none, none, none, none, none, none, some 64, some 65, some 66, some 67, some 68, some 69, none, none, none, none, none, some 70, some 71, some 72, some 73, some 74, some 75, some 76, some 77, some 78, some 79, some 80, some 81, none, none, some 82, some 83, none, none, none, none, none, none, none, none, none, none]) C hI ok_X7 35 (by decide) wf_X7_74 dX7_init_179 rfl rfl rfl rfl (by decide) rfl (by decide +kernel) ?_
  refine g_aload_n (pc := 182) (i := 0) (x := a22 62) C dX7_init_182 rfl rfl ?_
  refine g_bipush (pc := 183) (v := 8) C dX7_init_183 rfl ?_
  refine g_newA (pc := 185) (n := 85) (len := 8) C false rfl wa_I dX7_init_185 (by decide +kernel) (by decide +kernel) (hz _ (by decide)) (by decide) (by decide) (by decide) (hce.mono (by decide) (by decide)) (fun a23 h23 => ?_)
  rw [← h23 62 (by decide)]
  have hA := Agr.tr hA (by decide) h23
  refine g_putFR (pc := 187) (a := 62) (r := 85) (rs := [none, some 63, none, none, none, none, none, none, some 64, some 65, some 66, some 67, some 68, some 69, none, none, none, none, none, some 70, some 71, some 72, some 73, some 74, some 75, some 76, some 77, some 78, some 79, some 80, some 81, none, none, some 82, some 83, some 84, none, none, none, none, none, none, none, none, none]) C hI ok_X7 36 (by decide) wf_X7_77 dX7_init_187 rfl rfl rfl rfl (by decide) rfl (by decide +kernel) ?_
  refine g_aload_n (pc := 190) (i := 0) (x := a23 62) C dX7_init_190 rfl rfl ?_
  refine g_bipush (pc := 191) (v := 16) C dX7_init_191 rfl ?_
  refine g_newA (pc := 193) (n := 86) (len := 16) C false rfl wa_I dX7_init_193 (by decide +kernel) (by decide +kernel) (hz _ (by decide)) (by decide) (by decide) (by decide) (hce.mono (by decide) (by decide)) (fun a24 h24 => ?_)
  rw [← h24 62 (by decide)]
  have hA := Agr.tr hA (by decide) h24
  refine g_putFR (pc := 195) (a := 62) (r := 86) (rs := [none, some 63, none, none, none, none, none, none, some 64, some 65, some 66, some 67, some 68, some 69, none, none, none, none, none, some 70, some 71, some 72, some 73, some 74, some 75, some 76, some 77, some 78, some 79, some 80, some 81, none, none, some 82, some 83, some 84, some 85, none, none, none, none, none, none, none, none]) C hI ok_X7 37 (by decide) wf_X7_80 dX7_init_195 rfl rfl rfl rfl (by decide) rfl (by decide +kernel) ?_
  refine g_aload_n (pc := 198) (i := 0) (x := a24 62) C dX7_init_198 rfl rfl ?_
  refine g_bipush (pc := 199) (v := 6) C dX7_init_199 rfl ?_
  refine g_newA (pc := 201) (n := 87) (len := 6) C false rfl wa_I dX7_init_201 (by decide +kernel) (by decide +kernel) (hz _ (by decide)) (by decide) (by decide) (by decide) (hce.mono (by decide) (by decide)) (fun a25 h25 => ?_)
  rw [← h25 62 (by decide)]
  have hA := Agr.tr hA (by decide) h25
  refine g_putFR (pc := 203) (a := 62) (r := 87) (rs := [none, some 63, none, none, none, none, none, none, some 64, some 65, some 66, some 67, some 68, some 69, none, none, none, none, none, some 70, some 71, some 72, some 73, some 74, some 75, some 76, some 77, some 78, some 79, some 80, some 81, none, none, some 82, some 83, some 84, some 85, some 86, none, none, none, none, none, none, none]) C hI ok_X7 41 (by decide) wf_X7_83 dX7_init_203 rfl rfl rfl rfl (by decide) rfl (by decide +kernel) ?_
  refine g_aload_n (pc := 206) (i := 0) (x := a25 62) C dX7_init_206 rfl rfl ?_
  refine g_bipush (pc := 207) (v := 6) C dX7_init_207 rfl ?_
  refine g_newA (pc := 209) (n := 88) (len := 6) C true rfl wa_Z dX7_init_209 (by decide +kernel) (by decide +kernel) (hz _ (by decide)) (by decide) (by decide) (by decide) (hce.mono (by decide) (by decide)) (fun a26 h26 => ?_)
  rw [← h26 62 (by decide)]
  have hA := Agr.tr hA (by decide) h26
  refine g_putFR (pc := 211) (a := 62) (r := 88) (rs := [none, some 63, none, none, none, none, none, none, some 64, some 65, some 66, some 67, some 68, some 69, none, none, none, none, none, some 70, some 71, some 72, some 73, some 74, some 75, some 76, some 77, some 78, some 79, some 80, some 81, none, none, some 82, some 83, some 84, some 85, some 86, none, none, none, some 87, none, none, none]) C hI ok_X7 42 (by decide) wf_X7_86 dX7_init_211 rfl rfl rfl rfl (by decide) rfl (by decide +kernel) ?_
  refine g_aload_n (pc := 214) (i := 0) (x := a26 62) C dX7_init_214 rfl rfl ?_
  refine g_bipush (pc := 215) (v := 56) C dX7_init_215 rfl ?_
  refine g_newA (pc := 217) (n := 89) (len := 56) C false rfl wa_I dX7_init_217 (by decide +kernel) (by decide +kernel) (hz _ (by decide)) (by decide) (by decide) (by decide) (hce.mono (by decide) (by decide)) (fun a27 h27 => ?_)
  rw [← h27 62 (by decide)]
  have hA := Agr.tr hA (by decide) h27
  refine g_putFR (pc := 219) (a := 62) (r := 89) (rs := [none, some 63, none, none, none, none, none, none, some 64, some 65, some 66, some 67, some 68, some 69, none, none, none, none, none, some 70, some 71, some 72, some 73, some 74, some 75, some 76, some 77, some 78, some 79, some 80, some 81, none, none, some 82, some 83, some 84, some 85, some 86, none, none, none, some 87, some 88, none, none]) C hI ok_X7 44 (by decide) wf_X7_89 dX7_init_219 rfl rfl rfl rfl (by decide) rfl (by decide +kernel) ?_
  refine g_lay (lay' := LC 17 3 ++ LM) (by decide +kernel) ?_
  exact tail7 C (by omega) (hce.mono (by decide) (by decide)) h hP hA
