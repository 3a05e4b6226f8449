/-! the cases *of* the law 0 to 8 -/
set_option maxRecDepth 20000 in
set_option maxHeartbeats 4000000 in
theorem dl_case_0 {G : dk_G} {O : dl_T} {p : Program} {l : Launch} {e : Env} {s : State} {m : MethodId} {args : Array Value} {below : List Frame} {meth : Method} {c : Code} {cells slots : Nat} {Q : State → Prop} {b Ls : Nat} {xs : Nat → Int32} (hD : dk_D G) (hl : l.stackTraces = false) (hri : dk_RI G) (hmi : dk_MI G) (hg : dl_G G O) (C : dw_C G O p s m args c cL_law 9 RL) (hX : va_X b Ls xs s s.heap) (hb : b < s.heap.size) (hbA : ¬ dl_A O b) (hLs : Ls ≤ 3072) (hRc : cells + 1 ≤ room_1.cells ∧ slots + 6 ≤ room_1.slots) {i k : Nat} (hi : i + 6 ≤ Ls) (hk : k < 512) {σ : dk_S} {fO : Nat → Int64} {fD : Nat → UInt64} (hI : dq_I k σ) (kk : ∀ (u : dk_S) (fO' : Nat → Int64) (fD' : Nat → UInt64), dq_I (k + 1) u → dw_W G O p l e room_1 s m args below meth c (cells + 1) (slots + 6) Q 2297 (dl_L G O b i) [] u fO' fD') : dw_W G O p l e room_1 s m args below meth c cells slots Q 192 (dl_L G O b i) [] σ fO fD := by
  refine dw_aload_n (i := 1) C dL_law_192 (n := 193) rfl rfl rfl ?_
  refine dw_aload_n (i := 0) C dL_law_193 (n := 194) rfl rfl rfl ?_
  refine dw_iload (i := 5) C dL_law_194 (n := 196) rfl rfl ?_
  refine dw_iconst (v := 1) C dL_law_196 (n := 197) rfl (by decide) ?_
  refine dw_iadd C dL_law_197 (n := 198) rfl ?_
  refine dw_sld C hX hb hbA (dl_in hi hLs (j := 1) (by decide) (by decide)) dL_law_198 (n := 199) rfl ?_
  refine dw_aload_n (i := 0) C dL_law_199 (n := 200) rfl rfl rfl ?_
  refine dw_iload (i := 5) C dL_law_200 (n := 202) rfl rfl ?_
  refine dw_iconst (v := 2) C dL_law_202 (n := 203) rfl (by decide) ?_
  refine dw_iadd C dL_law_203 (n := 204) rfl ?_
  refine dw_sld C hX hb hbA (dl_in hi hLs (j := 2) (by decide) (by decide)) dL_law_204 (n := 205) rfl ?_
  refine dw_aload_n (i := 0) C dL_law_205 (n := 206) rfl rfl rfl ?_
  refine dw_iload (i := 5) C dL_law_206 (n := 208) rfl rfl ?_
  refine dw_iconst (v := 3) C dL_law_208 (n := 209) rfl (by decide) ?_
  refine dw_iadd C dL_law_209 (n := 210) rfl ?_
  refine dw_sld C hX hb hbA (dl_in hi hLs (j := 3) (by decide) (by decide)) dL_law_210 (n := 211) rfl ?_
  refine dw_i2c C dL_law_211 (n := 212) rfl rfl ?_
  refine dw_aload_n (i := 3) C dL_law_212 (n := 213) rfl rfl rfl ?_
  have hz : dz_C k (wf_X8_dig (xs (nI i + 1).toNatClampNeg) (xs (nI i + 2).toNatClampNeg) (((xs (nI i + 3).toNatClampNeg).toUInt32 % 65536).toInt32)) (wf_X9_dig (xs (nI i + 1).toNatClampNeg) (xs (nI i + 2).toNatClampNeg) (((xs (nI i + 3).toNatClampNeg).toUInt32 % 65536).toInt32)) [(eIO, 1), (eIA, 2), (eIS, 3)] σ := dz_dig hI
  obtain ⟨K, X, hwK, hXt, hM⟩ := dl_both hz (by decide +kernel)
  refine dw_callW C [] (cw_L_dig hD hl hri hg hXt hwK) yw_L_dig dk_wm_L_134 rfl (by decide) hRc rfl (by decide) rfl dL_law_213 (n := 216) rfl (fun r σ' fO' fD' hp => ?_)
  have hm := hM Int32.toInt64 fD r σ' fO' fD' hp
  refine dw_istore (i := 6) (L' := [some (.ref b), some (dk_r G 0 40), some (dk_r G 4 60), some (.ref O.2.1), some (.ref O.2.2.1), some (.int (nI i)), some (.int r), none, none]) C dL_law_216 (n := 218) rfl (dk_nc_of rfl) (Nat.le_of_ble_eq_true rfl) rfl ?_
  refine dw_aload_n (i := 2) C dL_law_218 (n := 219) rfl rfl rfl ?_
  refine dw_aload_n (i := 0) C dL_law_219 (n := 220) rfl rfl rfl ?_
  refine dw_iload (i := 5) C dL_law_220 (n := 222) rfl rfl ?_
  refine dw_iconst (v := 1) C dL_law_222 (n := 223) rfl (by decide) ?_
  refine dw_iadd C dL_law_223 (n := 224) rfl ?_
  refine dw_sld C hX hb hbA (dl_in hi hLs (j := 1) (by decide) (by decide)) dL_law_224 (n := 225) rfl ?_
  refine dw_aload_n (i := 0) C dL_law_225 (n := 226) rfl rfl rfl ?_
  refine dw_iload (i := 5) C dL_law_226 (n := 228) rfl rfl ?_
  refine dw_iconst (v := 2) C dL_law_228 (n := 229) rfl (by decide) ?_
  refine dw_iadd C dL_law_229 (n := 230) rfl ?_
  refine dw_sld C hX hb hbA (dl_in hi hLs (j := 2) (by decide) (by decide)) dL_law_230 (n := 231) rfl ?_
  refine dw_aload_n (i := 0) C dL_law_231 (n := 232) rfl rfl rfl ?_
  refine dw_iload (i := 5) C dL_law_232 (n := 234) rfl rfl ?_
  refine dw_iconst (v := 3) C dL_law_234 (n := 235) rfl (by decide) ?_
  refine dw_iadd C dL_law_235 (n := 236) rfl ?_
  refine dw_sld C hX hb hbA (dl_in hi hLs (j := 3) (by decide) (by decide)) dL_law_236 (n := 237) rfl ?_
  refine dw_i2c C dL_law_237 (n := 238) rfl rfl ?_
  refine dw_callV C [] (cc_X9_dig hD hmi hm) yy_X9_dig dk_wm_L_139 rfl (by decide) hRc dk_sh60 rfl (hmi 60 (by decide) (by decide)) rfl (by decide) rfl dL_law_238 (n := 241) rfl (fun v u hv => ?_)
  obtain ⟨b1, rfl, hu, h0, hb1⟩ := hv
  refine dw_istore (i := 7) (L' := [some (.ref b), some (dk_r G 0 40), some (dk_r G 4 60), some (.ref O.2.1), some (.ref O.2.2.1), some (.int (nI i)), some (.int r), some (.int b1), none]) C dL_law_241 (n := 243) rfl (dk_nc_of rfl) (Nat.le_of_ble_eq_true rfl) rfl ?_
  refine dw_aload_n (i := 2) C dL_law_243 (n := 244) rfl rfl rfl ?_
  refine dw_callV C [] (cc_X9_thrown hD hmi (dl_thr h0)) yy_X9_thrown dk_wm_L_140 rfl (by decide) hRc dk_sh60 rfl (hmi 60 (by decide) (by decide)) rfl (by decide) rfl dL_law_244 (n := 247) rfl (fun v w hv => ?_)
  obtain ⟨x1, rfl, e1, e2⟩ := hv
  subst e2
  refine dw_iload (i := 6) C dL_law_247 (n := 249) rfl rfl ?_
  refine dw_icmp_eq (t := 254) C dL_law_249 (n := 252) rfl (by decide) (fun _ => ?_) (fun hc => absurd e1 hc)
  refine dw_iload (i := 6) C dL_law_254 (n := 256) rfl rfl ?_
  have hex : dw_W G O p l e room_1 s m args below meth c (cells + 1) (slots + 6) Q 271 [some (.ref b), some (dk_r G 0 40), some (dk_r G 4 60), some (.ref O.2.1), some (.ref O.2.2.1), some (.int (nI i)), some (.int r), some (.int b1), none] [] w fO' fD' := dw_goto (t := 2297) C dL_law_271 (by decide) (dw_sub (L0 := dl_L G O b i) ⟨rfl, rfl, rfl, rfl, rfl, rfl, trivial⟩ (kk w fO' fD' hu))
  refine dw_if_ne (t := 271) C dL_law_256 (n := 259) rfl (by decide) (fun _ => hex) (fun hc => ?_)
  refine dw_aload_n (i := 3) C dL_law_259 (n := 260) rfl rfl rfl ?_
  refine dw_iconst (v := 0) C dL_law_260 (n := 261) rfl (by decide) ?_
  refine dw_lald C dL_law_261 (n := 262) rfl ?_
  refine dw_iload (i := 7) C dL_law_262 (n := 264) rfl rfl ?_
  refine dw_i2l C dL_law_264 (n := 265) rfl ?_
  refine dw_lcmp C dL_law_265 (n := 266) rfl ?_
  exact dw_if_eq (t := 271) C dL_law_266 (n := 269) rfl (by decide) (fun _ => hex) (fun hn => absurd (dl_cmp0 (hb1 hc)) hn)
set_option maxRecDepth 20000 in
set_option maxHeartbeats 4000000 in
theorem dl_case_1 {G : dk_G} {O : dl_T} {p : Program} {l : Launch} {e : Env} {s : State} {m : MethodId} {args : Array Value} {below : List Frame} {meth : Method} {c : Code} {cells slots : Nat} {Q : State → Prop} {b Ls : Nat} {xs : Nat → Int32} (hD : dk_D G) (hl : l.stackTraces = false) (hri : dk_RI G) (hmi : dk_MI G) (hg : dl_G G O) (C : dw_C G O p s m args c cL_law 9 RL) (hX : va_X b Ls xs s s.heap) (hb : b < s.heap.size) (hbA : ¬ dl_A O b) (hLs : Ls ≤ 3072) (hRc : cells + 1 ≤ room_1.cells ∧ slots + 6 ≤ room_1.slots) {i k : Nat} (hi : i + 6 ≤ Ls) (hk : k < 512) {σ : dk_S} {fO : Nat → Int64} {fD : Nat → UInt64} (hI : dq_I k σ) (kk : ∀ (u : dk_S) (fO' : Nat → Int64) (fD' : Nat → UInt64), dq_I (k + 1) u → dw_W G O p l e room_1 s m args below meth c (cells + 1) (slots + 6) Q 2297 (dl_L G O b i) [] u fO' fD') : dw_W G O p l e room_1 s m args below meth c cells slots Q 274 (dl_L G O b i) [] σ fO fD := by
  refine dw_aload_n (i := 1) C dL_law_274 (n := 275) rfl rfl rfl ?_
  refine dw_aload_n (i := 0) C dL_law_275 (n := 276) rfl rfl rfl ?_
  refine dw_iload (i := 5) C dL_law_276 (n := 278) rfl rfl ?_
  refine dw_iconst (v := 1) C dL_law_278 (n := 279) rfl (by decide) ?_
  refine dw_iadd C dL_law_279 (n := 280) rfl ?_
  refine dw_sld C hX hb hbA (dl_in hi hLs (j := 1) (by decide) (by decide)) dL_law_280 (n := 281) rfl ?_
  refine dw_aload_n (i := 0) C dL_law_281 (n := 282) rfl rfl rfl ?_
  refine dw_iload (i := 5) C dL_law_282 (n := 284) rfl rfl ?_
  refine dw_iconst (v := 2) C dL_law_284 (n := 285) rfl (by decide) ?_
  refine dw_iadd C dL_law_285 (n := 286) rfl ?_
  refine dw_sld C hX hb hbA (dl_in hi hLs (j := 2) (by decide) (by decide)) dL_law_286 (n := 287) rfl ?_
  refine dw_aload_n (i := 0) C dL_law_287 (n := 288) rfl rfl rfl ?_
  refine dw_iload (i := 5) C dL_law_288 (n := 290) rfl rfl ?_
  refine dw_iconst (v := 3) C dL_law_290 (n := 291) rfl (by decide) ?_
  refine dw_iadd C dL_law_291 (n := 292) rfl ?_
  refine dw_sld C hX hb hbA (dl_in hi hLs (j := 3) (by decide) (by decide)) dL_law_292 (n := 293) rfl ?_
  refine dw_bool C dL_law_293 dL_law_296 dL_law_297 dL_law_300 (n := 301) (by decide) (by decide) rfl ?_
  refine dw_aload_n (i := 3) C dL_law_301 (n := 302) rfl rfl rfl ?_
  have hz : dz_C k (wf_X8_setKind (xs (nI i + 1).toNatClampNeg) (xs (nI i + 2).toNatClampNeg) (dl_b (xs (nI i + 3).toNatClampNeg))) (wf_X9_setKind (xs (nI i + 1).toNatClampNeg) (xs (nI i + 2).toNatClampNeg) (dl_b (xs (nI i + 3).toNatClampNeg))) [(eIA, 1), (eIS, 2)] σ := dz_setKind (dl_b01 _) hI
  obtain ⟨K, X, hwK, hXt, hM⟩ := dl_both hz (by decide +kernel)
  refine dw_callW C [] (cw_L_setKind hD hl hri hg hXt hwK) yw_L_setKind dk_wm_L_143 rfl (by decide) hRc rfl (by decide) rfl dL_law_302 (n := 305) rfl (fun r σ' fO' fD' hp => ?_)
  have hm := hM Int32.toInt64 fD r σ' fO' fD' hp
  refine dw_istore (i := 6) (L' := [some (.ref b), some (dk_r G 0 40), some (dk_r G 4 60), some (.ref O.2.1), some (.ref O.2.2.1), some (.int (nI i)), some (.int r), none, none]) C dL_law_305 (n := 307) rfl (dk_nc_of rfl) (Nat.le_of_ble_eq_true rfl) rfl ?_
  refine dw_aload_n (i := 2) C dL_law_307 (n := 308) rfl rfl rfl ?_
  refine dw_aload_n (i := 0) C dL_law_308 (n := 309) rfl rfl rfl ?_
  refine dw_iload (i := 5) C dL_law_309 (n := 311) rfl rfl ?_
  refine dw_iconst (v := 1) C dL_law_311 (n := 312) rfl (by decide) ?_
  refine dw_iadd C dL_law_312 (n := 313) rfl ?_
  refine dw_sld C hX hb hbA (dl_in hi hLs (j := 1) (by decide) (by decide)) dL_law_313 (n := 314) rfl ?_
  refine dw_aload_n (i := 0) C dL_law_314 (n := 315) rfl rfl rfl ?_
  refine dw_iload (i := 5) C dL_law_315 (n := 317) rfl rfl ?_
  refine dw_iconst (v := 2) C dL_law_317 (n := 318) rfl (by decide) ?_
  refine dw_iadd C dL_law_318 (n := 319) rfl ?_
  refine dw_sld C hX hb hbA (dl_in hi hLs (j := 2) (by decide) (by decide)) dL_law_319 (n := 320) rfl ?_
  refine dw_aload_n (i := 0) C dL_law_320 (n := 321) rfl rfl rfl ?_
  refine dw_iload (i := 5) C dL_law_321 (n := 323) rfl rfl ?_
  refine dw_iconst (v := 3) C dL_law_323 (n := 324) rfl (by decide) ?_
  refine dw_iadd C dL_law_324 (n := 325) rfl ?_
  refine dw_sld C hX hb hbA (dl_in hi hLs (j := 3) (by decide) (by decide)) dL_law_325 (n := 326) rfl ?_
  refine dw_bool C dL_law_326 dL_law_329 dL_law_330 dL_law_333 (n := 334) (by decide) (by decide) rfl ?_
  refine dw_callV C [] (cc_X9_setKind hD hmi hm) yy_X9_setKind dk_wm_L_146 rfl (by decide) hRc dk_sh60 rfl (hmi 60 (by decide) (by decide)) rfl (by decide) rfl dL_law_334 (n := 337) rfl (fun v u hv => ?_)
  obtain ⟨b1, rfl, hu, h0, hb1⟩ := hv
  refine dw_istore (i := 7) (L' := [some (.ref b), some (dk_r G 0 40), some (dk_r G 4 60), some (.ref O.2.1), some (.ref O.2.2.1), some (.int (nI i)), some (.int r), some (.int b1), none]) C dL_law_337 (n := 339) rfl (dk_nc_of rfl) (Nat.le_of_ble_eq_true rfl) rfl ?_
  refine dw_aload_n (i := 2) C dL_law_339 (n := 340) rfl rfl rfl ?_
  refine dw_callV C [] (cc_X9_thrown hD hmi (dl_thr h0)) yy_X9_thrown dk_wm_L_140 rfl (by decide) hRc dk_sh60 rfl (hmi 60 (by decide) (by decide)) rfl (by decide) rfl dL_law_340 (n := 343) rfl (fun v w hv => ?_)
  obtain ⟨x1, rfl, e1, e2⟩ := hv
  subst e2
  refine dw_iload (i := 6) C dL_law_343 (n := 345) rfl rfl ?_
  refine dw_icmp_eq (t := 350) C dL_law_345 (n := 348) rfl (by decide) (fun _ => ?_) (fun hc => absurd e1 hc)
  refine dw_iload (i := 6) C dL_law_350 (n := 352) rfl rfl ?_
  have hex : dw_W G O p l e room_1 s m args below meth c (cells + 1) (slots + 6) Q 367 [some (.ref b), some (dk_r G 0 40), some (dk_r G 4 60), some (.ref O.2.1), some (.ref O.2.2.1), some (.int (nI i)), some (.int r), some (.int b1), none] [] w fO' fD' := dw_goto (t := 2297) C dL_law_367 (by decide) (dw_sub (L0 := dl_L G O b i) ⟨rfl, rfl, rfl, rfl, rfl, rfl, trivial⟩ (kk w fO' fD' hu))
  refine dw_if_ne (t := 367) C dL_law_352 (n := 355) rfl (by decide) (fun _ => hex) (fun hc => ?_)
  refine dw_aload_n (i := 3) C dL_law_355 (n := 356) rfl rfl rfl ?_
  refine dw_iconst (v := 0) C dL_law_356 (n := 357) rfl (by decide) ?_
  refine dw_lald C dL_law_357 (n := 358) rfl ?_
  refine dw_iload (i := 7) C dL_law_358 (n := 360) rfl rfl ?_
  refine dw_i2l C dL_law_360 (n := 361) rfl ?_
  refine dw_lcmp C dL_law_361 (n := 362) rfl ?_
  exact dw_if_eq (t := 367) C dL_law_362 (n := 365) rfl (by decide) (fun _ => hex) (fun hn => absurd (dl_cmp0 (hb1 hc)) hn)
set_option maxRecDepth 20000 in
set_option maxHeartbeats 4000000 in
theorem dl_case_2 {G : dk_G} {O : dl_T} {p : Program} {l : Launch} {e : Env} {s : State} {m : MethodId} {args : Array Value} {below : List Frame} {meth : Method} {c : Code} {cells slots : Nat} {Q : State → Prop} {b Ls : Nat} {xs : Nat → Int32} (hD : dk_D G) (hl : l.stackTraces = false) (hri : dk_RI G) (hmi : dk_MI G) (hg : dl_G G O) (C : dw_C G O p s m args c cL_law 9 RL) (hX : va_X b Ls xs s s.heap) (hb : b < s.heap.size) (hbA : ¬ dl_A O b) (hLs : Ls ≤ 3072) (hRc : cells + 1 ≤ room_1.cells ∧ slots + 6 ≤ room_1.slots) {i k : Nat} (hi : i + 6 ≤ Ls) (hk : k < 512) {σ : dk_S} {fO : Nat → Int64} {fD : Nat → UInt64} (hI : dq_I k σ) (kk : ∀ (u : dk_S) (fO' : Nat → Int64) (fD' : Nat → UInt64), dq_I (k + 1) u → dw_W G O p l e room_1 s m args below meth c (cells + 1) (slots + 6) Q 2297 (dl_L G O b i) [] u fO' fD') : dw_W G O p l e room_1 s m args below meth c cells slots Q 370 (dl_L G O b i) [] σ fO fD := by
  refine dw_aload_n (i := 1) C dL_law_370 (n := 371) rfl rfl rfl ?_
  refine dw_aload_n (i := 0) C dL_law_371 (n := 372) rfl rfl rfl ?_
  refine dw_iload (i := 5) C dL_law_372 (n := 374) rfl rfl ?_
  refine dw_iconst (v := 1) C dL_law_374 (n := 375) rfl (by decide) ?_
  refine dw_iadd C dL_law_375 (n := 376) rfl ?_
  refine dw_sld C hX hb hbA (dl_in hi hLs (j := 1) (by decide) (by decide)) dL_law_376 (n := 377) rfl ?_
  refine dw_aload_n (i := 0) C dL_law_377 (n := 378) rfl rfl rfl ?_
  refine dw_iload (i := 5) C dL_law_378 (n := 380) rfl rfl ?_
  refine dw_iconst (v := 2) C dL_law_380 (n := 381) rfl (by decide) ?_
  refine dw_iadd C dL_law_381 (n := 382) rfl ?_
  refine dw_sld C hX hb hbA (dl_in hi hLs (j := 2) (by decide) (by decide)) dL_law_382 (n := 383) rfl ?_
  refine dw_i2c C dL_law_383 (n := 384) rfl rfl ?_
  refine dw_aload_n (i := 0) C dL_law_384 (n := 385) rfl rfl rfl ?_
  refine dw_iload (i := 5) C dL_law_385 (n := 387) rfl rfl ?_
  refine dw_iconst (v := 3) C dL_law_387 (n := 388) rfl (by decide) ?_
  refine dw_iadd C dL_law_388 (n := 389) rfl ?_
  refine dw_sld C hX hb hbA (dl_in hi hLs (j := 3) (by decide) (by decide)) dL_law_389 (n := 390) rfl ?_
  refine dw_aload_n (i := 0) C dL_law_390 (n := 391) rfl rfl rfl ?_
  refine dw_iload (i := 5) C dL_law_391 (n := 393) rfl rfl ?_
  refine dw_iconst (v := 4) C dL_law_393 (n := 394) rfl (by decide) ?_
  refine dw_iadd C dL_law_394 (n := 395) rfl ?_
  refine dw_sld C hX hb hbA (dl_in hi hLs (j := 4) (by decide) (by decide)) dL_law_395 (n := 396) rfl ?_
  refine dw_aload_n (i := 3) C dL_law_396 (n := 397) rfl rfl rfl ?_
  have hz : dz_C k (wf_X8_setEffect (xs (nI i + 1).toNatClampNeg) (((xs (nI i + 2).toNatClampNeg).toUInt32 % 65536).toInt32) (xs (nI i + 3).toNatClampNeg) (xs (nI i + 4).toNatClampNeg)) (wf_X9_setEffect (xs (nI i + 1).toNatClampNeg) (((xs (nI i + 2).toNatClampNeg).toUInt32 % 65536).toInt32) (xs (nI i + 3).toNatClampNeg) (xs (nI i + 4).toNatClampNeg)) [(eIA, 1), (eIS, 2)] σ := dz_setEffect hI
  obtain ⟨K, X, hwK, hXt, hM⟩ := dl_both hz (by decide +kernel)
  refine dw_callW C [] (cw_L_setEffect hD hl hri hg hXt hwK) yw_L_setEffect dk_wm_L_147 rfl (by decide) hRc rfl (by decide) rfl dL_law_397 (n := 400) rfl (fun r σ' fO' fD' hp => ?_)
  have hm := hM Int32.toInt64 fD r σ' fO' fD' hp
  refine dw_istore (i := 6) (L' := [some (.ref b), some (dk_r G 0 40), some (dk_r G 4 60), some (.ref O.2.1), some (.ref O.2.2.1), some (.int (nI i)), some (.int r), none, none]) C dL_law_400 (n := 402) rfl (dk_nc_of rfl) (Nat.le_of_ble_eq_true rfl) rfl ?_
  refine dw_aload_n (i := 2) C dL_law_402 (n := 403) rfl rfl rfl ?_
  refine dw_aload_n (i := 0) C dL_law_403 (n := 404) rfl rfl rfl ?_
  refine dw_iload (i := 5) C dL_law_404 (n := 406) rfl rfl ?_
  refine dw_iconst (v := 1) C dL_law_406 (n := 407) rfl (by decide) ?_
  refine dw_iadd C dL_law_407 (n := 408) rfl ?_
  refine dw_sld C hX hb hbA (dl_in hi hLs (j := 1) (by decide) (by decide)) dL_law_408 (n := 409) rfl ?_
  refine dw_aload_n (i := 0) C dL_law_409 (n := 410) rfl rfl rfl ?_
  refine dw_iload (i := 5) C dL_law_410 (n := 412) rfl rfl ?_
  refine dw_iconst (v := 2) C dL_law_412 (n := 413) rfl (by decide) ?_
  refine dw_iadd C dL_law_413 (n := 414) rfl ?_
  refine dw_sld C hX hb hbA (dl_in hi hLs (j := 2) (by decide) (by decide)) dL_law_414 (n := 415) rfl ?_
  refine dw_i2c C dL_law_415 (n := 416) rfl rfl ?_
  refine dw_aload_n (i := 0) C dL_law_416 (n := 417) rfl rfl rfl ?_
  refine dw_iload (i := 5) C dL_law_417 (n := 419) rfl rfl ?_
  refine dw_iconst (v := 3) C dL_law_419 (n := 420) rfl (by decide) ?_
  refine dw_iadd C dL_law_420 (n := 421) rfl ?_
  refine dw_sld C hX hb hbA (dl_in hi hLs (j := 3) (by decide) (by decide)) dL_law_421 (n := 422) rfl ?_
  refine dw_aload_n (i := 0) C dL_law_422 (n := 423) rfl rfl rfl ?_
  refine dw_iload (i := 5) C dL_law_423 (n := 425) rfl rfl ?_
  refine dw_iconst (v := 4) C dL_law_425 (n := 426) rfl (by decide) ?_
  refine dw_iadd C dL_law_426 (n := 427) rfl ?_
  refine dw_sld C hX hb hbA (dl_in hi hLs (j := 4) (by decide) (by decide)) dL_law_427 (n := 428) rfl ?_
  refine dw_callV C [] (cc_X9_setEffect hD hmi hm) yy_X9_setEffect dk_wm_L_150 rfl (by decide) hRc dk_sh60 rfl (hmi 60 (by decide) (by decide)) rfl (by decide) rfl dL_law_428 (n := 431) rfl (fun v u hv => ?_)
  obtain ⟨b1, rfl, hu, h0, hb1⟩ := hv
  refine dw_istore (i := 7) (L' := [some (.ref b), some (dk_r G 0 40), some (dk_r G 4 60), some (.ref O.2.1), some (.ref O.2.2.1), some (.int (nI i)), some (.int r), some (.int b1), none]) C dL_law_431 (n := 433) rfl (dk_nc_of rfl) (Nat.le_of_ble_eq_true rfl) rfl ?_
  refine dw_aload_n (i := 2) C dL_law_433 (n := 434) rfl rfl rfl ?_
  refine dw_callV C [] (cc_X9_thrown hD hmi (dl_thr h0)) yy_X9_thrown dk_wm_L_140 rfl (by decide) hRc dk_sh60 rfl (hmi 60 (by decide) (by decide)) rfl (by decide) rfl dL_law_434 (n := 437) rfl (fun v w hv => ?_)
  obtain ⟨x1, rfl, e1, e2⟩ := hv
  subst e2
  refine dw_iload (i := 6) C dL_law_437 (n := 439) rfl rfl ?_
  refine dw_icmp_eq (t := 444) C dL_law_439 (n := 442) rfl (by decide) (fun _ => ?_) (fun hc => absurd e1 hc)
  refine dw_iload (i := 6) C dL_law_444 (n := 446) rfl rfl ?_
  have hex : dw_W G O p l e room_1 s m args below meth c (cells + 1) (slots + 6) Q 461 [some (.ref b), some (dk_r G 0 40), some (dk_r G 4 60), some (.ref O.2.1), some (.ref O.2.2.1), some (.int (nI i)), some (.int r), some (.int b1), none] [] w fO' fD' := dw_goto (t := 2297) C dL_law_461 (by decide) (dw_sub (L0 := dl_L G O b i) ⟨rfl, rfl, rfl, rfl, rfl, rfl, trivial⟩ (kk w fO' fD' hu))
  refine dw_if_ne (t := 461) C dL_law_446 (n := 449) rfl (by decide) (fun _ => hex) (fun hc => ?_)
  refine dw_aload_n (i := 3) C dL_law_449 (n := 450) rfl rfl rfl ?_
  refine dw_iconst (v := 0) C dL_law_450 (n := 451) rfl (by decide) ?_
  refine dw_lald C dL_law_451 (n := 452) rfl ?_
  refine dw_iload (i := 7) C dL_law_452 (n := 454) rfl rfl ?_
  refine dw_i2l C dL_law_454 (n := 455) rfl ?_
  refine dw_lcmp C dL_law_455 (n := 456) rfl ?_
  exact dw_if_eq (t := 461) C dL_law_456 (n := 459) rfl (by decide) (fun _ => hex) (fun hn => absurd (dl_cmp0 (hb1 hc)) hn)
set_option maxRecDepth 20000 in
set_option maxHeartbeats 4000000 in
theorem dl_case_3 {G : dk_G} {O : dl_T} {p : Program} {l : Launch} {e : Env} {s : State} {m : MethodId} {args : Array Value} {below : List Frame} {meth : Method} {c : Code} {cells slots : Nat} {Q : State → Prop} {b Ls : Nat} {xs : Nat → Int32} (hD : dk_D G) (hl : l.stackTraces = false) (hri : dk_RI G) (hmi : dk_MI G) (hg : dl_G G O) (C : dw_C G O p s m args c cL_law 9 RL) (hX : va_X b Ls xs s s.heap) (hb : b < s.heap.size) (hbA : ¬ dl_A O b) (hLs : Ls ≤ 3072) (hRc : cells + 1 ≤ room_1.cells ∧ slots + 6 ≤ room_1.slots) {i k : Nat} (hi : i + 6 ≤ Ls) (hk : k < 512) {σ : dk_S} {fO : Nat → Int64} {fD : Nat → UInt64} (hI : dq_I k σ) (kk : ∀ (u : dk_S) (fO' : Nat → Int64) (fD' : Nat → UInt64), dq_I (k + 1) u → dw_W G O p l e room_1 s m args below meth c (cells + 1) (slots + 6) Q 2297 (dl_L G O b i) [] u fO' fD') : dw_W G O p l e room_1 s m args below meth c cells slots Q 464 (dl_L G O b i) [] σ fO fD := by
  refine dw_aload_n (i := 1) C dL_law_464 (n := 465) rfl rfl rfl ?_
  refine dw_aload_n (i := 0) C dL_law_465 (n := 466) rfl rfl rfl ?_
  refine dw_iload (i := 5) C dL_law_466 (n := 468) rfl rfl ?_
  refine dw_iconst (v := 1) C dL_law_468 (n := 469) rfl (by decide) ?_
  refine dw_iadd C dL_law_469 (n := 470) rfl ?_
  refine dw_sld C hX hb hbA (dl_in hi hLs (j := 1) (by decide) (by decide)) dL_law_470 (n := 471) rfl ?_
  refine dw_aload_n (i := 0) C dL_law_471 (n := 472) rfl rfl rfl ?_
  refine dw_iload (i := 5) C dL_law_472 (n := 474) rfl rfl ?_
  refine dw_iconst (v := 2) C dL_law_474 (n := 475) rfl (by decide) ?_
  refine dw_iadd C dL_law_475 (n := 476) rfl ?_
  refine dw_sld C hX hb hbA (dl_in hi hLs (j := 2) (by decide) (by decide)) dL_law_476 (n := 477) rfl ?_
  refine dw_aload_n (i := 0) C dL_law_477 (n := 478) rfl rfl rfl ?_
  refine dw_iload (i := 5) C dL_law_478 (n := 480) rfl rfl ?_
  refine dw_iconst (v := 3) C dL_law_480 (n := 481) rfl (by decide) ?_
  refine dw_iadd C dL_law_481 (n := 482) rfl ?_
  refine dw_sld C hX hb hbA (dl_in hi hLs (j := 3) (by decide) (by decide)) dL_law_482 (n := 483) rfl ?_
  refine dw_aload_n (i := 0) C dL_law_483 (n := 484) rfl rfl rfl ?_
  refine dw_iload (i := 5) C dL_law_484 (n := 486) rfl rfl ?_
  refine dw_iconst (v := 4) C dL_law_486 (n := 487) rfl (by decide) ?_
  refine dw_iadd C dL_law_487 (n := 488) rfl ?_
  refine dw_sld C hX hb hbA (dl_in hi hLs (j := 4) (by decide) (by decide)) dL_law_488 (n := 489) rfl ?_
  refine dw_aload_n (i := 3) C dL_law_489 (n := 490) rfl rfl rfl ?_
  have hz : dz_C k (wf_X8_setHero (xs (nI i + 1).toNatClampNeg) (xs (nI i + 2).toNatClampNeg) (xs (nI i + 3).toNatClampNeg) (xs (nI i + 4).toNatClampNeg)) (wf_X9_setHero (xs (nI i + 1).toNatClampNeg) (xs (nI i + 2).toNatClampNeg) (xs (nI i + 3).toNatClampNeg) (xs (nI i + 4).toNatClampNeg)) [(eIO, 1), (eIA, 2), (eIS, 3)] σ := dz_setHero hI
  obtain ⟨K, X, hwK, hXt, hM⟩ := dl_both hz (by decide +kernel)
  refine dw_callW C [] (cw_L_setHero hD hl hri hg hXt hwK) yw_L_setHero dk_wm_L_151 rfl (by decide) hRc rfl (by decide) rfl dL_law_490 (n := 493) rfl (fun r σ' fO' fD' hp => ?_)
  have hm := hM Int32.toInt64 fD r σ' fO' fD' hp
  refine dw_istore (i := 6) (L' := [some (.ref b), some (dk_r G 0 40), some (dk_r G 4 60), some (.ref O.2.1), some (.ref O.2.2.1), some (.int (nI i)), some (.int r), none, none]) C dL_law_493 (n := 495) rfl (dk_nc_of rfl) (Nat.le_of_ble_eq_true rfl) rfl ?_
  refine dw_aload_n (i := 2) C dL_law_495 (n := 496) rfl rfl rfl ?_
  refine dw_aload_n (i := 0) C dL_law_496 (n := 497) rfl rfl rfl ?_
  refine dw_iload (i := 5) C dL_law_497 (n := 499) rfl rfl ?_
  refine dw_iconst (v := 1) C dL_law_499 (n := 500) rfl (by decide) ?_
  refine dw_iadd C dL_law_500 (n := 501) rfl ?_
  refine dw_sld C hX hb hbA (dl_in hi hLs (j := 1) (by decide) (by decide)) dL_law_501 (n := 502) rfl ?_
  refine dw_aload_n (i := 0) C dL_law_502 (n := 503) rfl rfl rfl ?_
  refine dw_iload (i := 5) C dL_law_503 (n := 505) rfl rfl ?_
  refine dw_iconst (v := 2) C dL_law_505 (n := 506) rfl (by decide) ?_
  refine dw_iadd C dL_law_506 (n := 507) rfl ?_
  refine dw_sld C hX hb hbA (dl_in hi hLs (j := 2) (by decide) (by decide)) dL_law_507 (n := 508) rfl ?_
  refine dw_aload_n (i := 0) C dL_law_508 (n := 509) rfl rfl rfl ?_
  refine dw_iload (i := 5) C dL_law_509 (n := 511) rfl rfl ?_
  refine dw_iconst (v := 3) C dL_law_511 (n := 512) rfl (by decide) ?_
  refine dw_iadd C dL_law_512 (n := 513) rfl ?_
  refine dw_sld C hX hb hbA (dl_in hi hLs (j := 3) (by decide) (by decide)) dL_law_513 (n := 514) rfl ?_
  refine dw_aload_n (i := 0) C dL_law_514 (n := 515) rfl rfl rfl ?_
  refine dw_iload (i := 5) C dL_law_515 (n := 517) rfl rfl ?_
  refine dw_iconst (v := 4) C dL_law_517 (n := 518) rfl (by decide) ?_
  refine dw_iadd C dL_law_518 (n := 519) rfl ?_
  refine dw_sld C hX hb hbA (dl_in hi hLs (j := 4) (by decide) (by decide)) dL_law_519 (n := 520) rfl ?_
  refine dw_callV C [] (cc_X9_setHero hD hmi hm) yy_X9_setHero dk_wm_L_154 rfl (by decide) hRc dk_sh60 rfl (hmi 60 (by decide) (by decide)) rfl (by decide) rfl dL_law_520 (n := 523) rfl (fun v u hv => ?_)
  obtain ⟨b1, rfl, hu, h0, hb1⟩ := hv
  refine dw_istore (i := 7) (L' := [some (.ref b), some (dk_r G 0 40), some (dk_r G 4 60), some (.ref O.2.1), some (.ref O.2.2.1), some (.int (nI i)), some (.int r), some (.int b1), none]) C dL_law_523 (n := 525) rfl (dk_nc_of rfl) (Nat.le_of_ble_eq_true rfl) rfl ?_
  refine dw_aload_n (i := 2) C dL_law_525 (n := 526) rfl rfl rfl ?_
  refine dw_callV C [] (cc_X9_thrown hD hmi (dl_thr h0)) yy_X9_thrown dk_wm_L_140 rfl (by decide) hRc dk_sh60 rfl (hmi 60 (by decide) (by decide)) rfl (by decide) rfl dL_law_526 (n := 529) rfl (fun v w hv => ?_)
  obtain ⟨x1, rfl, e1, e2⟩ := hv
  subst e2
  refine dw_iload (i := 6) C dL_law_529 (n := 531) rfl rfl ?_
  refine dw_icmp_eq (t := 536) C dL_law_531 (n := 534) rfl (by decide) (fun _ => ?_) (fun hc => absurd e1 hc)
  refine dw_iload (i := 6) C dL_law_536 (n := 538) rfl rfl ?_
  have hex : dw_W G O p l e room_1 s m args below meth c (cells + 1) (slots + 6) Q 553 [some (.ref b), some (dk_r G 0 40), some (dk_r G 4 60), some (.ref O.2.1), some (.ref O.2.2.1), some (.int (nI i)), some (.int r), some (.int b1), none] [] w fO' fD' := dw_goto (t := 2297) C dL_law_553 (by decide) (dw_sub (L0 := dl_L G O b i) ⟨rfl, rfl, rfl, rfl, rfl, rfl, trivial⟩ (kk w fO' fD' hu))
  refine dw_if_ne (t := 553) C dL_law_538 (n := 541) rfl (by decide) (fun _ => hex) (fun hc => ?_)
  refine dw_aload_n (i := 3) C dL_law_541 (n := 542) rfl rfl rfl ?_
  refine dw_iconst (v := 0) C dL_law_542 (n := 543) rfl (by decide) ?_
  refine dw_lald C dL_law_543 (n := 544) rfl ?_
  refine dw_iload (i := 7) C dL_law_544 (n := 546) rfl rfl ?_
  refine dw_i2l C dL_law_546 (n := 547) rfl ?_
  refine dw_lcmp C dL_law_547 (n := 548) rfl ?_
  exact dw_if_eq (t := 553) C dL_law_548 (n := 551) rfl (by decide) (fun _ => hex) (fun hn => absurd (dl_cmp0 (hb1 hc)) hn)
set_option maxRecDepth 20000 in
set_option maxHeartbeats 4000000 in
theorem dl_case_4 {G : dk_G} {O : dl_T} {p : Program} {l : Launch} {e : Env} {s : State} {m : MethodId} {args : Array Value} {below : List Frame} {meth : Method} {c : Code} {cells slots : Nat} {Q : State → Prop} {b Ls : Nat} {xs : Nat → Int32} (hD : dk_D G) (hl : l.stackTraces = false) (hri : dk_RI G) (hmi : dk_MI G) (hg : dl_G G O) (C : dw_C G O p s m args c cL_law 9 RL) (hX : va_X b Ls xs s s.heap) (hb : b < s.heap.size) (hbA : ¬ dl_A O b) (hLs : Ls ≤ 3072) (hRc : cells + 1 ≤ room_1.cells ∧ slots + 6 ≤ room_1.slots) {i k : Nat} (hi : i + 6 ≤ Ls) (hk : k < 512) {σ : dk_S} {fO : Nat → Int64} {fD : Nat → UInt64} (hI : dq_I k σ) (kk : ∀ (u : dk_S) (fO' : Nat → Int64) (fD' : Nat → UInt64), dq_I (k + 1) u → dw_W G O p l e room_1 s m args below meth c (cells + 1) (slots + 6) Q 2297 (dl_L G O b i) [] u fO' fD') : dw_W G O p l e room_1 s m args below meth c cells slots Q 556 (dl_L G O b i) [] σ fO fD := by
  refine dw_aload_n (i := 1) C dL_law_556 (n := 557) rfl rfl rfl ?_
  refine dw_aload_n (i := 0) C dL_law_557 (n := 558) rfl rfl rfl ?_
  refine dw_iload (i := 5) C dL_law_558 (n := 560) rfl rfl ?_
  refine dw_iconst (v := 1) C dL_law_560 (n := 561) rfl (by decide) ?_
  refine dw_iadd C dL_law_561 (n := 562) rfl ?_
  refine dw_sld C hX hb hbA (dl_in hi hLs (j := 1) (by decide) (by decide)) dL_law_562 (n := 563) rfl ?_
  refine dw_aload_n (i := 0) C dL_law_563 (n := 564) rfl rfl rfl ?_
  refine dw_iload (i := 5) C dL_law_564 (n := 566) rfl rfl ?_
  refine dw_iconst (v := 2) C dL_law_566 (n := 567) rfl (by decide) ?_
  refine dw_iadd C dL_law_567 (n := 568) rfl ?_
  refine dw_sld C hX hb hbA (dl_in hi hLs (j := 2) (by decide) (by decide)) dL_law_568 (n := 569) rfl ?_
  refine dw_aload_n (i := 0) C dL_law_569 (n := 570) rfl rfl rfl ?_
  refine dw_iload (i := 5) C dL_law_570 (n := 572) rfl rfl ?_
  refine dw_iconst (v := 3) C dL_law_572 (n := 573) rfl (by decide) ?_
  refine dw_iadd C dL_law_573 (n := 574) rfl ?_
  refine dw_sld C hX hb hbA (dl_in hi hLs (j := 3) (by decide) (by decide)) dL_law_574 (n := 575) rfl ?_
  refine dw_aload_n (i := 0) C dL_law_575 (n := 576) rfl rfl rfl ?_
  refine dw_iload (i := 5) C dL_law_576 (n := 578) rfl rfl ?_
  refine dw_iconst (v := 4) C dL_law_578 (n := 579) rfl (by decide) ?_
  refine dw_iadd C dL_law_579 (n := 580) rfl ?_
  refine dw_sld C hX hb hbA (dl_in hi hLs (j := 4) (by decide) (by decide)) dL_law_580 (n := 581) rfl ?_
  refine dw_aload_n (i := 0) C dL_law_581 (n := 582) rfl rfl rfl ?_
  refine dw_iload (i := 5) C dL_law_582 (n := 584) rfl rfl ?_
  refine dw_iconst (v := 5) C dL_law_584 (n := 585) rfl (by decide) ?_
  refine dw_iadd C dL_law_585 (n := 586) rfl ?_
  refine dw_sld C hX hb hbA (dl_in hi hLs (j := 5) (by decide) (by decide)) dL_law_586 (n := 587) rfl ?_
  refine dw_aload_n (i := 3) C dL_law_587 (n := 588) rfl rfl rfl ?_
  have hz : dz_C k (wf_X8_addBeast (xs (nI i + 1).toNatClampNeg) (xs (nI i + 2).toNatClampNeg) (xs (nI i + 3).toNatClampNeg) (xs (nI i + 4).toNatClampNeg) (xs (nI i + 5).toNatClampNeg)) (wf_X9_addBeast (xs (nI i + 1).toNatClampNeg) (xs (nI i + 2).toNatClampNeg) (xs (nI i + 3).toNatClampNeg) (xs (nI i + 4).toNatClampNeg) (xs (nI i + 5).toNatClampNeg)) [(eIO, 1), (eIA, 2), (eIS, 3)] σ := dz_addBeast hI
  obtain ⟨K, X, hwK, hXt, hM⟩ := dl_both hz (by decide +kernel)
  refine dw_callW C [] (cw_L_addBeast hD hl hri hg hXt hwK) yw_L_addBeast dk_wm_L_155 rfl (by decide) hRc rfl (by decide) rfl dL_law_588 (n := 591) rfl (fun r σ' fO' fD' hp => ?_)
  have hm := hM Int32.toInt64 fD r σ' fO' fD' hp
  refine dw_istore (i := 6) (L' := [some (.ref b), some (dk_r G 0 40), some (dk_r G 4 60), some (.ref O.2.1), some (.ref O.2.2.1), some (.int (nI i)), some (.int r), none, none]) C dL_law_591 (n := 593) rfl (dk_nc_of rfl) (Nat.le_of_ble_eq_true rfl) rfl ?_
  refine dw_aload_n (i := 2) C dL_law_593 (n := 594) rfl rfl rfl ?_
  refine dw_aload_n (i := 0) C dL_law_594 (n := 595) rfl rfl rfl ?_
  refine dw_iload (i := 5) C dL_law_595 (n := 597) rfl rfl ?_
  refine dw_iconst (v := 1) C dL_law_597 (n := 598) rfl (by decide) ?_
  refine dw_iadd C dL_law_598 (n := 599) rfl ?_
  refine dw_sld C hX hb hbA (dl_in hi hLs (j := 1) (by decide) (by decide)) dL_law_599 (n := 600) rfl ?_
  refine dw_aload_n (i := 0) C dL_law_600 (n := 601) rfl rfl rfl ?_
  refine dw_iload (i := 5) C dL_law_601 (n := 603) rfl rfl ?_
  refine dw_iconst (v := 2) C dL_law_603 (n := 604) rfl (by decide) ?_
  refine dw_iadd C dL_law_604 (n := 605) rfl ?_
  refine dw_sld C hX hb hbA (dl_in hi hLs (j := 2) (by decide) (by decide)) dL_law_605 (n := 606) rfl ?_
  refine dw_aload_n (i := 0) C dL_law_606 (n := 607) rfl rfl rfl ?_
  refine dw_iload (i := 5) C dL_law_607 (n := 609) rfl rfl ?_
  refine dw_iconst (v := 3) C dL_law_609 (n := 610) rfl (by decide) ?_
  refine dw_iadd C dL_law_610 (n := 611) rfl ?_
  refine dw_sld C hX hb hbA (dl_in hi hLs (j := 3) (by decide) (by decide)) dL_law_611 (n := 612) rfl ?_
  refine dw_aload_n (i := 0) C dL_law_612 (n := 613) rfl rfl rfl ?_
  refine dw_iload (i := 5) C dL_law_613 (n := 615) rfl rfl ?_
  refine dw_iconst (v := 4) C dL_law_615 (n := 616) rfl (by decide) ?_
  refine dw_iadd C dL_law_616 (n := 617) rfl ?_
  refine dw_sld C hX hb hbA (dl_in hi hLs (j := 4) (by decide) (by decide)) dL_law_617 (n := 618) rfl ?_
  refine dw_aload_n (i := 0) C dL_law_618 (n := 619) rfl rfl rfl ?_
  refine dw_iload (i := 5) C dL_law_619 (n := 621) rfl rfl ?_
  refine dw_iconst (v := 5) C dL_law_621 (n := 622) rfl (by decide) ?_
  refine dw_iadd C dL_law_622 (n := 623) rfl ?_
  refine dw_sld C hX hb hbA (dl_in hi hLs (j := 5) (by decide) (by decide)) dL_law_623 (n := 624) rfl ?_
  refine dw_callV C [] (cc_X9_addBeast hD hmi hm) yy_X9_addBeast dk_wm_L_158 rfl (by decide) hRc dk_sh60 rfl (hmi 60 (by decide) (by decide)) rfl (by decide) rfl dL_law_624 (n := 627) rfl (fun v u hv => ?_)
  obtain ⟨b1, rfl, hu, h0, hb1⟩ := hv
  refine dw_istore (i := 7) (L' := [some (.ref b), some (dk_r G 0 40), some (dk_r G 4 60), some (.ref O.2.1), some (.ref O.2.2.1), some (.int (nI i)), some (.int r), some (.int b1), none]) C dL_law_627 (n := 629) rfl (dk_nc_of rfl) (Nat.le_of_ble_eq_true rfl) rfl ?_
  refine dw_aload_n (i := 2) C dL_law_629 (n := 630) rfl rfl rfl ?_
  refine dw_callV C [] (cc_X9_thrown hD hmi (dl_thr h0)) yy_X9_thrown dk_wm_L_140 rfl (by decide) hRc dk_sh60 rfl (hmi 60 (by decide) (by decide)) rfl (by decide) rfl dL_law_630 (n := 633) rfl (fun v w hv => ?_)
  obtain ⟨x1, rfl, e1, e2⟩ := hv
  subst e2
  refine dw_iload (i := 6) C dL_law_633 (n := 635) rfl rfl ?_
  refine dw_icmp_eq (t := 640) C dL_law_635 (n := 638) rfl (by decide) (fun _ => ?_) (fun hc => absurd e1 hc)
  refine dw_iload (i := 6) C dL_law_640 (n := 642) rfl rfl ?_
  have hex : dw_W G O p l e room_1 s m args below meth c (cells + 1) (slots + 6) Q 657 [some (.ref b), some (dk_r G 0 40), some (dk_r G 4 60), some (.ref O.2.1), some (.ref O.2.2.1), some (.int (nI i)), some (.int r), some (.int b1), none] [] w fO' fD' := dw_goto (t := 2297) C dL_law_657 (by decide) (dw_sub (L0 := dl_L G O b i) ⟨rfl, rfl, rfl, rfl, rfl, rfl, trivial⟩ (kk w fO' fD' hu))
  refine dw_if_ne (t := 657) C dL_law_642 (n := 645) rfl (by decide) (fun _ => hex) (fun hc => ?_)
  refine dw_aload_n (i := 3) C dL_law_645 (n := 646) rfl rfl rfl ?_
  refine dw_iconst (v := 0) C dL_law_646 (n := 647) rfl (by decide) ?_
  refine dw_lald C dL_law_647 (n := 648) rfl ?_
  refine dw_iload (i := 7) C dL_law_648 (n := 650) rfl rfl ?_
  refine dw_i2l C dL_law_650 (n := 651) rfl ?_
  refine dw_lcmp C dL_law_651 (n := 652) rfl ?_
  exact dw_if_eq (t := 657) C dL_law_652 (n := 655) rfl (by decide) (fun _ => hex) (fun hn => absurd (dl_cmp0 (hb1 hc)) hn)
set_option maxRecDepth 20000 in
set_option maxHeartbeats 4000000 in
theorem dl_case_5 {G : dk_G} {O : dl_T} {p : Program} {l : Launch} {e : Env} {s : State} {m : MethodId} {args : Array Value} {below : List Frame} {meth : Method} {c : Code} {cells slots : Nat} {Q : State → Prop} {b Ls : Nat} {xs : Nat → Int32} (hD : dk_D G) (hl : l.stackTraces = false) (hri : dk_RI G) (hmi : dk_MI G) (hg : dl_G G O) (C : dw_C G O p s m args c cL_law 9 RL) (hX : va_X b Ls xs s s.heap) (hb : b < s.heap.size) (hbA : ¬ dl_A O b) (hLs : Ls ≤ 3072) (hRc : cells + 1 ≤ room_1.cells ∧ slots + 6 ≤ room_1.slots) {i k : Nat} (hi : i + 6 ≤ Ls) (hk : k < 512) {σ : dk_S} {fO : Nat → Int64} {fD : Nat → UInt64} (hI : dq_I k σ) (kk : ∀ (u : dk_S) (fO' : Nat → Int64) (fD' : Nat → UInt64), dq_I (k + 1) u → dw_W G O p l e room_1 s m args below meth c (cells + 1) (slots + 6) Q 2297 (dl_L G O b i) [] u fO' fD') : dw_W G O p l e room_1 s m args below meth c cells slots Q 660 (dl_L G O b i) [] σ fO fD := by
  refine dw_aload_n (i := 1) C dL_law_660 (n := 661) rfl rfl rfl ?_
  refine dw_aload_n (i := 0) C dL_law_661 (n := 662) rfl rfl rfl ?_
  refine dw_iload (i := 5) C dL_law_662 (n := 664) rfl rfl ?_
  refine dw_iconst (v := 1) C dL_law_664 (n := 665) rfl (by decide) ?_
  refine dw_iadd C dL_law_665 (n := 666) rfl ?_
  refine dw_sld C hX hb hbA (dl_in hi hLs (j := 1) (by decide) (by decide)) dL_law_666 (n := 667) rfl ?_
  refine dw_aload_n (i := 0) C dL_law_667 (n := 668) rfl rfl rfl ?_
  refine dw_iload (i := 5) C dL_law_668 (n := 670) rfl rfl ?_
  refine dw_iconst (v := 2) C dL_law_670 (n := 671) rfl (by decide) ?_
  refine dw_iadd C dL_law_671 (n := 672) rfl ?_
  refine dw_sld C hX hb hbA (dl_in hi hLs (j := 2) (by decide) (by decide)) dL_law_672 (n := 673) rfl ?_
  refine dw_aload_n (i := 0) C dL_law_673 (n := 674) rfl rfl rfl ?_
  refine dw_iload (i := 5) C dL_law_674 (n := 676) rfl rfl ?_
  refine dw_iconst (v := 3) C dL_law_676 (n := 677) rfl (by decide) ?_
  refine dw_iadd C dL_law_677 (n := 678) rfl ?_
  refine dw_sld C hX hb hbA (dl_in hi hLs (j := 3) (by decide) (by decide)) dL_law_678 (n := 679) rfl ?_
  refine dw_aload_n (i := 0) C dL_law_679 (n := 680) rfl rfl rfl ?_
  refine dw_iload (i := 5) C dL_law_680 (n := 682) rfl rfl ?_
  refine dw_iconst (v := 4) C dL_law_682 (n := 683) rfl (by decide) ?_
  refine dw_iadd C dL_law_683 (n := 684) rfl ?_
  refine dw_sld C hX hb hbA (dl_in hi hLs (j := 4) (by decide) (by decide)) dL_law_684 (n := 685) rfl ?_
  refine dw_aload_n (i := 3) C dL_law_685 (n := 686) rfl rfl rfl ?_
  have hz : dz_C k (wf_X8_addThing (xs (nI i + 1).toNatClampNeg) (xs (nI i + 2).toNatClampNeg) (xs (nI i + 3).toNatClampNeg) (xs (nI i + 4).toNatClampNeg)) (wf_X9_addThing (xs (nI i + 1).toNatClampNeg) (xs (nI i + 2).toNatClampNeg) (xs (nI i + 3).toNatClampNeg) (xs (nI i + 4).toNatClampNeg)) [(eIA, 1), (eIO, 2), (eUO, 3), (eIS, 4)] σ := dz_addThing hI
  obtain ⟨K, X, hwK, hXt, hM⟩ := dl_both hz (by decide +kernel)
  refine dw_callW C [] (cw_L_addThing hD hl hri hg hXt hwK) yw_L_addThing dk_wm_L_159 rfl (by decide) hRc rfl (by decide) rfl dL_law_686 (n := 689) rfl (fun r σ' fO' fD' hp => ?_)
  have hm := hM Int32.toInt64 fD r σ' fO' fD' hp
  refine dw_istore (i := 6) (L' := [some (.ref b), some (dk_r G 0 40), some (dk_r G 4 60), some (.ref O.2.1), some (.ref O.2.2.1), some (.int (nI i)), some (.int r), none, none]) C dL_law_689 (n := 691) rfl (dk_nc_of rfl) (Nat.le_of_ble_eq_true rfl) rfl ?_
  refine dw_aload_n (i := 2) C dL_law_691 (n := 692) rfl rfl rfl ?_
  refine dw_aload_n (i := 0) C dL_law_692 (n := 693) rfl rfl rfl ?_
  refine dw_iload (i := 5) C dL_law_693 (n := 695) rfl rfl ?_
  refine dw_iconst (v := 1) C dL_law_695 (n := 696) rfl (by decide) ?_
  refine dw_iadd C dL_law_696 (n := 697) rfl ?_
  refine dw_sld C hX hb hbA (dl_in hi hLs (j := 1) (by decide) (by decide)) dL_law_697 (n := 698) rfl ?_
  refine dw_aload_n (i := 0) C dL_law_698 (n := 699) rfl rfl rfl ?_
  refine dw_iload (i := 5) C dL_law_699 (n := 701) rfl rfl ?_
  refine dw_iconst (v := 2) C dL_law_701 (n := 702) rfl (by decide) ?_
  refine dw_iadd C dL_law_702 (n := 703) rfl ?_
  refine dw_sld C hX hb hbA (dl_in hi hLs (j := 2) (by decide) (by decide)) dL_law_703 (n := 704) rfl ?_
  refine dw_aload_n (i := 0) C dL_law_704 (n := 705) rfl rfl rfl ?_
  refine dw_iload (i := 5) C dL_law_705 (n := 707) rfl rfl ?_
  refine dw_iconst (v := 3) C dL_law_707 (n := 708) rfl (by decide) ?_
  refine dw_iadd C dL_law_708 (n := 709) rfl ?_
  refine dw_sld C hX hb hbA (dl_in hi hLs (j := 3) (by decide) (by decide)) dL_law_709 (n := 710) rfl ?_
  refine dw_aload_n (i := 0) C dL_law_710 (n := 711) rfl rfl rfl ?_
  refine dw_iload (i := 5) C dL_law_711 (n := 713) rfl rfl ?_
  refine dw_iconst (v := 4) C dL_law_713 (n := 714) rfl (by decide) ?_
  refine dw_iadd C dL_law_714 (n := 715) rfl ?_
  refine dw_sld C hX hb hbA (dl_in hi hLs (j := 4) (by decide) (by decide)) dL_law_715 (n := 716) rfl ?_
  refine dw_callV C [] (cc_X9_addThing hD hmi hm) yy_X9_addThing dk_wm_L_161 rfl (by decide) hRc dk_sh60 rfl (hmi 60 (by decide) (by decide)) rfl (by decide) rfl dL_law_716 (n := 719) rfl (fun v u hv => ?_)
  obtain ⟨b1, rfl, hu, h0, hb1⟩ := hv
  refine dw_istore (i := 7) (L' := [some (.ref b), some (dk_r G 0 40), some (dk_r G 4 60), some (.ref O.2.1), some (.ref O.2.2.1), some (.int (nI i)), some (.int r), some (.int b1), none]) C dL_law_719 (n := 721) rfl (dk_nc_of rfl) (Nat.le_of_ble_eq_true rfl) rfl ?_
  refine dw_aload_n (i := 2) C dL_law_721 (n := 722) rfl rfl rfl ?_
  refine dw_callV C [] (cc_X9_thrown hD hmi (dl_thr h0)) yy_X9_thrown dk_wm_L_140 rfl (by decide) hRc dk_sh60 rfl (hmi 60 (by decide) (by decide)) rfl (by decide) rfl dL_law_722 (n := 725) rfl (fun v w hv => ?_)
  obtain ⟨x1, rfl, e1, e2⟩ := hv
  subst e2
  refine dw_iload (i := 6) C dL_law_725 (n := 727) rfl rfl ?_
  refine dw_icmp_eq (t := 732) C dL_law_727 (n := 730) rfl (by decide) (fun _ => ?_) (fun hc => absurd e1 hc)
  refine dw_iload (i := 6) C dL_law_732 (n := 734) rfl rfl ?_
  have hex : dw_W G O p l e room_1 s m args below meth c (cells + 1) (slots + 6) Q 749 [some (.ref b), some (dk_r G 0 40), some (dk_r G 4 60), some (.ref O.2.1), some (.ref O.2.2.1), some (.int (nI i)), some (.int r), some (.int b1), none] [] w fO' fD' := dw_goto (t := 2297) C dL_law_749 (by decide) (dw_sub (L0 := dl_L G O b i) ⟨rfl, rfl, rfl, rfl, rfl, rfl, trivial⟩ (kk w fO' fD' hu))
  refine dw_if_ne (t := 749) C dL_law_734 (n := 737) rfl (by decide) (fun _ => hex) (fun hc => ?_)
  refine dw_aload_n (i := 3) C dL_law_737 (n := 738) rfl rfl rfl ?_
  refine dw_iconst (v := 0) C dL_law_738 (n := 739) rfl (by decide) ?_
  refine dw_lald C dL_law_739 (n := 740) rfl ?_
  refine dw_iload (i := 7) C dL_law_740 (n := 742) rfl rfl ?_
  refine dw_i2l C dL_law_742 (n := 743) rfl ?_
  refine dw_lcmp C dL_law_743 (n := 744) rfl ?_
  exact dw_if_eq (t := 749) C dL_law_744 (n := 747) rfl (by decide) (fun _ => hex) (fun hn => absurd (dl_cmp0 (hb1 hc)) hn)
set_option maxRecDepth 20000 in
set_option maxHeartbeats 4000000 in
theorem dl_case_6 {G : dk_G} {O : dl_T} {p : Program} {l : Launch} {e : Env} {s : State} {m : MethodId} {args : Array Value} {below : List Frame} {meth : Method} {c : Code} {cells slots : Nat} {Q : State → Prop} {b Ls : Nat} {xs : Nat → Int32} (hD : dk_D G) (hl : l.stackTraces = false) (hri : dk_RI G) (hmi : dk_MI G) (hg : dl_G G O) (C : dw_C G O p s m args c cL_law 9 RL) (hX : va_X b Ls xs s s.heap) (hb : b < s.heap.size) (hbA : ¬ dl_A O b) (hLs : Ls ≤ 3072) (hRc : cells + 1 ≤ room_1.cells ∧ slots + 6 ≤ room_1.slots) {i k : Nat} (hi : i + 6 ≤ Ls) (hk : k < 512) {σ : dk_S} {fO : Nat → Int64} {fD : Nat → UInt64} (hI : dq_I k σ) (kk : ∀ (u : dk_S) (fO' : Nat → Int64) (fD' : Nat → UInt64), dq_I (k + 1) u → dw_W G O p l e room_1 s m args below meth c (cells + 1) (slots + 6) Q 2297 (dl_L G O b i) [] u fO' fD') : dw_W G O p l e room_1 s m args below meth c cells slots Q 752 (dl_L G O b i) [] σ fO fD := by
  refine dw_aload_n (i := 1) C dL_law_752 (n := 753) rfl rfl rfl ?_
  refine dw_aload_n (i := 0) C dL_law_753 (n := 754) rfl rfl rfl ?_
  refine dw_iload (i := 5) C dL_law_754 (n := 756) rfl rfl ?_
  refine dw_iconst (v := 1) C dL_law_756 (n := 757) rfl (by decide) ?_
  refine dw_iadd C dL_law_757 (n := 758) rfl ?_
  refine dw_sld C hX hb hbA (dl_in hi hLs (j := 1) (by decide) (by decide)) dL_law_758 (n := 759) rfl ?_
  refine dw_aload_n (i := 0) C dL_law_759 (n := 760) rfl rfl rfl ?_
  refine dw_iload (i := 5) C dL_law_760 (n := 762) rfl rfl ?_
  refine dw_iconst (v := 2) C dL_law_762 (n := 763) rfl (by decide) ?_
  refine dw_iadd C dL_law_763 (n := 764) rfl ?_
  refine dw_sld C hX hb hbA (dl_in hi hLs (j := 2) (by decide) (by decide)) dL_law_764 (n := 765) rfl ?_
  refine dw_aload_n (i := 0) C dL_law_765 (n := 766) rfl rfl rfl ?_
  refine dw_iload (i := 5) C dL_law_766 (n := 768) rfl rfl ?_
  refine dw_iconst (v := 3) C dL_law_768 (n := 769) rfl (by decide) ?_
  refine dw_iadd C dL_law_769 (n := 770) rfl ?_
  refine dw_sld C hX hb hbA (dl_in hi hLs (j := 3) (by decide) (by decide)) dL_law_770 (n := 771) rfl ?_
  refine dw_aload_n (i := 3) C dL_law_771 (n := 772) rfl rfl rfl ?_
  have hz : dz_C k (wf_X8_addLamp (xs (nI i + 1).toNatClampNeg) (xs (nI i + 2).toNatClampNeg) (xs (nI i + 3).toNatClampNeg)) (wf_X9_addLamp (xs (nI i + 1).toNatClampNeg) (xs (nI i + 2).toNatClampNeg) (xs (nI i + 3).toNatClampNeg)) [(eIO, 1), (eIA, 2), (eIS, 3)] σ := dz_addLamp hI
  obtain ⟨K, X, hwK, hXt, hM⟩ := dl_both hz (by decide +kernel)
  refine dw_callW C [] (cw_L_addLamp hD hl hri hg hXt hwK) yw_L_addLamp dk_wm_L_162 rfl (by decide) hRc rfl (by decide) rfl dL_law_772 (n := 775) rfl (fun r σ' fO' fD' hp => ?_)
  have hm := hM Int32.toInt64 fD r σ' fO' fD' hp
  refine dw_istore (i := 6) (L' := [some (.ref b), some (dk_r G 0 40), some (dk_r G 4 60), some (.ref O.2.1), some (.ref O.2.2.1), some (.int (nI i)), some (.int r), none, none]) C dL_law_775 (n := 777) rfl (dk_nc_of rfl) (Nat.le_of_ble_eq_true rfl) rfl ?_
  refine dw_aload_n (i := 2) C dL_law_777 (n := 778) rfl rfl rfl ?_
  refine dw_aload_n (i := 0) C dL_law_778 (n := 779) rfl rfl rfl ?_
  refine dw_iload (i := 5) C dL_law_779 (n := 781) rfl rfl ?_
  refine dw_iconst (v := 1) C dL_law_781 (n := 782) rfl (by decide) ?_
  refine dw_iadd C dL_law_782 (n := 783) rfl ?_
  refine dw_sld C hX hb hbA (dl_in hi hLs (j := 1) (by decide) (by decide)) dL_law_783 (n := 784) rfl ?_
  refine dw_aload_n (i := 0) C dL_law_784 (n := 785) rfl rfl rfl ?_
  refine dw_iload (i := 5) C dL_law_785 (n := 787) rfl rfl ?_
  refine dw_iconst (v := 2) C dL_law_787 (n := 788) rfl (by decide) ?_
  refine dw_iadd C dL_law_788 (n := 789) rfl ?_
  refine dw_sld C hX hb hbA (dl_in hi hLs (j := 2) (by decide) (by decide)) dL_law_789 (n := 790) rfl ?_
  refine dw_aload_n (i := 0) C dL_law_790 (n := 791) rfl rfl rfl ?_
  refine dw_iload (i := 5) C dL_law_791 (n := 793) rfl rfl ?_
  refine dw_iconst (v := 3) C dL_law_793 (n := 794) rfl (by decide) ?_
  refine dw_iadd C dL_law_794 (n := 795) rfl ?_
  refine dw_sld C hX hb hbA (dl_in hi hLs (j := 3) (by decide) (by decide)) dL_law_795 (n := 796) rfl ?_
  refine dw_callV C [] (cc_X9_addLamp hD hmi hm) yy_X9_addLamp dk_wm_L_165 rfl (by decide) hRc dk_sh60 rfl (hmi 60 (by decide) (by decide)) rfl (by decide) rfl dL_law_796 (n := 799) rfl (fun v u hv => ?_)
  obtain ⟨b1, rfl, hu, h0, hb1⟩ := hv
  refine dw_istore (i := 7) (L' := [some (.ref b), some (dk_r G 0 40), some (dk_r G 4 60), some (.ref O.2.1), some (.ref O.2.2.1), some (.int (nI i)), some (.int r), some (.int b1), none]) C dL_law_799 (n := 801) rfl (dk_nc_of rfl) (Nat.le_of_ble_eq_true rfl) rfl ?_
  refine dw_aload_n (i := 2) C dL_law_801 (n := 802) rfl rfl rfl ?_
  refine dw_callV C [] (cc_X9_thrown hD hmi (dl_thr h0)) yy_X9_thrown dk_wm_L_140 rfl (by decide) hRc dk_sh60 rfl (hmi 60 (by decide) (by decide)) rfl (by decide) rfl dL_law_802 (n := 805) rfl (fun v w hv => ?_)
  obtain ⟨x1, rfl, e1, e2⟩ := hv
  subst e2
  refine dw_iload (i := 6) C dL_law_805 (n := 807) rfl rfl ?_
  refine dw_icmp_eq (t := 812) C dL_law_807 (n := 810) rfl (by decide) (fun _ => ?_) (fun hc => absurd e1 hc)
  refine dw_iload (i := 6) C dL_law_812 (n := 814) rfl rfl ?_
  have hex : dw_W G O p l e room_1 s m args below meth c (cells + 1) (slots + 6) Q 829 [some (.ref b), some (dk_r G 0 40), some (dk_r G 4 60), some (.ref O.2.1), some (.ref O.2.2.1), some (.int (nI i)), some (.int r), some (.int b1), none] [] w fO' fD' := dw_goto (t := 2297) C dL_law_829 (by decide) (dw_sub (L0 := dl_L G O b i) ⟨rfl, rfl, rfl, rfl, rfl, rfl, trivial⟩ (kk w fO' fD' hu))
  refine dw_if_ne (t := 829) C dL_law_814 (n := 817) rfl (by decide) (fun _ => hex) (fun hc => ?_)
  refine dw_aload_n (i := 3) C dL_law_817 (n := 818) rfl rfl rfl ?_
  refine dw_iconst (v := 0) C dL_law_818 (n := 819) rfl (by decide) ?_
  refine dw_lald C dL_law_819 (n := 820) rfl ?_
  refine dw_iload (i := 7) C dL_law_820 (n := 822) rfl rfl ?_
  refine dw_i2l C dL_law_822 (n := 823) rfl ?_
  refine dw_lcmp C dL_law_823 (n := 824) rfl ?_
  exact dw_if_eq (t := 829) C dL_law_824 (n := 827) rfl (by decide) (fun _ => hex) (fun hn => absurd (dl_cmp0 (hb1 hc)) hn)
set_option maxRecDepth 20000 in
set_option maxHeartbeats 4000000 in
theorem dl_case_7 {G : dk_G} {O : dl_T} {p : Program} {l : Launch} {e : Env} {s : State} {m : MethodId} {args : Array Value} {below : List Frame} {meth : Method} {c : Code} {cells slots : Nat} {Q : State → Prop} {b Ls : Nat} {xs : Nat → Int32} (hD : dk_D G) (hl : l.stackTraces = false) (hri : dk_RI G) (hmi : dk_MI G) (hg : dl_G G O) (C : dw_C G O p s m args c cL_law 9 RL) (hX : va_X b Ls xs s s.heap) (hb : b < s.heap.size) (hbA : ¬ dl_A O b) (hLs : Ls ≤ 3072) (hRc : cells + 1 ≤ room_1.cells ∧ slots + 6 ≤ room_1.slots) {i k : Nat} (hi : i + 6 ≤ Ls) (hk : k < 512) {σ : dk_S} {fO : Nat → Int64} {fD : Nat → UInt64} (hI : dq_I k σ) (kk : ∀ (u : dk_S) (fO' : Nat → Int64) (fD' : Nat → UInt64), dq_I (k + 1) u → dw_W G O p l e room_1 s m args below meth c (cells + 1) (slots + 6) Q 2297 (dl_L G O b i) [] u fO' fD') : dw_W G O p l e room_1 s m args below meth c cells slots Q 832 (dl_L G O b i) [] σ fO fD := by
  refine dw_aload_n (i := 1) C dL_law_832 (n := 833) rfl rfl rfl ?_
  refine dw_aload_n (i := 0) C dL_law_833 (n := 834) rfl rfl rfl ?_
  refine dw_iload (i := 5) C dL_law_834 (n := 836) rfl rfl ?_
  refine dw_iconst (v := 1) C dL_law_836 (n := 837) rfl (by decide) ?_
  refine dw_iadd C dL_law_837 (n := 838) rfl ?_
  refine dw_sld C hX hb hbA (dl_in hi hLs (j := 1) (by decide) (by decide)) dL_law_838 (n := 839) rfl ?_
  refine dw_aload_n (i := 3) C dL_law_839 (n := 840) rfl rfl rfl ?_
  have hz : dz_C k (wf_X8_begin (xs (nI i + 1).toNatClampNeg)) (wf_X9_begin (xs (nI i + 1).toNatClampNeg)) [(eIA, 1), (eIS, 2)] σ := dz_begin hI
  obtain ⟨K, X, hwK, hXt, hM⟩ := dl_both hz (by decide +kernel)
  refine dw_callW C [] (cw_L_begin hD hl hri hg hXt hwK) yw_L_begin dk_wm_L_166 rfl (by decide) hRc rfl (by decide) rfl dL_law_840 (n := 843) rfl (fun r σ' fO' fD' hp => ?_)
  have hm := hM Int32.toInt64 fD r σ' fO' fD' hp
  refine dw_istore (i := 6) (L' := [some (.ref b), some (dk_r G 0 40), some (dk_r G 4 60), some (.ref O.2.1), some (.ref O.2.2.1), some (.int (nI i)), some (.int r), none, none]) C dL_law_843 (n := 845) rfl (dk_nc_of rfl) (Nat.le_of_ble_eq_true rfl) rfl ?_
  refine dw_aload_n (i := 2) C dL_law_845 (n := 846) rfl rfl rfl ?_
  refine dw_aload_n (i := 0) C dL_law_846 (n := 847) rfl rfl rfl ?_
  refine dw_iload (i := 5) C dL_law_847 (n := 849) rfl rfl ?_
  refine dw_iconst (v := 1) C dL_law_849 (n := 850) rfl (by decide) ?_
  refine dw_iadd C dL_law_850 (n := 851) rfl ?_
  refine dw_sld C hX hb hbA (dl_in hi hLs (j := 1) (by decide) (by decide)) dL_law_851 (n := 852) rfl ?_
  refine dw_callV C [] (cc_X9_begin hD hmi hm) yy_X9_begin dk_wm_L_169 rfl (by decide) hRc dk_sh60 rfl (hmi 60 (by decide) (by decide)) rfl (by decide) rfl dL_law_852 (n := 855) rfl (fun v u hv => ?_)
  obtain ⟨b1, rfl, hu, h0, hb1⟩ := hv
  refine dw_istore (i := 7) (L' := [some (.ref b), some (dk_r G 0 40), some (dk_r G 4 60), some (.ref O.2.1), some (.ref O.2.2.1), some (.int (nI i)), some (.int r), some (.int b1), none]) C dL_law_855 (n := 857) rfl (dk_nc_of rfl) (Nat.le_of_ble_eq_true rfl) rfl ?_
  refine dw_aload_n (i := 2) C dL_law_857 (n := 858) rfl rfl rfl ?_
  refine dw_callV C [] (cc_X9_thrown hD hmi (dl_thr h0)) yy_X9_thrown dk_wm_L_140 rfl (by decide) hRc dk_sh60 rfl (hmi 60 (by decide) (by decide)) rfl (by decide) rfl dL_law_858 (n := 861) rfl (fun v w hv => ?_)
  obtain ⟨x1, rfl, e1, e2⟩ := hv
  subst e2
  refine dw_iload (i := 6) C dL_law_861 (n := 863) rfl rfl ?_
  refine dw_icmp_eq (t := 868) C dL_law_863 (n := 866) rfl (by decide) (fun _ => ?_) (fun hc => absurd e1 hc)
  refine dw_iload (i := 6) C dL_law_868 (n := 870) rfl rfl ?_
  have hex : dw_W G O p l e room_1 s m args below meth c (cells + 1) (slots + 6) Q 885 [some (.ref b), some (dk_r G 0 40), some (dk_r G 4 60), some (.ref O.2.1), some (.ref O.2.2.1), some (.int (nI i)), some (.int r), some (.int b1), none] [] w fO' fD' := dw_goto (t := 2297) C dL_law_885 (by decide) (dw_sub (L0 := dl_L G O b i) ⟨rfl, rfl, rfl, rfl, rfl, rfl, trivial⟩ (kk w fO' fD' hu))
  refine dw_if_ne (t := 885) C dL_law_870 (n := 873) rfl (by decide) (fun _ => hex) (fun hc => ?_)
  refine dw_aload_n (i := 3) C dL_law_873 (n := 874) rfl rfl rfl ?_
  refine dw_iconst (v := 0) C dL_law_874 (n := 875) rfl (by decide) ?_
  refine dw_lald C dL_law_875 (n := 876) rfl ?_
  refine dw_iload (i := 7) C dL_law_876 (n := 878) rfl rfl ?_
  refine dw_i2l C dL_law_878 (n := 879) rfl ?_
  refine dw_lcmp C dL_law_879 (n := 880) rfl ?_
  exact dw_if_eq (t := 885) C dL_law_880 (n := 883) rfl (by decide) (fun _ => hex) (fun hn => absurd (dl_cmp0 (hb1 hc)) hn)
set_option maxRecDepth 20000 in
set_option maxHeartbeats 4000000 in
theorem dl_case_8 {G : dk_G} {O : dl_T} {p : Program} {l : Launch} {e : Env} {s : State} {m : MethodId} {args : Array Value} {below : List Frame} {meth : Method} {c : Code} {cells slots : Nat} {Q : State → Prop} {b Ls : Nat} {xs : Nat → Int32} (hD : dk_D G) (hl : l.stackTraces = false) (hri : dk_RI G) (hmi : dk_MI G) (hg : dl_G G O) (C : dw_C G O p s m args c cL_law 9 RL) (hX : va_X b Ls xs s s.heap) (hb : b < s.heap.size) (hbA : ¬ dl_A O b) (hLs : Ls ≤ 3072) (hRc : cells + 1 ≤ room_1.cells ∧ slots + 6 ≤ room_1.slots) {i k : Nat} (hi : i + 6 ≤ Ls) (hk : k < 512) {σ : dk_S} {fO : Nat → Int64} {fD : Nat → UInt64} (hI : dq_I k σ) (kk : ∀ (u : dk_S) (fO' : Nat → Int64) (fD' : Nat → UInt64), dq_I (k + 1) u → dw_W G O p l e room_1 s m args below meth c (cells + 1) (slots + 6) Q 2297 (dl_L G O b i) [] u fO' fD') : dw_W G O p l e room_1 s m args below meth c cells slots Q 888 (dl_L G O b i) [] σ fO fD := by
  refine dw_aload_n (i := 1) C dL_law_888 (n := 889) rfl rfl rfl ?_
  refine dw_aload_n (i := 3) C dL_law_889 (n := 890) rfl rfl rfl ?_
  have hz : dz_C k (wf_X8_leave) (wf_X9_leave) [(eIS, 1)] σ := dz_leave hI
  obtain ⟨K, X, hwK, hXt, hM⟩ := dl_both hz (by decide +kernel)
  refine dw_callW C [] (cw_L_leave hD hl hri hg hXt hwK) yw_L_leave dk_wm_L_170 rfl (by decide) hRc rfl (by decide) rfl dL_law_890 (n := 893) rfl (fun r σ' fO' fD' hp => ?_)
  have hm := hM Int32.toInt64 fD r σ' fO' fD' hp
  refine dw_istore (i := 6) (L' := [some (.ref b), some (dk_r G 0 40), some (dk_r G 4 60), some (.ref O.2.1), some (.ref O.2.2.1), some (.int (nI i)), some (.int r), none, none]) C dL_law_893 (n := 895) rfl (dk_nc_of rfl) (Nat.le_of_ble_eq_true rfl) rfl ?_
  refine dw_aload_n (i := 2) C dL_law_895 (n := 896) rfl rfl rfl ?_
  refine dw_callV C [] (cc_X9_leave hD hmi hm) yy_X9_leave dk_wm_L_173 rfl (by decide) hRc dk_sh60 rfl (hmi 60 (by decide) (by decide)) rfl (by decide) rfl dL_law_896 (n := 899) rfl (fun v u hv => ?_)
  obtain ⟨b1, rfl, hu, h0, hb1⟩ := hv
  refine dw_istore (i := 7) (L' := [some (.ref b), some (dk_r G 0 40), some (dk_r G 4 60), some (.ref O.2.1), some (.ref O.2.2.1), some (.int (nI i)), some (.int r), some (.int b1), none]) C dL_law_899 (n := 901) rfl (dk_nc_of rfl) (Nat.le_of_ble_eq_true rfl) rfl ?_
  refine dw_aload_n (i := 2) C dL_law_901 (n := 902) rfl rfl rfl ?_
  refine dw_callV C [] (cc_X9_thrown hD hmi (dl_thr h0)) yy_X9_thrown dk_wm_L_140 rfl (by decide) hRc dk_sh60 rfl (hmi 60 (by decide) (by decide)) rfl (by decide) rfl dL_law_902 (n := 905) rfl (fun v w hv => ?_)
  obtain ⟨x1, rfl, e1, e2⟩ := hv
  subst e2
  refine dw_iload (i := 6) C dL_law_905 (n := 907) rfl rfl ?_
  refine dw_icmp_eq (t := 912) C dL_law_907 (n := 910) rfl (by decide) (fun _ => ?_) (fun hc => absurd e1 hc)
  refine dw_iload (i := 6) C dL_law_912 (n := 914) rfl rfl ?_
  have hex : dw_W G O p l e room_1 s m args below meth c (cells + 1) (slots + 6) Q 929 [some (.ref b), some (dk_r G 0 40), some (dk_r G 4 60), some (.ref O.2.1), some (.ref O.2.2.1), some (.int (nI i)), some (.int r), some (.int b1), none] [] w fO' fD' := dw_goto (t := 2297) C dL_law_929 (by decide) (dw_sub (L0 := dl_L G O b i) ⟨rfl, rfl, rfl, rfl, rfl, rfl, trivial⟩ (kk w fO' fD' hu))
  refine dw_if_ne (t := 929) C dL_law_914 (n := 917) rfl (by decide) (fun _ => hex) (fun hc => ?_)
  refine dw_aload_n (i := 3) C dL_law_917 (n := 918) rfl rfl rfl ?_
  refine dw_iconst (v := 0) C dL_law_918 (n := 919) rfl (by decide) ?_
  refine dw_lald C dL_law_919 (n := 920) rfl ?_
  refine dw_iload (i := 7) C dL_law_920 (n := 922) rfl rfl ?_
  refine dw_i2l C dL_law_922 (n := 923) rfl ?_
  refine dw_lcmp C dL_law_923 (n := 924) rfl ?_
  exact dw_if_eq (t := 929) C dL_law_924 (n := 927) rfl (by decide) (fun _ => hex) (fun hn => absurd (dl_cmp0 (hb1 hc)) hn)
