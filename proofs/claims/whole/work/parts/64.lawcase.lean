-- the law: its cases, each two calls and a comparison
section S_LC
variable {p : Program} {l : Launch} {e : Env} {s : State} {m : MethodId} {args : Array Value} {below : List Frame} {meth : Method} {c : Code} {D : va_G} {cA : Nat → ClassId} {sa ad : Nat → Nat} {bs kc ks : Nat} {Q : State → Prop} {σ σ1 σ2 : Nat → Nat → Int} {b L i : Nat} {xs : Nat → Int32} {r : Int} {PF1 PF2 : Prop}
theorem LW_feed (X : AX p s m args meth c D cA sa bs cL_law 7 RLw) (hX : va_X b L xs s s.heap) (hbl : b < s.heap.size) (hbA : ¬ ax_A bs b) (hi : i + 5 < L) (hL : L ≤ 3072) (hk : kc ≤ room_1.cells ∧ ks ≤ room_1.slots) (hzf : PF1 → Z_I r) (h1 : AM l D cA sa ad bs 788 SHp yX11_feed cX11_feed 7 (some .int) 1 (.ref (ad 0) :: [z_i (xs (i + 1)).toInt, z_i (xs (i + 2)).toInt, z_i (xs (i + 3)).toInt, z_i (xs (i + 4)).toInt, z_i (xs (i + 5)).toInt]) σ (some (z_i r)) PF1 σ1) (h2 : AM l D cA sa ad bs 788 SHp yX12_feed cX12_feed 6 (some .int) 1 (.ref (ad 758) :: [z_i (xs (i + 1)).toInt, z_i (xs (i + 2)).toInt, z_i (xs (i + 3)).toInt, z_i (xs (i + 4)).toInt, z_i (xs (i + 5)).toInt]) σ1 (some (z_i r)) PF2 σ2) (k : AW p l e room_1 s m args below meth c D cA ad bs 788 SHp kc ks Q 7 1444 (lw_lv b ad i) [] σ2) : AW p l e room_1 s m args below meth c D cA ad bs 788 SHp kc ks Q 7 204 (lw_lv b ad i) [] σ := by
  refine aw_aload_n X 1 dL_law_204 rfl rfl ?_
  refine aw_arg X hX hbl hbA (j := 1) (by omega) hL dL_law_205 dL_law_206 dL_law_208 dL_law_209 dL_law_210 ?_
  refine aw_arg X hX hbl hbA (j := 2) (by omega) hL dL_law_211 dL_law_212 dL_law_214 dL_law_215 dL_law_216 ?_
  refine aw_arg X hX hbl hbA (j := 3) (by omega) hL dL_law_217 dL_law_218 dL_law_220 dL_law_221 dL_law_222 ?_
  refine aw_arg X hX hbl hbA (j := 4) (by omega) hL dL_law_223 dL_law_224 dL_law_226 dL_law_227 dL_law_228 ?_
  refine aw_arg X hX hbl hbA (j := 5) (by omega) hL dL_law_229 dL_law_230 dL_law_232 dL_law_233 dL_law_234 ?_
  refine aw_callV X [z_i (xs (i + 1)).toInt, z_i (xs (i + 2)).toInt, z_i (xs (i + 3)).toInt, z_i (xs (i + 4)).toInt, z_i (xs (i + 5)).toInt] [] [z_i r] cL_19 s_0 ⟨_, _, rfl⟩ h1 rfl ⟨(Nat.le_of_ble_eq_true rfl), (Nat.le_of_ble_eq_true rfl), hk.1, hk.2⟩ rfl (Nat.le_of_ble_eq_true rfl) rfl dL_law_235 (fun pf1 => ?_)
  refine aw_aload_n X 2 dL_law_238 rfl rfl ?_
  refine aw_arg X hX hbl hbA (j := 1) (by omega) hL dL_law_239 dL_law_240 dL_law_242 dL_law_243 dL_law_244 ?_
  refine aw_arg X hX hbl hbA (j := 2) (by omega) hL dL_law_245 dL_law_246 dL_law_248 dL_law_249 dL_law_250 ?_
  refine aw_arg X hX hbl hbA (j := 3) (by omega) hL dL_law_251 dL_law_252 dL_law_254 dL_law_255 dL_law_256 ?_
  refine aw_arg X hX hbl hbA (j := 4) (by omega) hL dL_law_257 dL_law_258 dL_law_260 dL_law_261 dL_law_262 ?_
  refine aw_arg X hX hbl hbA (j := 5) (by omega) hL dL_law_263 dL_law_264 dL_law_266 dL_law_267 dL_law_268 ?_
  refine aw_callV X [z_i (xs (i + 1)).toInt, z_i (xs (i + 2)).toInt, z_i (xs (i + 3)).toInt, z_i (xs (i + 4)).toInt, z_i (xs (i + 5)).toInt] [z_i r] [z_i r, z_i r] cL_23 s_758 ⟨_, _, rfl⟩ h2 rfl ⟨(Nat.le_of_ble_eq_true rfl), (Nat.le_of_ble_eq_true rfl), hk.1, hk.2⟩ rfl (Nat.le_of_ble_eq_true rfl) rfl dL_law_269 (fun pf2 => ?_)
  exact aw_icmp_eq X (hzf pf1) (hzf pf1) (tgt := 1444) dL_law_272 (by decide) (fun _ => k) (fun h => absurd rfl h)
theorem LW_end (X : AX p s m args meth c D cA sa bs cL_law 7 RLw) (hX : va_X b L xs s s.heap) (hbl : b < s.heap.size) (hbA : ¬ ax_A bs b) (hi : i + 5 < L) (hL : L ≤ 3072) (hk : kc ≤ room_1.cells ∧ ks ≤ room_1.slots) (hzf : PF1 → Z_I r) (h1 : AM l D cA sa ad bs 788 SHp yX11_end cX11_end 2 (some .boolean) 0 (.ref (ad 0) :: [z_i (xs (i + 1)).toInt]) σ (some (z_i r)) PF1 σ1) (h2 : AM l D cA sa ad bs 788 SHp yX12_end cX12_end 2 (some .boolean) 0 (.ref (ad 758) :: [z_i (xs (i + 1)).toInt]) σ1 (some (z_i r)) PF2 σ2) (k : AW p l e room_1 s m args below meth c D cA ad bs 788 SHp kc ks Q 7 1444 (lw_lv b ad i) [] σ2) : AW p l e room_1 s m args below meth c D cA ad bs 788 SHp kc ks Q 7 277 (lw_lv b ad i) [] σ := by
  refine aw_aload_n X 1 dL_law_277 rfl rfl ?_
  refine aw_arg X hX hbl hbA (j := 1) (by omega) hL dL_law_278 dL_law_279 dL_law_281 dL_law_282 dL_law_283 ?_
  refine aw_callV X [z_i (xs (i + 1)).toInt] [] [z_i r] cL_24 s_0 ⟨_, _, rfl⟩ h1 rfl ⟨(Nat.le_of_ble_eq_true rfl), (Nat.le_of_ble_eq_true rfl), hk.1, hk.2⟩ rfl (Nat.le_of_ble_eq_true rfl) rfl dL_law_284 (fun pf1 => ?_)
  refine aw_aload_n X 2 dL_law_287 rfl rfl ?_
  refine aw_arg X hX hbl hbA (j := 1) (by omega) hL dL_law_288 dL_law_289 dL_law_291 dL_law_292 dL_law_293 ?_
  refine aw_callV X [z_i (xs (i + 1)).toInt] [z_i r] [z_i r, z_i r] cL_28 s_758 ⟨_, _, rfl⟩ h2 rfl ⟨(Nat.le_of_ble_eq_true rfl), (Nat.le_of_ble_eq_true rfl), hk.1, hk.2⟩ rfl (Nat.le_of_ble_eq_true rfl) rfl dL_law_294 (fun pf2 => ?_)
  exact aw_icmp_eq X (hzf pf1) (hzf pf1) (tgt := 1444) dL_law_297 (by decide) (fun _ => k) (fun h => absurd rfl h)
theorem LW_fault (X : AX p s m args meth c D cA sa bs cL_law 7 RLw) (hX : va_X b L xs s s.heap) (hbl : b < s.heap.size) (hbA : ¬ ax_A bs b) (hi : i + 5 < L) (hL : L ≤ 3072) (hk : kc ≤ room_1.cells ∧ ks ≤ room_1.slots) (hzf : PF1 → Z_I r) (h1 : AM l D cA sa ad bs 788 SHp yX11_fault cX11_fault 2 (some .int) 11 (.ref (ad 0) :: [z_i (xs (i + 1)).toInt]) σ (some (z_i r)) PF1 σ1) (h2 : AM l D cA sa ad bs 788 SHp yX12_fault cX12_fault 2 (some .int) 11 (.ref (ad 758) :: [z_i (xs (i + 1)).toInt]) σ1 (some (z_i r)) PF2 σ2) (k : AW p l e room_1 s m args below meth c D cA ad bs 788 SHp kc ks Q 7 1444 (lw_lv b ad i) [] σ2) : AW p l e room_1 s m args below meth c D cA ad bs 788 SHp kc ks Q 7 302 (lw_lv b ad i) [] σ := by
  refine aw_aload_n X 1 dL_law_302 rfl rfl ?_
  refine aw_arg X hX hbl hbA (j := 1) (by omega) hL dL_law_303 dL_law_304 dL_law_306 dL_law_307 dL_law_308 ?_
  refine aw_callV X [z_i (xs (i + 1)).toInt] [] [z_i r] cL_29 s_0 ⟨_, _, rfl⟩ h1 rfl ⟨(Nat.le_of_ble_eq_true rfl), (Nat.le_of_ble_eq_true rfl), hk.1, hk.2⟩ rfl (Nat.le_of_ble_eq_true rfl) rfl dL_law_309 (fun pf1 => ?_)
  refine aw_aload_n X 2 dL_law_312 rfl rfl ?_
  refine aw_arg X hX hbl hbA (j := 1) (by omega) hL dL_law_313 dL_law_314 dL_law_316 dL_law_317 dL_law_318 ?_
  refine aw_callV X [z_i (xs (i + 1)).toInt] [z_i r] [z_i r, z_i r] cL_33 s_758 ⟨_, _, rfl⟩ h2 rfl ⟨(Nat.le_of_ble_eq_true rfl), (Nat.le_of_ble_eq_true rfl), hk.1, hk.2⟩ rfl (Nat.le_of_ble_eq_true rfl) rfl dL_law_319 (fun pf2 => ?_)
  exact aw_icmp_eq X (hzf pf1) (hzf pf1) (tgt := 1444) dL_law_322 (by decide) (fun _ => k) (fun h => absurd rfl h)
theorem LW_text (X : AX p s m args meth c D cA sa bs cL_law 7 RLw) (hX : va_X b L xs s s.heap) (hbl : b < s.heap.size) (hbA : ¬ ax_A bs b) (hi : i + 5 < L) (hL : L ≤ 3072) (hk : kc ≤ room_1.cells ∧ ks ≤ room_1.slots) (hzf : PF1 → Z_I r) (h1 : AM l D cA sa ad bs 788 SHp yX11_text cX11_text 2 (some .int) 11 (.ref (ad 0) :: [z_i (xs (i + 1)).toInt]) σ (some (z_i r)) PF1 σ1) (h2 : AM l D cA sa ad bs 788 SHp yX12_text cX12_text 3 (some .int) 12 (.ref (ad 758) :: [z_i (xs (i + 1)).toInt]) σ1 (some (z_i r)) PF2 σ2) (k : AW p l e room_1 s m args below meth c D cA ad bs 788 SHp kc ks Q 7 1444 (lw_lv b ad i) [] σ2) : AW p l e room_1 s m args below meth c D cA ad bs 788 SHp kc ks Q 7 327 (lw_lv b ad i) [] σ := by
  refine aw_aload_n X 1 dL_law_327 rfl rfl ?_
  refine aw_arg X hX hbl hbA (j := 1) (by omega) hL dL_law_328 dL_law_329 dL_law_331 dL_law_332 dL_law_333 ?_
  refine aw_callV X [z_i (xs (i + 1)).toInt] [] [z_i r] cL_34 s_0 ⟨_, _, rfl⟩ h1 rfl ⟨(Nat.le_of_ble_eq_true rfl), (Nat.le_of_ble_eq_true rfl), hk.1, hk.2⟩ rfl (Nat.le_of_ble_eq_true rfl) rfl dL_law_334 (fun pf1 => ?_)
  refine aw_aload_n X 2 dL_law_337 rfl rfl ?_
  refine aw_arg X hX hbl hbA (j := 1) (by omega) hL dL_law_338 dL_law_339 dL_law_341 dL_law_342 dL_law_343 ?_
  refine aw_callV X [z_i (xs (i + 1)).toInt] [z_i r] [z_i r, z_i r] cL_37 s_758 ⟨_, _, rfl⟩ h2 rfl ⟨(Nat.le_of_ble_eq_true rfl), (Nat.le_of_ble_eq_true rfl), hk.1, hk.2⟩ rfl (Nat.le_of_ble_eq_true rfl) rfl dL_law_344 (fun pf2 => ?_)
  exact aw_icmp_eq X (hzf pf1) (hzf pf1) (tgt := 1444) dL_law_347 (by decide) (fun _ => k) (fun h => absurd rfl h)
theorem LW_rule (X : AX p s m args meth c D cA sa bs cL_law 7 RLw) (hX : va_X b L xs s s.heap) (hbl : b < s.heap.size) (hbA : ¬ ax_A bs b) (hi : i + 5 < L) (hL : L ≤ 3072) (hk : kc ≤ room_1.cells ∧ ks ≤ room_1.slots) (hzf : PF1 → Z_I r) (h1 : AM l D cA sa ad bs 788 SHp yX11_rule cX11_rule 2 (some .int) 1 (.ref (ad 0) :: [z_i (xs (i + 1)).toInt]) σ (some (z_i r)) PF1 σ1) (h2 : AM l D cA sa ad bs 788 SHp yX12_rule cX12_rule 2 (some .int) 1 (.ref (ad 758) :: [z_i (xs (i + 1)).toInt]) σ1 (some (z_i r)) PF2 σ2) (k : AW p l e room_1 s m args below meth c D cA ad bs 788 SHp kc ks Q 7 1444 (lw_lv b ad i) [] σ2) : AW p l e room_1 s m args below meth c D cA ad bs 788 SHp kc ks Q 7 352 (lw_lv b ad i) [] σ := by
  refine aw_aload_n X 1 dL_law_352 rfl rfl ?_
  refine aw_arg X hX hbl hbA (j := 1) (by omega) hL dL_law_353 dL_law_354 dL_law_356 dL_law_357 dL_law_358 ?_
  refine aw_callV X [z_i (xs (i + 1)).toInt] [] [z_i r] cL_38 s_0 ⟨_, _, rfl⟩ h1 rfl ⟨(Nat.le_of_ble_eq_true rfl), (Nat.le_of_ble_eq_true rfl), hk.1, hk.2⟩ rfl (Nat.le_of_ble_eq_true rfl) rfl dL_law_359 (fun pf1 => ?_)
  refine aw_aload_n X 2 dL_law_362 rfl rfl ?_
  refine aw_arg X hX hbl hbA (j := 1) (by omega) hL dL_law_363 dL_law_364 dL_law_366 dL_law_367 dL_law_368 ?_
  refine aw_callV X [z_i (xs (i + 1)).toInt] [z_i r] [z_i r, z_i r] cL_41 s_758 ⟨_, _, rfl⟩ h2 rfl ⟨(Nat.le_of_ble_eq_true rfl), (Nat.le_of_ble_eq_true rfl), hk.1, hk.2⟩ rfl (Nat.le_of_ble_eq_true rfl) rfl dL_law_369 (fun pf2 => ?_)
  exact aw_icmp_eq X (hzf pf1) (hzf pf1) (tgt := 1444) dL_law_372 (by decide) (fun _ => k) (fun h => absurd rfl h)
theorem LW_point (X : AX p s m args meth c D cA sa bs cL_law 7 RLw) (hX : va_X b L xs s s.heap) (hbl : b < s.heap.size) (hbA : ¬ ax_A bs b) (hi : i + 5 < L) (hL : L ≤ 3072) (hk : kc ≤ room_1.cells ∧ ks ≤ room_1.slots) (hzf : PF1 → Z_I r) (h1 : AM l D cA sa ad bs 788 SHp yX11_point cX11_point 4 (some .int) 1 (.ref (ad 0) :: [z_i (xs (i + 1)).toInt, z_i (xs (i + 2)).toInt, z_i (xs (i + 3)).toInt]) σ (some (z_i r)) PF1 σ1) (h2 : AM l D cA sa ad bs 788 SHp yX12_point cX12_point 4 (some .int) 1 (.ref (ad 758) :: [z_i (xs (i + 1)).toInt, z_i (xs (i + 2)).toInt, z_i (xs (i + 3)).toInt]) σ1 (some (z_i r)) PF2 σ2) (k : AW p l e room_1 s m args below meth c D cA ad bs 788 SHp kc ks Q 7 1444 (lw_lv b ad i) [] σ2) : AW p l e room_1 s m args below meth c D cA ad bs 788 SHp kc ks Q 7 445 (lw_lv b ad i) [] σ := by
  refine aw_aload_n X 1 dL_law_445 rfl rfl ?_
  refine aw_arg X hX hbl hbA (j := 1) (by omega) hL dL_law_446 dL_law_447 dL_law_449 dL_law_450 dL_law_451 ?_
  refine aw_arg X hX hbl hbA (j := 2) (by omega) hL dL_law_452 dL_law_453 dL_law_455 dL_law_456 dL_law_457 ?_
  refine aw_arg X hX hbl hbA (j := 3) (by omega) hL dL_law_458 dL_law_459 dL_law_461 dL_law_462 dL_law_463 ?_
  refine aw_callV X [z_i (xs (i + 1)).toInt, z_i (xs (i + 2)).toInt, z_i (xs (i + 3)).toInt] [] [z_i r] cL_52 s_0 ⟨_, _, rfl⟩ h1 rfl ⟨(Nat.le_of_ble_eq_true rfl), (Nat.le_of_ble_eq_true rfl), hk.1, hk.2⟩ rfl (Nat.le_of_ble_eq_true rfl) rfl dL_law_464 (fun pf1 => ?_)
  refine aw_aload_n X 2 dL_law_467 rfl rfl ?_
  refine aw_arg X hX hbl hbA (j := 1) (by omega) hL dL_law_468 dL_law_469 dL_law_471 dL_law_472 dL_law_473 ?_
  refine aw_arg X hX hbl hbA (j := 2) (by omega) hL dL_law_474 dL_law_475 dL_law_477 dL_law_478 dL_law_479 ?_
  refine aw_arg X hX hbl hbA (j := 3) (by omega) hL dL_law_480 dL_law_481 dL_law_483 dL_law_484 dL_law_485 ?_
  refine aw_callV X [z_i (xs (i + 1)).toInt, z_i (xs (i + 2)).toInt, z_i (xs (i + 3)).toInt] [z_i r] [z_i r, z_i r] cL_56 s_758 ⟨_, _, rfl⟩ h2 rfl ⟨(Nat.le_of_ble_eq_true rfl), (Nat.le_of_ble_eq_true rfl), hk.1, hk.2⟩ rfl (Nat.le_of_ble_eq_true rfl) rfl dL_law_486 (fun pf2 => ?_)
  exact aw_icmp_eq X (hzf pf1) (hzf pf1) (tgt := 1444) dL_law_489 (by decide) (fun _ => k) (fun h => absurd rfl h)
theorem LW_core (X : AX p s m args meth c D cA sa bs cL_law 7 RLw) (hX : va_X b L xs s s.heap) (hbl : b < s.heap.size) (hbA : ¬ ax_A bs b) (hi : i + 5 < L) (hL : L ≤ 3072) (hk : kc ≤ room_1.cells ∧ ks ≤ room_1.slots) (hzf : PF1 → Z_I r) (h1 : AM l D cA sa ad bs 788 SHp yX11_core cX11_core 3 (some .int) 4 (.ref (ad 0) :: [z_i (xs (i + 1)).toInt, z_i (xs (i + 2)).toInt]) σ (some (z_i r)) PF1 σ1) (h2 : AM l D cA sa ad bs 788 SHp yX12_core cX12_core 3 (some .int) 3 (.ref (ad 758) :: [z_i (xs (i + 1)).toInt, z_i (xs (i + 2)).toInt]) σ1 (some (z_i r)) PF2 σ2) (k : AW p l e room_1 s m args below meth c D cA ad bs 788 SHp kc ks Q 7 1444 (lw_lv b ad i) [] σ2) : AW p l e room_1 s m args below meth c D cA ad bs 788 SHp kc ks Q 7 494 (lw_lv b ad i) [] σ := by
  refine aw_aload_n X 1 dL_law_494 rfl rfl ?_
  refine aw_arg X hX hbl hbA (j := 1) (by omega) hL dL_law_495 dL_law_496 dL_law_498 dL_law_499 dL_law_500 ?_
  refine aw_arg X hX hbl hbA (j := 2) (by omega) hL dL_law_501 dL_law_502 dL_law_504 dL_law_505 dL_law_506 ?_
  refine aw_callV X [z_i (xs (i + 1)).toInt, z_i (xs (i + 2)).toInt] [] [z_i r] cL_57 s_0 ⟨_, _, rfl⟩ h1 rfl ⟨(Nat.le_of_ble_eq_true rfl), (Nat.le_of_ble_eq_true rfl), hk.1, hk.2⟩ rfl (Nat.le_of_ble_eq_true rfl) rfl dL_law_507 (fun pf1 => ?_)
  refine aw_aload_n X 2 dL_law_510 rfl rfl ?_
  refine aw_arg X hX hbl hbA (j := 1) (by omega) hL dL_law_511 dL_law_512 dL_law_514 dL_law_515 dL_law_516 ?_
  refine aw_arg X hX hbl hbA (j := 2) (by omega) hL dL_law_517 dL_law_518 dL_law_520 dL_law_521 dL_law_522 ?_
  refine aw_callV X [z_i (xs (i + 1)).toInt, z_i (xs (i + 2)).toInt] [z_i r] [z_i r, z_i r] cL_60 s_758 ⟨_, _, rfl⟩ h2 rfl ⟨(Nat.le_of_ble_eq_true rfl), (Nat.le_of_ble_eq_true rfl), hk.1, hk.2⟩ rfl (Nat.le_of_ble_eq_true rfl) rfl dL_law_523 (fun pf2 => ?_)
  exact aw_icmp_eq X (hzf pf1) (hzf pf1) (tgt := 1444) dL_law_526 (by decide) (fun _ => k) (fun h => absurd rfl h)
theorem LW_task (X : AX p s m args meth c D cA sa bs cL_law 7 RLw) (hX : va_X b L xs s s.heap) (hbl : b < s.heap.size) (hbA : ¬ ax_A bs b) (hi : i + 5 < L) (hL : L ≤ 3072) (hk : kc ≤ room_1.cells ∧ ks ≤ room_1.slots) (hzf : PF1 → Z_I r) (h1 : AM l D cA sa ad bs 788 SHp yX11_task cX11_task 3 (some .int) 3 (.ref (ad 0) :: [z_i (xs (i + 1)).toInt, z_i (xs (i + 2)).toInt]) σ (some (z_i r)) PF1 σ1) (h2 : AM l D cA sa ad bs 788 SHp yX12_task cX12_task 3 (some .int) 2 (.ref (ad 758) :: [z_i (xs (i + 1)).toInt, z_i (xs (i + 2)).toInt]) σ1 (some (z_i r)) PF2 σ2) (k : AW p l e room_1 s m args below meth c D cA ad bs 788 SHp kc ks Q 7 1444 (lw_lv b ad i) [] σ2) : AW p l e room_1 s m args below meth c D cA ad bs 788 SHp kc ks Q 7 531 (lw_lv b ad i) [] σ := by
  refine aw_aload_n X 1 dL_law_531 rfl rfl ?_
  refine aw_arg X hX hbl hbA (j := 1) (by omega) hL dL_law_532 dL_law_533 dL_law_535 dL_law_536 dL_law_537 ?_
  refine aw_arg X hX hbl hbA (j := 2) (by omega) hL dL_law_538 dL_law_539 dL_law_541 dL_law_542 dL_law_543 ?_
  refine aw_callV X [z_i (xs (i + 1)).toInt, z_i (xs (i + 2)).toInt] [] [z_i r] cL_61 s_0 ⟨_, _, rfl⟩ h1 rfl ⟨(Nat.le_of_ble_eq_true rfl), (Nat.le_of_ble_eq_true rfl), hk.1, hk.2⟩ rfl (Nat.le_of_ble_eq_true rfl) rfl dL_law_544 (fun pf1 => ?_)
  refine aw_aload_n X 2 dL_law_547 rfl rfl ?_
  refine aw_arg X hX hbl hbA (j := 1) (by omega) hL dL_law_548 dL_law_549 dL_law_551 dL_law_552 dL_law_553 ?_
  refine aw_arg X hX hbl hbA (j := 2) (by omega) hL dL_law_554 dL_law_555 dL_law_557 dL_law_558 dL_law_559 ?_
  refine aw_callV X [z_i (xs (i + 1)).toInt, z_i (xs (i + 2)).toInt] [z_i r] [z_i r, z_i r] cL_64 s_758 ⟨_, _, rfl⟩ h2 rfl ⟨(Nat.le_of_ble_eq_true rfl), (Nat.le_of_ble_eq_true rfl), hk.1, hk.2⟩ rfl (Nat.le_of_ble_eq_true rfl) rfl dL_law_560 (fun pf2 => ?_)
  exact aw_icmp_eq X (hzf pf1) (hzf pf1) (tgt := 1444) dL_law_563 (by decide) (fun _ => k) (fun h => absurd rfl h)
theorem LW_name (X : AX p s m args meth c D cA sa bs cL_law 7 RLw) (hX : va_X b L xs s s.heap) (hbl : b < s.heap.size) (hbA : ¬ ax_A bs b) (hi : i + 5 < L) (hL : L ≤ 3072) (hk : kc ≤ room_1.cells ∧ ks ≤ room_1.slots) (hzf : PF1 → Z_I r) (h1 : AM l D cA sa ad bs 788 SHp yX11_name cX11_name 4 (some .int) 1 (.ref (ad 0) :: [z_i (xs (i + 1)).toInt, z_i (xs (i + 2)).toInt, z_i (xs (i + 3)).toInt]) σ (some (z_i r)) PF1 σ1) (h2 : AM l D cA sa ad bs 788 SHp yX12_name cX12_name 4 (some .int) 2 (.ref (ad 758) :: [z_i (xs (i + 1)).toInt, z_i (xs (i + 2)).toInt, z_i (xs (i + 3)).toInt]) σ1 (some (z_i r)) PF2 σ2) (k : AW p l e room_1 s m args below meth c D cA ad bs 788 SHp kc ks Q 7 1444 (lw_lv b ad i) [] σ2) : AW p l e room_1 s m args below meth c D cA ad bs 788 SHp kc ks Q 7 568 (lw_lv b ad i) [] σ := by
  refine aw_aload_n X 1 dL_law_568 rfl rfl ?_
  refine aw_arg X hX hbl hbA (j := 1) (by omega) hL dL_law_569 dL_law_570 dL_law_572 dL_law_573 dL_law_574 ?_
  refine aw_arg X hX hbl hbA (j := 2) (by omega) hL dL_law_575 dL_law_576 dL_law_578 dL_law_579 dL_law_580 ?_
  refine aw_arg X hX hbl hbA (j := 3) (by omega) hL dL_law_581 dL_law_582 dL_law_584 dL_law_585 dL_law_586 ?_
  refine aw_callV X [z_i (xs (i + 1)).toInt, z_i (xs (i + 2)).toInt, z_i (xs (i + 3)).toInt] [] [z_i r] cL_65 s_0 ⟨_, _, rfl⟩ h1 rfl ⟨(Nat.le_of_ble_eq_true rfl), (Nat.le_of_ble_eq_true rfl), hk.1, hk.2⟩ rfl (Nat.le_of_ble_eq_true rfl) rfl dL_law_587 (fun pf1 => ?_)
  refine aw_aload_n X 2 dL_law_590 rfl rfl ?_
  refine aw_arg X hX hbl hbA (j := 1) (by omega) hL dL_law_591 dL_law_592 dL_law_594 dL_law_595 dL_law_596 ?_
  refine aw_arg X hX hbl hbA (j := 2) (by omega) hL dL_law_597 dL_law_598 dL_law_600 dL_law_601 dL_law_602 ?_
  refine aw_arg X hX hbl hbA (j := 3) (by omega) hL dL_law_603 dL_law_604 dL_law_606 dL_law_607 dL_law_608 ?_
  refine aw_callV X [z_i (xs (i + 1)).toInt, z_i (xs (i + 2)).toInt, z_i (xs (i + 3)).toInt] [z_i r] [z_i r, z_i r] cL_68 s_758 ⟨_, _, rfl⟩ h2 rfl ⟨(Nat.le_of_ble_eq_true rfl), (Nat.le_of_ble_eq_true rfl), hk.1, hk.2⟩ rfl (Nat.le_of_ble_eq_true rfl) rfl dL_law_609 (fun pf2 => ?_)
  exact aw_icmp_eq X (hzf pf1) (hzf pf1) (tgt := 1444) dL_law_612 (by decide) (fun _ => k) (fun h => absurd rfl h)
theorem LW_asked (X : AX p s m args meth c D cA sa bs cL_law 7 RLw) (hX : va_X b L xs s s.heap) (hbl : b < s.heap.size) (hbA : ¬ ax_A bs b) (hi : i + 5 < L) (hL : L ≤ 3072) (hk : kc ≤ room_1.cells ∧ ks ≤ room_1.slots) (hzf : PF1 → Z_I r) (h1 : AM l D cA sa ad bs 788 SHp yX11_asked cX11_asked 3 (some .int) 1 (.ref (ad 0) :: [z_i (xs (i + 1)).toInt, z_i (xs (i + 2)).toInt]) σ (some (z_i r)) PF1 σ1) (h2 : AM l D cA sa ad bs 788 SHp yX12_asked cX12_asked 3 (some .int) 1 (.ref (ad 758) :: [z_i (xs (i + 1)).toInt, z_i (xs (i + 2)).toInt]) σ1 (some (z_i r)) PF2 σ2) (k : AW p l e room_1 s m args below meth c D cA ad bs 788 SHp kc ks Q 7 1444 (lw_lv b ad i) [] σ2) : AW p l e room_1 s m args below meth c D cA ad bs 788 SHp kc ks Q 7 617 (lw_lv b ad i) [] σ := by
  refine aw_aload_n X 1 dL_law_617 rfl rfl ?_
  refine aw_arg X hX hbl hbA (j := 1) (by omega) hL dL_law_618 dL_law_619 dL_law_621 dL_law_622 dL_law_623 ?_
  refine aw_arg X hX hbl hbA (j := 2) (by omega) hL dL_law_624 dL_law_625 dL_law_627 dL_law_628 dL_law_629 ?_
  refine aw_callV X [z_i (xs (i + 1)).toInt, z_i (xs (i + 2)).toInt] [] [z_i r] cL_69 s_0 ⟨_, _, rfl⟩ h1 rfl ⟨(Nat.le_of_ble_eq_true rfl), (Nat.le_of_ble_eq_true rfl), hk.1, hk.2⟩ rfl (Nat.le_of_ble_eq_true rfl) rfl dL_law_630 (fun pf1 => ?_)
  refine aw_aload_n X 2 dL_law_633 rfl rfl ?_
  refine aw_arg X hX hbl hbA (j := 1) (by omega) hL dL_law_634 dL_law_635 dL_law_637 dL_law_638 dL_law_639 ?_
  refine aw_arg X hX hbl hbA (j := 2) (by omega) hL dL_law_640 dL_law_641 dL_law_643 dL_law_644 dL_law_645 ?_
  refine aw_callV X [z_i (xs (i + 1)).toInt, z_i (xs (i + 2)).toInt] [z_i r] [z_i r, z_i r] cL_72 s_758 ⟨_, _, rfl⟩ h2 rfl ⟨(Nat.le_of_ble_eq_true rfl), (Nat.le_of_ble_eq_true rfl), hk.1, hk.2⟩ rfl (Nat.le_of_ble_eq_true rfl) rfl dL_law_646 (fun pf2 => ?_)
  exact aw_icmp_eq X (hzf pf1) (hzf pf1) (tgt := 1444) dL_law_649 (by decide) (fun _ => k) (fun h => absurd rfl h)
theorem LW_tick (X : AX p s m args meth c D cA sa bs cL_law 7 RLw) (hX : va_X b L xs s s.heap) (hbl : b < s.heap.size) (hbA : ¬ ax_A bs b) (hi : i + 5 < L) (hL : L ≤ 3072) (hk : kc ≤ room_1.cells ∧ ks ≤ room_1.slots) (hzf : PF1 → Z_I r) (h1 : AM l D cA sa ad bs 788 SHp yX11_tick cX11_tick 2 (some .int) 7 (.ref (ad 0) :: [z_i (xs (i + 1)).toInt]) σ (some (z_i r)) PF1 σ1) (h2 : AM l D cA sa ad bs 788 SHp yX12_tick cX12_tick 2 (some .int) 10 (.ref (ad 758) :: [z_i (xs (i + 1)).toInt]) σ1 (some (z_i r)) PF2 σ2) (k : AW p l e room_1 s m args below meth c D cA ad bs 788 SHp kc ks Q 7 1444 (lw_lv b ad i) [] σ2) : AW p l e room_1 s m args below meth c D cA ad bs 788 SHp kc ks Q 7 654 (lw_lv b ad i) [] σ := by
  refine aw_aload_n X 1 dL_law_654 rfl rfl ?_
  refine aw_arg X hX hbl hbA (j := 1) (by omega) hL dL_law_655 dL_law_656 dL_law_658 dL_law_659 dL_law_660 ?_
  refine aw_callV X [z_i (xs (i + 1)).toInt] [] [z_i r] cL_73 s_0 ⟨_, _, rfl⟩ h1 rfl ⟨(Nat.le_of_ble_eq_true rfl), (Nat.le_of_ble_eq_true rfl), hk.1, hk.2⟩ rfl (Nat.le_of_ble_eq_true rfl) rfl dL_law_661 (fun pf1 => ?_)
  refine aw_aload_n X 2 dL_law_664 rfl rfl ?_
  refine aw_arg X hX hbl hbA (j := 1) (by omega) hL dL_law_665 dL_law_666 dL_law_668 dL_law_669 dL_law_670 ?_
  refine aw_callV X [z_i (xs (i + 1)).toInt] [z_i r] [z_i r, z_i r] cL_76 s_758 ⟨_, _, rfl⟩ h2 rfl ⟨(Nat.le_of_ble_eq_true rfl), (Nat.le_of_ble_eq_true rfl), hk.1, hk.2⟩ rfl (Nat.le_of_ble_eq_true rfl) rfl dL_law_671 (fun pf2 => ?_)
  exact aw_icmp_eq X (hzf pf1) (hzf pf1) (tgt := 1444) dL_law_674 (by decide) (fun _ => k) (fun h => absurd rfl h)
theorem LW_move (X : AX p s m args meth c D cA sa bs cL_law 7 RLw) (hX : va_X b L xs s s.heap) (hbl : b < s.heap.size) (hbA : ¬ ax_A bs b) (hi : i + 5 < L) (hL : L ≤ 3072) (hk : kc ≤ room_1.cells ∧ ks ≤ room_1.slots) (hzf : PF1 → Z_I r) (h1 : AM l D cA sa ad bs 788 SHp yX11_move cX11_move 3 (some .int) 7 (.ref (ad 0) :: [z_i (xs (i + 1)).toInt, z_i (xs (i + 2)).toInt]) σ (some (z_i r)) PF1 σ1) (h2 : AM l D cA sa ad bs 788 SHp yX12_move cX12_move 3 (some .int) 10 (.ref (ad 758) :: [z_i (xs (i + 1)).toInt, z_i (xs (i + 2)).toInt]) σ1 (some (z_i r)) PF2 σ2) (k : AW p l e room_1 s m args below meth c D cA ad bs 788 SHp kc ks Q 7 1444 (lw_lv b ad i) [] σ2) : AW p l e room_1 s m args below meth c D cA ad bs 788 SHp kc ks Q 7 679 (lw_lv b ad i) [] σ := by
  refine aw_aload_n X 1 dL_law_679 rfl rfl ?_
  refine aw_arg X hX hbl hbA (j := 1) (by omega) hL dL_law_680 dL_law_681 dL_law_683 dL_law_684 dL_law_685 ?_
  refine aw_arg X hX hbl hbA (j := 2) (by omega) hL dL_law_686 dL_law_687 dL_law_689 dL_law_690 dL_law_691 ?_
  refine aw_callV X [z_i (xs (i + 1)).toInt, z_i (xs (i + 2)).toInt] [] [z_i r] cL_77 s_0 ⟨_, _, rfl⟩ h1 rfl ⟨(Nat.le_of_ble_eq_true rfl), (Nat.le_of_ble_eq_true rfl), hk.1, hk.2⟩ rfl (Nat.le_of_ble_eq_true rfl) rfl dL_law_692 (fun pf1 => ?_)
  refine aw_aload_n X 2 dL_law_695 rfl rfl ?_
  refine aw_arg X hX hbl hbA (j := 1) (by omega) hL dL_law_696 dL_law_697 dL_law_699 dL_law_700 dL_law_701 ?_
  refine aw_arg X hX hbl hbA (j := 2) (by omega) hL dL_law_702 dL_law_703 dL_law_705 dL_law_706 dL_law_707 ?_
  refine aw_callV X [z_i (xs (i + 1)).toInt, z_i (xs (i + 2)).toInt] [z_i r] [z_i r, z_i r] cL_80 s_758 ⟨_, _, rfl⟩ h2 rfl ⟨(Nat.le_of_ble_eq_true rfl), (Nat.le_of_ble_eq_true rfl), hk.1, hk.2⟩ rfl (Nat.le_of_ble_eq_true rfl) rfl dL_law_708 (fun pf2 => ?_)
  exact aw_icmp_eq X (hzf pf1) (hzf pf1) (tgt := 1444) dL_law_711 (by decide) (fun _ => k) (fun h => absurd rfl h)
theorem LW_ask (X : AX p s m args meth c D cA sa bs cL_law 7 RLw) (hX : va_X b L xs s s.heap) (hbl : b < s.heap.size) (hbA : ¬ ax_A bs b) (hi : i + 5 < L) (hL : L ≤ 3072) (hk : kc ≤ room_1.cells ∧ ks ≤ room_1.slots) (hzf : PF1 → Z_I r) (h1 : AM l D cA sa ad bs 788 SHp yX11_ask cX11_ask 4 (some .int) 7 (.ref (ad 0) :: [z_i (xs (i + 1)).toInt, z_i (xs (i + 2)).toInt, z_i (xs (i + 3)).toInt]) σ (some (z_i r)) PF1 σ1) (h2 : AM l D cA sa ad bs 788 SHp yX12_ask cX12_ask 4 (some .int) 13 (.ref (ad 758) :: [z_i (xs (i + 1)).toInt, z_i (xs (i + 2)).toInt, z_i (xs (i + 3)).toInt]) σ1 (some (z_i r)) PF2 σ2) (k : AW p l e room_1 s m args below meth c D cA ad bs 788 SHp kc ks Q 7 1444 (lw_lv b ad i) [] σ2) : AW p l e room_1 s m args below meth c D cA ad bs 788 SHp kc ks Q 7 716 (lw_lv b ad i) [] σ := by
  refine aw_aload_n X 1 dL_law_716 rfl rfl ?_
  refine aw_arg X hX hbl hbA (j := 1) (by omega) hL dL_law_717 dL_law_718 dL_law_720 dL_law_721 dL_law_722 ?_
  refine aw_arg X hX hbl hbA (j := 2) (by omega) hL dL_law_723 dL_law_724 dL_law_726 dL_law_727 dL_law_728 ?_
  refine aw_arg X hX hbl hbA (j := 3) (by omega) hL dL_law_729 dL_law_730 dL_law_732 dL_law_733 dL_law_734 ?_
  refine aw_callV X [z_i (xs (i + 1)).toInt, z_i (xs (i + 2)).toInt, z_i (xs (i + 3)).toInt] [] [z_i r] cL_81 s_0 ⟨_, _, rfl⟩ h1 rfl ⟨(Nat.le_of_ble_eq_true rfl), (Nat.le_of_ble_eq_true rfl), hk.1, hk.2⟩ rfl (Nat.le_of_ble_eq_true rfl) rfl dL_law_735 (fun pf1 => ?_)
  refine aw_aload_n X 2 dL_law_738 rfl rfl ?_
  refine aw_arg X hX hbl hbA (j := 1) (by omega) hL dL_law_739 dL_law_740 dL_law_742 dL_law_743 dL_law_744 ?_
  refine aw_arg X hX hbl hbA (j := 2) (by omega) hL dL_law_745 dL_law_746 dL_law_748 dL_law_749 dL_law_750 ?_
  refine aw_arg X hX hbl hbA (j := 3) (by omega) hL dL_law_751 dL_law_752 dL_law_754 dL_law_755 dL_law_756 ?_
  refine aw_callV X [z_i (xs (i + 1)).toInt, z_i (xs (i + 2)).toInt, z_i (xs (i + 3)).toInt] [z_i r] [z_i r, z_i r] cL_84 s_758 ⟨_, _, rfl⟩ h2 rfl ⟨(Nat.le_of_ble_eq_true rfl), (Nat.le_of_ble_eq_true rfl), hk.1, hk.2⟩ rfl (Nat.le_of_ble_eq_true rfl) rfl dL_law_757 (fun pf2 => ?_)
  exact aw_icmp_eq X (hzf pf1) (hzf pf1) (tgt := 1444) dL_law_760 (by decide) (fun _ => k) (fun h => absurd rfl h)
theorem LW_drop (X : AX p s m args meth c D cA sa bs cL_law 7 RLw) (hX : va_X b L xs s s.heap) (hbl : b < s.heap.size) (hbA : ¬ ax_A bs b) (hi : i + 5 < L) (hL : L ≤ 3072) (hk : kc ≤ room_1.cells ∧ ks ≤ room_1.slots) (hzf : PF1 → Z_I r) (h1 : AM l D cA sa ad bs 788 SHp yX11_drop cX11_drop 2 (some .int) 7 (.ref (ad 0) :: [z_i (xs (i + 1)).toInt]) σ (some (z_i r)) PF1 σ1) (h2 : AM l D cA sa ad bs 788 SHp yX12_drop cX12_drop 2 (some .int) 13 (.ref (ad 758) :: [z_i (xs (i + 1)).toInt]) σ1 (some (z_i r)) PF2 σ2) (k : AW p l e room_1 s m args below meth c D cA ad bs 788 SHp kc ks Q 7 1444 (lw_lv b ad i) [] σ2) : AW p l e room_1 s m args below meth c D cA ad bs 788 SHp kc ks Q 7 765 (lw_lv b ad i) [] σ := by
  refine aw_aload_n X 1 dL_law_765 rfl rfl ?_
  refine aw_arg X hX hbl hbA (j := 1) (by omega) hL dL_law_766 dL_law_767 dL_law_769 dL_law_770 dL_law_771 ?_
  refine aw_callV X [z_i (xs (i + 1)).toInt] [] [z_i r] cL_85 s_0 ⟨_, _, rfl⟩ h1 rfl ⟨(Nat.le_of_ble_eq_true rfl), (Nat.le_of_ble_eq_true rfl), hk.1, hk.2⟩ rfl (Nat.le_of_ble_eq_true rfl) rfl dL_law_772 (fun pf1 => ?_)
  refine aw_aload_n X 2 dL_law_775 rfl rfl ?_
  refine aw_arg X hX hbl hbA (j := 1) (by omega) hL dL_law_776 dL_law_777 dL_law_779 dL_law_780 dL_law_781 ?_
  refine aw_callV X [z_i (xs (i + 1)).toInt] [z_i r] [z_i r, z_i r] cL_88 s_758 ⟨_, _, rfl⟩ h2 rfl ⟨(Nat.le_of_ble_eq_true rfl), (Nat.le_of_ble_eq_true rfl), hk.1, hk.2⟩ rfl (Nat.le_of_ble_eq_true rfl) rfl dL_law_782 (fun pf2 => ?_)
  exact aw_icmp_eq X (hzf pf1) (hzf pf1) (tgt := 1444) dL_law_785 (by decide) (fun _ => k) (fun h => absurd rfl h)
theorem LW_stop (X : AX p s m args meth c D cA sa bs cL_law 7 RLw) (hX : va_X b L xs s s.heap) (hbl : b < s.heap.size) (hbA : ¬ ax_A bs b) (hi : i + 5 < L) (hL : L ≤ 3072) (hk : kc ≤ room_1.cells ∧ ks ≤ room_1.slots) (hzf : PF1 → Z_I r) (h1 : AM l D cA sa ad bs 788 SHp yX11_stop cX11_stop 2 (some .int) 7 (.ref (ad 0) :: [z_i (xs (i + 1)).toInt]) σ (some (z_i r)) PF1 σ1) (h2 : AM l D cA sa ad bs 788 SHp yX12_stop cX12_stop 2 (some .int) 10 (.ref (ad 758) :: [z_i (xs (i + 1)).toInt]) σ1 (some (z_i r)) PF2 σ2) (k : AW p l e room_1 s m args below meth c D cA ad bs 788 SHp kc ks Q 7 1444 (lw_lv b ad i) [] σ2) : AW p l e room_1 s m args below meth c D cA ad bs 788 SHp kc ks Q 7 790 (lw_lv b ad i) [] σ := by
  refine aw_aload_n X 1 dL_law_790 rfl rfl ?_
  refine aw_arg X hX hbl hbA (j := 1) (by omega) hL dL_law_791 dL_law_792 dL_law_794 dL_law_795 dL_law_796 ?_
  refine aw_callV X [z_i (xs (i + 1)).toInt] [] [z_i r] cL_89 s_0 ⟨_, _, rfl⟩ h1 rfl ⟨(Nat.le_of_ble_eq_true rfl), (Nat.le_of_ble_eq_true rfl), hk.1, hk.2⟩ rfl (Nat.le_of_ble_eq_true rfl) rfl dL_law_797 (fun pf1 => ?_)
  refine aw_aload_n X 2 dL_law_800 rfl rfl ?_
  refine aw_arg X hX hbl hbA (j := 1) (by omega) hL dL_law_801 dL_law_802 dL_law_804 dL_law_805 dL_law_806 ?_
  refine aw_callV X [z_i (xs (i + 1)).toInt] [z_i r] [z_i r, z_i r] cL_92 s_758 ⟨_, _, rfl⟩ h2 rfl ⟨(Nat.le_of_ble_eq_true rfl), (Nat.le_of_ble_eq_true rfl), hk.1, hk.2⟩ rfl (Nat.le_of_ble_eq_true rfl) rfl dL_law_807 (fun pf2 => ?_)
  exact aw_icmp_eq X (hzf pf1) (hzf pf1) (tgt := 1444) dL_law_810 (by decide) (fun _ => k) (fun h => absurd rfl h)
theorem LW_start (X : AX p s m args meth c D cA sa bs cL_law 7 RLw) (hX : va_X b L xs s s.heap) (hbl : b < s.heap.size) (hbA : ¬ ax_A bs b) (hi : i + 5 < L) (hL : L ≤ 3072) (hk : kc ≤ room_1.cells ∧ ks ≤ room_1.slots) (hzf : PF1 → Z_I r) (h1 : AM l D cA sa ad bs 788 SHp yX11_start cX11_start 2 (some .int) 7 (.ref (ad 0) :: [z_i (xs (i + 1)).toInt]) σ (some (z_i r)) PF1 σ1) (h2 : AM l D cA sa ad bs 788 SHp yX12_start cX12_start 2 (some .int) 10 (.ref (ad 758) :: [z_i (xs (i + 1)).toInt]) σ1 (some (z_i r)) PF2 σ2) (k : AW p l e room_1 s m args below meth c D cA ad bs 788 SHp kc ks Q 7 1444 (lw_lv b ad i) [] σ2) : AW p l e room_1 s m args below meth c D cA ad bs 788 SHp kc ks Q 7 815 (lw_lv b ad i) [] σ := by
  refine aw_aload_n X 1 dL_law_815 rfl rfl ?_
  refine aw_arg X hX hbl hbA (j := 1) (by omega) hL dL_law_816 dL_law_817 dL_law_819 dL_law_820 dL_law_821 ?_
  refine aw_callV X [z_i (xs (i + 1)).toInt] [] [z_i r] cL_93 s_0 ⟨_, _, rfl⟩ h1 rfl ⟨(Nat.le_of_ble_eq_true rfl), (Nat.le_of_ble_eq_true rfl), hk.1, hk.2⟩ rfl (Nat.le_of_ble_eq_true rfl) rfl dL_law_822 (fun pf1 => ?_)
  refine aw_aload_n X 2 dL_law_825 rfl rfl ?_
  refine aw_arg X hX hbl hbA (j := 1) (by omega) hL dL_law_826 dL_law_827 dL_law_829 dL_law_830 dL_law_831 ?_
  refine aw_callV X [z_i (xs (i + 1)).toInt] [z_i r] [z_i r, z_i r] cL_96 s_758 ⟨_, _, rfl⟩ h2 rfl ⟨(Nat.le_of_ble_eq_true rfl), (Nat.le_of_ble_eq_true rfl), hk.1, hk.2⟩ rfl (Nat.le_of_ble_eq_true rfl) rfl dL_law_832 (fun pf2 => ?_)
  exact aw_icmp_eq X (hzf pf1) (hzf pf1) (tgt := 1444) dL_law_835 (by decide) (fun _ => k) (fun h => absurd rfl h)
theorem LW_settle (X : AX p s m args meth c D cA sa bs cL_law 7 RLw) (hX : va_X b L xs s s.heap) (hbl : b < s.heap.size) (hbA : ¬ ax_A bs b) (hi : i + 5 < L) (hL : L ≤ 3072) (hk : kc ≤ room_1.cells ∧ ks ≤ room_1.slots) (hzf : PF1 → Z_I r) (h1 : AM l D cA sa ad bs 788 SHp yX11_settle cX11_settle 1 (some .int) 7 (.ref (ad 0) :: []) σ (some (z_i r)) PF1 σ1) (h2 : AM l D cA sa ad bs 788 SHp yX12_settle cX12_settle 1 (some .int) 10 (.ref (ad 758) :: []) σ1 (some (z_i r)) PF2 σ2) (k : AW p l e room_1 s m args below meth c D cA ad bs 788 SHp kc ks Q 7 1444 (lw_lv b ad i) [] σ2) : AW p l e room_1 s m args below meth c D cA ad bs 788 SHp kc ks Q 7 840 (lw_lv b ad i) [] σ := by
  refine aw_aload_n X 1 dL_law_840 rfl rfl ?_
  refine aw_callV X [] [] [z_i r] cL_97 s_0 ⟨_, _, rfl⟩ h1 rfl ⟨(Nat.le_of_ble_eq_true rfl), (Nat.le_of_ble_eq_true rfl), hk.1, hk.2⟩ rfl (Nat.le_of_ble_eq_true rfl) rfl dL_law_841 (fun pf1 => ?_)
  refine aw_aload_n X 2 dL_law_844 rfl rfl ?_
  refine aw_callV X [] [z_i r] [z_i r, z_i r] cL_100 s_758 ⟨_, _, rfl⟩ h2 rfl ⟨(Nat.le_of_ble_eq_true rfl), (Nat.le_of_ble_eq_true rfl), hk.1, hk.2⟩ rfl (Nat.le_of_ble_eq_true rfl) rfl dL_law_845 (fun pf2 => ?_)
  exact aw_icmp_eq X (hzf pf1) (hzf pf1) (tgt := 1444) dL_law_848 (by decide) (fun _ => k) (fun h => absurd rfl h)
theorem LW_status (X : AX p s m args meth c D cA sa bs cL_law 7 RLw) (hX : va_X b L xs s s.heap) (hbl : b < s.heap.size) (hbA : ¬ ax_A bs b) (hi : i + 5 < L) (hL : L ≤ 3072) (hk : kc ≤ room_1.cells ∧ ks ≤ room_1.slots) (hzf : PF1 → Z_I r) (h1 : AM l D cA sa ad bs 788 SHp yX11_status cX11_status 2 (some .int) 0 (.ref (ad 0) :: [z_i (xs (i + 1)).toInt]) σ (some (z_i r)) PF1 σ1) (h2 : AM l D cA sa ad bs 788 SHp yX12_status cX12_status 2 (some .int) 1 (.ref (ad 758) :: [z_i (xs (i + 1)).toInt]) σ1 (some (z_i r)) PF2 σ2) (k : AW p l e room_1 s m args below meth c D cA ad bs 788 SHp kc ks Q 7 1444 (lw_lv b ad i) [] σ2) : AW p l e room_1 s m args below meth c D cA ad bs 788 SHp kc ks Q 7 922 (lw_lv b ad i) [] σ := by
  refine aw_aload_n X 1 dL_law_922 rfl rfl ?_
  refine aw_arg X hX hbl hbA (j := 1) (by omega) hL dL_law_923 dL_law_924 dL_law_926 dL_law_927 dL_law_928 ?_
  refine aw_callV X [z_i (xs (i + 1)).toInt] [] [z_i r] cL_108 s_0 ⟨_, _, rfl⟩ h1 rfl ⟨(Nat.le_of_ble_eq_true rfl), (Nat.le_of_ble_eq_true rfl), hk.1, hk.2⟩ rfl (Nat.le_of_ble_eq_true rfl) rfl dL_law_929 (fun pf1 => ?_)
  refine aw_aload_n X 2 dL_law_932 rfl rfl ?_
  refine aw_arg X hX hbl hbA (j := 1) (by omega) hL dL_law_933 dL_law_934 dL_law_936 dL_law_937 dL_law_938 ?_
  refine aw_callV X [z_i (xs (i + 1)).toInt] [z_i r] [z_i r, z_i r] cL_111 s_758 ⟨_, _, rfl⟩ h2 rfl ⟨(Nat.le_of_ble_eq_true rfl), (Nat.le_of_ble_eq_true rfl), hk.1, hk.2⟩ rfl (Nat.le_of_ble_eq_true rfl) rfl dL_law_939 (fun pf2 => ?_)
  exact aw_icmp_eq X (hzf pf1) (hzf pf1) (tgt := 1444) dL_law_942 (by decide) (fun _ => k) (fun h => absurd rfl h)
theorem LW_undo (X : AX p s m args meth c D cA sa bs cL_law 7 RLw) (hX : va_X b L xs s s.heap) (hbl : b < s.heap.size) (hbA : ¬ ax_A bs b) (hi : i + 5 < L) (hL : L ≤ 3072) (hk : kc ≤ room_1.cells ∧ ks ≤ room_1.slots) (hzf : PF1 → Z_I r) (h1 : AM l D cA sa ad bs 788 SHp yX11_undo cX11_undo 1 (some .int) 3 (.ref (ad 0) :: []) σ (some (z_i r)) PF1 σ1) (h2 : AM l D cA sa ad bs 788 SHp yX12_undo cX12_undo 1 (some .int) 1 (.ref (ad 758) :: []) σ1 (some (z_i r)) PF2 σ2) (k : AW p l e room_1 s m args below meth c D cA ad bs 788 SHp kc ks Q 7 1444 (lw_lv b ad i) [] σ2) : AW p l e room_1 s m args below meth c D cA ad bs 788 SHp kc ks Q 7 947 (lw_lv b ad i) [] σ := by
  refine aw_aload_n X 1 dL_law_947 rfl rfl ?_
  refine aw_callV X [] [] [z_i r] cL_112 s_0 ⟨_, _, rfl⟩ h1 rfl ⟨(Nat.le_of_ble_eq_true rfl), (Nat.le_of_ble_eq_true rfl), hk.1, hk.2⟩ rfl (Nat.le_of_ble_eq_true rfl) rfl dL_law_948 (fun pf1 => ?_)
  refine aw_aload_n X 2 dL_law_951 rfl rfl ?_
  refine aw_callV X [] [z_i r] [z_i r, z_i r] cL_115 s_758 ⟨_, _, rfl⟩ h2 rfl ⟨(Nat.le_of_ble_eq_true rfl), (Nat.le_of_ble_eq_true rfl), hk.1, hk.2⟩ rfl (Nat.le_of_ble_eq_true rfl) rfl dL_law_952 (fun pf2 => ?_)
  exact aw_icmp_eq X (hzf pf1) (hzf pf1) (tgt := 1444) dL_law_955 (by decide) (fun _ => k) (fun h => absurd rfl h)
theorem LW_log (X : AX p s m args meth c D cA sa bs cL_law 7 RLw) (hX : va_X b L xs s s.heap) (hbl : b < s.heap.size) (hbA : ¬ ax_A bs b) (hi : i + 5 < L) (hL : L ≤ 3072) (hk : kc ≤ room_1.cells ∧ ks ≤ room_1.slots) (hzf : PF1 → Z_I r) (h1 : AM l D cA sa ad bs 788 SHp yX11_log cX11_log 3 (some .int) 2 (.ref (ad 0) :: [z_i (xs (i + 1)).toInt, z_i (xs (i + 2)).toInt]) σ (some (z_i r)) PF1 σ1) (h2 : AM l D cA sa ad bs 788 SHp yX12_log cX12_log 3 (some .int) 1 (.ref (ad 758) :: [z_i (xs (i + 1)).toInt, z_i (xs (i + 2)).toInt]) σ1 (some (z_i r)) PF2 σ2) (k : AW p l e room_1 s m args below meth c D cA ad bs 788 SHp kc ks Q 7 1444 (lw_lv b ad i) [] σ2) : AW p l e room_1 s m args below meth c D cA ad bs 788 SHp kc ks Q 7 960 (lw_lv b ad i) [] σ := by
  refine aw_aload_n X 1 dL_law_960 rfl rfl ?_
  refine aw_arg X hX hbl hbA (j := 1) (by omega) hL dL_law_961 dL_law_962 dL_law_964 dL_law_965 dL_law_966 ?_
  refine aw_arg X hX hbl hbA (j := 2) (by omega) hL dL_law_967 dL_law_968 dL_law_970 dL_law_971 dL_law_972 ?_
  refine aw_callV X [z_i (xs (i + 1)).toInt, z_i (xs (i + 2)).toInt] [] [z_i r] cL_116 s_0 ⟨_, _, rfl⟩ h1 rfl ⟨(Nat.le_of_ble_eq_true rfl), (Nat.le_of_ble_eq_true rfl), hk.1, hk.2⟩ rfl (Nat.le_of_ble_eq_true rfl) rfl dL_law_973 (fun pf1 => ?_)
  refine aw_aload_n X 2 dL_law_976 rfl rfl ?_
  refine aw_arg X hX hbl hbA (j := 1) (by omega) hL dL_law_977 dL_law_978 dL_law_980 dL_law_981 dL_law_982 ?_
  refine aw_arg X hX hbl hbA (j := 2) (by omega) hL dL_law_983 dL_law_984 dL_law_986 dL_law_987 dL_law_988 ?_
  refine aw_callV X [z_i (xs (i + 1)).toInt, z_i (xs (i + 2)).toInt] [z_i r] [z_i r, z_i r] cL_119 s_758 ⟨_, _, rfl⟩ h2 rfl ⟨(Nat.le_of_ble_eq_true rfl), (Nat.le_of_ble_eq_true rfl), hk.1, hk.2⟩ rfl (Nat.le_of_ble_eq_true rfl) rfl dL_law_989 (fun pf2 => ?_)
  exact aw_icmp_eq X (hzf pf1) (hzf pf1) (tgt := 1444) dL_law_992 (by decide) (fun _ => k) (fun h => absurd rfl h)
theorem LW_price (X : AX p s m args meth c D cA sa bs cL_law 7 RLw) (hX : va_X b L xs s s.heap) (hbl : b < s.heap.size) (hbA : ¬ ax_A bs b) (hi : i + 5 < L) (hL : L ≤ 3072) (hk : kc ≤ room_1.cells ∧ ks ≤ room_1.slots) (hzf : PF1 → Z_I r) (h1 : AM l D cA sa ad bs 788 SHp yX11_price cX11_price 1 (some .int) 4 (.ref (ad 0) :: []) σ (some (z_i r)) PF1 σ1) (h2 : AM l D cA sa ad bs 788 SHp yX12_price cX12_price 1 (some .int) 5 (.ref (ad 758) :: []) σ1 (some (z_i r)) PF2 σ2) (k : AW p l e room_1 s m args below meth c D cA ad bs 788 SHp kc ks Q 7 1444 (lw_lv b ad i) [] σ2) : AW p l e room_1 s m args below meth c D cA ad bs 788 SHp kc ks Q 7 997 (lw_lv b ad i) [] σ := by
  refine aw_aload_n X 1 dL_law_997 rfl rfl ?_
  refine aw_callV X [] [] [z_i r] cL_120 s_0 ⟨_, _, rfl⟩ h1 rfl ⟨(Nat.le_of_ble_eq_true rfl), (Nat.le_of_ble_eq_true rfl), hk.1, hk.2⟩ rfl (Nat.le_of_ble_eq_true rfl) rfl dL_law_998 (fun pf1 => ?_)
  refine aw_aload_n X 2 dL_law_1001 rfl rfl ?_
  refine aw_callV X [] [z_i r] [z_i r, z_i r] cL_123 s_758 ⟨_, _, rfl⟩ h2 rfl ⟨(Nat.le_of_ble_eq_true rfl), (Nat.le_of_ble_eq_true rfl), hk.1, hk.2⟩ rfl (Nat.le_of_ble_eq_true rfl) rfl dL_law_1002 (fun pf2 => ?_)
  exact aw_icmp_eq X (hzf pf1) (hzf pf1) (tgt := 1444) dL_law_1005 (by decide) (fun _ => k) (fun h => absurd rfl h)
theorem LW_best (X : AX p s m args meth c D cA sa bs cL_law 7 RLw) (hX : va_X b L xs s s.heap) (hbl : b < s.heap.size) (hbA : ¬ ax_A bs b) (hi : i + 5 < L) (hL : L ≤ 3072) (hk : kc ≤ room_1.cells ∧ ks ≤ room_1.slots) (hzf : PF1 → Z_I r) (h1 : AM l D cA sa ad bs 788 SHp yX11_best cX11_best 3 (some .int) 4 (.ref (ad 0) :: [z_i (xs (i + 1)).toInt, z_i (xs (i + 2)).toInt]) σ (some (z_i r)) PF1 σ1) (h2 : AM l D cA sa ad bs 788 SHp yX12_best cX12_best 4 (some .int) 6 (.ref (ad 758) :: [z_i (xs (i + 1)).toInt, z_i (xs (i + 2)).toInt]) σ1 (some (z_i r)) PF2 σ2) (k : AW p l e room_1 s m args below meth c D cA ad bs 788 SHp kc ks Q 7 1444 (lw_lv b ad i) [] σ2) : AW p l e room_1 s m args below meth c D cA ad bs 788 SHp kc ks Q 7 1010 (lw_lv b ad i) [] σ := by
  refine aw_aload_n X 1 dL_law_1010 rfl rfl ?_
  refine aw_arg X hX hbl hbA (j := 1) (by omega) hL dL_law_1011 dL_law_1012 dL_law_1014 dL_law_1015 dL_law_1016 ?_
  refine aw_arg X hX hbl hbA (j := 2) (by omega) hL dL_law_1017 dL_law_1018 dL_law_1020 dL_law_1021 dL_law_1022 ?_
  refine aw_callV X [z_i (xs (i + 1)).toInt, z_i (xs (i + 2)).toInt] [] [z_i r] cL_124 s_0 ⟨_, _, rfl⟩ h1 rfl ⟨(Nat.le_of_ble_eq_true rfl), (Nat.le_of_ble_eq_true rfl), hk.1, hk.2⟩ rfl (Nat.le_of_ble_eq_true rfl) rfl dL_law_1023 (fun pf1 => ?_)
  refine aw_aload_n X 2 dL_law_1026 rfl rfl ?_
  refine aw_arg X hX hbl hbA (j := 1) (by omega) hL dL_law_1027 dL_law_1028 dL_law_1030 dL_law_1031 dL_law_1032 ?_
  refine aw_arg X hX hbl hbA (j := 2) (by omega) hL dL_law_1033 dL_law_1034 dL_law_1036 dL_law_1037 dL_law_1038 ?_
  refine aw_callV X [z_i (xs (i + 1)).toInt, z_i (xs (i + 2)).toInt] [z_i r] [z_i r, z_i r] cL_127 s_758 ⟨_, _, rfl⟩ h2 rfl ⟨(Nat.le_of_ble_eq_true rfl), (Nat.le_of_ble_eq_true rfl), hk.1, hk.2⟩ rfl (Nat.le_of_ble_eq_true rfl) rfl dL_law_1039 (fun pf2 => ?_)
  exact aw_icmp_eq X (hzf pf1) (hzf pf1) (tgt := 1444) dL_law_1042 (by decide) (fun _ => k) (fun h => absurd rfl h)
theorem LW_greedy (X : AX p s m args meth c D cA sa bs cL_law 7 RLw) (hX : va_X b L xs s s.heap) (hbl : b < s.heap.size) (hbA : ¬ ax_A bs b) (hi : i + 5 < L) (hL : L ≤ 3072) (hk : kc ≤ room_1.cells ∧ ks ≤ room_1.slots) (hzf : PF1 → Z_I r) (h1 : AM l D cA sa ad bs 788 SHp yX11_greedy cX11_greedy 3 (some .int) 5 (.ref (ad 0) :: [z_i (xs (i + 1)).toInt, z_i (xs (i + 2)).toInt]) σ (some (z_i r)) PF1 σ1) (h2 : AM l D cA sa ad bs 788 SHp yX12_greedy cX12_greedy 3 (some .int) 5 (.ref (ad 758) :: [z_i (xs (i + 1)).toInt, z_i (xs (i + 2)).toInt]) σ1 (some (z_i r)) PF2 σ2) (k : AW p l e room_1 s m args below meth c D cA ad bs 788 SHp kc ks Q 7 1444 (lw_lv b ad i) [] σ2) : AW p l e room_1 s m args below meth c D cA ad bs 788 SHp kc ks Q 7 1047 (lw_lv b ad i) [] σ := by
  refine aw_aload_n X 1 dL_law_1047 rfl rfl ?_
  refine aw_arg X hX hbl hbA (j := 1) (by omega) hL dL_law_1048 dL_law_1049 dL_law_1051 dL_law_1052 dL_law_1053 ?_
  refine aw_arg X hX hbl hbA (j := 2) (by omega) hL dL_law_1054 dL_law_1055 dL_law_1057 dL_law_1058 dL_law_1059 ?_
  refine aw_callV X [z_i (xs (i + 1)).toInt, z_i (xs (i + 2)).toInt] [] [z_i r] cL_128 s_0 ⟨_, _, rfl⟩ h1 rfl ⟨(Nat.le_of_ble_eq_true rfl), (Nat.le_of_ble_eq_true rfl), hk.1, hk.2⟩ rfl (Nat.le_of_ble_eq_true rfl) rfl dL_law_1060 (fun pf1 => ?_)
  refine aw_aload_n X 2 dL_law_1063 rfl rfl ?_
  refine aw_arg X hX hbl hbA (j := 1) (by omega) hL dL_law_1064 dL_law_1065 dL_law_1067 dL_law_1068 dL_law_1069 ?_
  refine aw_arg X hX hbl hbA (j := 2) (by omega) hL dL_law_1070 dL_law_1071 dL_law_1073 dL_law_1074 dL_law_1075 ?_
  refine aw_callV X [z_i (xs (i + 1)).toInt, z_i (xs (i + 2)).toInt] [z_i r] [z_i r, z_i r] cL_131 s_758 ⟨_, _, rfl⟩ h2 rfl ⟨(Nat.le_of_ble_eq_true rfl), (Nat.le_of_ble_eq_true rfl), hk.1, hk.2⟩ rfl (Nat.le_of_ble_eq_true rfl) rfl dL_law_1076 (fun pf2 => ?_)
  exact aw_icmp_eq X (hzf pf1) (hzf pf1) (tgt := 1444) dL_law_1079 (by decide) (fun _ => k) (fun h => absurd rfl h)
theorem LW_moves (X : AX p s m args meth c D cA sa bs cL_law 7 RLw) (hX : va_X b L xs s s.heap) (hbl : b < s.heap.size) (hbA : ¬ ax_A bs b) (hi : i + 5 < L) (hL : L ≤ 3072) (hk : kc ≤ room_1.cells ∧ ks ≤ room_1.slots) (hzf : PF1 → Z_I r) (h1 : AM l D cA sa ad bs 788 SHp yX11_moves cX11_moves 1 (some .int) 5 (.ref (ad 0) :: []) σ (some (z_i r)) PF1 σ1) (h2 : AM l D cA sa ad bs 788 SHp yX12_moves cX12_moves 8 (some .int) 6 (.ref (ad 758) :: []) σ1 (some (z_i r)) PF2 σ2) (k : AW p l e room_1 s m args below meth c D cA ad bs 788 SHp kc ks Q 7 1444 (lw_lv b ad i) [] σ2) : AW p l e room_1 s m args below meth c D cA ad bs 788 SHp kc ks Q 7 1084 (lw_lv b ad i) [] σ := by
  refine aw_aload_n X 1 dL_law_1084 rfl rfl ?_
  refine aw_callV X [] [] [z_i r] cL_132 s_0 ⟨_, _, rfl⟩ h1 rfl ⟨(Nat.le_of_ble_eq_true rfl), (Nat.le_of_ble_eq_true rfl), hk.1, hk.2⟩ rfl (Nat.le_of_ble_eq_true rfl) rfl dL_law_1085 (fun pf1 => ?_)
  refine aw_aload_n X 2 dL_law_1088 rfl rfl ?_
  refine aw_callV X [] [z_i r] [z_i r, z_i r] cL_135 s_758 ⟨_, _, rfl⟩ h2 rfl ⟨(Nat.le_of_ble_eq_true rfl), (Nat.le_of_ble_eq_true rfl), hk.1, hk.2⟩ rfl (Nat.le_of_ble_eq_true rfl) rfl dL_law_1089 (fun pf2 => ?_)
  exact aw_icmp_eq X (hzf pf1) (hzf pf1) (tgt := 1444) dL_law_1092 (by decide) (fun _ => k) (fun h => absurd rfl h)
theorem LW_race (X : AX p s m args meth c D cA sa bs cL_law 7 RLw) (hX : va_X b L xs s s.heap) (hbl : b < s.heap.size) (hbA : ¬ ax_A bs b) (hi : i + 5 < L) (hL : L ≤ 3072) (hk : kc ≤ room_1.cells ∧ ks ≤ room_1.slots) (hzf : PF1 → Z_I r) (h1 : AM l D cA sa ad bs 788 SHp yX11_race cX11_race 8 (some .int) 2 (.ref (ad 0) :: [z_i (xs (i + 1)).toInt, z_i (xs (i + 2)).toInt, z_i (xs (i + 3)).toInt, z_i (xs (i + 4)).toInt]) σ (some (z_i r)) PF1 σ1) (h2 : AM l D cA sa ad bs 788 SHp yX12_race cX12_race 8 (some .int) 2 (.ref (ad 758) :: [z_i (xs (i + 1)).toInt, z_i (xs (i + 2)).toInt, z_i (xs (i + 3)).toInt, z_i (xs (i + 4)).toInt]) σ1 (some (z_i r)) PF2 σ2) (k : AW p l e room_1 s m args below meth c D cA ad bs 788 SHp kc ks Q 7 1444 (lw_lv b ad i) [] σ2) : AW p l e room_1 s m args below meth c D cA ad bs 788 SHp kc ks Q 7 1097 (lw_lv b ad i) [] σ := by
  refine aw_aload_n X 1 dL_law_1097 rfl rfl ?_
  refine aw_arg X hX hbl hbA (j := 1) (by omega) hL dL_law_1098 dL_law_1099 dL_law_1101 dL_law_1102 dL_law_1103 ?_
  refine aw_arg X hX hbl hbA (j := 2) (by omega) hL dL_law_1104 dL_law_1105 dL_law_1107 dL_law_1108 dL_law_1109 ?_
  refine aw_arg X hX hbl hbA (j := 3) (by omega) hL dL_law_1110 dL_law_1111 dL_law_1113 dL_law_1114 dL_law_1115 ?_
  refine aw_arg X hX hbl hbA (j := 4) (by omega) hL dL_law_1116 dL_law_1117 dL_law_1119 dL_law_1120 dL_law_1121 ?_
  refine aw_callV X [z_i (xs (i + 1)).toInt, z_i (xs (i + 2)).toInt, z_i (xs (i + 3)).toInt, z_i (xs (i + 4)).toInt] [] [z_i r] cL_136 s_0 ⟨_, _, rfl⟩ h1 rfl ⟨(Nat.le_of_ble_eq_true rfl), (Nat.le_of_ble_eq_true rfl), hk.1, hk.2⟩ rfl (Nat.le_of_ble_eq_true rfl) rfl dL_law_1122 (fun pf1 => ?_)
  refine aw_aload_n X 2 dL_law_1125 rfl rfl ?_
  refine aw_arg X hX hbl hbA (j := 1) (by omega) hL dL_law_1126 dL_law_1127 dL_law_1129 dL_law_1130 dL_law_1131 ?_
  refine aw_arg X hX hbl hbA (j := 2) (by omega) hL dL_law_1132 dL_law_1133 dL_law_1135 dL_law_1136 dL_law_1137 ?_
  refine aw_arg X hX hbl hbA (j := 3) (by omega) hL dL_law_1138 dL_law_1139 dL_law_1141 dL_law_1142 dL_law_1143 ?_
  refine aw_arg X hX hbl hbA (j := 4) (by omega) hL dL_law_1144 dL_law_1145 dL_law_1147 dL_law_1148 dL_law_1149 ?_
  refine aw_callV X [z_i (xs (i + 1)).toInt, z_i (xs (i + 2)).toInt, z_i (xs (i + 3)).toInt, z_i (xs (i + 4)).toInt] [z_i r] [z_i r, z_i r] cL_140 s_758 ⟨_, _, rfl⟩ h2 rfl ⟨(Nat.le_of_ble_eq_true rfl), (Nat.le_of_ble_eq_true rfl), hk.1, hk.2⟩ rfl (Nat.le_of_ble_eq_true rfl) rfl dL_law_1150 (fun pf2 => ?_)
  exact aw_icmp_eq X (hzf pf1) (hzf pf1) (tgt := 1444) dL_law_1153 (by decide) (fun _ => k) (fun h => absurd rfl h)
theorem LW_ahead (X : AX p s m args meth c D cA sa bs cL_law 7 RLw) (hX : va_X b L xs s s.heap) (hbl : b < s.heap.size) (hbA : ¬ ax_A bs b) (hi : i + 5 < L) (hL : L ≤ 3072) (hk : kc ≤ room_1.cells ∧ ks ≤ room_1.slots) (hzf : PF1 → Z_I r) (h1 : AM l D cA sa ad bs 788 SHp yX11_ahead cX11_ahead 4 (some .int) 4 (.ref (ad 0) :: [z_i (xs (i + 1)).toInt, z_i (xs (i + 2)).toInt]) σ (some (z_i r)) PF1 σ1) (h2 : AM l D cA sa ad bs 788 SHp yX12_ahead cX12_ahead 3 (some .int) 6 (.ref (ad 758) :: [z_i (xs (i + 1)).toInt, z_i (xs (i + 2)).toInt]) σ1 (some (z_i r)) PF2 σ2) (k : AW p l e room_1 s m args below meth c D cA ad bs 788 SHp kc ks Q 7 1444 (lw_lv b ad i) [] σ2) : AW p l e room_1 s m args below meth c D cA ad bs 788 SHp kc ks Q 7 1158 (lw_lv b ad i) [] σ := by
  refine aw_aload_n X 1 dL_law_1158 rfl rfl ?_
  refine aw_arg X hX hbl hbA (j := 1) (by omega) hL dL_law_1159 dL_law_1160 dL_law_1162 dL_law_1163 dL_law_1164 ?_
  refine aw_arg X hX hbl hbA (j := 2) (by omega) hL dL_law_1165 dL_law_1166 dL_law_1168 dL_law_1169 dL_law_1170 ?_
  refine aw_callV X [z_i (xs (i + 1)).toInt, z_i (xs (i + 2)).toInt] [] [z_i r] cL_141 s_0 ⟨_, _, rfl⟩ h1 rfl ⟨(Nat.le_of_ble_eq_true rfl), (Nat.le_of_ble_eq_true rfl), hk.1, hk.2⟩ rfl (Nat.le_of_ble_eq_true rfl) rfl dL_law_1171 (fun pf1 => ?_)
  refine aw_aload_n X 2 dL_law_1174 rfl rfl ?_
  refine aw_arg X hX hbl hbA (j := 1) (by omega) hL dL_law_1175 dL_law_1176 dL_law_1178 dL_law_1179 dL_law_1180 ?_
  refine aw_arg X hX hbl hbA (j := 2) (by omega) hL dL_law_1181 dL_law_1182 dL_law_1184 dL_law_1185 dL_law_1186 ?_
  refine aw_callV X [z_i (xs (i + 1)).toInt, z_i (xs (i + 2)).toInt] [z_i r] [z_i r, z_i r] cL_144 s_758 ⟨_, _, rfl⟩ h2 rfl ⟨(Nat.le_of_ble_eq_true rfl), (Nat.le_of_ble_eq_true rfl), hk.1, hk.2⟩ rfl (Nat.le_of_ble_eq_true rfl) rfl dL_law_1187 (fun pf2 => ?_)
  exact aw_icmp_eq X (hzf pf1) (hzf pf1) (tgt := 1444) dL_law_1190 (by decide) (fun _ => k) (fun h => absurd rfl h)
theorem LW_bound (X : AX p s m args meth c D cA sa bs cL_law 7 RLw) (hX : va_X b L xs s s.heap) (hbl : b < s.heap.size) (hbA : ¬ ax_A bs b) (hi : i + 5 < L) (hL : L ≤ 3072) (hk : kc ≤ room_1.cells ∧ ks ≤ room_1.slots) (hzf : PF1 → Z_I r) (h1 : AM l D cA sa ad bs 788 SHp yX11_bound cX11_bound 4 (some .int) 4 (.ref (ad 0) :: [z_i (xs (i + 1)).toInt, z_i (xs (i + 2)).toInt]) σ (some (z_i r)) PF1 σ1) (h2 : AM l D cA sa ad bs 788 SHp yX12_bound cX12_bound 5 (some .int) 6 (.ref (ad 758) :: [z_i (xs (i + 1)).toInt, z_i (xs (i + 2)).toInt]) σ1 (some (z_i r)) PF2 σ2) (k : AW p l e room_1 s m args below meth c D cA ad bs 788 SHp kc ks Q 7 1444 (lw_lv b ad i) [] σ2) : AW p l e room_1 s m args below meth c D cA ad bs 788 SHp kc ks Q 7 1195 (lw_lv b ad i) [] σ := by
  refine aw_aload_n X 1 dL_law_1195 rfl rfl ?_
  refine aw_arg X hX hbl hbA (j := 1) (by omega) hL dL_law_1196 dL_law_1197 dL_law_1199 dL_law_1200 dL_law_1201 ?_
  refine aw_arg X hX hbl hbA (j := 2) (by omega) hL dL_law_1202 dL_law_1203 dL_law_1205 dL_law_1206 dL_law_1207 ?_
  refine aw_callV X [z_i (xs (i + 1)).toInt, z_i (xs (i + 2)).toInt] [] [z_i r] cL_145 s_0 ⟨_, _, rfl⟩ h1 rfl ⟨(Nat.le_of_ble_eq_true rfl), (Nat.le_of_ble_eq_true rfl), hk.1, hk.2⟩ rfl (Nat.le_of_ble_eq_true rfl) rfl dL_law_1208 (fun pf1 => ?_)
  refine aw_aload_n X 2 dL_law_1211 rfl rfl ?_
  refine aw_arg X hX hbl hbA (j := 1) (by omega) hL dL_law_1212 dL_law_1213 dL_law_1215 dL_law_1216 dL_law_1217 ?_
  refine aw_arg X hX hbl hbA (j := 2) (by omega) hL dL_law_1218 dL_law_1219 dL_law_1221 dL_law_1222 dL_law_1223 ?_
  refine aw_callV X [z_i (xs (i + 1)).toInt, z_i (xs (i + 2)).toInt] [z_i r] [z_i r, z_i r] cL_148 s_758 ⟨_, _, rfl⟩ h2 rfl ⟨(Nat.le_of_ble_eq_true rfl), (Nat.le_of_ble_eq_true rfl), hk.1, hk.2⟩ rfl (Nat.le_of_ble_eq_true rfl) rfl dL_law_1224 (fun pf2 => ?_)
  exact aw_icmp_eq X (hzf pf1) (hzf pf1) (tgt := 1444) dL_law_1227 (by decide) (fun _ => k) (fun h => absurd rfl h)
theorem LW_odds (X : AX p s m args meth c D cA sa bs cL_law 7 RLw) (hX : va_X b L xs s s.heap) (hbl : b < s.heap.size) (hbA : ¬ ax_A bs b) (hi : i + 5 < L) (hL : L ≤ 3072) (hk : kc ≤ room_1.cells ∧ ks ≤ room_1.slots) (hzf : PF1 → Z_I r) (h1 : AM l D cA sa ad bs 788 SHp yX11_odds cX11_odds 2 (some .int) 5 (.ref (ad 0) :: [z_i (xs (i + 1)).toInt]) σ (some (z_i r)) PF1 σ1) (h2 : AM l D cA sa ad bs 788 SHp yX12_odds cX12_odds 11 (some .int) 6 (.ref (ad 758) :: [z_i (xs (i + 1)).toInt]) σ1 (some (z_i r)) PF2 σ2) (k : AW p l e room_1 s m args below meth c D cA ad bs 788 SHp kc ks Q 7 1444 (lw_lv b ad i) [] σ2) : AW p l e room_1 s m args below meth c D cA ad bs 788 SHp kc ks Q 7 1232 (lw_lv b ad i) [] σ := by
  refine aw_aload_n X 1 dL_law_1232 rfl rfl ?_
  refine aw_arg X hX hbl hbA (j := 1) (by omega) hL dL_law_1233 dL_law_1234 dL_law_1236 dL_law_1237 dL_law_1238 ?_
  refine aw_callV X [z_i (xs (i + 1)).toInt] [] [z_i r] cL_149 s_0 ⟨_, _, rfl⟩ h1 rfl ⟨(Nat.le_of_ble_eq_true rfl), (Nat.le_of_ble_eq_true rfl), hk.1, hk.2⟩ rfl (Nat.le_of_ble_eq_true rfl) rfl dL_law_1239 (fun pf1 => ?_)
  refine aw_aload_n X 2 dL_law_1242 rfl rfl ?_
  refine aw_arg X hX hbl hbA (j := 1) (by omega) hL dL_law_1243 dL_law_1244 dL_law_1246 dL_law_1247 dL_law_1248 ?_
  refine aw_callV X [z_i (xs (i + 1)).toInt] [z_i r] [z_i r, z_i r] cL_152 s_758 ⟨_, _, rfl⟩ h2 rfl ⟨(Nat.le_of_ble_eq_true rfl), (Nat.le_of_ble_eq_true rfl), hk.1, hk.2⟩ rfl (Nat.le_of_ble_eq_true rfl) rfl dL_law_1249 (fun pf2 => ?_)
  exact aw_icmp_eq X (hzf pf1) (hzf pf1) (tgt := 1444) dL_law_1252 (by decide) (fun _ => k) (fun h => absurd rfl h)
theorem LW_step (X : AX p s m args meth c D cA sa bs cL_law 7 RLw) (hX : va_X b L xs s s.heap) (hbl : b < s.heap.size) (hbA : ¬ ax_A bs b) (hi : i + 5 < L) (hL : L ≤ 3072) (hk : kc ≤ room_1.cells ∧ ks ≤ room_1.slots) (hzf : PF1 → Z_I r) (h1 : AM l D cA sa ad bs 788 SHp yX11_step cX11_step 5 (some .int) 1 (.ref (ad 0) :: [z_i (xs (i + 1)).toInt, z_i (xs (i + 2)).toInt, z_i (xs (i + 3)).toInt]) σ (some (z_i r)) PF1 σ1) (h2 : AM l D cA sa ad bs 788 SHp yX12_step cX12_step 4 (some .int) 2 (.ref (ad 758) :: [z_i (xs (i + 1)).toInt, z_i (xs (i + 2)).toInt, z_i (xs (i + 3)).toInt]) σ1 (some (z_i r)) PF2 σ2) (k : AW p l e room_1 s m args below meth c D cA ad bs 788 SHp kc ks Q 7 1444 (lw_lv b ad i) [] σ2) : AW p l e room_1 s m args below meth c D cA ad bs 788 SHp kc ks Q 7 1257 (lw_lv b ad i) [] σ := by
  refine aw_aload_n X 1 dL_law_1257 rfl rfl ?_
  refine aw_arg X hX hbl hbA (j := 1) (by omega) hL dL_law_1258 dL_law_1259 dL_law_1261 dL_law_1262 dL_law_1263 ?_
  refine aw_arg X hX hbl hbA (j := 2) (by omega) hL dL_law_1264 dL_law_1265 dL_law_1267 dL_law_1268 dL_law_1269 ?_
  refine aw_arg X hX hbl hbA (j := 3) (by omega) hL dL_law_1270 dL_law_1271 dL_law_1273 dL_law_1274 dL_law_1275 ?_
  refine aw_callV X [z_i (xs (i + 1)).toInt, z_i (xs (i + 2)).toInt, z_i (xs (i + 3)).toInt] [] [z_i r] cL_153 s_0 ⟨_, _, rfl⟩ h1 rfl ⟨(Nat.le_of_ble_eq_true rfl), (Nat.le_of_ble_eq_true rfl), hk.1, hk.2⟩ rfl (Nat.le_of_ble_eq_true rfl) rfl dL_law_1276 (fun pf1 => ?_)
  refine aw_aload_n X 2 dL_law_1279 rfl rfl ?_
  refine aw_arg X hX hbl hbA (j := 1) (by omega) hL dL_law_1280 dL_law_1281 dL_law_1283 dL_law_1284 dL_law_1285 ?_
  refine aw_arg X hX hbl hbA (j := 2) (by omega) hL dL_law_1286 dL_law_1287 dL_law_1289 dL_law_1290 dL_law_1291 ?_
  refine aw_arg X hX hbl hbA (j := 3) (by omega) hL dL_law_1292 dL_law_1293 dL_law_1295 dL_law_1296 dL_law_1297 ?_
  refine aw_callV X [z_i (xs (i + 1)).toInt, z_i (xs (i + 2)).toInt, z_i (xs (i + 3)).toInt] [z_i r] [z_i r, z_i r] cL_156 s_758 ⟨_, _, rfl⟩ h2 rfl ⟨(Nat.le_of_ble_eq_true rfl), (Nat.le_of_ble_eq_true rfl), hk.1, hk.2⟩ rfl (Nat.le_of_ble_eq_true rfl) rfl dL_law_1298 (fun pf2 => ?_)
  exact aw_icmp_eq X (hzf pf1) (hzf pf1) (tgt := 1444) dL_law_1301 (by decide) (fun _ => k) (fun h => absurd rfl h)
theorem LW_run (X : AX p s m args meth c D cA sa bs cL_law 7 RLw) (hX : va_X b L xs s s.heap) (hbl : b < s.heap.size) (hbA : ¬ ax_A bs b) (hi : i + 5 < L) (hL : L ≤ 3072) (hk : kc ≤ room_1.cells ∧ ks ≤ room_1.slots) (hzf : PF1 → Z_I r) (h1 : AM l D cA sa ad bs 788 SHp yX11_run cX11_run 4 (some .int) 7 (.ref (ad 0) :: [z_i (xs (i + 1)).toInt, z_i (xs (i + 2)).toInt]) σ (some (z_i r)) PF1 σ1) (h2 : AM l D cA sa ad bs 788 SHp yX12_run cX12_run 6 (some .int) 8 (.ref (ad 758) :: [z_i (xs (i + 1)).toInt, z_i (xs (i + 2)).toInt]) σ1 (some (z_i r)) PF2 σ2) (k : AW p l e room_1 s m args below meth c D cA ad bs 788 SHp kc ks Q 7 1444 (lw_lv b ad i) [] σ2) : AW p l e room_1 s m args below meth c D cA ad bs 788 SHp kc ks Q 7 1306 (lw_lv b ad i) [] σ := by
  refine aw_aload_n X 1 dL_law_1306 rfl rfl ?_
  refine aw_arg X hX hbl hbA (j := 1) (by omega) hL dL_law_1307 dL_law_1308 dL_law_1310 dL_law_1311 dL_law_1312 ?_
  refine aw_arg X hX hbl hbA (j := 2) (by omega) hL dL_law_1313 dL_law_1314 dL_law_1316 dL_law_1317 dL_law_1318 ?_
  refine aw_callV X [z_i (xs (i + 1)).toInt, z_i (xs (i + 2)).toInt] [] [z_i r] cL_157 s_0 ⟨_, _, rfl⟩ h1 rfl ⟨(Nat.le_of_ble_eq_true rfl), (Nat.le_of_ble_eq_true rfl), hk.1, hk.2⟩ rfl (Nat.le_of_ble_eq_true rfl) rfl dL_law_1319 (fun pf1 => ?_)
  refine aw_aload_n X 2 dL_law_1322 rfl rfl ?_
  refine aw_arg X hX hbl hbA (j := 1) (by omega) hL dL_law_1323 dL_law_1324 dL_law_1326 dL_law_1327 dL_law_1328 ?_
  refine aw_arg X hX hbl hbA (j := 2) (by omega) hL dL_law_1329 dL_law_1330 dL_law_1332 dL_law_1333 dL_law_1334 ?_
  refine aw_callV X [z_i (xs (i + 1)).toInt, z_i (xs (i + 2)).toInt] [z_i r] [z_i r, z_i r] cL_160 s_758 ⟨_, _, rfl⟩ h2 rfl ⟨(Nat.le_of_ble_eq_true rfl), (Nat.le_of_ble_eq_true rfl), hk.1, hk.2⟩ rfl (Nat.le_of_ble_eq_true rfl) rfl dL_law_1335 (fun pf2 => ?_)
  exact aw_icmp_eq X (hzf pf1) (hzf pf1) (tgt := 1444) dL_law_1338 (by decide) (fun _ => k) (fun h => absurd rfl h)
theorem LW_perform (X : AX p s m args meth c D cA sa bs cL_law 7 RLw) (hX : va_X b L xs s s.heap) (hbl : b < s.heap.size) (hbA : ¬ ax_A bs b) (hi : i + 5 < L) (hL : L ≤ 3072) (hk : kc ≤ room_1.cells ∧ ks ≤ room_1.slots) (hzf : PF1 → Z_I r) (h1 : AM l D cA sa ad bs 788 SHp yX11_perform cX11_perform 4 (some .int) 6 (.ref (ad 0) :: [z_i (xs (i + 1)).toInt]) σ (some (z_i r)) PF1 σ1) (h2 : AM l D cA sa ad bs 788 SHp yX12_perform cX12_perform 5 (some .int) 9 (.ref (ad 758) :: [z_i (xs (i + 1)).toInt]) σ1 (some (z_i r)) PF2 σ2) (k : AW p l e room_1 s m args below meth c D cA ad bs 788 SHp kc ks Q 7 1444 (lw_lv b ad i) [] σ2) : AW p l e room_1 s m args below meth c D cA ad bs 788 SHp kc ks Q 7 1343 (lw_lv b ad i) [] σ := by
  refine aw_aload_n X 1 dL_law_1343 rfl rfl ?_
  refine aw_arg X hX hbl hbA (j := 1) (by omega) hL dL_law_1344 dL_law_1345 dL_law_1347 dL_law_1348 dL_law_1349 ?_
  refine aw_callV X [z_i (xs (i + 1)).toInt] [] [z_i r] cL_161 s_0 ⟨_, _, rfl⟩ h1 rfl ⟨(Nat.le_of_ble_eq_true rfl), (Nat.le_of_ble_eq_true rfl), hk.1, hk.2⟩ rfl (Nat.le_of_ble_eq_true rfl) rfl dL_law_1350 (fun pf1 => ?_)
  refine aw_aload_n X 2 dL_law_1353 rfl rfl ?_
  refine aw_arg X hX hbl hbA (j := 1) (by omega) hL dL_law_1354 dL_law_1355 dL_law_1357 dL_law_1358 dL_law_1359 ?_
  refine aw_callV X [z_i (xs (i + 1)).toInt] [z_i r] [z_i r, z_i r] cL_164 s_758 ⟨_, _, rfl⟩ h2 rfl ⟨(Nat.le_of_ble_eq_true rfl), (Nat.le_of_ble_eq_true rfl), hk.1, hk.2⟩ rfl (Nat.le_of_ble_eq_true rfl) rfl dL_law_1360 (fun pf2 => ?_)
  exact aw_icmp_eq X (hzf pf1) (hzf pf1) (tgt := 1444) dL_law_1363 (by decide) (fun _ => k) (fun h => absurd rfl h)
theorem LW_all (X : AX p s m args meth c D cA sa bs cL_law 7 RLw) (hX : va_X b L xs s s.heap) (hbl : b < s.heap.size) (hbA : ¬ ax_A bs b) (hi : i + 5 < L) (hL : L ≤ 3072) (hk : kc ≤ room_1.cells ∧ ks ≤ room_1.slots) (hzf : PF1 → Z_I r) (h1 : AM l D cA sa ad bs 788 SHp yX11_all cX11_all 2 (some .int) 5 (.ref (ad 0) :: [z_i (xs (i + 1)).toInt]) σ (some (z_i r)) PF1 σ1) (h2 : AM l D cA sa ad bs 788 SHp yX12_all cX12_all 2 (some .int) 4 (.ref (ad 758) :: [z_i (xs (i + 1)).toInt]) σ1 (some (z_i r)) PF2 σ2) (k : AW p l e room_1 s m args below meth c D cA ad bs 788 SHp kc ks Q 7 1444 (lw_lv b ad i) [] σ2) : AW p l e room_1 s m args below meth c D cA ad bs 788 SHp kc ks Q 7 1368 (lw_lv b ad i) [] σ := by
  refine aw_aload_n X 1 dL_law_1368 rfl rfl ?_
  refine aw_arg X hX hbl hbA (j := 1) (by omega) hL dL_law_1369 dL_law_1370 dL_law_1372 dL_law_1373 dL_law_1374 ?_
  refine aw_callV X [z_i (xs (i + 1)).toInt] [] [z_i r] cL_165 s_0 ⟨_, _, rfl⟩ h1 rfl ⟨(Nat.le_of_ble_eq_true rfl), (Nat.le_of_ble_eq_true rfl), hk.1, hk.2⟩ rfl (Nat.le_of_ble_eq_true rfl) rfl dL_law_1375 (fun pf1 => ?_)
  refine aw_aload_n X 2 dL_law_1378 rfl rfl ?_
  refine aw_arg X hX hbl hbA (j := 1) (by omega) hL dL_law_1379 dL_law_1380 dL_law_1382 dL_law_1383 dL_law_1384 ?_
  refine aw_callV X [z_i (xs (i + 1)).toInt] [z_i r] [z_i r, z_i r] cL_168 s_758 ⟨_, _, rfl⟩ h2 rfl ⟨(Nat.le_of_ble_eq_true rfl), (Nat.le_of_ble_eq_true rfl), hk.1, hk.2⟩ rfl (Nat.le_of_ble_eq_true rfl) rfl dL_law_1385 (fun pf2 => ?_)
  exact aw_icmp_eq X (hzf pf1) (hzf pf1) (tgt := 1444) dL_law_1388 (by decide) (fun _ => k) (fun h => absurd rfl h)
theorem LW_image (X : AX p s m args meth c D cA sa bs cL_law 7 RLw) (hX : va_X b L xs s s.heap) (hbl : b < s.heap.size) (hbA : ¬ ax_A bs b) (hi : i + 5 < L) (hL : L ≤ 3072) (hk : kc ≤ room_1.cells ∧ ks ≤ room_1.slots) (hzf : PF1 → Z_I r) (h1 : AM l D cA sa ad bs 788 SHp yX11_image cX11_image 1 (some .int) 2 (.ref (ad 0) :: []) σ (some (z_i r)) PF1 σ1) (h2 : AM l D cA sa ad bs 788 SHp yX12_image cX12_image 1 (some .int) 1 (.ref (ad 758) :: []) σ1 (some (z_i r)) PF2 σ2) (k : AW p l e room_1 s m args below meth c D cA ad bs 788 SHp kc ks Q 7 1444 (lw_lv b ad i) [] σ2) : AW p l e room_1 s m args below meth c D cA ad bs 788 SHp kc ks Q 7 1393 (lw_lv b ad i) [] σ := by
  refine aw_aload_n X 1 dL_law_1393 rfl rfl ?_
  refine aw_callV X [] [] [z_i r] cL_169 s_0 ⟨_, _, rfl⟩ h1 rfl ⟨(Nat.le_of_ble_eq_true rfl), (Nat.le_of_ble_eq_true rfl), hk.1, hk.2⟩ rfl (Nat.le_of_ble_eq_true rfl) rfl dL_law_1394 (fun pf1 => ?_)
  refine aw_aload_n X 2 dL_law_1397 rfl rfl ?_
  refine aw_callV X [] [z_i r] [z_i r, z_i r] cL_172 s_758 ⟨_, _, rfl⟩ h2 rfl ⟨(Nat.le_of_ble_eq_true rfl), (Nat.le_of_ble_eq_true rfl), hk.1, hk.2⟩ rfl (Nat.le_of_ble_eq_true rfl) rfl dL_law_1398 (fun pf2 => ?_)
  exact aw_icmp_eq X (hzf pf1) (hzf pf1) (tgt := 1444) dL_law_1401 (by decide) (fun _ => k) (fun h => absurd rfl h)
theorem LW_back (X : AX p s m args meth c D cA sa bs cL_law 7 RLw) (hX : va_X b L xs s s.heap) (hbl : b < s.heap.size) (hbA : ¬ ax_A bs b) (hi : i + 5 < L) (hL : L ≤ 3072) (hk : kc ≤ room_1.cells ∧ ks ≤ room_1.slots) (hzf : PF1 → Z_I r) (h1 : AM l D cA sa ad bs 788 SHp yX11_back cX11_back 1 (some .int) 2 (.ref (ad 0) :: []) σ (some (z_i r)) PF1 σ1) (h2 : AM l D cA sa ad bs 788 SHp yX12_back cX12_back 1 (some .int) 1 (.ref (ad 758) :: []) σ1 (some (z_i r)) PF2 σ2) (k : AW p l e room_1 s m args below meth c D cA ad bs 788 SHp kc ks Q 7 1444 (lw_lv b ad i) [] σ2) : AW p l e room_1 s m args below meth c D cA ad bs 788 SHp kc ks Q 7 1406 (lw_lv b ad i) [] σ := by
  refine aw_aload_n X 1 dL_law_1406 rfl rfl ?_
  refine aw_callV X [] [] [z_i r] cL_173 s_0 ⟨_, _, rfl⟩ h1 rfl ⟨(Nat.le_of_ble_eq_true rfl), (Nat.le_of_ble_eq_true rfl), hk.1, hk.2⟩ rfl (Nat.le_of_ble_eq_true rfl) rfl dL_law_1407 (fun pf1 => ?_)
  refine aw_aload_n X 2 dL_law_1410 rfl rfl ?_
  refine aw_callV X [] [z_i r] [z_i r, z_i r] cL_176 s_758 ⟨_, _, rfl⟩ h2 rfl ⟨(Nat.le_of_ble_eq_true rfl), (Nat.le_of_ble_eq_true rfl), hk.1, hk.2⟩ rfl (Nat.le_of_ble_eq_true rfl) rfl dL_law_1411 (fun pf2 => ?_)
  exact aw_icmp_eq X (hzf pf1) (hzf pf1) (tgt := 1444) dL_law_1414 (by decide) (fun _ => k) (fun h => absurd rfl h)
theorem LW_count (X : AX p s m args meth c D cA sa bs cL_law 7 RLw) (hX : va_X b L xs s s.heap) (hbl : b < s.heap.size) (hbA : ¬ ax_A bs b) (hi : i + 5 < L) (hL : L ≤ 3072) (hk : kc ≤ room_1.cells ∧ ks ≤ room_1.slots) (hzf : PF1 → Z_I r) (h1 : AM l D cA sa ad bs 788 SHp yX11_count cX11_count 2 (some .int) 2 (.ref (ad 0) :: [z_i (xs (i + 1)).toInt]) σ (some (z_i r)) PF1 σ1) (h2 : AM l D cA sa ad bs 788 SHp yX12_count cX12_count 2 (some .int) 0 (.ref (ad 758) :: [z_i (xs (i + 1)).toInt]) σ1 (some (z_i r)) PF2 σ2) (k : AW p l e room_1 s m args below meth c D cA ad bs 788 SHp kc ks Q 7 1444 (lw_lv b ad i) [] σ2) : AW p l e room_1 s m args below meth c D cA ad bs 788 SHp kc ks Q 7 1419 (lw_lv b ad i) [] σ := by
  refine aw_aload_n X 1 dL_law_1419 rfl rfl ?_
  refine aw_arg X hX hbl hbA (j := 1) (by omega) hL dL_law_1420 dL_law_1421 dL_law_1423 dL_law_1424 dL_law_1425 ?_
  refine aw_callV X [z_i (xs (i + 1)).toInt] [] [z_i r] cL_177 s_0 ⟨_, _, rfl⟩ h1 rfl ⟨(Nat.le_of_ble_eq_true rfl), (Nat.le_of_ble_eq_true rfl), hk.1, hk.2⟩ rfl (Nat.le_of_ble_eq_true rfl) rfl dL_law_1426 (fun pf1 => ?_)
  refine aw_aload_n X 2 dL_law_1429 rfl rfl ?_
  refine aw_arg X hX hbl hbA (j := 1) (by omega) hL dL_law_1430 dL_law_1431 dL_law_1433 dL_law_1434 dL_law_1435 ?_
  refine aw_callV X [z_i (xs (i + 1)).toInt] [z_i r] [z_i r, z_i r] cL_180 s_758 ⟨_, _, rfl⟩ h2 rfl ⟨(Nat.le_of_ble_eq_true rfl), (Nat.le_of_ble_eq_true rfl), hk.1, hk.2⟩ rfl (Nat.le_of_ble_eq_true rfl) rfl dL_law_1436 (fun pf2 => ?_)
  exact aw_icmp_eq X (hzf pf1) (hzf pf1) (tgt := 1444) dL_law_1439 (by decide) (fun _ => k) (fun h => absurd rfl h)
end S_LC
