/-! The law: its cases, Bi -/
section Bi
set_option maxHeartbeats 1000000 in
set_option maxRecDepth 100000 in
theorem w_type {X : Cx} {d : Nat} {post : Option Value → AH → Prop} {px : String → AH → Prop} {h : AH} {k sl sc x mo out oD i0 n : Nat} {u6 u7 u8 : Slot} {f : Nat → Int} {th pc ps : Nat} {g : Nat → Int64} {G : Nat → UInt64} (hW : WOK (cxL X) (cxD X) (cxS X)) (hX : Ok X yL_law.cls cL_law 9 (some .boolean) yL_law.name (d + 20) post px) (hS : LST (cxS X) h sc n f x mo out oD th g G pc ps) (hf : ∀ j, inR (f j)) (hn : n ≤ 2560) (hb : i0 + 4 < n) (j6 : oc1 u6) (j7 : jk7 u7 u8) (K : LwK X k sl sc n f x mo out oD i0 pc ps) : WA X h (k + 65 + pc) (sl + 7400 + ps) 240 (lwL sc x mo out oD ((i0 : Nat) : Int) u6 u7 u8) [] := by
  obtain ⟨⟨w, c, m, E, R, br, bf, bs, be, D2, D3, so, b0, b1, b2, hI, hR, hB, rfl, rfl⟩, ho, hoD, hsc⟩ := hS
  obtain ⟨fs, hobj⟩ := hI.obj
  have hM := hI.mtr.2.2.2.2.2.2
  refine WA.room (k2 := (k + 25 + pC so D2) + 4) (sl2 := (sl + 3200 + pS so D2) + 24) (by omega) (by omega) ?_
  refine wa_aload_n hX (i := 1) dL_law_240 rfl rfl ?_
  refine lw_arg hX (j := 1) rfl hsc (by omega) hn dL_law_241 dL_law_242 dL_law_244 dL_law_245 dL_law_246 ?_
  refine wa_aload_n hX (i := 3) dL_law_247 rfl rfl ?_
  refine wa_callSH hX (c_L_type hW _ (P1 := PC_type h x w c m E R br bf bs be D2 D3 so (f (i0 + 1))) (PX := XC_type h x w c m E R br bf bs be D2 D3 so (f (i0 + 1))) hobj (c_X10_type hW 0 hI (hf (i0 + 1))) (fun r9 h9 q => ⟨vP_type q, fP_type q _ _ _ ho HF200⟩) (fun e9 h9 q => eX_type q)) (by rfl) (by omega) (nA := 3) (by rfl) (by decide +kernel) rfl (by exact Nat.le_of_ble_eq_true rfl) dL_law_248 (fun r1 hh p1 => ?_)
  obtain ⟨kk, h1, g1, rfl, rfl, fr1, hc⟩ := wr2 (P1 := PC_type h x w c m E R br bf bs be D2 D3 so (f (i0 + 1))) (PX := XC_type h x w c m E R br bf bs be D2 D3 so (f (i0 + 1))) ho (fun r9 h9 q => fP_type q) (fun e9 h9 q => fX_type q) p1
  dsimp only [Option.toList, List.cons_append, List.nil_append]
  refine lw_i6 hX dL_law_251 j6 ?_
  obtain ⟨hR1, hsc1⟩ := lw_mid (g1 := g1) fr1 ho hR hsc
  obtain ⟨row, brk, al, wk, us, kp, pt, hmo⟩ := hR1.obj
  refine WA.room (k2 := (k + pC so D2) + 0) (sl2 := (sl + pS so D2) + 0) (by omega) (by omega) ?_
  refine wa_aload_n hX (i := 2) dL_law_253 rfl rfl ?_
  refine lw_arg hX (j := 1) rfl hsc1 (by omega) hn dL_law_254 dL_law_255 dL_law_257 dL_law_258 dL_law_259 ?_
  refine wa_callV hX (c_X12_type hW 0 hR1 (hf (i0 + 1)) ) hmo (by rfl) (by rfl) (by omega) (nA := 1) (by rfl) (by decide +kernel) rfl (by exact Nat.le_of_ble_eq_true rfl) dL_law_260 (fun r2 h2 p2 => ?_) (fun _ _ q => q.elim)
  have p3 : PR_type (cxS X) (hset h1 out (200, aL 1 g1)) mo w c m E R b0 b1 b2 (f (i0 + 1)) r2 h2 := p2
  have frR := fR_type p3
  obtain ⟨z2, rfl, hz, hk4, w', c', m', E', R', br', bf', bs', be', D2', D3', so', b0', b1', b2', hI', hR', hB', l1, l2⟩ := op_type hI hB hc p3
  dsimp only [Option.toList, List.cons_append, List.nil_append]
  refine lw_i7 hX dL_law_263 j7 (fun v8 j8 => ?_)
  have hout2 := lw_outs frR
  obtain ⟨row2, brk2, al2, wk2, us2, kp2, pt2, hmo2⟩ := hR'.obj
  refine tail_i hW hX (by omega) hk4 ⟨_, _, _, _, _, _, _, _, hmo2⟩ hout2 hz (by decide) dL_law_265 dL_law_266 dL_law_269 dL_law_271 dL_law_276 dL_law_278 dL_law_281 dL_law_282 dL_law_283 dL_law_284 dL_law_286 dL_law_287 dL_law_288 dL_law_293 ?_
  refine WA.room (k2 := k + pC so' D2') (sl2 := sl + pS so' D2') (by omega) (by omega) ?_
  exact K h2 kk g1 G _ _ _ _ _ ⟨⟨w', c', m', E', R', br', bf', bs', be', D2', D3', so', b0', b1', b2', lw_house fr1 ho frR hI', hR', hB', rfl, rfl⟩, hout2, lw_after fr1 ho frR hoD (Or.inl rfl), hsc1⟩ l1 l2 (Or.inr ⟨_, rfl, rfl⟩) (Or.inl ⟨Or.inr ⟨_, rfl, rfl⟩, j8⟩)
set_option maxHeartbeats 1000000 in
set_option maxRecDepth 100000 in
theorem w_uniform {X : Cx} {d : Nat} {post : Option Value → AH → Prop} {px : String → AH → Prop} {h : AH} {k sl sc x mo out oD i0 n : Nat} {u6 u7 u8 : Slot} {f : Nat → Int} {th pc ps : Nat} {g : Nat → Int64} {G : Nat → UInt64} (hW : WOK (cxL X) (cxD X) (cxS X)) (hX : Ok X yL_law.cls cL_law 9 (some .boolean) yL_law.name (d + 20) post px) (hS : LST (cxS X) h sc n f x mo out oD th g G pc ps) (hf : ∀ j, inR (f j)) (hn : n ≤ 2560) (hb : i0 + 4 < n) (j6 : oc1 u6) (j7 : jk7 u7 u8) (K : LwK X k sl sc n f x mo out oD i0 pc ps) : WA X h (k + 65 + pc) (sl + 7400 + ps) 309 (lwL sc x mo out oD ((i0 : Nat) : Int) u6 u7 u8) [] := by
  obtain ⟨⟨w, c, m, E, R, br, bf, bs, be, D2, D3, so, b0, b1, b2, hI, hR, hB, rfl, rfl⟩, ho, hoD, hsc⟩ := hS
  obtain ⟨fs, hobj⟩ := hI.obj
  have hM := hI.mtr.2.2.2.2.2.2
  refine WA.room (k2 := (k + 25 + pC so D2) + 40) (sl2 := (sl + 3200 + pS so D2) + 4200) (by omega) (by omega) ?_
  refine wa_aload_n hX (i := 1) dL_law_309 rfl rfl ?_
  refine lw_arg hX (j := 1) rfl hsc (by omega) hn dL_law_310 dL_law_311 dL_law_313 dL_law_314 dL_law_315 ?_
  refine lw_arg hX (j := 2) rfl hsc (by omega) hn dL_law_316 dL_law_317 dL_law_319 dL_law_320 dL_law_321 ?_
  refine wa_aload_n hX (i := 3) dL_law_322 rfl rfl ?_
  refine wa_callSH hX (c_L_uniform hW _ (P1 := PC_uniform h x w c m E R br bf bs be D2 D3 so (f (i0 + 1)) (f (i0 + 2))) (PX := XC_uniform h x w c m E R br bf bs be D2 D3 so (f (i0 + 1)) (f (i0 + 2))) hobj (c_X10_uniform hW 0 hI (hf (i0 + 1)) (hf (i0 + 2)) mN_uniformC) (fun r9 h9 q => ⟨vP_uniform q, fP_uniform q _ _ _ ho HF200⟩) (fun e9 h9 q => eX_uniform q)) (by rfl) (by omega) (nA := 4) (by rfl) (by decide +kernel) rfl (by exact Nat.le_of_ble_eq_true rfl) dL_law_323 (fun r1 hh p1 => ?_)
  obtain ⟨kk, h1, g1, rfl, rfl, fr1, hc⟩ := wr2 (P1 := PC_uniform h x w c m E R br bf bs be D2 D3 so (f (i0 + 1)) (f (i0 + 2))) (PX := XC_uniform h x w c m E R br bf bs be D2 D3 so (f (i0 + 1)) (f (i0 + 2))) ho (fun r9 h9 q => fP_uniform q) (fun e9 h9 q => fX_uniform q) p1
  dsimp only [Option.toList, List.cons_append, List.nil_append]
  refine lw_i6 hX dL_law_326 j6 ?_
  obtain ⟨hR1, hsc1⟩ := lw_mid (g1 := g1) fr1 ho hR hsc
  obtain ⟨row, brk, al, wk, us, kp, pt, hmo⟩ := hR1.obj
  refine WA.room (k2 := (k + pC so D2) + 25) (sl2 := (sl + pS so D2) + 3200) (by omega) (by omega) ?_
  refine wa_aload_n hX (i := 2) dL_law_328 rfl rfl ?_
  refine lw_arg hX (j := 1) rfl hsc1 (by omega) hn dL_law_329 dL_law_330 dL_law_332 dL_law_333 dL_law_334 ?_
  refine lw_arg hX (j := 2) rfl hsc1 (by omega) hn dL_law_335 dL_law_336 dL_law_338 dL_law_339 dL_law_340 ?_
  refine wa_callV hX (c_X12_uniform hW 0 hR1 (hf (i0 + 2)) (hf (i0 + 1)) mN_uniformR (rmc := 25) (rms := 3200) (fun _ => by omega)) hmo (by rfl) (by rfl) (by omega) (nA := 2) (by rfl) (by decide +kernel) rfl (by exact Nat.le_of_ble_eq_true rfl) dL_law_341 (fun r2 h2 p2 => ?_) (fun _ _ q => q.elim)
  have p3 : PR_uniform (cxS X) (hset h1 out (200, aL 1 g1)) mo w c m E R b0 b1 b2 (f (i0 + 1)) (f (i0 + 2)) r2 h2 := p2
  have frR := fR_uniform p3
  obtain ⟨z2, rfl, hz, hk4, w', c', m', E', R', br', bf', bs', be', D2', D3', so', b0', b1', b2', hI', hR', hB', l1, l2⟩ := op_uniform hI hB hc p3
  dsimp only [Option.toList, List.cons_append, List.nil_append]
  refine lw_i7 hX dL_law_344 j7 (fun v8 j8 => ?_)
  have hout2 := lw_outs frR
  obtain ⟨row2, brk2, al2, wk2, us2, kp2, pt2, hmo2⟩ := hR'.obj
  refine tail_i hW hX (by omega) hk4 ⟨_, _, _, _, _, _, _, _, hmo2⟩ hout2 hz (by decide) dL_law_346 dL_law_347 dL_law_350 dL_law_352 dL_law_357 dL_law_359 dL_law_362 dL_law_363 dL_law_364 dL_law_365 dL_law_367 dL_law_368 dL_law_369 dL_law_374 ?_
  refine WA.room (k2 := k + pC so' D2') (sl2 := sl + pS so' D2') (by omega) (by omega) ?_
  exact K h2 kk g1 G _ _ _ _ _ ⟨⟨w', c', m', E', R', br', bf', bs', be', D2', D3', so', b0', b1', b2', lw_house fr1 ho frR hI', hR', hB', rfl, rfl⟩, hout2, lw_after fr1 ho frR hoD (Or.inl rfl), hsc1⟩ l1 l2 (Or.inr ⟨_, rfl, rfl⟩) (Or.inl ⟨Or.inr ⟨_, rfl, rfl⟩, j8⟩)
set_option maxHeartbeats 1000000 in
set_option maxRecDepth 100000 in
theorem w_graph {X : Cx} {d : Nat} {post : Option Value → AH → Prop} {px : String → AH → Prop} {h : AH} {k sl sc x mo out oD i0 n : Nat} {u6 u7 u8 : Slot} {f : Nat → Int} {th pc ps : Nat} {g : Nat → Int64} {G : Nat → UInt64} (hW : WOK (cxL X) (cxD X) (cxS X)) (hX : Ok X yL_law.cls cL_law 9 (some .boolean) yL_law.name (d + 20) post px) (hS : LST (cxS X) h sc n f x mo out oD th g G pc ps) (hf : ∀ j, inR (f j)) (hn : n ≤ 2560) (hb : i0 + 4 < n) (j6 : oc1 u6) (j7 : jk7 u7 u8) (K : LwK X k sl sc n f x mo out oD i0 pc ps) : WA X h (k + 65 + pc) (sl + 7400 + ps) 377 (lwL sc x mo out oD ((i0 : Nat) : Int) u6 u7 u8) [] := by
  obtain ⟨⟨w, c, m, E, R, br, bf, bs, be, D2, D3, so, b0, b1, b2, hI, hR, hB, rfl, rfl⟩, ho, hoD, hsc⟩ := hS
  obtain ⟨fs, hobj⟩ := hI.obj
  have hM := hI.mtr.2.2.2.2.2.2
  refine WA.room (k2 := (k + 25 + pC so D2) + 40) (sl2 := (sl + 3200 + pS so D2) + 4200) (by omega) (by omega) ?_
  refine wa_aload_n hX (i := 1) dL_law_377 rfl rfl ?_
  refine wa_aload_n hX (i := 3) dL_law_378 rfl rfl ?_
  refine wa_callSH hX (c_L_graph hW _ (P1 := PC_graph h x w c m E R br bf bs be D2 D3 so) (PX := XC_graph h x w c m E R br bf bs be D2 D3 so) hobj (c_X10_graph hW 0 hI  mN_graphC) (fun r9 h9 q => ⟨vP_graph q, fP_graph q _ _ _ ho HF200⟩) (fun e9 h9 q => eX_graph q)) (by rfl) (by omega) (nA := 2) (by rfl) (by decide +kernel) rfl (by exact Nat.le_of_ble_eq_true rfl) dL_law_379 (fun r1 hh p1 => ?_)
  obtain ⟨kk, h1, g1, rfl, rfl, fr1, hc⟩ := wr2 (P1 := PC_graph h x w c m E R br bf bs be D2 D3 so) (PX := XC_graph h x w c m E R br bf bs be D2 D3 so) ho (fun r9 h9 q => fP_graph q) (fun e9 h9 q => fX_graph q) p1
  dsimp only [Option.toList, List.cons_append, List.nil_append]
  refine lw_i6 hX dL_law_382 j6 ?_
  obtain ⟨hR1, hsc1⟩ := lw_mid (g1 := g1) fr1 ho hR hsc
  obtain ⟨row, brk, al, wk, us, kp, pt, hmo⟩ := hR1.obj
  refine WA.room (k2 := (k + pC so D2) + 25) (sl2 := (sl + pS so D2) + 3200) (by omega) (by omega) ?_
  refine wa_aload_n hX (i := 2) dL_law_384 rfl rfl ?_
  refine wa_callV hX (c_X12_graph hW 0 hR1  mN_graphR (rmc := 25) (rms := 3200) (fun _ => by omega)) hmo (by rfl) (by rfl) (by omega) (nA := 0) (by rfl) (by decide +kernel) rfl (by exact Nat.le_of_ble_eq_true rfl) dL_law_385 (fun r2 h2 p2 => ?_) (fun _ _ q => q.elim)
  have p3 : PR_graph (cxS X) (hset h1 out (200, aL 1 g1)) mo w c m E R b0 b1 b2 r2 h2 := p2
  have frR := fR_graph p3
  obtain ⟨z2, rfl, hz, hk4, w', c', m', E', R', br', bf', bs', be', D2', D3', so', b0', b1', b2', hI', hR', hB', l1, l2⟩ := op_graph hI hB hc p3
  dsimp only [Option.toList, List.cons_append, List.nil_append]
  refine lw_i7 hX dL_law_388 j7 (fun v8 j8 => ?_)
  have hout2 := lw_outs frR
  obtain ⟨row2, brk2, al2, wk2, us2, kp2, pt2, hmo2⟩ := hR'.obj
  refine tail_i hW hX (by omega) hk4 ⟨_, _, _, _, _, _, _, _, hmo2⟩ hout2 hz (by decide) dL_law_390 dL_law_391 dL_law_394 dL_law_396 dL_law_401 dL_law_403 dL_law_406 dL_law_407 dL_law_408 dL_law_409 dL_law_411 dL_law_412 dL_law_413 dL_law_418 ?_
  refine WA.room (k2 := k + pC so' D2') (sl2 := sl + pS so' D2') (by omega) (by omega) ?_
  exact K h2 kk g1 G _ _ _ _ _ ⟨⟨w', c', m', E', R', br', bf', bs', be', D2', D3', so', b0', b1', b2', lw_house fr1 ho frR hI', hR', hB', rfl, rfl⟩, hout2, lw_after fr1 ho frR hoD (Or.inl rfl), hsc1⟩ l1 l2 (Or.inr ⟨_, rfl, rfl⟩) (Or.inl ⟨Or.inr ⟨_, rfl, rfl⟩, j8⟩)
set_option maxHeartbeats 1000000 in
set_option maxRecDepth 100000 in
theorem w_columns {X : Cx} {d : Nat} {post : Option Value → AH → Prop} {px : String → AH → Prop} {h : AH} {k sl sc x mo out oD i0 n : Nat} {u6 u7 u8 : Slot} {f : Nat → Int} {th pc ps : Nat} {g : Nat → Int64} {G : Nat → UInt64} (hW : WOK (cxL X) (cxD X) (cxS X)) (hX : Ok X yL_law.cls cL_law 9 (some .boolean) yL_law.name (d + 20) post px) (hS : LST (cxS X) h sc n f x mo out oD th g G pc ps) (hf : ∀ j, inR (f j)) (hn : n ≤ 2560) (hb : i0 + 4 < n) (j6 : oc1 u6) (j7 : jk7 u7 u8) (K : LwK X k sl sc n f x mo out oD i0 pc ps) : WA X h (k + 65 + pc) (sl + 7400 + ps) 421 (lwL sc x mo out oD ((i0 : Nat) : Int) u6 u7 u8) [] := by
  obtain ⟨⟨w, c, m, E, R, br, bf, bs, be, D2, D3, so, b0, b1, b2, hI, hR, hB, rfl, rfl⟩, ho, hoD, hsc⟩ := hS
  obtain ⟨fs, hobj⟩ := hI.obj
  have hM := hI.mtr.2.2.2.2.2.2
  refine WA.room (k2 := (k + 25 + pC so D2) + 40) (sl2 := (sl + 3200 + pS so D2) + 4200) (by omega) (by omega) ?_
  refine wa_aload_n hX (i := 1) dL_law_421 rfl rfl ?_
  refine lw_arg hX (j := 1) rfl hsc (by omega) hn dL_law_422 dL_law_423 dL_law_425 dL_law_426 dL_law_427 ?_
  refine lw_arg hX (j := 2) rfl hsc (by omega) hn dL_law_428 dL_law_429 dL_law_431 dL_law_432 dL_law_433 ?_
  refine wa_aload_n hX (i := 3) dL_law_434 rfl rfl ?_
  refine wa_callSH hX (c_L_columns hW _ (P1 := PC_columns h x w c m E R br bf bs be D2 D3 so (f (i0 + 1)) (f (i0 + 2))) (PX := XC_columns h x w c m E R br bf bs be D2 D3 so (f (i0 + 1)) (f (i0 + 2))) hobj (c_X10_columns hW 0 hI (hf (i0 + 1)) (hf (i0 + 2)) mN_columnsC) (fun r9 h9 q => ⟨vP_columns q, fP_columns q _ _ _ ho HF200⟩) (fun e9 h9 q => eX_columns q)) (by rfl) (by omega) (nA := 4) (by rfl) (by decide +kernel) rfl (by exact Nat.le_of_ble_eq_true rfl) dL_law_435 (fun r1 hh p1 => ?_)
  obtain ⟨kk, h1, g1, rfl, rfl, fr1, hc⟩ := wr3 (P1 := PC_columns h x w c m E R br bf bs be D2 D3 so (f (i0 + 1)) (f (i0 + 2))) (PX := XC_columns h x w c m E R br bf bs be D2 D3 so (f (i0 + 1)) (f (i0 + 2))) ho (fun r9 h9 q => fP_columns q) (fun e9 h9 q => fX_columns q) p1
  dsimp only [Option.toList, List.cons_append, List.nil_append]
  refine lw_i6 hX dL_law_438 j6 ?_
  obtain ⟨hR1, hsc1⟩ := lw_mid (g1 := g1) fr1 ho hR hsc
  obtain ⟨row, brk, al, wk, us, kp, pt, hmo⟩ := hR1.obj
  refine WA.room (k2 := (k + pC so D2) + 25) (sl2 := (sl + pS so D2) + 3200) (by omega) (by omega) ?_
  refine wa_aload_n hX (i := 2) dL_law_440 rfl rfl ?_
  refine lw_arg hX (j := 1) rfl hsc1 (by omega) hn dL_law_441 dL_law_442 dL_law_444 dL_law_445 dL_law_446 ?_
  refine lw_arg hX (j := 2) rfl hsc1 (by omega) hn dL_law_447 dL_law_448 dL_law_450 dL_law_451 dL_law_452 ?_
  refine wa_callV hX (c_X12_columns hW 0 hR1 (hf (i0 + 1)) (hf (i0 + 2)) mN_columnsR (rmc := 25) (rms := 3200) (fun _ => by omega)) hmo (by rfl) (by rfl) (by omega) (nA := 2) (by rfl) (by decide +kernel) rfl (by exact Nat.le_of_ble_eq_true rfl) dL_law_453 (fun r2 h2 p2 => ?_) (fun _ _ q => q.elim)
  have p3 : PR_columns (cxS X) (hset h1 out (200, aL 1 g1)) mo w c m E R b0 b1 b2 (f (i0 + 1)) (f (i0 + 2)) r2 h2 := p2
  have frR := fR_columns p3
  obtain ⟨z2, rfl, hz, hk4, w', c', m', E', R', br', bf', bs', be', D2', D3', so', b0', b1', b2', hI', hR', hB', l1, l2⟩ := op_columns hI hB hc p3
  dsimp only [Option.toList, List.cons_append, List.nil_append]
  refine lw_i7 hX dL_law_456 j7 (fun v8 j8 => ?_)
  have hout2 := lw_outs frR
  obtain ⟨row2, brk2, al2, wk2, us2, kp2, pt2, hmo2⟩ := hR'.obj
  refine tail_i hW hX (by omega) hk4 ⟨_, _, _, _, _, _, _, _, hmo2⟩ hout2 hz (by decide) dL_law_458 dL_law_459 dL_law_462 dL_law_464 dL_law_469 dL_law_471 dL_law_474 dL_law_475 dL_law_476 dL_law_477 dL_law_479 dL_law_480 dL_law_481 dL_law_486 ?_
  refine WA.room (k2 := k + pC so' D2') (sl2 := sl + pS so' D2') (by omega) (by omega) ?_
  exact K h2 kk g1 G _ _ _ _ _ ⟨⟨w', c', m', E', R', br', bf', bs', be', D2', D3', so', b0', b1', b2', lw_house fr1 ho frR hI', hR', hB', rfl, rfl⟩, hout2, lw_after fr1 ho frR hoD (Or.inl rfl), hsc1⟩ l1 l2 (Or.inr ⟨_, rfl, rfl⟩) (Or.inl ⟨Or.inr ⟨_, rfl, rfl⟩, j8⟩)
set_option maxHeartbeats 1000000 in
set_option maxRecDepth 100000 in
theorem w_meeting {X : Cx} {d : Nat} {post : Option Value → AH → Prop} {px : String → AH → Prop} {h : AH} {k sl sc x mo out oD i0 n : Nat} {u6 u7 u8 : Slot} {f : Nat → Int} {th pc ps : Nat} {g : Nat → Int64} {G : Nat → UInt64} (hW : WOK (cxL X) (cxD X) (cxS X)) (hX : Ok X yL_law.cls cL_law 9 (some .boolean) yL_law.name (d + 20) post px) (hS : LST (cxS X) h sc n f x mo out oD th g G pc ps) (hf : ∀ j, inR (f j)) (hn : n ≤ 2560) (hb : i0 + 4 < n) (j6 : oc1 u6) (j7 : jk7 u7 u8) (K : LwK X k sl sc n f x mo out oD i0 pc ps) : WA X h (k + 65 + pc) (sl + 7400 + ps) 489 (lwL sc x mo out oD ((i0 : Nat) : Int) u6 u7 u8) [] := by
  obtain ⟨⟨w, c, m, E, R, br, bf, bs, be, D2, D3, so, b0, b1, b2, hI, hR, hB, rfl, rfl⟩, ho, hoD, hsc⟩ := hS
  obtain ⟨fs, hobj⟩ := hI.obj
  have hM := hI.mtr.2.2.2.2.2.2
  refine WA.room (k2 := (k + 25 + pC so D2) + 40) (sl2 := (sl + 3200 + pS so D2) + 4200) (by omega) (by omega) ?_
  refine wa_aload_n hX (i := 1) dL_law_489 rfl rfl ?_
  refine lw_arg hX (j := 1) rfl hsc (by omega) hn dL_law_490 dL_law_491 dL_law_493 dL_law_494 dL_law_495 ?_
  refine wa_aload_n hX (i := 3) dL_law_496 rfl rfl ?_
  refine wa_callSH hX (c_L_meeting hW _ (P1 := PC_meeting h x w c m E R br bf bs be D2 D3 so (f (i0 + 1))) (PX := XC_meeting h x w c m E R br bf bs be D2 D3 so (f (i0 + 1))) hobj (c_X10_meeting hW 0 hI (hf (i0 + 1)) mN_meetingC) (fun r9 h9 q => ⟨vP_meeting q, fP_meeting q _ _ _ ho HF200⟩) (fun e9 h9 q => eX_meeting q)) (by rfl) (by omega) (nA := 3) (by rfl) (by decide +kernel) rfl (by exact Nat.le_of_ble_eq_true rfl) dL_law_497 (fun r1 hh p1 => ?_)
  obtain ⟨kk, h1, g1, rfl, rfl, fr1, hc⟩ := wr3 (P1 := PC_meeting h x w c m E R br bf bs be D2 D3 so (f (i0 + 1))) (PX := XC_meeting h x w c m E R br bf bs be D2 D3 so (f (i0 + 1))) ho (fun r9 h9 q => fP_meeting q) (fun e9 h9 q => fX_meeting q) p1
  dsimp only [Option.toList, List.cons_append, List.nil_append]
  refine lw_i6 hX dL_law_500 j6 ?_
  obtain ⟨hR1, hsc1⟩ := lw_mid (g1 := g1) fr1 ho hR hsc
  obtain ⟨row, brk, al, wk, us, kp, pt, hmo⟩ := hR1.obj
  refine WA.room (k2 := (k + pC so D2) + 25) (sl2 := (sl + pS so D2) + 3200) (by omega) (by omega) ?_
  refine wa_aload_n hX (i := 2) dL_law_502 rfl rfl ?_
  refine lw_arg hX (j := 1) rfl hsc1 (by omega) hn dL_law_503 dL_law_504 dL_law_506 dL_law_507 dL_law_508 ?_
  refine wa_callV hX (c_X12_meeting hW 0 hR1 (hf (i0 + 1)) mN_meetingR (rmc := 25) (rms := 3200) (fun _ => by omega)) hmo (by rfl) (by rfl) (by omega) (nA := 1) (by rfl) (by decide +kernel) rfl (by exact Nat.le_of_ble_eq_true rfl) dL_law_509 (fun r2 h2 p2 => ?_) (fun _ _ q => q.elim)
  have p3 : PR_meeting (cxS X) (hset h1 out (200, aL 1 g1)) mo w c m E R b0 b1 b2 (f (i0 + 1)) r2 h2 := p2
  have frR := fR_meeting p3
  obtain ⟨z2, rfl, hz, hk4, w', c', m', E', R', br', bf', bs', be', D2', D3', so', b0', b1', b2', hI', hR', hB', l1, l2⟩ := op_meeting hI hB hc p3
  dsimp only [Option.toList, List.cons_append, List.nil_append]
  refine lw_i7 hX dL_law_512 j7 (fun v8 j8 => ?_)
  have hout2 := lw_outs frR
  obtain ⟨row2, brk2, al2, wk2, us2, kp2, pt2, hmo2⟩ := hR'.obj
  refine tail_i hW hX (by omega) hk4 ⟨_, _, _, _, _, _, _, _, hmo2⟩ hout2 hz (by decide) dL_law_514 dL_law_515 dL_law_518 dL_law_520 dL_law_525 dL_law_527 dL_law_530 dL_law_531 dL_law_532 dL_law_533 dL_law_535 dL_law_536 dL_law_537 dL_law_542 ?_
  refine WA.room (k2 := k + pC so' D2') (sl2 := sl + pS so' D2') (by omega) (by omega) ?_
  exact K h2 kk g1 G _ _ _ _ _ ⟨⟨w', c', m', E', R', br', bf', bs', be', D2', D3', so', b0', b1', b2', lw_house fr1 ho frR hI', hR', hB', rfl, rfl⟩, hout2, lw_after fr1 ho frR hoD (Or.inl rfl), hsc1⟩ l1 l2 (Or.inr ⟨_, rfl, rfl⟩) (Or.inl ⟨Or.inr ⟨_, rfl, rfl⟩, j8⟩)
set_option maxHeartbeats 1000000 in
set_option maxRecDepth 100000 in
theorem w_bases {X : Cx} {d : Nat} {post : Option Value → AH → Prop} {px : String → AH → Prop} {h : AH} {k sl sc x mo out oD i0 n : Nat} {u6 u7 u8 : Slot} {f : Nat → Int} {th pc ps : Nat} {g : Nat → Int64} {G : Nat → UInt64} (hW : WOK (cxL X) (cxD X) (cxS X)) (hX : Ok X yL_law.cls cL_law 9 (some .boolean) yL_law.name (d + 20) post px) (hS : LST (cxS X) h sc n f x mo out oD th g G pc ps) (hf : ∀ j, inR (f j)) (hn : n ≤ 2560) (hb : i0 + 4 < n) (j6 : oc1 u6) (j7 : jk7 u7 u8) (K : LwK X k sl sc n f x mo out oD i0 pc ps) : WA X h (k + 65 + pc) (sl + 7400 + ps) 545 (lwL sc x mo out oD ((i0 : Nat) : Int) u6 u7 u8) [] := by
  obtain ⟨⟨w, c, m, E, R, br, bf, bs, be, D2, D3, so, b0, b1, b2, hI, hR, hB, rfl, rfl⟩, ho, hoD, hsc⟩ := hS
  obtain ⟨fs, hobj⟩ := hI.obj
  have hM := hI.mtr.2.2.2.2.2.2
  refine WA.room (k2 := (k + 25 + pC so D2) + 40) (sl2 := (sl + 3200 + pS so D2) + 4200) (by omega) (by omega) ?_
  refine wa_aload_n hX (i := 1) dL_law_545 rfl rfl ?_
  refine lw_arg hX (j := 1) rfl hsc (by omega) hn dL_law_546 dL_law_547 dL_law_549 dL_law_550 dL_law_551 ?_
  refine wa_aload_n hX (i := 3) dL_law_552 rfl rfl ?_
  refine wa_callSH hX (c_L_bases hW _ (P1 := PC_bases h x w c m E R br bf bs be D2 D3 so (f (i0 + 1))) (PX := XC_bases h x w c m E R br bf bs be D2 D3 so (f (i0 + 1))) hobj (c_X10_bases hW 0 hI (hf (i0 + 1)) mN_basesC) (fun r9 h9 q => ⟨vP_bases q, fP_bases q _ _ _ ho HF200⟩) (fun e9 h9 q => eX_bases q)) (by rfl) (by omega) (nA := 3) (by rfl) (by decide +kernel) rfl (by exact Nat.le_of_ble_eq_true rfl) dL_law_553 (fun r1 hh p1 => ?_)
  obtain ⟨kk, h1, g1, rfl, rfl, fr1, hc⟩ := wr3 (P1 := PC_bases h x w c m E R br bf bs be D2 D3 so (f (i0 + 1))) (PX := XC_bases h x w c m E R br bf bs be D2 D3 so (f (i0 + 1))) ho (fun r9 h9 q => fP_bases q) (fun e9 h9 q => fX_bases q) p1
  dsimp only [Option.toList, List.cons_append, List.nil_append]
  refine lw_i6 hX dL_law_556 j6 ?_
  obtain ⟨hR1, hsc1⟩ := lw_mid (g1 := g1) fr1 ho hR hsc
  obtain ⟨row, brk, al, wk, us, kp, pt, hmo⟩ := hR1.obj
  refine WA.room (k2 := (k + pC so D2) + 25) (sl2 := (sl + pS so D2) + 3200) (by omega) (by omega) ?_
  refine wa_aload_n hX (i := 2) dL_law_558 rfl rfl ?_
  refine lw_arg hX (j := 1) rfl hsc1 (by omega) hn dL_law_559 dL_law_560 dL_law_562 dL_law_563 dL_law_564 ?_
  refine wa_callV hX (c_X12_bases hW 0 hR1 (hf (i0 + 1)) mN_basesR (rmc := 25) (rms := 3200) (by omega) (fun _ => by omega)) hmo (by rfl) (by rfl) (by omega) (nA := 1) (by rfl) (by decide +kernel) rfl (by exact Nat.le_of_ble_eq_true rfl) dL_law_565 (fun r2 h2 p2 => ?_) (fun _ _ q => q.elim)
  have p3 : PR_bases (cxS X) (hset h1 out (200, aL 1 g1)) mo w c m E R b0 b1 b2 (f (i0 + 1)) r2 h2 := p2
  have frR := fR_bases p3
  obtain ⟨z2, rfl, hz, hk4, w', c', m', E', R', br', bf', bs', be', D2', D3', so', b0', b1', b2', hI', hR', hB', l1, l2⟩ := op_bases hI hB hc p3
  dsimp only [Option.toList, List.cons_append, List.nil_append]
  refine lw_i7 hX dL_law_568 j7 (fun v8 j8 => ?_)
  have hout2 := lw_outs frR
  obtain ⟨row2, brk2, al2, wk2, us2, kp2, pt2, hmo2⟩ := hR'.obj
  refine tail_i hW hX (by omega) hk4 ⟨_, _, _, _, _, _, _, _, hmo2⟩ hout2 hz (by decide) dL_law_570 dL_law_571 dL_law_574 dL_law_576 dL_law_581 dL_law_583 dL_law_586 dL_law_587 dL_law_588 dL_law_589 dL_law_591 dL_law_592 dL_law_593 dL_law_598 ?_
  refine WA.room (k2 := k + pC so' D2') (sl2 := sl + pS so' D2') (by omega) (by omega) ?_
  exact K h2 kk g1 G _ _ _ _ _ ⟨⟨w', c', m', E', R', br', bf', bs', be', D2', D3', so', b0', b1', b2', lw_house fr1 ho frR hI', hR', hB', rfl, rfl⟩, hout2, lw_after fr1 ho frR hoD (Or.inl rfl), hsc1⟩ l1 l2 (Or.inr ⟨_, rfl, rfl⟩) (Or.inl ⟨Or.inr ⟨_, rfl, rfl⟩, j8⟩)
set_option maxHeartbeats 1000000 in
set_option maxRecDepth 100000 in
theorem w_broken {X : Cx} {d : Nat} {post : Option Value → AH → Prop} {px : String → AH → Prop} {h : AH} {k sl sc x mo out oD i0 n : Nat} {u6 u7 u8 : Slot} {f : Nat → Int} {th pc ps : Nat} {g : Nat → Int64} {G : Nat → UInt64} (hW : WOK (cxL X) (cxD X) (cxS X)) (hX : Ok X yL_law.cls cL_law 9 (some .boolean) yL_law.name (d + 20) post px) (hS : LST (cxS X) h sc n f x mo out oD th g G pc ps) (hf : ∀ j, inR (f j)) (hn : n ≤ 2560) (hb : i0 + 4 < n) (j6 : oc1 u6) (j7 : jk7 u7 u8) (K : LwK X k sl sc n f x mo out oD i0 pc ps) : WA X h (k + 65 + pc) (sl + 7400 + ps) 601 (lwL sc x mo out oD ((i0 : Nat) : Int) u6 u7 u8) [] := by
  obtain ⟨⟨w, c, m, E, R, br, bf, bs, be, D2, D3, so, b0, b1, b2, hI, hR, hB, rfl, rfl⟩, ho, hoD, hsc⟩ := hS
  obtain ⟨fs, hobj⟩ := hI.obj
  have hM := hI.mtr.2.2.2.2.2.2
  refine WA.room (k2 := (k + 25 + pC so D2) + 4) (sl2 := (sl + 3200 + pS so D2) + 24) (by omega) (by omega) ?_
  refine wa_aload_n hX (i := 1) dL_law_601 rfl rfl ?_
  refine lw_arg hX (j := 1) rfl hsc (by omega) hn dL_law_602 dL_law_603 dL_law_605 dL_law_606 dL_law_607 ?_
  refine lw_i2c hX dL_law_608 ?_
  refine wa_aload_n hX (i := 3) dL_law_609 rfl rfl ?_
  refine wa_callSH hX (c_L_broken hW _ (P1 := PC_broken h x w c m E R br bf bs be D2 D3 so (chrZ (f (i0 + 1)))) (PX := XC_broken h x w c m E R br bf bs be D2 D3 so (chrZ (f (i0 + 1)))) hobj (c_X10_broken hW 0 hI (chrZ_in _)) (fun r9 h9 q => ⟨vP_broken q, fP_broken q _ _ _ ho HF200⟩) (fun e9 h9 q => eX_broken q)) (by rfl) (by omega) (nA := 3) (by rfl) (by decide +kernel) rfl (by exact Nat.le_of_ble_eq_true rfl) dL_law_610 (fun r1 hh p1 => ?_)
  obtain ⟨kk, h1, g1, rfl, rfl, fr1, hc⟩ := wr2 (P1 := PC_broken h x w c m E R br bf bs be D2 D3 so (chrZ (f (i0 + 1)))) (PX := XC_broken h x w c m E R br bf bs be D2 D3 so (chrZ (f (i0 + 1)))) ho (fun r9 h9 q => fP_broken q) (fun e9 h9 q => fX_broken q) p1
  dsimp only [Option.toList, List.cons_append, List.nil_append]
  refine lw_i6 hX dL_law_613 j6 ?_
  obtain ⟨hR1, hsc1⟩ := lw_mid (g1 := g1) fr1 ho hR hsc
  obtain ⟨row, brk, al, wk, us, kp, pt, hmo⟩ := hR1.obj
  refine WA.room (k2 := (k + pC so D2) + 0) (sl2 := (sl + pS so D2) + 0) (by omega) (by omega) ?_
  refine wa_aload_n hX (i := 2) dL_law_615 rfl rfl ?_
  refine lw_arg hX (j := 1) rfl hsc1 (by omega) hn dL_law_616 dL_law_617 dL_law_619 dL_law_620 dL_law_621 ?_
  refine lw_i2c hX dL_law_622 ?_
  refine wa_callV hX (c_X12_broken hW 0 hR1 (chrZ_in _) (by rcases hB with ⟨-, z0, z1, z2⟩ | ⟨-, -, -, -, z0, z1, z2⟩ <;> omega)) hmo (by rfl) (by rfl) (by omega) (nA := 1) (by rfl) (by decide +kernel) rfl (by exact Nat.le_of_ble_eq_true rfl) dL_law_623 (fun r2 h2 p2 => ?_) (fun _ _ q => q.elim)
  have p3 : PR_broken (cxS X) (hset h1 out (200, aL 1 g1)) mo w c m E R b0 b1 b2 (chrZ (f (i0 + 1))) r2 h2 := p2
  have frR := fR_broken p3
  obtain ⟨z2, rfl, hz, hk4, w', c', m', E', R', br', bf', bs', be', D2', D3', so', b0', b1', b2', hI', hR', hB', l1, l2⟩ := op_broken hI hB hc p3
  dsimp only [Option.toList, List.cons_append, List.nil_append]
  refine lw_i7 hX dL_law_626 j7 (fun v8 j8 => ?_)
  have hout2 := lw_outs frR
  obtain ⟨row2, brk2, al2, wk2, us2, kp2, pt2, hmo2⟩ := hR'.obj
  refine tail_i hW hX (by omega) hk4 ⟨_, _, _, _, _, _, _, _, hmo2⟩ hout2 hz (by decide) dL_law_628 dL_law_629 dL_law_632 dL_law_634 dL_law_639 dL_law_641 dL_law_644 dL_law_645 dL_law_646 dL_law_647 dL_law_649 dL_law_650 dL_law_651 dL_law_656 ?_
  refine WA.room (k2 := k + pC so' D2') (sl2 := sl + pS so' D2') (by omega) (by omega) ?_
  exact K h2 kk g1 G _ _ _ _ _ ⟨⟨w', c', m', E', R', br', bf', bs', be', D2', D3', so', b0', b1', b2', lw_house fr1 ho frR hI', hR', hB', rfl, rfl⟩, hout2, lw_after fr1 ho frR hoD (Or.inl rfl), hsc1⟩ l1 l2 (Or.inr ⟨_, rfl, rfl⟩) (Or.inl ⟨Or.inr ⟨_, rfl, rfl⟩, j8⟩)
set_option maxHeartbeats 1000000 in
set_option maxRecDepth 100000 in
theorem w_dual {X : Cx} {d : Nat} {post : Option Value → AH → Prop} {px : String → AH → Prop} {h : AH} {k sl sc x mo out oD i0 n : Nat} {u6 u7 u8 : Slot} {f : Nat → Int} {th pc ps : Nat} {g : Nat → Int64} {G : Nat → UInt64} (hW : WOK (cxL X) (cxD X) (cxS X)) (hX : Ok X yL_law.cls cL_law 9 (some .boolean) yL_law.name (d + 20) post px) (hS : LST (cxS X) h sc n f x mo out oD th g G pc ps) (hf : ∀ j, inR (f j)) (hn : n ≤ 2560) (hb : i0 + 4 < n) (j6 : oc1 u6) (j7 : jk7 u7 u8) (K : LwK X k sl sc n f x mo out oD i0 pc ps) : WA X h (k + 65 + pc) (sl + 7400 + ps) 659 (lwL sc x mo out oD ((i0 : Nat) : Int) u6 u7 u8) [] := by
  obtain ⟨⟨w, c, m, E, R, br, bf, bs, be, D2, D3, so, b0, b1, b2, hI, hR, hB, rfl, rfl⟩, ho, hoD, hsc⟩ := hS
  obtain ⟨fs, hobj⟩ := hI.obj
  have hM := hI.mtr.2.2.2.2.2.2
  refine WA.room (k2 := (k + 25 + pC so D2) + 40) (sl2 := (sl + 3200 + pS so D2) + 4200) (by omega) (by omega) ?_
  refine wa_aload_n hX (i := 1) dL_law_659 rfl rfl ?_
  refine lw_arg hX (j := 1) rfl hsc (by omega) hn dL_law_660 dL_law_661 dL_law_663 dL_law_664 dL_law_665 ?_
  refine wa_aload_n hX (i := 3) dL_law_666 rfl rfl ?_
  refine wa_callSH hX (c_L_dual hW _ (P1 := PC_dual h x w c m E R br bf bs be D2 D3 so (f (i0 + 1))) (PX := XC_dual h x w c m E R br bf bs be D2 D3 so (f (i0 + 1))) hobj (c_X10_dual hW 0 hI (hf (i0 + 1)) (mN_dualC hM)) (fun r9 h9 q => ⟨vP_dual q, fP_dual q _ _ _ ho HF200⟩) (fun e9 h9 q => eX_dual q)) (by rfl) (by omega) (nA := 3) (by rfl) (by decide +kernel) rfl (by exact Nat.le_of_ble_eq_true rfl) dL_law_667 (fun r1 hh p1 => ?_)
  obtain ⟨kk, h1, g1, rfl, rfl, fr1, hc⟩ := wr2 (P1 := PC_dual h x w c m E R br bf bs be D2 D3 so (f (i0 + 1))) (PX := XC_dual h x w c m E R br bf bs be D2 D3 so (f (i0 + 1))) ho (fun r9 h9 q => fP_dual q) (fun e9 h9 q => fX_dual q) p1
  dsimp only [Option.toList, List.cons_append, List.nil_append]
  refine lw_i6 hX dL_law_670 j6 ?_
  obtain ⟨hR1, hsc1⟩ := lw_mid (g1 := g1) fr1 ho hR hsc
  obtain ⟨row, brk, al, wk, us, kp, pt, hmo⟩ := hR1.obj
  refine WA.room (k2 := (k + pC so D2) + 25) (sl2 := (sl + pS so D2) + 3200) (by omega) (by omega) ?_
  refine wa_aload_n hX (i := 2) dL_law_672 rfl rfl ?_
  refine lw_arg hX (j := 1) rfl hsc1 (by omega) hn dL_law_673 dL_law_674 dL_law_676 dL_law_677 dL_law_678 ?_
  refine wa_callV hX (c_X12_dual hW 0 hR1 (hf (i0 + 1)) (mN_dualC hM) (rmc := 25) (rms := 3200) (fun _ => by omega)) hmo (by rfl) (by rfl) (by omega) (nA := 1) (by rfl) (by decide +kernel) rfl (by exact Nat.le_of_ble_eq_true rfl) dL_law_679 (fun r2 h2 p2 => ?_) (fun _ _ q => q.elim)
  have p3 : PR_dual (cxS X) (hset h1 out (200, aL 1 g1)) mo w c m E R b0 b1 b2 (f (i0 + 1)) r2 h2 := p2
  have frR := fR_dual p3
  obtain ⟨z2, rfl, hz, hk4, w', c', m', E', R', br', bf', bs', be', D2', D3', so', b0', b1', b2', hI', hR', hB', l1, l2⟩ := op_dual hI hB hc p3
  dsimp only [Option.toList, List.cons_append, List.nil_append]
  refine lw_i7 hX dL_law_682 j7 (fun v8 j8 => ?_)
  have hout2 := lw_outs frR
  obtain ⟨row2, brk2, al2, wk2, us2, kp2, pt2, hmo2⟩ := hR'.obj
  refine tail_i hW hX (by omega) hk4 ⟨_, _, _, _, _, _, _, _, hmo2⟩ hout2 hz (by decide) dL_law_684 dL_law_685 dL_law_688 dL_law_690 dL_law_695 dL_law_697 dL_law_700 dL_law_701 dL_law_702 dL_law_703 dL_law_705 dL_law_706 dL_law_707 dL_law_712 ?_
  refine WA.room (k2 := k + pC so' D2') (sl2 := sl + pS so' D2') (by omega) (by omega) ?_
  exact K h2 kk g1 G _ _ _ _ _ ⟨⟨w', c', m', E', R', br', bf', bs', be', D2', D3', so', b0', b1', b2', lw_house fr1 ho frR hI', hR', hB', rfl, rfl⟩, hout2, lw_after fr1 ho frR hoD (Or.inl rfl), hsc1⟩ l1 l2 (Or.inr ⟨_, rfl, rfl⟩) (Or.inl ⟨Or.inr ⟨_, rfl, rfl⟩, j8⟩)
set_option maxHeartbeats 1000000 in
set_option maxRecDepth 100000 in
theorem w_delete {X : Cx} {d : Nat} {post : Option Value → AH → Prop} {px : String → AH → Prop} {h : AH} {k sl sc x mo out oD i0 n : Nat} {u6 u7 u8 : Slot} {f : Nat → Int} {th pc ps : Nat} {g : Nat → Int64} {G : Nat → UInt64} (hW : WOK (cxL X) (cxD X) (cxS X)) (hX : Ok X yL_law.cls cL_law 9 (some .boolean) yL_law.name (d + 20) post px) (hS : LST (cxS X) h sc n f x mo out oD th g G pc ps) (hf : ∀ j, inR (f j)) (hn : n ≤ 2560) (hb : i0 + 4 < n) (j6 : oc1 u6) (j7 : jk7 u7 u8) (K : LwK X k sl sc n f x mo out oD i0 pc ps) : WA X h (k + 65 + pc) (sl + 7400 + ps) 715 (lwL sc x mo out oD ((i0 : Nat) : Int) u6 u7 u8) [] := by
  obtain ⟨⟨w, c, m, E, R, br, bf, bs, be, D2, D3, so, b0, b1, b2, hI, hR, hB, rfl, rfl⟩, ho, hoD, hsc⟩ := hS
  obtain ⟨fs, hobj⟩ := hI.obj
  have hM := hI.mtr.2.2.2.2.2.2
  refine WA.room (k2 := (k + 25 + pC so D2) + 40) (sl2 := (sl + 3200 + pS so D2) + 4200) (by omega) (by omega) ?_
  refine wa_aload_n hX (i := 1) dL_law_715 rfl rfl ?_
  refine lw_arg hX (j := 1) rfl hsc (by omega) hn dL_law_716 dL_law_717 dL_law_719 dL_law_720 dL_law_721 ?_
  refine lw_arg hX (j := 2) rfl hsc (by omega) hn dL_law_722 dL_law_723 dL_law_725 dL_law_726 dL_law_727 ?_
  refine wa_aload_n hX (i := 3) dL_law_728 rfl rfl ?_
  refine wa_callSH hX (c_L_delete hW _ (P1 := PC_delete h x w c m E R br bf bs be D2 D3 so (f (i0 + 1)) (f (i0 + 2))) (PX := XC_delete h x w c m E R br bf bs be D2 D3 so (f (i0 + 1)) (f (i0 + 2))) hobj (c_X10_delete hW 0 hI (hf (i0 + 1)) (hf (i0 + 2)) (mN_deleteC hM)) (fun r9 h9 q => ⟨vP_delete q, fP_delete q _ _ _ ho HF200⟩) (fun e9 h9 q => eX_delete q)) (by rfl) (by omega) (nA := 4) (by rfl) (by decide +kernel) rfl (by exact Nat.le_of_ble_eq_true rfl) dL_law_729 (fun r1 hh p1 => ?_)
  obtain ⟨kk, h1, g1, rfl, rfl, fr1, hc⟩ := wr2 (P1 := PC_delete h x w c m E R br bf bs be D2 D3 so (f (i0 + 1)) (f (i0 + 2))) (PX := XC_delete h x w c m E R br bf bs be D2 D3 so (f (i0 + 1)) (f (i0 + 2))) ho (fun r9 h9 q => fP_delete q) (fun e9 h9 q => fX_delete q) p1
  dsimp only [Option.toList, List.cons_append, List.nil_append]
  refine lw_i6 hX dL_law_732 j6 ?_
  obtain ⟨hR1, hsc1⟩ := lw_mid (g1 := g1) fr1 ho hR hsc
  obtain ⟨row, brk, al, wk, us, kp, pt, hmo⟩ := hR1.obj
  refine WA.room (k2 := (k + pC so D2) + 25) (sl2 := (sl + pS so D2) + 3200) (by omega) (by omega) ?_
  refine wa_aload_n hX (i := 2) dL_law_734 rfl rfl ?_
  refine lw_arg hX (j := 1) rfl hsc1 (by omega) hn dL_law_735 dL_law_736 dL_law_738 dL_law_739 dL_law_740 ?_
  refine lw_arg hX (j := 2) rfl hsc1 (by omega) hn dL_law_741 dL_law_742 dL_law_744 dL_law_745 dL_law_746 ?_
  refine wa_callV hX (c_X12_delete hW 0 hR1 (hf (i0 + 1)) (hf (i0 + 2)) (mN_deleteR hM) (rmc := 25) (rms := 3200) (fun _ => by omega)) hmo (by rfl) (by rfl) (by omega) (nA := 2) (by rfl) (by decide +kernel) rfl (by exact Nat.le_of_ble_eq_true rfl) dL_law_747 (fun r2 h2 p2 => ?_) (fun _ _ q => q.elim)
  have p3 : PR_delete (cxS X) (hset h1 out (200, aL 1 g1)) mo w c m E R b0 b1 b2 (f (i0 + 1)) (f (i0 + 2)) r2 h2 := p2
  have frR := fR_delete p3
  obtain ⟨z2, rfl, hz, hk4, w', c', m', E', R', br', bf', bs', be', D2', D3', so', b0', b1', b2', hI', hR', hB', l1, l2⟩ := op_delete hI hB hc p3
  dsimp only [Option.toList, List.cons_append, List.nil_append]
  refine lw_i7 hX dL_law_750 j7 (fun v8 j8 => ?_)
  have hout2 := lw_outs frR
  obtain ⟨row2, brk2, al2, wk2, us2, kp2, pt2, hmo2⟩ := hR'.obj
  refine tail_i hW hX (by omega) hk4 ⟨_, _, _, _, _, _, _, _, hmo2⟩ hout2 hz (by decide) dL_law_752 dL_law_753 dL_law_756 dL_law_758 dL_law_763 dL_law_765 dL_law_768 dL_law_769 dL_law_770 dL_law_771 dL_law_773 dL_law_774 dL_law_775 dL_law_780 ?_
  refine WA.room (k2 := k + pC so' D2') (sl2 := sl + pS so' D2') (by omega) (by omega) ?_
  exact K h2 kk g1 G _ _ _ _ _ ⟨⟨w', c', m', E', R', br', bf', bs', be', D2', D3', so', b0', b1', b2', lw_house fr1 ho frR hI', hR', hB', rfl, rfl⟩, hout2, lw_after fr1 ho frR hoD (Or.inl rfl), hsc1⟩ l1 l2 (Or.inr ⟨_, rfl, rfl⟩) (Or.inl ⟨Or.inr ⟨_, rfl, rfl⟩, j8⟩)
set_option maxHeartbeats 1000000 in
set_option maxRecDepth 100000 in
theorem w_contract {X : Cx} {d : Nat} {post : Option Value → AH → Prop} {px : String → AH → Prop} {h : AH} {k sl sc x mo out oD i0 n : Nat} {u6 u7 u8 : Slot} {f : Nat → Int} {th pc ps : Nat} {g : Nat → Int64} {G : Nat → UInt64} (hW : WOK (cxL X) (cxD X) (cxS X)) (hX : Ok X yL_law.cls cL_law 9 (some .boolean) yL_law.name (d + 20) post px) (hS : LST (cxS X) h sc n f x mo out oD th g G pc ps) (hf : ∀ j, inR (f j)) (hn : n ≤ 2560) (hb : i0 + 4 < n) (j6 : oc1 u6) (j7 : jk7 u7 u8) (K : LwK X k sl sc n f x mo out oD i0 pc ps) : WA X h (k + 65 + pc) (sl + 7400 + ps) 783 (lwL sc x mo out oD ((i0 : Nat) : Int) u6 u7 u8) [] := by
  obtain ⟨⟨w, c, m, E, R, br, bf, bs, be, D2, D3, so, b0, b1, b2, hI, hR, hB, rfl, rfl⟩, ho, hoD, hsc⟩ := hS
  obtain ⟨fs, hobj⟩ := hI.obj
  have hM := hI.mtr.2.2.2.2.2.2
  refine WA.room (k2 := (k + 25 + pC so D2) + 40) (sl2 := (sl + 3200 + pS so D2) + 4200) (by omega) (by omega) ?_
  refine wa_aload_n hX (i := 1) dL_law_783 rfl rfl ?_
  refine lw_arg hX (j := 1) rfl hsc (by omega) hn dL_law_784 dL_law_785 dL_law_787 dL_law_788 dL_law_789 ?_
  refine lw_arg hX (j := 2) rfl hsc (by omega) hn dL_law_790 dL_law_791 dL_law_793 dL_law_794 dL_law_795 ?_
  refine wa_aload_n hX (i := 3) dL_law_796 rfl rfl ?_
  refine wa_callSH hX (c_L_contract hW _ (P1 := PC_contract h x w c m E R br bf bs be D2 D3 so (f (i0 + 1)) (f (i0 + 2))) (PX := XC_contract h x w c m E R br bf bs be D2 D3 so (f (i0 + 1)) (f (i0 + 2))) hobj (c_X10_contract hW 0 hI (hf (i0 + 1)) (hf (i0 + 2)) (mN_contractC hM)) (fun r9 h9 q => ⟨vP_contract q, fP_contract q _ _ _ ho HF200⟩) (fun e9 h9 q => eX_contract q)) (by rfl) (by omega) (nA := 4) (by rfl) (by decide +kernel) rfl (by exact Nat.le_of_ble_eq_true rfl) dL_law_797 (fun r1 hh p1 => ?_)
  obtain ⟨kk, h1, g1, rfl, rfl, fr1, hc⟩ := wr2 (P1 := PC_contract h x w c m E R br bf bs be D2 D3 so (f (i0 + 1)) (f (i0 + 2))) (PX := XC_contract h x w c m E R br bf bs be D2 D3 so (f (i0 + 1)) (f (i0 + 2))) ho (fun r9 h9 q => fP_contract q) (fun e9 h9 q => fX_contract q) p1
  dsimp only [Option.toList, List.cons_append, List.nil_append]
  refine lw_i6 hX dL_law_800 j6 ?_
  obtain ⟨hR1, hsc1⟩ := lw_mid (g1 := g1) fr1 ho hR hsc
  obtain ⟨row, brk, al, wk, us, kp, pt, hmo⟩ := hR1.obj
  refine WA.room (k2 := (k + pC so D2) + 25) (sl2 := (sl + pS so D2) + 3200) (by omega) (by omega) ?_
  refine wa_aload_n hX (i := 2) dL_law_802 rfl rfl ?_
  refine lw_arg hX (j := 1) rfl hsc1 (by omega) hn dL_law_803 dL_law_804 dL_law_806 dL_law_807 dL_law_808 ?_
  refine lw_arg hX (j := 2) rfl hsc1 (by omega) hn dL_law_809 dL_law_810 dL_law_812 dL_law_813 dL_law_814 ?_
  refine wa_callV hX (c_X12_contract hW 0 hR1 (hf (i0 + 1)) (hf (i0 + 2)) (mN_contractR hM) (rmc := 25) (rms := 3200) (fun _ => by omega)) hmo (by rfl) (by rfl) (by omega) (nA := 2) (by rfl) (by decide +kernel) rfl (by exact Nat.le_of_ble_eq_true rfl) dL_law_815 (fun r2 h2 p2 => ?_) (fun _ _ q => q.elim)
  have p3 : PR_contract (cxS X) (hset h1 out (200, aL 1 g1)) mo w c m E R b0 b1 b2 (f (i0 + 1)) (f (i0 + 2)) r2 h2 := p2
  have frR := fR_contract p3
  obtain ⟨z2, rfl, hz, hk4, w', c', m', E', R', br', bf', bs', be', D2', D3', so', b0', b1', b2', hI', hR', hB', l1, l2⟩ := op_contract hI hB hc p3
  dsimp only [Option.toList, List.cons_append, List.nil_append]
  refine lw_i7 hX dL_law_818 j7 (fun v8 j8 => ?_)
  have hout2 := lw_outs frR
  obtain ⟨row2, brk2, al2, wk2, us2, kp2, pt2, hmo2⟩ := hR'.obj
  refine tail_i hW hX (by omega) hk4 ⟨_, _, _, _, _, _, _, _, hmo2⟩ hout2 hz (by decide) dL_law_820 dL_law_821 dL_law_824 dL_law_826 dL_law_831 dL_law_833 dL_law_836 dL_law_837 dL_law_838 dL_law_839 dL_law_841 dL_law_842 dL_law_843 dL_law_848 ?_
  refine WA.room (k2 := k + pC so' D2') (sl2 := sl + pS so' D2') (by omega) (by omega) ?_
  exact K h2 kk g1 G _ _ _ _ _ ⟨⟨w', c', m', E', R', br', bf', bs', be', D2', D3', so', b0', b1', b2', lw_house fr1 ho frR hI', hR', hB', rfl, rfl⟩, hout2, lw_after fr1 ho frR hoD (Or.inl rfl), hsc1⟩ l1 l2 (Or.inr ⟨_, rfl, rfl⟩) (Or.inl ⟨Or.inr ⟨_, rfl, rfl⟩, j8⟩)
end Bi
