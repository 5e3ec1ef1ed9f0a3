/-! The law: its cases, Bl -/
section Bl
set_option maxHeartbeats 1000000 in
set_option maxRecDepth 100000 in
theorem w_common {X : Cx} {d : Nat} {post : Option Value → AH → Prop} {px : String → AH → Prop} {h : AH} {k sl sc x mo out oD i0 n : Nat} {u6 u7 u8 : Slot} {f : Nat → Int} {th pc ps : Nat} {g : Nat → Int64} {G : Nat → UInt64} (hW : WOK (cxL X) (cxD X) (cxS X)) (hX : Ok X yL_law.cls cL_law 9 (some .boolean) yL_law.name (d + 20) post px) (hS : LST (cxS X) h sc n f x mo out oD th g G pc ps) (hf : ∀ j, inR (f j)) (hn : n ≤ 2560) (hb : i0 + 4 < n) (j6 : oc1 u6) (j7 : jk7 u7 u8) (K : LwK X k sl sc n f x mo out oD i0 pc ps) : WA X h (k + 65 + pc) (sl + 7400 + ps) 2241 (lwL sc x mo out oD ((i0 : Nat) : Int) u6 u7 u8) [] := by
  obtain ⟨⟨w, c, m, E, R, br, bf, bs, be, D2, D3, so, b0, b1, b2, hI, hR, hB, rfl, rfl⟩, ho, hoD, hsc⟩ := hS
  obtain ⟨fs, hobj⟩ := hI.obj
  have hM := hI.mtr.2.2.2.2.2.2
  refine WA.room (k2 := (k + 25 + pC so D2) + 4) (sl2 := (sl + 3200 + pS so D2) + 24) (by omega) (by omega) ?_
  refine wa_aload_n hX (i := 1) dL_law_2241 rfl rfl ?_
  refine lw_arg hX (j := 1) rfl hsc (by omega) hn dL_law_2242 dL_law_2243 dL_law_2245 dL_law_2246 dL_law_2247 ?_
  refine lw_arg hX (j := 2) rfl hsc (by omega) hn dL_law_2248 dL_law_2249 dL_law_2251 dL_law_2252 dL_law_2253 ?_
  refine wa_aload_n hX (i := 3) dL_law_2254 rfl rfl ?_
  refine wa_callSH hX (c_L_common hW _ (P1 := PC_common h x w c m E R br bf bs be D2 D3 so (f (i0 + 1)) (f (i0 + 2))) (PX := XC_common h x w c m E R br bf bs be D2 D3 so (f (i0 + 1)) (f (i0 + 2))) hobj (c_X10_common hW 0 hI (hf (i0 + 1)) (hf (i0 + 2))) (fun r9 h9 q => ⟨vP_common q, fP_common q _ _ _ ho HF200⟩) (fun e9 h9 q => eX_common q)) (by rfl) (by omega) (nA := 4) (by rfl) (by decide +kernel) rfl (by exact Nat.le_of_ble_eq_true rfl) dL_law_2255 (fun r1 hh p1 => ?_)
  obtain ⟨kk, h1, g1, rfl, rfl, fr1, hc⟩ := wr2 (P1 := PC_common h x w c m E R br bf bs be D2 D3 so (f (i0 + 1)) (f (i0 + 2))) (PX := XC_common h x w c m E R br bf bs be D2 D3 so (f (i0 + 1)) (f (i0 + 2))) ho (fun r9 h9 q => fP_common q) (fun e9 h9 q => fX_common q) p1
  dsimp only [Option.toList, List.cons_append, List.nil_append]
  refine lw_i6 hX dL_law_2258 j6 ?_
  obtain ⟨hR1, hsc1⟩ := lw_mid (g1 := g1) fr1 ho hR hsc
  obtain ⟨row, brk, al, wk, us, kp, pt, hmo⟩ := hR1.obj
  refine WA.room (k2 := (k + pC so D2) + 0) (sl2 := (sl + pS so D2) + 0) (by omega) (by omega) ?_
  refine wa_aload_n hX (i := 2) dL_law_2260 rfl rfl ?_
  refine lw_arg hX (j := 1) rfl hsc1 (by omega) hn dL_law_2261 dL_law_2262 dL_law_2264 dL_law_2265 dL_law_2266 ?_
  refine lw_arg hX (j := 2) rfl hsc1 (by omega) hn dL_law_2267 dL_law_2268 dL_law_2270 dL_law_2271 dL_law_2272 ?_
  refine wa_callV hX (c_X12_common hW 0 hR1 (hf (i0 + 1)) (hf (i0 + 2)) ) hmo (by rfl) (by rfl) (by omega) (nA := 2) (by rfl) (by decide +kernel) rfl (by exact Nat.le_of_ble_eq_true rfl) dL_law_2273 (fun r2 h2 p2 => ?_) (fun _ _ q => q.elim)
  have p3 : PR_common (cxS X) (hset h1 out (200, aL 1 g1)) mo w c m E R b0 b1 b2 (f (i0 + 1)) (f (i0 + 2)) r2 h2 := p2
  have frR := fR_common p3
  obtain ⟨z2, rfl, hz, hk4, w', c', m', E', R', br', bf', bs', be', D2', D3', so', b0', b1', b2', hI', hR', hB', l1, l2⟩ := op_common hI hB hc p3
  dsimp only [Option.toList, List.cons_append, List.nil_append]
  refine lw_i7 hX dL_law_2276 j7 (fun v8 j8 => ?_)
  have hout2 := lw_outs frR
  obtain ⟨row2, brk2, al2, wk2, us2, kp2, pt2, hmo2⟩ := hR'.obj
  refine tail_i hW hX (by omega) hk4 ⟨_, _, _, _, _, _, _, _, hmo2⟩ hout2 hz (by decide) dL_law_2278 dL_law_2279 dL_law_2282 dL_law_2284 dL_law_2289 dL_law_2291 dL_law_2294 dL_law_2295 dL_law_2296 dL_law_2297 dL_law_2299 dL_law_2300 dL_law_2301 dL_law_2306 ?_
  refine WA.room (k2 := k + pC so' D2') (sl2 := sl + pS so' D2') (by omega) (by omega) ?_
  exact K h2 kk g1 G _ _ _ _ _ ⟨⟨w', c', m', E', R', br', bf', bs', be', D2', D3', so', b0', b1', b2', lw_house fr1 ho frR hI', hR', hB', rfl, rfl⟩, hout2, lw_after fr1 ho frR hoD (Or.inl rfl), hsc1⟩ l1 l2 (Or.inr ⟨_, rfl, rfl⟩) (Or.inl ⟨Or.inr ⟨_, rfl, rfl⟩, j8⟩)
set_option maxHeartbeats 1000000 in
set_option maxRecDepth 100000 in
theorem w_commonSet {X : Cx} {d : Nat} {post : Option Value → AH → Prop} {px : String → AH → Prop} {h : AH} {k sl sc x mo out oD i0 n : Nat} {u6 u7 u8 : Slot} {f : Nat → Int} {th pc ps : Nat} {g : Nat → Int64} {G : Nat → UInt64} (hW : WOK (cxL X) (cxD X) (cxS X)) (hX : Ok X yL_law.cls cL_law 9 (some .boolean) yL_law.name (d + 20) post px) (hS : LST (cxS X) h sc n f x mo out oD th g G pc ps) (hf : ∀ j, inR (f j)) (hn : n ≤ 2560) (hb : i0 + 4 < n) (j6 : oc1 u6) (j7 : jk7 u7 u8) (K : LwK X k sl sc n f x mo out oD i0 pc ps) : WA X h (k + 65 + pc) (sl + 7400 + ps) 2309 (lwL sc x mo out oD ((i0 : Nat) : Int) u6 u7 u8) [] := by
  obtain ⟨⟨w, c, m, E, R, br, bf, bs, be, D2, D3, so, b0, b1, b2, hI, hR, hB, rfl, rfl⟩, ho, hoD, hsc⟩ := hS
  obtain ⟨fs, hobj⟩ := hI.obj
  have hM := hI.mtr.2.2.2.2.2.2
  refine WA.room (k2 := (k + 25 + pC so D2) + 4) (sl2 := (sl + 3200 + pS so D2) + 24) (by omega) (by omega) ?_
  refine wa_aload_n hX (i := 1) dL_law_2309 rfl rfl ?_
  refine lw_arg hX (j := 1) rfl hsc (by omega) hn dL_law_2310 dL_law_2311 dL_law_2313 dL_law_2314 dL_law_2315 ?_
  refine lw_arg hX (j := 2) rfl hsc (by omega) hn dL_law_2316 dL_law_2317 dL_law_2319 dL_law_2320 dL_law_2321 ?_
  refine wa_aload_n hX (i := 3) dL_law_2322 rfl rfl ?_
  refine wa_callSH hX (c_L_commonSet hW _ (P1 := PC_commonSet h x w c m E R br bf bs be D2 D3 so (f (i0 + 1)) (f (i0 + 2))) (PX := XC_commonSet h x w c m E R br bf bs be D2 D3 so (f (i0 + 1)) (f (i0 + 2))) hobj (c_X10_commonSet hW 0 hI (hf (i0 + 1)) (hf (i0 + 2))) (fun r9 h9 q => ⟨vP_commonSet q, fP_commonSet q _ _ _ ho HF200⟩) (fun e9 h9 q => eX_commonSet q)) (by rfl) (by omega) (nA := 4) (by rfl) (by decide +kernel) rfl (by exact Nat.le_of_ble_eq_true rfl) dL_law_2323 (fun r1 hh p1 => ?_)
  obtain ⟨kk, h1, g1, rfl, rfl, fr1, hc⟩ := wr2 (P1 := PC_commonSet h x w c m E R br bf bs be D2 D3 so (f (i0 + 1)) (f (i0 + 2))) (PX := XC_commonSet h x w c m E R br bf bs be D2 D3 so (f (i0 + 1)) (f (i0 + 2))) ho (fun r9 h9 q => fP_commonSet q) (fun e9 h9 q => fX_commonSet q) p1
  dsimp only [Option.toList, List.cons_append, List.nil_append]
  refine lw_i6 hX dL_law_2326 j6 ?_
  obtain ⟨hR1, hsc1⟩ := lw_mid (g1 := g1) fr1 ho hR hsc
  obtain ⟨row, brk, al, wk, us, kp, pt, hmo⟩ := hR1.obj
  refine WA.room (k2 := (k + pC so D2) + 0) (sl2 := (sl + pS so D2) + 0) (by omega) (by omega) ?_
  refine wa_aload_n hX (i := 2) dL_law_2328 rfl rfl ?_
  refine lw_arg hX (j := 1) rfl hsc1 (by omega) hn dL_law_2329 dL_law_2330 dL_law_2332 dL_law_2333 dL_law_2334 ?_
  refine lw_arg hX (j := 2) rfl hsc1 (by omega) hn dL_law_2335 dL_law_2336 dL_law_2338 dL_law_2339 dL_law_2340 ?_
  refine wa_callV hX (c_X12_commonSet hW 0 hR1 (hf (i0 + 1)) (hf (i0 + 2)) ) hmo (by rfl) (by rfl) (by omega) (nA := 2) (by rfl) (by decide +kernel) rfl (by exact Nat.le_of_ble_eq_true rfl) dL_law_2341 (fun r2 h2 p2 => ?_) (fun _ _ q => q.elim)
  have p3 : PR_commonSet (cxS X) (hset h1 out (200, aL 1 g1)) mo w c m E R b0 b1 b2 (f (i0 + 1)) (f (i0 + 2)) r2 h2 := p2
  have frR := fR_commonSet p3
  obtain ⟨z2, rfl, hz, hk4, w', c', m', E', R', br', bf', bs', be', D2', D3', so', b0', b1', b2', hI', hR', hB', l1, l2⟩ := op_commonSet hI hB hc p3
  dsimp only [Option.toList, List.cons_append, List.nil_append]
  refine lw_i7 hX dL_law_2344 j7 (fun v8 j8 => ?_)
  have hout2 := lw_outs frR
  obtain ⟨row2, brk2, al2, wk2, us2, kp2, pt2, hmo2⟩ := hR'.obj
  refine tail_i hW hX (by omega) hk4 ⟨_, _, _, _, _, _, _, _, hmo2⟩ hout2 hz (by decide) dL_law_2346 dL_law_2347 dL_law_2350 dL_law_2352 dL_law_2357 dL_law_2359 dL_law_2362 dL_law_2363 dL_law_2364 dL_law_2365 dL_law_2367 dL_law_2368 dL_law_2369 dL_law_2374 ?_
  refine WA.room (k2 := k + pC so' D2') (sl2 := sl + pS so' D2') (by omega) (by omega) ?_
  exact K h2 kk g1 G _ _ _ _ _ ⟨⟨w', c', m', E', R', br', bf', bs', be', D2', D3', so', b0', b1', b2', lw_house fr1 ho frR hI', hR', hB', rfl, rfl⟩, hout2, lw_after fr1 ho frR hoD (Or.inl rfl), hsc1⟩ l1 l2 (Or.inr ⟨_, rfl, rfl⟩) (Or.inl ⟨Or.inr ⟨_, rfl, rfl⟩, j8⟩)
set_option maxHeartbeats 1000000 in
set_option maxRecDepth 100000 in
theorem w_commonBound {X : Cx} {d : Nat} {post : Option Value → AH → Prop} {px : String → AH → Prop} {h : AH} {k sl sc x mo out oD i0 n : Nat} {u6 u7 u8 : Slot} {f : Nat → Int} {th pc ps : Nat} {g : Nat → Int64} {G : Nat → UInt64} (hW : WOK (cxL X) (cxD X) (cxS X)) (hX : Ok X yL_law.cls cL_law 9 (some .boolean) yL_law.name (d + 20) post px) (hS : LST (cxS X) h sc n f x mo out oD th g G pc ps) (hf : ∀ j, inR (f j)) (hn : n ≤ 2560) (hb : i0 + 4 < n) (j6 : oc1 u6) (j7 : jk7 u7 u8) (K : LwK X k sl sc n f x mo out oD i0 pc ps) : WA X h (k + 65 + pc) (sl + 7400 + ps) 2377 (lwL sc x mo out oD ((i0 : Nat) : Int) u6 u7 u8) [] := by
  obtain ⟨⟨w, c, m, E, R, br, bf, bs, be, D2, D3, so, b0, b1, b2, hI, hR, hB, rfl, rfl⟩, ho, hoD, hsc⟩ := hS
  obtain ⟨fs, hobj⟩ := hI.obj
  have hM := hI.mtr.2.2.2.2.2.2
  refine WA.room (k2 := (k + 25 + pC so D2) + 4) (sl2 := (sl + 3200 + pS so D2) + 24) (by omega) (by omega) ?_
  refine wa_aload_n hX (i := 1) dL_law_2377 rfl rfl ?_
  refine lw_arg hX (j := 1) rfl hsc (by omega) hn dL_law_2378 dL_law_2379 dL_law_2381 dL_law_2382 dL_law_2383 ?_
  refine lw_arg hX (j := 2) rfl hsc (by omega) hn dL_law_2384 dL_law_2385 dL_law_2387 dL_law_2388 dL_law_2389 ?_
  refine wa_aload_n hX (i := 3) dL_law_2390 rfl rfl ?_
  refine wa_callSH hX (c_L_commonBound hW _ (P1 := PC_commonBound h x w c m E R br bf bs be D2 D3 so (f (i0 + 1)) (f (i0 + 2))) (PX := XC_commonBound h x w c m E R br bf bs be D2 D3 so (f (i0 + 1)) (f (i0 + 2))) hobj (c_X10_commonBound hW 0 hI (hf (i0 + 1)) (hf (i0 + 2))) (fun r9 h9 q => ⟨vP_commonBound q, fP_commonBound q _ _ _ ho HF200⟩) (fun e9 h9 q => eX_commonBound q)) (by rfl) (by omega) (nA := 4) (by rfl) (by decide +kernel) rfl (by exact Nat.le_of_ble_eq_true rfl) dL_law_2391 (fun r1 hh p1 => ?_)
  obtain ⟨kk, h1, g1, rfl, rfl, fr1, hc⟩ := wr2 (P1 := PC_commonBound h x w c m E R br bf bs be D2 D3 so (f (i0 + 1)) (f (i0 + 2))) (PX := XC_commonBound h x w c m E R br bf bs be D2 D3 so (f (i0 + 1)) (f (i0 + 2))) ho (fun r9 h9 q => fP_commonBound q) (fun e9 h9 q => fX_commonBound q) p1
  dsimp only [Option.toList, List.cons_append, List.nil_append]
  refine lw_i6 hX dL_law_2394 j6 ?_
  obtain ⟨hR1, hsc1⟩ := lw_mid (g1 := g1) fr1 ho hR hsc
  obtain ⟨row, brk, al, wk, us, kp, pt, hmo⟩ := hR1.obj
  refine WA.room (k2 := (k + pC so D2) + 0) (sl2 := (sl + pS so D2) + 0) (by omega) (by omega) ?_
  refine wa_aload_n hX (i := 2) dL_law_2396 rfl rfl ?_
  refine lw_arg hX (j := 1) rfl hsc1 (by omega) hn dL_law_2397 dL_law_2398 dL_law_2400 dL_law_2401 dL_law_2402 ?_
  refine lw_arg hX (j := 2) rfl hsc1 (by omega) hn dL_law_2403 dL_law_2404 dL_law_2406 dL_law_2407 dL_law_2408 ?_
  refine wa_callV hX (c_X12_commonBound hW 0 hR1 (hf (i0 + 1)) (hf (i0 + 2)) (mN_commonB hM)) hmo (by rfl) (by rfl) (by omega) (nA := 2) (by rfl) (by decide +kernel) rfl (by exact Nat.le_of_ble_eq_true rfl) dL_law_2409 (fun r2 h2 p2 => ?_) (fun _ _ q => q.elim)
  have p3 : PR_commonBound (cxS X) (hset h1 out (200, aL 1 g1)) mo w c m E R b0 b1 b2 (f (i0 + 1)) (f (i0 + 2)) r2 h2 := p2
  have frR := fR_commonBound p3
  obtain ⟨z2, rfl, hz, hk4, w', c', m', E', R', br', bf', bs', be', D2', D3', so', b0', b1', b2', hI', hR', hB', l1, l2⟩ := op_commonBound hI hB hc p3
  dsimp only [Option.toList, List.cons_append, List.nil_append]
  refine lw_i7 hX dL_law_2412 j7 (fun v8 j8 => ?_)
  have hout2 := lw_outs frR
  obtain ⟨row2, brk2, al2, wk2, us2, kp2, pt2, hmo2⟩ := hR'.obj
  refine tail_i hW hX (by omega) hk4 ⟨_, _, _, _, _, _, _, _, hmo2⟩ hout2 hz (by decide) dL_law_2414 dL_law_2415 dL_law_2418 dL_law_2420 dL_law_2425 dL_law_2427 dL_law_2430 dL_law_2431 dL_law_2432 dL_law_2433 dL_law_2435 dL_law_2436 dL_law_2437 dL_law_2442 ?_
  refine WA.room (k2 := k + pC so' D2') (sl2 := sl + pS so' D2') (by omega) (by omega) ?_
  exact K h2 kk g1 G _ _ _ _ _ ⟨⟨w', c', m', E', R', br', bf', bs', be', D2', D3', so', b0', b1', b2', lw_house fr1 ho frR hI', hR', hB', rfl, rfl⟩, hout2, lw_after fr1 ho frR hoD (Or.inl rfl), hsc1⟩ l1 l2 (Or.inr ⟨_, rfl, rfl⟩) (Or.inl ⟨Or.inr ⟨_, rfl, rfl⟩, j8⟩)
set_option maxHeartbeats 1000000 in
set_option maxRecDepth 100000 in
theorem w_cover {X : Cx} {d : Nat} {post : Option Value → AH → Prop} {px : String → AH → Prop} {h : AH} {k sl sc x mo out oD i0 n : Nat} {u6 u7 u8 : Slot} {f : Nat → Int} {th pc ps : Nat} {g : Nat → Int64} {G : Nat → UInt64} (hW : WOK (cxL X) (cxD X) (cxS X)) (hX : Ok X yL_law.cls cL_law 9 (some .boolean) yL_law.name (d + 20) post px) (hS : LST (cxS X) h sc n f x mo out oD th g G pc ps) (hf : ∀ j, inR (f j)) (hn : n ≤ 2560) (hb : i0 + 4 < n) (j6 : oc1 u6) (j7 : jk7 u7 u8) (K : LwK X k sl sc n f x mo out oD i0 pc ps) : WA X h (k + 65 + pc) (sl + 7400 + ps) 2445 (lwL sc x mo out oD ((i0 : Nat) : Int) u6 u7 u8) [] := by
  obtain ⟨⟨w, c, m, E, R, br, bf, bs, be, D2, D3, so, b0, b1, b2, hI, hR, hB, rfl, rfl⟩, ho, hoD, hsc⟩ := hS
  obtain ⟨fs, hobj⟩ := hI.obj
  have hM := hI.mtr.2.2.2.2.2.2
  refine WA.room (k2 := (k + 25 + pC so D2) + 4) (sl2 := (sl + 3200 + pS so D2) + 24) (by omega) (by omega) ?_
  refine wa_aload_n hX (i := 1) dL_law_2445 rfl rfl ?_
  refine lw_arg hX (j := 1) rfl hsc (by omega) hn dL_law_2446 dL_law_2447 dL_law_2449 dL_law_2450 dL_law_2451 ?_
  refine wa_aload_n hX (i := 3) dL_law_2452 rfl rfl ?_
  refine wa_callSH hX (c_L_cover hW _ (P1 := PC_cover h x w c m E R br bf bs be D2 D3 so (f (i0 + 1))) (PX := XC_cover h x w c m E R br bf bs be D2 D3 so (f (i0 + 1))) hobj (c_X10_cover hW 0 hI (hf (i0 + 1))) (fun r9 h9 q => ⟨vP_cover q, fP_cover q _ _ _ ho HF200⟩) (fun e9 h9 q => eX_cover q)) (by rfl) (by omega) (nA := 3) (by rfl) (by decide +kernel) rfl (by exact Nat.le_of_ble_eq_true rfl) dL_law_2453 (fun r1 hh p1 => ?_)
  obtain ⟨kk, h1, g1, rfl, rfl, fr1, hc⟩ := wr2 (P1 := PC_cover h x w c m E R br bf bs be D2 D3 so (f (i0 + 1))) (PX := XC_cover h x w c m E R br bf bs be D2 D3 so (f (i0 + 1))) ho (fun r9 h9 q => fP_cover q) (fun e9 h9 q => fX_cover q) p1
  dsimp only [Option.toList, List.cons_append, List.nil_append]
  refine lw_i6 hX dL_law_2456 j6 ?_
  obtain ⟨hR1, hsc1⟩ := lw_mid (g1 := g1) fr1 ho hR hsc
  obtain ⟨row, brk, al, wk, us, kp, pt, hmo⟩ := hR1.obj
  refine WA.room (k2 := (k + pC so D2) + 0) (sl2 := (sl + pS so D2) + 0) (by omega) (by omega) ?_
  refine wa_aload_n hX (i := 2) dL_law_2458 rfl rfl ?_
  refine lw_arg hX (j := 1) rfl hsc1 (by omega) hn dL_law_2459 dL_law_2460 dL_law_2462 dL_law_2463 dL_law_2464 ?_
  refine wa_callV hX (c_X12_cover hW 0 hR1 (hf (i0 + 1)) ) hmo (by rfl) (by rfl) (by omega) (nA := 1) (by rfl) (by decide +kernel) rfl (by exact Nat.le_of_ble_eq_true rfl) dL_law_2465 (fun r2 h2 p2 => ?_) (fun _ _ q => q.elim)
  have p3 : PR_cover (cxS X) (hset h1 out (200, aL 1 g1)) mo w c m E R b0 b1 b2 (f (i0 + 1)) r2 h2 := p2
  have frR := fR_cover p3
  obtain ⟨z2, rfl, hz, hk4, w', c', m', E', R', br', bf', bs', be', D2', D3', so', b0', b1', b2', hI', hR', hB', l1, l2⟩ := op_cover hI hB hc p3
  dsimp only [Option.toList, List.cons_append, List.nil_append]
  refine lw_i7 hX dL_law_2468 j7 (fun v8 j8 => ?_)
  have hout2 := lw_outs frR
  obtain ⟨row2, brk2, al2, wk2, us2, kp2, pt2, hmo2⟩ := hR'.obj
  refine tail_i hW hX (by omega) hk4 ⟨_, _, _, _, _, _, _, _, hmo2⟩ hout2 hz (by decide) dL_law_2470 dL_law_2471 dL_law_2474 dL_law_2476 dL_law_2481 dL_law_2483 dL_law_2486 dL_law_2487 dL_law_2488 dL_law_2489 dL_law_2491 dL_law_2492 dL_law_2493 dL_law_2498 ?_
  refine WA.room (k2 := k + pC so' D2') (sl2 := sl + pS so' D2') (by omega) (by omega) ?_
  exact K h2 kk g1 G _ _ _ _ _ ⟨⟨w', c', m', E', R', br', bf', bs', be', D2', D3', so', b0', b1', b2', lw_house fr1 ho frR hI', hR', hB', rfl, rfl⟩, hout2, lw_after fr1 ho frR hoD (Or.inl rfl), hsc1⟩ l1 l2 (Or.inr ⟨_, rfl, rfl⟩) (Or.inl ⟨Or.inr ⟨_, rfl, rfl⟩, j8⟩)
set_option maxHeartbeats 1000000 in
set_option maxRecDepth 100000 in
theorem w_coverBound {X : Cx} {d : Nat} {post : Option Value → AH → Prop} {px : String → AH → Prop} {h : AH} {k sl sc x mo out oD i0 n : Nat} {u6 u7 u8 : Slot} {f : Nat → Int} {th pc ps : Nat} {g : Nat → Int64} {G : Nat → UInt64} (hW : WOK (cxL X) (cxD X) (cxS X)) (hX : Ok X yL_law.cls cL_law 9 (some .boolean) yL_law.name (d + 20) post px) (hS : LST (cxS X) h sc n f x mo out oD th g G pc ps) (hf : ∀ j, inR (f j)) (hn : n ≤ 2560) (hb : i0 + 4 < n) (j6 : oc1 u6) (j7 : jk7 u7 u8) (K : LwK X k sl sc n f x mo out oD i0 pc ps) : WA X h (k + 65 + pc) (sl + 7400 + ps) 2501 (lwL sc x mo out oD ((i0 : Nat) : Int) u6 u7 u8) [] := by
  obtain ⟨⟨w, c, m, E, R, br, bf, bs, be, D2, D3, so, b0, b1, b2, hI, hR, hB, rfl, rfl⟩, ho, hoD, hsc⟩ := hS
  obtain ⟨fs, hobj⟩ := hI.obj
  have hM := hI.mtr.2.2.2.2.2.2
  refine WA.room (k2 := (k + 25 + pC so D2) + 4) (sl2 := (sl + 3200 + pS so D2) + 24) (by omega) (by omega) ?_
  refine wa_aload_n hX (i := 1) dL_law_2501 rfl rfl ?_
  refine lw_arg hX (j := 1) rfl hsc (by omega) hn dL_law_2502 dL_law_2503 dL_law_2505 dL_law_2506 dL_law_2507 ?_
  refine wa_aload_n hX (i := 3) dL_law_2508 rfl rfl ?_
  refine wa_callSH hX (c_L_coverBound hW _ (P1 := PC_coverBound h x w c m E R br bf bs be D2 D3 so (f (i0 + 1))) (PX := XC_coverBound h x w c m E R br bf bs be D2 D3 so (f (i0 + 1))) hobj (c_X10_coverBound hW 0 hI (hf (i0 + 1))) (fun r9 h9 q => ⟨vP_coverBound q, fP_coverBound q _ _ _ ho HF200⟩) (fun e9 h9 q => eX_coverBound q)) (by rfl) (by omega) (nA := 3) (by rfl) (by decide +kernel) rfl (by exact Nat.le_of_ble_eq_true rfl) dL_law_2509 (fun r1 hh p1 => ?_)
  obtain ⟨kk, h1, g1, rfl, rfl, fr1, hc⟩ := wr3 (P1 := PC_coverBound h x w c m E R br bf bs be D2 D3 so (f (i0 + 1))) (PX := XC_coverBound h x w c m E R br bf bs be D2 D3 so (f (i0 + 1))) ho (fun r9 h9 q => fP_coverBound q) (fun e9 h9 q => fX_coverBound q) p1
  dsimp only [Option.toList, List.cons_append, List.nil_append]
  refine lw_i6 hX dL_law_2512 j6 ?_
  obtain ⟨hR1, hsc1⟩ := lw_mid (g1 := g1) fr1 ho hR hsc
  obtain ⟨row, brk, al, wk, us, kp, pt, hmo⟩ := hR1.obj
  refine WA.room (k2 := (k + pC so D2) + 0) (sl2 := (sl + pS so D2) + 0) (by omega) (by omega) ?_
  refine wa_aload_n hX (i := 2) dL_law_2514 rfl rfl ?_
  refine lw_arg hX (j := 1) rfl hsc1 (by omega) hn dL_law_2515 dL_law_2516 dL_law_2518 dL_law_2519 dL_law_2520 ?_
  refine wa_callV hX (c_X12_coverBound hW 0 hR1 (hf (i0 + 1)) ) hmo (by rfl) (by rfl) (by omega) (nA := 1) (by rfl) (by decide +kernel) rfl (by exact Nat.le_of_ble_eq_true rfl) dL_law_2521 (fun r2 h2 p2 => ?_) (fun _ _ q => q.elim)
  have p3 : PR_coverBound (cxS X) (hset h1 out (200, aL 1 g1)) mo w c m E R b0 b1 b2 (f (i0 + 1)) r2 h2 := p2
  have frR := fR_coverBound p3
  obtain ⟨z2, rfl, hz, hk4, w', c', m', E', R', br', bf', bs', be', D2', D3', so', b0', b1', b2', hI', hR', hB', l1, l2⟩ := op_coverBound hI hB hc p3
  dsimp only [Option.toList, List.cons_append, List.nil_append]
  refine lw_i7 hX dL_law_2524 j7 (fun v8 j8 => ?_)
  have hout2 := lw_outs frR
  obtain ⟨row2, brk2, al2, wk2, us2, kp2, pt2, hmo2⟩ := hR'.obj
  refine tail_i hW hX (by omega) hk4 ⟨_, _, _, _, _, _, _, _, hmo2⟩ hout2 hz (by decide) dL_law_2526 dL_law_2527 dL_law_2530 dL_law_2532 dL_law_2537 dL_law_2539 dL_law_2542 dL_law_2543 dL_law_2544 dL_law_2545 dL_law_2547 dL_law_2548 dL_law_2549 dL_law_2554 ?_
  refine WA.room (k2 := k + pC so' D2') (sl2 := sl + pS so' D2') (by omega) (by omega) ?_
  exact K h2 kk g1 G _ _ _ _ _ ⟨⟨w', c', m', E', R', br', bf', bs', be', D2', D3', so', b0', b1', b2', lw_house fr1 ho frR hI', hR', hB', rfl, rfl⟩, hout2, lw_after fr1 ho frR hoD (Or.inl rfl), hsc1⟩ l1 l2 (Or.inr ⟨_, rfl, rfl⟩) (Or.inl ⟨Or.inr ⟨_, rfl, rfl⟩, j8⟩)
set_option maxHeartbeats 1000000 in
set_option maxRecDepth 100000 in
theorem w_packing {X : Cx} {d : Nat} {post : Option Value → AH → Prop} {px : String → AH → Prop} {h : AH} {k sl sc x mo out oD i0 n : Nat} {u6 u7 u8 : Slot} {f : Nat → Int} {th pc ps : Nat} {g : Nat → Int64} {G : Nat → UInt64} (hW : WOK (cxL X) (cxD X) (cxS X)) (hX : Ok X yL_law.cls cL_law 9 (some .boolean) yL_law.name (d + 20) post px) (hS : LST (cxS X) h sc n f x mo out oD th g G pc ps) (hf : ∀ j, inR (f j)) (hn : n ≤ 2560) (hb : i0 + 4 < n) (j6 : oc1 u6) (j7 : jk7 u7 u8) (K : LwK X k sl sc n f x mo out oD i0 pc ps) : WA X h (k + 65 + pc) (sl + 7400 + ps) 2557 (lwL sc x mo out oD ((i0 : Nat) : Int) u6 u7 u8) [] := by
  obtain ⟨⟨w, c, m, E, R, br, bf, bs, be, D2, D3, so, b0, b1, b2, hI, hR, hB, rfl, rfl⟩, ho, hoD, hsc⟩ := hS
  obtain ⟨fs, hobj⟩ := hI.obj
  have hM := hI.mtr.2.2.2.2.2.2
  refine WA.room (k2 := (k + 25 + pC so D2) + 4) (sl2 := (sl + 3200 + pS so D2) + 24) (by omega) (by omega) ?_
  refine wa_aload_n hX (i := 1) dL_law_2557 rfl rfl ?_
  refine lw_arg hX (j := 1) rfl hsc (by omega) hn dL_law_2558 dL_law_2559 dL_law_2561 dL_law_2562 dL_law_2563 ?_
  refine wa_aload_n hX (i := 3) dL_law_2564 rfl rfl ?_
  refine wa_callSH hX (c_L_packing hW _ (P1 := PC_packing h x w c m E R br bf bs be D2 D3 so (f (i0 + 1))) (PX := XC_packing h x w c m E R br bf bs be D2 D3 so (f (i0 + 1))) hobj (c_X10_packing hW 0 hI (hf (i0 + 1))) (fun r9 h9 q => ⟨vP_packing q, fP_packing q _ _ _ ho HF200⟩) (fun e9 h9 q => eX_packing q)) (by rfl) (by omega) (nA := 3) (by rfl) (by decide +kernel) rfl (by exact Nat.le_of_ble_eq_true rfl) dL_law_2565 (fun r1 hh p1 => ?_)
  obtain ⟨kk, h1, g1, rfl, rfl, fr1, hc⟩ := wr2 (P1 := PC_packing h x w c m E R br bf bs be D2 D3 so (f (i0 + 1))) (PX := XC_packing h x w c m E R br bf bs be D2 D3 so (f (i0 + 1))) ho (fun r9 h9 q => fP_packing q) (fun e9 h9 q => fX_packing q) p1
  dsimp only [Option.toList, List.cons_append, List.nil_append]
  refine lw_i6 hX dL_law_2568 j6 ?_
  obtain ⟨hR1, hsc1⟩ := lw_mid (g1 := g1) fr1 ho hR hsc
  obtain ⟨row, brk, al, wk, us, kp, pt, hmo⟩ := hR1.obj
  refine WA.room (k2 := (k + pC so D2) + 0) (sl2 := (sl + pS so D2) + 0) (by omega) (by omega) ?_
  refine wa_aload_n hX (i := 2) dL_law_2570 rfl rfl ?_
  refine lw_arg hX (j := 1) rfl hsc1 (by omega) hn dL_law_2571 dL_law_2572 dL_law_2574 dL_law_2575 dL_law_2576 ?_
  refine wa_callV hX (c_X12_packing hW 0 hR1 (hf (i0 + 1)) ) hmo (by rfl) (by rfl) (by omega) (nA := 1) (by rfl) (by decide +kernel) rfl (by exact Nat.le_of_ble_eq_true rfl) dL_law_2577 (fun r2 h2 p2 => ?_) (fun _ _ q => q.elim)
  have p3 : PR_packing (cxS X) (hset h1 out (200, aL 1 g1)) mo w c m E R b0 b1 b2 (f (i0 + 1)) r2 h2 := p2
  have frR := fR_packing p3
  obtain ⟨z2, rfl, hz, hk4, w', c', m', E', R', br', bf', bs', be', D2', D3', so', b0', b1', b2', hI', hR', hB', l1, l2⟩ := op_packing hI hB hc p3
  dsimp only [Option.toList, List.cons_append, List.nil_append]
  refine lw_i7 hX dL_law_2580 j7 (fun v8 j8 => ?_)
  have hout2 := lw_outs frR
  obtain ⟨row2, brk2, al2, wk2, us2, kp2, pt2, hmo2⟩ := hR'.obj
  refine tail_i hW hX (by omega) hk4 ⟨_, _, _, _, _, _, _, _, hmo2⟩ hout2 hz (by decide) dL_law_2582 dL_law_2583 dL_law_2586 dL_law_2588 dL_law_2593 dL_law_2595 dL_law_2598 dL_law_2599 dL_law_2600 dL_law_2601 dL_law_2603 dL_law_2604 dL_law_2605 dL_law_2610 ?_
  refine WA.room (k2 := k + pC so' D2') (sl2 := sl + pS so' D2') (by omega) (by omega) ?_
  exact K h2 kk g1 G _ _ _ _ _ ⟨⟨w', c', m', E', R', br', bf', bs', be', D2', D3', so', b0', b1', b2', lw_house fr1 ho frR hI', hR', hB', rfl, rfl⟩, hout2, lw_after fr1 ho frR hoD (Or.inl rfl), hsc1⟩ l1 l2 (Or.inr ⟨_, rfl, rfl⟩) (Or.inl ⟨Or.inr ⟨_, rfl, rfl⟩, j8⟩)
set_option maxHeartbeats 1000000 in
set_option maxRecDepth 100000 in
theorem w_packingBound {X : Cx} {d : Nat} {post : Option Value → AH → Prop} {px : String → AH → Prop} {h : AH} {k sl sc x mo out oD i0 n : Nat} {u6 u7 u8 : Slot} {f : Nat → Int} {th pc ps : Nat} {g : Nat → Int64} {G : Nat → UInt64} (hW : WOK (cxL X) (cxD X) (cxS X)) (hX : Ok X yL_law.cls cL_law 9 (some .boolean) yL_law.name (d + 20) post px) (hS : LST (cxS X) h sc n f x mo out oD th g G pc ps) (hf : ∀ j, inR (f j)) (hn : n ≤ 2560) (hb : i0 + 4 < n) (j6 : oc1 u6) (j7 : jk7 u7 u8) (K : LwK X k sl sc n f x mo out oD i0 pc ps) : WA X h (k + 65 + pc) (sl + 7400 + ps) 2613 (lwL sc x mo out oD ((i0 : Nat) : Int) u6 u7 u8) [] := by
  obtain ⟨⟨w, c, m, E, R, br, bf, bs, be, D2, D3, so, b0, b1, b2, hI, hR, hB, rfl, rfl⟩, ho, hoD, hsc⟩ := hS
  obtain ⟨fs, hobj⟩ := hI.obj
  have hM := hI.mtr.2.2.2.2.2.2
  refine WA.room (k2 := (k + 25 + pC so D2) + 4) (sl2 := (sl + 3200 + pS so D2) + 24) (by omega) (by omega) ?_
  refine wa_aload_n hX (i := 1) dL_law_2613 rfl rfl ?_
  refine lw_arg hX (j := 1) rfl hsc (by omega) hn dL_law_2614 dL_law_2615 dL_law_2617 dL_law_2618 dL_law_2619 ?_
  refine wa_aload_n hX (i := 3) dL_law_2620 rfl rfl ?_
  refine wa_callSH hX (c_L_packingBound hW _ (P1 := PC_packingBound h x w c m E R br bf bs be D2 D3 so (f (i0 + 1))) (PX := XC_packingBound h x w c m E R br bf bs be D2 D3 so (f (i0 + 1))) hobj (c_X10_packingBound hW 0 hI (hf (i0 + 1))) (fun r9 h9 q => ⟨vP_packingBound q, fP_packingBound q _ _ _ ho HF200⟩) (fun e9 h9 q => eX_packingBound q)) (by rfl) (by omega) (nA := 3) (by rfl) (by decide +kernel) rfl (by exact Nat.le_of_ble_eq_true rfl) dL_law_2621 (fun r1 hh p1 => ?_)
  obtain ⟨kk, h1, g1, rfl, rfl, fr1, hc⟩ := wr2 (P1 := PC_packingBound h x w c m E R br bf bs be D2 D3 so (f (i0 + 1))) (PX := XC_packingBound h x w c m E R br bf bs be D2 D3 so (f (i0 + 1))) ho (fun r9 h9 q => fP_packingBound q) (fun e9 h9 q => fX_packingBound q) p1
  dsimp only [Option.toList, List.cons_append, List.nil_append]
  refine lw_i6 hX dL_law_2624 j6 ?_
  obtain ⟨hR1, hsc1⟩ := lw_mid (g1 := g1) fr1 ho hR hsc
  obtain ⟨row, brk, al, wk, us, kp, pt, hmo⟩ := hR1.obj
  refine WA.room (k2 := (k + pC so D2) + 0) (sl2 := (sl + pS so D2) + 0) (by omega) (by omega) ?_
  refine wa_aload_n hX (i := 2) dL_law_2626 rfl rfl ?_
  refine lw_arg hX (j := 1) rfl hsc1 (by omega) hn dL_law_2627 dL_law_2628 dL_law_2630 dL_law_2631 dL_law_2632 ?_
  refine wa_callV hX (c_X12_packingBound hW 0 hR1 (hf (i0 + 1)) ) hmo (by rfl) (by rfl) (by omega) (nA := 1) (by rfl) (by decide +kernel) rfl (by exact Nat.le_of_ble_eq_true rfl) dL_law_2633 (fun r2 h2 p2 => ?_) (fun _ _ q => q.elim)
  have p3 : PR_packingBound (cxS X) (hset h1 out (200, aL 1 g1)) mo w c m E R b0 b1 b2 (f (i0 + 1)) r2 h2 := p2
  have frR := fR_packingBound p3
  obtain ⟨z2, rfl, hz, hk4, w', c', m', E', R', br', bf', bs', be', D2', D3', so', b0', b1', b2', hI', hR', hB', l1, l2⟩ := op_packingBound hI hB hc p3
  dsimp only [Option.toList, List.cons_append, List.nil_append]
  refine lw_i7 hX dL_law_2636 j7 (fun v8 j8 => ?_)
  have hout2 := lw_outs frR
  obtain ⟨row2, brk2, al2, wk2, us2, kp2, pt2, hmo2⟩ := hR'.obj
  refine tail_i hW hX (by omega) hk4 ⟨_, _, _, _, _, _, _, _, hmo2⟩ hout2 hz (by decide) dL_law_2638 dL_law_2639 dL_law_2642 dL_law_2644 dL_law_2649 dL_law_2651 dL_law_2654 dL_law_2655 dL_law_2656 dL_law_2657 dL_law_2659 dL_law_2660 dL_law_2661 dL_law_2666 ?_
  refine WA.room (k2 := k + pC so' D2') (sl2 := sl + pS so' D2') (by omega) (by omega) ?_
  exact K h2 kk g1 G _ _ _ _ _ ⟨⟨w', c', m', E', R', br', bf', bs', be', D2', D3', so', b0', b1', b2', lw_house fr1 ho frR hI', hR', hB', rfl, rfl⟩, hout2, lw_after fr1 ho frR hoD (Or.inl rfl), hsc1⟩ l1 l2 (Or.inr ⟨_, rfl, rfl⟩) (Or.inl ⟨Or.inr ⟨_, rfl, rfl⟩, j8⟩)
set_option maxHeartbeats 1000000 in
set_option maxRecDepth 100000 in
theorem w_coefficient {X : Cx} {d : Nat} {post : Option Value → AH → Prop} {px : String → AH → Prop} {h : AH} {k sl sc x mo out oD i0 n : Nat} {u6 u7 u8 : Slot} {f : Nat → Int} {th pc ps : Nat} {g : Nat → Int64} {G : Nat → UInt64} (hW : WOK (cxL X) (cxD X) (cxS X)) (hX : Ok X yL_law.cls cL_law 9 (some .boolean) yL_law.name (d + 20) post px) (hS : LST (cxS X) h sc n f x mo out oD th g G pc ps) (hf : ∀ j, inR (f j)) (hn : n ≤ 2560) (hb : i0 + 4 < n) (j6 : oc1 u6) (j7 : jk7 u7 u8) (K : LwK X k sl sc n f x mo out oD i0 pc ps) : WA X h (k + 65 + pc) (sl + 7400 + ps) 2669 (lwL sc x mo out oD ((i0 : Nat) : Int) u6 u7 u8) [] := by
  obtain ⟨⟨w, c, m, E, R, br, bf, bs, be, D2, D3, so, b0, b1, b2, hI, hR, hB, rfl, rfl⟩, ho, hoD, hsc⟩ := hS
  obtain ⟨fs, hobj⟩ := hI.obj
  have hM := hI.mtr.2.2.2.2.2.2
  refine WA.room (k2 := (k + 25 + pC so D2) + 4) (sl2 := (sl + 3200 + pS so D2) + 24) (by omega) (by omega) ?_
  refine wa_aload_n hX (i := 1) dL_law_2669 rfl rfl ?_
  refine lw_arg hX (j := 1) rfl hsc (by omega) hn dL_law_2670 dL_law_2671 dL_law_2673 dL_law_2674 dL_law_2675 ?_
  refine lw_arg hX (j := 2) rfl hsc (by omega) hn dL_law_2676 dL_law_2677 dL_law_2679 dL_law_2680 dL_law_2681 ?_
  refine lw_arg hX (j := 3) rfl hsc (by omega) hn dL_law_2682 dL_law_2683 dL_law_2685 dL_law_2686 dL_law_2687 ?_
  refine wa_aload_n hX (i := 3) dL_law_2688 rfl rfl ?_
  refine wa_callSH hX (c_L_coefficient hW _ (P1 := PC_coefficient h x w c m E R br bf bs be D2 D3 so (f (i0 + 1)) (f (i0 + 2)) (f (i0 + 3))) (PX := XC_coefficient h x w c m E R br bf bs be D2 D3 so (f (i0 + 1)) (f (i0 + 2)) (f (i0 + 3))) hobj (c_X10_coefficient hW 0 hI (hf (i0 + 1)) (hf (i0 + 2)) (hf (i0 + 3))) (fun r9 h9 q => ⟨vP_coefficient q, fP_coefficient q _ _ _ ho HF200⟩) (fun e9 h9 q => eX_coefficient q)) (by rfl) (by omega) (nA := 5) (by rfl) (by decide +kernel) rfl (by exact Nat.le_of_ble_eq_true rfl) dL_law_2689 (fun r1 hh p1 => ?_)
  obtain ⟨kk, h1, g1, rfl, rfl, fr1, hc⟩ := wr2 (P1 := PC_coefficient h x w c m E R br bf bs be D2 D3 so (f (i0 + 1)) (f (i0 + 2)) (f (i0 + 3))) (PX := XC_coefficient h x w c m E R br bf bs be D2 D3 so (f (i0 + 1)) (f (i0 + 2)) (f (i0 + 3))) ho (fun r9 h9 q => fP_coefficient q) (fun e9 h9 q => fX_coefficient q) p1
  dsimp only [Option.toList, List.cons_append, List.nil_append]
  refine lw_i6 hX dL_law_2692 j6 ?_
  obtain ⟨hR1, hsc1⟩ := lw_mid (g1 := g1) fr1 ho hR hsc
  obtain ⟨row, brk, al, wk, us, kp, pt, hmo⟩ := hR1.obj
  refine WA.room (k2 := (k + pC so D2) + 0) (sl2 := (sl + pS so D2) + 0) (by omega) (by omega) ?_
  refine wa_aload_n hX (i := 2) dL_law_2694 rfl rfl ?_
  refine lw_arg hX (j := 1) rfl hsc1 (by omega) hn dL_law_2695 dL_law_2696 dL_law_2698 dL_law_2699 dL_law_2700 ?_
  refine lw_arg hX (j := 2) rfl hsc1 (by omega) hn dL_law_2701 dL_law_2702 dL_law_2704 dL_law_2705 dL_law_2706 ?_
  refine lw_arg hX (j := 3) rfl hsc1 (by omega) hn dL_law_2707 dL_law_2708 dL_law_2710 dL_law_2711 dL_law_2712 ?_
  refine wa_callV hX (c_X12_coefficient hW 0 hR1 (hf (i0 + 1)) (hf (i0 + 2)) (hf (i0 + 3)) ) hmo (by rfl) (by rfl) (by omega) (nA := 3) (by rfl) (by decide +kernel) rfl (by exact Nat.le_of_ble_eq_true rfl) dL_law_2713 (fun r2 h2 p2 => ?_) (fun _ _ q => q.elim)
  have p3 : PR_coefficient (cxS X) (hset h1 out (200, aL 1 g1)) mo w c m E R b0 b1 b2 (f (i0 + 1)) (f (i0 + 2)) (f (i0 + 3)) r2 h2 := p2
  have frR := fR_coefficient p3
  obtain ⟨z2, rfl, hz, hk4, w', c', m', E', R', br', bf', bs', be', D2', D3', so', b0', b1', b2', hI', hR', hB', l1, l2⟩ := op_coefficient hI hB hc p3
  dsimp only [Option.toList, List.cons_append, List.nil_append]
  refine lw_i7 hX dL_law_2716 j7 (fun v8 j8 => ?_)
  have hout2 := lw_outs frR
  obtain ⟨row2, brk2, al2, wk2, us2, kp2, pt2, hmo2⟩ := hR'.obj
  refine tail_i hW hX (by omega) hk4 ⟨_, _, _, _, _, _, _, _, hmo2⟩ hout2 hz (by decide) dL_law_2718 dL_law_2719 dL_law_2722 dL_law_2724 dL_law_2729 dL_law_2731 dL_law_2734 dL_law_2735 dL_law_2736 dL_law_2737 dL_law_2739 dL_law_2740 dL_law_2741 dL_law_2746 ?_
  refine WA.room (k2 := k + pC so' D2') (sl2 := sl + pS so' D2') (by omega) (by omega) ?_
  exact K h2 kk g1 G _ _ _ _ _ ⟨⟨w', c', m', E', R', br', bf', bs', be', D2', D3', so', b0', b1', b2', lw_house fr1 ho frR hI', hR', hB', rfl, rfl⟩, hout2, lw_after fr1 ho frR hoD (Or.inl rfl), hsc1⟩ l1 l2 (Or.inr ⟨_, rfl, rfl⟩) (Or.inl ⟨Or.inr ⟨_, rfl, rfl⟩, j8⟩)
set_option maxHeartbeats 1000000 in
set_option maxRecDepth 100000 in
theorem w_value {X : Cx} {d : Nat} {post : Option Value → AH → Prop} {px : String → AH → Prop} {h : AH} {k sl sc x mo out oD i0 n : Nat} {u6 u7 u8 : Slot} {f : Nat → Int} {th pc ps : Nat} {g : Nat → Int64} {G : Nat → UInt64} (hW : WOK (cxL X) (cxD X) (cxS X)) (hX : Ok X yL_law.cls cL_law 9 (some .boolean) yL_law.name (d + 20) post px) (hS : LST (cxS X) h sc n f x mo out oD th g G pc ps) (hf : ∀ j, inR (f j)) (hn : n ≤ 2560) (hb : i0 + 4 < n) (j6 : oc1 u6) (j7 : jk7 u7 u8) (K : LwK X k sl sc n f x mo out oD i0 pc ps) : WA X h (k + 65 + pc) (sl + 7400 + ps) 2749 (lwL sc x mo out oD ((i0 : Nat) : Int) u6 u7 u8) [] := by
  obtain ⟨⟨w, c, m, E, R, br, bf, bs, be, D2, D3, so, b0, b1, b2, hI, hR, hB, rfl, rfl⟩, ho, hoD, hsc⟩ := hS
  obtain ⟨fs, hobj⟩ := hI.obj
  have hM := hI.mtr.2.2.2.2.2.2
  refine WA.room (k2 := (k + 25 + pC so D2) + 4) (sl2 := (sl + 3200 + pS so D2) + 24) (by omega) (by omega) ?_
  refine wa_aload_n hX (i := 1) dL_law_2749 rfl rfl ?_
  refine lw_arg hX (j := 1) rfl hsc (by omega) hn dL_law_2750 dL_law_2751 dL_law_2753 dL_law_2754 dL_law_2755 ?_
  refine lw_arg hX (j := 2) rfl hsc (by omega) hn dL_law_2756 dL_law_2757 dL_law_2759 dL_law_2760 dL_law_2761 ?_
  refine lw_arg hX (j := 3) rfl hsc (by omega) hn dL_law_2762 dL_law_2763 dL_law_2765 dL_law_2766 dL_law_2767 ?_
  refine wa_aload_n hX (i := 3) dL_law_2768 rfl rfl ?_
  refine wa_callSH hX (c_L_value hW _ (P1 := PC_value h x w c m E R br bf bs be D2 D3 so (f (i0 + 1)) (f (i0 + 2)) (f (i0 + 3))) (PX := XC_value h x w c m E R br bf bs be D2 D3 so (f (i0 + 1)) (f (i0 + 2)) (f (i0 + 3))) hobj (c_X10_value hW 0 hI (hf (i0 + 1)) (hf (i0 + 2)) (hf (i0 + 3))) (fun r9 h9 q => ⟨vP_value q, fP_value q _ _ _ ho HF200⟩) (fun e9 h9 q => eX_value q)) (by rfl) (by omega) (nA := 5) (by rfl) (by decide +kernel) rfl (by exact Nat.le_of_ble_eq_true rfl) dL_law_2769 (fun r1 hh p1 => ?_)
  obtain ⟨kk, h1, g1, rfl, rfl, fr1, hc⟩ := wrL2 (P1 := PC_value h x w c m E R br bf bs be D2 D3 so (f (i0 + 1)) (f (i0 + 2)) (f (i0 + 3))) (PX := XC_value h x w c m E R br bf bs be D2 D3 so (f (i0 + 1)) (f (i0 + 2)) (f (i0 + 3))) ho (fun r9 h9 q => fP_value q) (fun e9 h9 q => fX_value q) p1
  dsimp only [Option.toList, List.cons_append, List.nil_append]
  refine lw_i6 hX dL_law_2772 j6 ?_
  obtain ⟨hR1, hsc1⟩ := lw_mid (g1 := g1) fr1 ho hR hsc
  obtain ⟨row, brk, al, wk, us, kp, pt, hmo⟩ := hR1.obj
  refine WA.room (k2 := (k + pC so D2) + 0) (sl2 := (sl + pS so D2) + 0) (by omega) (by omega) ?_
  refine wa_aload_n hX (i := 2) dL_law_2774 rfl rfl ?_
  refine lw_arg hX (j := 1) rfl hsc1 (by omega) hn dL_law_2775 dL_law_2776 dL_law_2778 dL_law_2779 dL_law_2780 ?_
  refine lw_arg hX (j := 2) rfl hsc1 (by omega) hn dL_law_2781 dL_law_2782 dL_law_2784 dL_law_2785 dL_law_2786 ?_
  refine lw_arg hX (j := 3) rfl hsc1 (by omega) hn dL_law_2787 dL_law_2788 dL_law_2790 dL_law_2791 dL_law_2792 ?_
  refine wa_callV hX (c_X12_value hW 0 hR1 (hf (i0 + 1)) (hf (i0 + 2)) (hf (i0 + 3)) ) hmo (by rfl) (by rfl) (by omega) (nA := 3) (by rfl) (by decide +kernel) rfl (by exact Nat.le_of_ble_eq_true rfl) dL_law_2793 (fun r2 h2 p2 => ?_) (fun _ _ q => q.elim)
  have p3 : PR_value (cxS X) (hset h1 out (200, aL 1 g1)) mo w c m E R b0 b1 b2 (f (i0 + 1)) (f (i0 + 2)) (f (i0 + 3)) r2 h2 := p2
  have frR := fR_value p3
  obtain ⟨z2, rfl, hz, hk4, w', c', m', E', R', br', bf', bs', be', D2', D3', so', b0', b1', b2', hI', hR', hB', l1, l2⟩ := op_value hI hB hc p3
  dsimp only [Option.toList, List.cons_append, List.nil_append]
  refine lw_l7 hX dL_law_2796 j7 ?_
  have hout2 := lw_outs frR
  obtain ⟨row2, brk2, al2, wk2, us2, kp2, pt2, hmo2⟩ := hR'.obj
  refine tail_l hW hX (by omega) hk4 ⟨_, _, _, _, _, _, _, _, hmo2⟩ hout2 hz (by decide) dL_law_2798 dL_law_2799 dL_law_2802 dL_law_2804 dL_law_2809 dL_law_2811 dL_law_2814 dL_law_2815 dL_law_2816 dL_law_2817 dL_law_2819 dL_law_2820 dL_law_2825 ?_
  refine WA.room (k2 := k + pC so' D2') (sl2 := sl + pS so' D2') (by omega) (by omega) ?_
  exact K h2 kk g1 G _ _ _ _ _ ⟨⟨w', c', m', E', R', br', bf', bs', be', D2', D3', so', b0', b1', b2', lw_house fr1 ho frR hI', hR', hB', rfl, rfl⟩, hout2, lw_after fr1 ho frR hoD (Or.inl rfl), hsc1⟩ l1 l2 (Or.inr ⟨_, rfl, rfl⟩) (Or.inr ⟨_, rfl, rfl, rfl⟩)
set_option maxHeartbeats 1000000 in
set_option maxRecDepth 100000 in
theorem w_other {X : Cx} {d : Nat} {post : Option Value → AH → Prop} {px : String → AH → Prop} {h : AH} {k sl sc x mo out oD i0 n : Nat} {u6 u7 u8 : Slot} {f : Nat → Int} {th pc ps : Nat} {g : Nat → Int64} {G : Nat → UInt64} (hW : WOK (cxL X) (cxD X) (cxS X)) (hX : Ok X yL_law.cls cL_law 9 (some .boolean) yL_law.name (d + 20) post px) (hS : LST (cxS X) h sc n f x mo out oD th g G pc ps) (hf : ∀ j, inR (f j)) (hn : n ≤ 2560) (hb : i0 + 4 < n) (j6 : oc1 u6) (j7 : jk7 u7 u8) (K : LwK X k sl sc n f x mo out oD i0 pc ps) : WA X h (k + 65 + pc) (sl + 7400 + ps) 2828 (lwL sc x mo out oD ((i0 : Nat) : Int) u6 u7 u8) [] := by
  obtain ⟨⟨w, c, m, E, R, br, bf, bs, be, D2, D3, so, b0, b1, b2, hI, hR, hB, rfl, rfl⟩, ho, hoD, hsc⟩ := hS
  obtain ⟨fs, hobj⟩ := hI.obj
  have hM := hI.mtr.2.2.2.2.2.2
  refine WA.room (k2 := (k + 25 + pC so D2) + 4) (sl2 := (sl + 3200 + pS so D2) + 24) (by omega) (by omega) ?_
  refine wa_aload_n hX (i := 1) dL_law_2828 rfl rfl ?_
  refine lw_arg hX (j := 1) rfl hsc (by omega) hn dL_law_2829 dL_law_2830 dL_law_2832 dL_law_2833 dL_law_2834 ?_
  refine lw_arg hX (j := 2) rfl hsc (by omega) hn dL_law_2835 dL_law_2836 dL_law_2838 dL_law_2839 dL_law_2840 ?_
  refine wa_aload_n hX (i := 3) dL_law_2841 rfl rfl ?_
  refine wa_callSH hX (c_L_other hW _ (P1 := PC_other h x w c m E R br bf bs be D2 D3 so (f (i0 + 1)) (f (i0 + 2))) (PX := XC_other h x w c m E R br bf bs be D2 D3 so (f (i0 + 1)) (f (i0 + 2))) hobj (c_X10_other hW 0 hI (hf (i0 + 1)) (hf (i0 + 2))) (fun r9 h9 q => ⟨vP_other q, fP_other q _ _ _ ho HF200⟩) (fun e9 h9 q => eX_other q)) (by rfl) (by omega) (nA := 4) (by rfl) (by decide +kernel) rfl (by exact Nat.le_of_ble_eq_true rfl) dL_law_2842 (fun r1 hh p1 => ?_)
  obtain ⟨kk, h1, g1, rfl, rfl, fr1, hc⟩ := wr2 (P1 := PC_other h x w c m E R br bf bs be D2 D3 so (f (i0 + 1)) (f (i0 + 2))) (PX := XC_other h x w c m E R br bf bs be D2 D3 so (f (i0 + 1)) (f (i0 + 2))) ho (fun r9 h9 q => fP_other q) (fun e9 h9 q => fX_other q) p1
  dsimp only [Option.toList, List.cons_append, List.nil_append]
  refine lw_i6 hX dL_law_2845 j6 ?_
  obtain ⟨hR1, hsc1⟩ := lw_mid (g1 := g1) fr1 ho hR hsc
  obtain ⟨row, brk, al, wk, us, kp, pt, hmo⟩ := hR1.obj
  refine WA.room (k2 := (k + pC so D2) + 0) (sl2 := (sl + pS so D2) + 0) (by omega) (by omega) ?_
  refine wa_aload_n hX (i := 2) dL_law_2847 rfl rfl ?_
  refine lw_arg hX (j := 1) rfl hsc1 (by omega) hn dL_law_2848 dL_law_2849 dL_law_2851 dL_law_2852 dL_law_2853 ?_
  refine lw_arg hX (j := 2) rfl hsc1 (by omega) hn dL_law_2854 dL_law_2855 dL_law_2857 dL_law_2858 dL_law_2859 ?_
  refine wa_callV hX (c_X12_other hW 0 hR1 (hf (i0 + 1)) (hf (i0 + 2)) ) hmo (by rfl) (by rfl) (by omega) (nA := 2) (by rfl) (by decide +kernel) rfl (by exact Nat.le_of_ble_eq_true rfl) dL_law_2860 (fun r2 h2 p2 => ?_) (fun _ _ q => q.elim)
  have p3 : PR_other (cxS X) (hset h1 out (200, aL 1 g1)) mo w c m E R b0 b1 b2 (f (i0 + 1)) (f (i0 + 2)) r2 h2 := p2
  have frR := fR_other p3
  obtain ⟨z2, rfl, hz, hk4, w', c', m', E', R', br', bf', bs', be', D2', D3', so', b0', b1', b2', hI', hR', hB', l1, l2⟩ := op_other hI hB hc p3
  dsimp only [Option.toList, List.cons_append, List.nil_append]
  refine lw_i7 hX dL_law_2863 j7 (fun v8 j8 => ?_)
  have hout2 := lw_outs frR
  obtain ⟨row2, brk2, al2, wk2, us2, kp2, pt2, hmo2⟩ := hR'.obj
  refine tail_i hW hX (by omega) hk4 ⟨_, _, _, _, _, _, _, _, hmo2⟩ hout2 hz (by decide) dL_law_2865 dL_law_2866 dL_law_2869 dL_law_2871 dL_law_2876 dL_law_2878 dL_law_2881 dL_law_2882 dL_law_2883 dL_law_2884 dL_law_2886 dL_law_2887 dL_law_2888 dL_law_2893 ?_
  refine WA.room (k2 := k + pC so' D2') (sl2 := sl + pS so' D2') (by omega) (by omega) ?_
  exact K h2 kk g1 G _ _ _ _ _ ⟨⟨w', c', m', E', R', br', bf', bs', be', D2', D3', so', b0', b1', b2', lw_house fr1 ho frR hI', hR', hB', rfl, rfl⟩, hout2, lw_after fr1 ho frR hoD (Or.inl rfl), hsc1⟩ l1 l2 (Or.inr ⟨_, rfl, rfl⟩) (Or.inl ⟨Or.inr ⟨_, rfl, rfl⟩, j8⟩)
end Bl
