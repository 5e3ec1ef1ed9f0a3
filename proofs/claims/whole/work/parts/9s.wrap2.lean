/-! The law's wrappers, 2 -/
section C9s
variable {l : Launch} {D : va_G} {S0 : State}
set_option maxHeartbeats 1000000 in
set_option maxRecDepth 100000 in
theorem c_L_size (hW : WOK l D S0) (d : Nat) {h : AH} {a la out lo : Nat} {fs : List Value} {G : Nat → Int64} {mc1 ms1 : Nat} {P1 : Option Value → AH → Prop} {PX : String → AH → Prop} {n : Int} (ha : h a = some (la, oF 11 fs)) (hM : MA l D S0 yX10_size cX10_size 2 (some .int) d [.ref a, I n] h mc1 ms1 P1 PX) (h0 : ∀ r h', P1 r h' → (∃ z : Int, r = some (I z)) ∧ h' out = some (lo, aL 1 G)) (hx : ∀ E h', PX E h' → E = eIOO) : MH l D S0 yL_size cL_size 4 (some .int) [(0, 9, 12, 45)] (d + 1) [.ref a, I n, .ref out] h mc1 ms1 (fun r h' => (∃ (z : Int) (h1 : AH), P1 (some (I z)) h1 ∧ r = some (I 0) ∧ h' = hset h1 out (lo, aL 1 (up G 0 (Int32.ofInt z).toInt64))) ∨ (PX eIOO h' ∧ r = some (I 1))) := by
  refine MH.start hW (by decide) [.val (.ref a), .val (I n), .val (.ref out), .unset] rfl ?_
  rintro X rfl rfl rfl hT hX
  have kx : ∀ (E : String) (h' : AH), PX E h' → ∃ hp, catW yL_size.cls 4 E [(0, 9, 12, 45)] [eIOO] = some hp ∧ ∀ q : Nat, WA X h' 0 0 hp [.val (.ref a), .val (I n), .val (.ref out), .unset] [.ref q] := by
    intro E9 h9 p9
    obtain rfl := hx E9 h9 p9
    · refine ⟨12, by decide +kernel, fun q => ?_⟩
      refine wa_astore_n hX (i := 3) dL_size_12 rfl rfl ?_
      dsimp only [List.set]
      refine wi_iconst hX dL_size_13 ?_
      refine wa_iret hX dL_size_14 ?_
      exact Or.inr (⟨p9, rfl⟩)
  refine WA.room (k2 := 0 + mc1) (sl2 := 0 + ms1) (by omega) (by omega) ?_
  refine wa_aload_n hX (i := 2) dL_size_0 rfl rfl ?_
  refine wi_iconst hX dL_size_1 ?_
  refine wa_aload_n hX (i := 0) dL_size_2 rfl rfl ?_
  refine wa_iload_n hX (i := 1) dL_size_3 rfl rfl ?_
  refine wa_callVH hX [eIOO] hT hM ha (by rfl) (by rfl) (by omega) (nA := 1) (by rfl) (by decide +kernel) rfl (by exact Nat.le_of_ble_eq_true rfl) dL_size_4 (fun r4 h4 p4 => ?_) kx
  obtain ⟨⟨z, rfl⟩, hG⟩ := h0 _ _ p4
  dsimp only [Option.toList, List.cons_append, List.nil_append]
  refine wa_i2l hX dL_size_7 ?_
  refine wi_lastore hX hG (by decide) (by decide) (by decide) dL_size_8 ?_
  rw [show (0 : Int).toNat = 0 from rfl]
  refine wa_goto hX (tgt := 15) dL_size_9 (by decide) ?_
  refine wi_iconst hX dL_size_15 ?_
  refine wa_iret hX dL_size_16 ?_
  exact Or.inl ⟨z, h4, p4, rfl, rfl⟩
set_option maxHeartbeats 1000000 in
set_option maxRecDepth 100000 in
theorem c_L_rank (hW : WOK l D S0) (d : Nat) {h : AH} {a la out lo : Nat} {fs : List Value} {G : Nat → Int64} {mc1 ms1 : Nat} {P1 : Option Value → AH → Prop} {PX : String → AH → Prop} {n : Int} {v : Int} (ha : h a = some (la, oF 11 fs)) (hM : MA l D S0 yX10_rank cX10_rank 4 (some .int) d [.ref a, I n, I v] h mc1 ms1 P1 PX) (h0 : ∀ r h', P1 r h' → (∃ z : Int, r = some (I z)) ∧ h' out = some (lo, aL 1 G)) (hx : ∀ E h', PX E h' → E = eIOO ∨ E = eIAE) : MH l D S0 yL_rank cL_rank 5 (some .int) [(0, 10, 13, 45), (0, 10, 17, 13)] (d + 1) [.ref a, I n, I v, .ref out] h mc1 ms1 (fun r h' => (∃ (z : Int) (h1 : AH), P1 (some (I z)) h1 ∧ r = some (I 0) ∧ h' = hset h1 out (lo, aL 1 (up G 0 (Int32.ofInt z).toInt64))) ∨ (PX eIOO h' ∧ r = some (I 1)) ∨ (PX eIAE h' ∧ r = some (I 2))) := by
  refine MH.start hW (by decide) [.val (.ref a), .val (I n), .val (I v), .val (.ref out), .unset] rfl ?_
  rintro X rfl rfl rfl hT hX
  have kx : ∀ (E : String) (h' : AH), PX E h' → ∃ hp, catW yL_rank.cls 5 E [(0, 10, 13, 45), (0, 10, 17, 13)] [eIOO, eIAE] = some hp ∧ ∀ q : Nat, WA X h' 0 0 hp [.val (.ref a), .val (I n), .val (I v), .val (.ref out), .unset] [.ref q] := by
    intro E9 h9 p9
    rcases hx E9 h9 p9 with rfl | rfl
    · refine ⟨13, by decide +kernel, fun q => ?_⟩
      refine wa_astore hX dL_rank_13 rfl ?_
      dsimp only [List.set]
      refine wi_iconst hX dL_rank_15 ?_
      refine wa_iret hX dL_rank_16 ?_
      exact Or.inr (Or.inl ⟨p9, rfl⟩)
    · refine ⟨17, by decide +kernel, fun q => ?_⟩
      refine wa_astore hX dL_rank_17 rfl ?_
      dsimp only [List.set]
      refine wi_iconst hX dL_rank_19 ?_
      refine wa_iret hX dL_rank_20 ?_
      exact Or.inr (Or.inr (⟨p9, rfl⟩))
  refine WA.room (k2 := 0 + mc1) (sl2 := 0 + ms1) (by omega) (by omega) ?_
  refine wa_aload_n hX (i := 3) dL_rank_0 rfl rfl ?_
  refine wi_iconst hX dL_rank_1 ?_
  refine wa_aload_n hX (i := 0) dL_rank_2 rfl rfl ?_
  refine wa_iload_n hX (i := 1) dL_rank_3 rfl rfl ?_
  refine wa_iload_n hX (i := 2) dL_rank_4 rfl rfl ?_
  refine wa_callVH hX [eIOO, eIAE] hT hM ha (by rfl) (by rfl) (by omega) (nA := 2) (by rfl) (by decide +kernel) rfl (by exact Nat.le_of_ble_eq_true rfl) dL_rank_5 (fun r5 h5 p5 => ?_) kx
  obtain ⟨⟨z, rfl⟩, hG⟩ := h0 _ _ p5
  dsimp only [Option.toList, List.cons_append, List.nil_append]
  refine wa_i2l hX dL_rank_8 ?_
  refine wi_lastore hX hG (by decide) (by decide) (by decide) dL_rank_9 ?_
  rw [show (0 : Int).toNat = 0 from rfl]
  refine wa_goto hX (tgt := 21) dL_rank_10 (by decide) ?_
  refine wi_iconst hX dL_rank_21 ?_
  refine wa_iret hX dL_rank_22 ?_
  exact Or.inl ⟨z, h5, p5, rfl, rfl⟩
set_option maxHeartbeats 1000000 in
set_option maxRecDepth 100000 in
theorem c_L_closure (hW : WOK l D S0) (d : Nat) {h : AH} {a la out lo : Nat} {fs : List Value} {G : Nat → Int64} {mc1 ms1 : Nat} {P1 : Option Value → AH → Prop} {PX : String → AH → Prop} {n : Int} {v : Int} (ha : h a = some (la, oF 11 fs)) (hM : MA l D S0 yX10_closure cX10_closure 4 (some .int) d [.ref a, I n, I v] h mc1 ms1 P1 PX) (h0 : ∀ r h', P1 r h' → (∃ z : Int, r = some (I z)) ∧ h' out = some (lo, aL 1 G)) (hx : ∀ E h', PX E h' → E = eIOO ∨ E = eIAE) : MH l D S0 yL_closure cL_closure 5 (some .int) [(0, 10, 13, 45), (0, 10, 17, 13)] (d + 1) [.ref a, I n, I v, .ref out] h mc1 ms1 (fun r h' => (∃ (z : Int) (h1 : AH), P1 (some (I z)) h1 ∧ r = some (I 0) ∧ h' = hset h1 out (lo, aL 1 (up G 0 (Int32.ofInt z).toInt64))) ∨ (PX eIOO h' ∧ r = some (I 1)) ∨ (PX eIAE h' ∧ r = some (I 2))) := by
  refine MH.start hW (by decide) [.val (.ref a), .val (I n), .val (I v), .val (.ref out), .unset] rfl ?_
  rintro X rfl rfl rfl hT hX
  have kx : ∀ (E : String) (h' : AH), PX E h' → ∃ hp, catW yL_closure.cls 5 E [(0, 10, 13, 45), (0, 10, 17, 13)] [eIOO, eIAE] = some hp ∧ ∀ q : Nat, WA X h' 0 0 hp [.val (.ref a), .val (I n), .val (I v), .val (.ref out), .unset] [.ref q] := by
    intro E9 h9 p9
    rcases hx E9 h9 p9 with rfl | rfl
    · refine ⟨13, by decide +kernel, fun q => ?_⟩
      refine wa_astore hX dL_closure_13 rfl ?_
      dsimp only [List.set]
      refine wi_iconst hX dL_closure_15 ?_
      refine wa_iret hX dL_closure_16 ?_
      exact Or.inr (Or.inl ⟨p9, rfl⟩)
    · refine ⟨17, by decide +kernel, fun q => ?_⟩
      refine wa_astore hX dL_closure_17 rfl ?_
      dsimp only [List.set]
      refine wi_iconst hX dL_closure_19 ?_
      refine wa_iret hX dL_closure_20 ?_
      exact Or.inr (Or.inr (⟨p9, rfl⟩))
  refine WA.room (k2 := 0 + mc1) (sl2 := 0 + ms1) (by omega) (by omega) ?_
  refine wa_aload_n hX (i := 3) dL_closure_0 rfl rfl ?_
  refine wi_iconst hX dL_closure_1 ?_
  refine wa_aload_n hX (i := 0) dL_closure_2 rfl rfl ?_
  refine wa_iload_n hX (i := 1) dL_closure_3 rfl rfl ?_
  refine wa_iload_n hX (i := 2) dL_closure_4 rfl rfl ?_
  refine wa_callVH hX [eIOO, eIAE] hT hM ha (by rfl) (by rfl) (by omega) (nA := 2) (by rfl) (by decide +kernel) rfl (by exact Nat.le_of_ble_eq_true rfl) dL_closure_5 (fun r5 h5 p5 => ?_) kx
  obtain ⟨⟨z, rfl⟩, hG⟩ := h0 _ _ p5
  dsimp only [Option.toList, List.cons_append, List.nil_append]
  refine wa_i2l hX dL_closure_8 ?_
  refine wi_lastore hX hG (by decide) (by decide) (by decide) dL_closure_9 ?_
  rw [show (0 : Int).toNat = 0 from rfl]
  refine wa_goto hX (tgt := 21) dL_closure_10 (by decide) ?_
  refine wi_iconst hX dL_closure_21 ?_
  refine wa_iret hX dL_closure_22 ?_
  exact Or.inl ⟨z, h5, p5, rfl, rfl⟩
set_option maxHeartbeats 1000000 in
set_option maxRecDepth 100000 in
theorem c_L_count (hW : WOK l D S0) (d : Nat) {h : AH} {a la out lo : Nat} {fs : List Value} {G : Nat → Int64} {mc1 ms1 : Nat} {P1 : Option Value → AH → Prop} {PX : String → AH → Prop} {n : Int} {v : Int} (ha : h a = some (la, oF 11 fs)) (hM : MA l D S0 yX10_count cX10_count 4 (some .int) d [.ref a, I n, I v] h mc1 ms1 P1 PX) (h0 : ∀ r h', P1 r h' → (∃ z : Int, r = some (I z)) ∧ h' out = some (lo, aL 1 G)) (hx : ∀ E h', PX E h' → E = eIOO ∨ E = eIAE) : MH l D S0 yL_count cL_count 5 (some .int) [(0, 10, 13, 45), (0, 10, 17, 13)] (d + 1) [.ref a, I n, I v, .ref out] h mc1 ms1 (fun r h' => (∃ (z : Int) (h1 : AH), P1 (some (I z)) h1 ∧ r = some (I 0) ∧ h' = hset h1 out (lo, aL 1 (up G 0 (Int32.ofInt z).toInt64))) ∨ (PX eIOO h' ∧ r = some (I 1)) ∨ (PX eIAE h' ∧ r = some (I 2))) := by
  refine MH.start hW (by decide) [.val (.ref a), .val (I n), .val (I v), .val (.ref out), .unset] rfl ?_
  rintro X rfl rfl rfl hT hX
  have kx : ∀ (E : String) (h' : AH), PX E h' → ∃ hp, catW yL_count.cls 5 E [(0, 10, 13, 45), (0, 10, 17, 13)] [eIOO, eIAE] = some hp ∧ ∀ q : Nat, WA X h' 0 0 hp [.val (.ref a), .val (I n), .val (I v), .val (.ref out), .unset] [.ref q] := by
    intro E9 h9 p9
    rcases hx E9 h9 p9 with rfl | rfl
    · refine ⟨13, by decide +kernel, fun q => ?_⟩
      refine wa_astore hX dL_count_13 rfl ?_
      dsimp only [List.set]
      refine wi_iconst hX dL_count_15 ?_
      refine wa_iret hX dL_count_16 ?_
      exact Or.inr (Or.inl ⟨p9, rfl⟩)
    · refine ⟨17, by decide +kernel, fun q => ?_⟩
      refine wa_astore hX dL_count_17 rfl ?_
      dsimp only [List.set]
      refine wi_iconst hX dL_count_19 ?_
      refine wa_iret hX dL_count_20 ?_
      exact Or.inr (Or.inr (⟨p9, rfl⟩))
  refine WA.room (k2 := 0 + mc1) (sl2 := 0 + ms1) (by omega) (by omega) ?_
  refine wa_aload_n hX (i := 3) dL_count_0 rfl rfl ?_
  refine wi_iconst hX dL_count_1 ?_
  refine wa_aload_n hX (i := 0) dL_count_2 rfl rfl ?_
  refine wa_iload_n hX (i := 1) dL_count_3 rfl rfl ?_
  refine wa_iload_n hX (i := 2) dL_count_4 rfl rfl ?_
  refine wa_callVH hX [eIOO, eIAE] hT hM ha (by rfl) (by rfl) (by omega) (nA := 2) (by rfl) (by decide +kernel) rfl (by exact Nat.le_of_ble_eq_true rfl) dL_count_5 (fun r5 h5 p5 => ?_) kx
  obtain ⟨⟨z, rfl⟩, hG⟩ := h0 _ _ p5
  dsimp only [Option.toList, List.cons_append, List.nil_append]
  refine wa_i2l hX dL_count_8 ?_
  refine wi_lastore hX hG (by decide) (by decide) (by decide) dL_count_9 ?_
  rw [show (0 : Int).toNat = 0 from rfl]
  refine wa_goto hX (tgt := 21) dL_count_10 (by decide) ?_
  refine wi_iconst hX dL_count_21 ?_
  refine wa_iret hX dL_count_22 ?_
  exact Or.inl ⟨z, h5, p5, rfl, rfl⟩
set_option maxHeartbeats 1000000 in
set_option maxRecDepth 100000 in
theorem c_L_setAt (hW : WOK l D S0) (d : Nat) {h : AH} {a la out lo : Nat} {fs : List Value} {G : Nat → Int64} {mc1 ms1 : Nat} {P1 : Option Value → AH → Prop} {PX : String → AH → Prop} {n : Int} {v : Int} {x : Int} (ha : h a = some (la, oF 11 fs)) (hM : MA l D S0 yX10_setAt cX10_setAt 6 (some .int) d [.ref a, I n, I v, I x] h mc1 ms1 P1 PX) (h0 : ∀ r h', P1 r h' → (∃ z : Int, r = some (I z)) ∧ h' out = some (lo, aL 1 G)) (hx : ∀ E h', PX E h' → E = eIOO ∨ E = eIAE ∨ E = eNSE) : MH l D S0 yL_setAt cL_setAt 6 (some .int) [(0, 12, 15, 45), (0, 12, 19, 13), (0, 12, 23, 40)] (d + 1) [.ref a, I n, I v, I x, .ref out] h mc1 ms1 (fun r h' => (∃ (z : Int) (h1 : AH), P1 (some (I z)) h1 ∧ r = some (I 0) ∧ h' = hset h1 out (lo, aL 1 (up G 0 (Int32.ofInt z).toInt64))) ∨ (PX eIOO h' ∧ r = some (I 1)) ∨ (PX eIAE h' ∧ r = some (I 2)) ∨ (PX eNSE h' ∧ r = some (I 3))) := by
  refine MH.start hW (by decide) [.val (.ref a), .val (I n), .val (I v), .val (I x), .val (.ref out), .unset] rfl ?_
  rintro X rfl rfl rfl hT hX
  have kx : ∀ (E : String) (h' : AH), PX E h' → ∃ hp, catW yL_setAt.cls 7 E [(0, 12, 15, 45), (0, 12, 19, 13), (0, 12, 23, 40)] [eIOO, eIAE, eNSE] = some hp ∧ ∀ q : Nat, WA X h' 0 0 hp [.val (.ref a), .val (I n), .val (I v), .val (I x), .val (.ref out), .unset] [.ref q] := by
    intro E9 h9 p9
    rcases hx E9 h9 p9 with rfl | rfl | rfl
    · refine ⟨15, by decide +kernel, fun q => ?_⟩
      refine wa_astore hX dL_setAt_15 rfl ?_
      dsimp only [List.set]
      refine wi_iconst hX dL_setAt_17 ?_
      refine wa_iret hX dL_setAt_18 ?_
      exact Or.inr (Or.inl ⟨p9, rfl⟩)
    · refine ⟨19, by decide +kernel, fun q => ?_⟩
      refine wa_astore hX dL_setAt_19 rfl ?_
      dsimp only [List.set]
      refine wi_iconst hX dL_setAt_21 ?_
      refine wa_iret hX dL_setAt_22 ?_
      exact Or.inr (Or.inr (Or.inl ⟨p9, rfl⟩))
    · refine ⟨23, by decide +kernel, fun q => ?_⟩
      refine wa_astore hX dL_setAt_23 rfl ?_
      dsimp only [List.set]
      refine wi_iconst hX dL_setAt_25 ?_
      refine wa_iret hX dL_setAt_26 ?_
      exact Or.inr (Or.inr (Or.inr (⟨p9, rfl⟩)))
  refine WA.room (k2 := 0 + mc1) (sl2 := 0 + ms1) (by omega) (by omega) ?_
  refine wa_aload hX dL_setAt_0 rfl ?_
  refine wi_iconst hX dL_setAt_2 ?_
  refine wa_aload_n hX (i := 0) dL_setAt_3 rfl rfl ?_
  refine wa_iload_n hX (i := 1) dL_setAt_4 rfl rfl ?_
  refine wa_iload_n hX (i := 2) dL_setAt_5 rfl rfl ?_
  refine wa_iload_n hX (i := 3) dL_setAt_6 rfl rfl ?_
  refine wa_callVH hX [eIOO, eIAE, eNSE] hT hM ha (by rfl) (by rfl) (by omega) (nA := 3) (by rfl) (by decide +kernel) rfl (by exact Nat.le_of_ble_eq_true rfl) dL_setAt_7 (fun r7 h7 p7 => ?_) kx
  obtain ⟨⟨z, rfl⟩, hG⟩ := h0 _ _ p7
  dsimp only [Option.toList, List.cons_append, List.nil_append]
  refine wa_i2l hX dL_setAt_10 ?_
  refine wi_lastore hX hG (by decide) (by decide) (by decide) dL_setAt_11 ?_
  rw [show (0 : Int).toNat = 0 from rfl]
  refine wa_goto hX (tgt := 27) dL_setAt_12 (by decide) ?_
  refine wi_iconst hX dL_setAt_27 ?_
  refine wa_iret hX dL_setAt_28 ?_
  exact Or.inl ⟨z, h7, p7, rfl, rfl⟩
set_option maxHeartbeats 1000000 in
set_option maxRecDepth 100000 in
theorem c_L_circuitWith (hW : WOK l D S0) (d : Nat) {h : AH} {a la out lo : Nat} {fs : List Value} {G : Nat → Int64} {mc1 ms1 : Nat} {P1 : Option Value → AH → Prop} {PX : String → AH → Prop} {n : Int} {v : Int} {x : Int} (ha : h a = some (la, oF 11 fs)) (hM : MA l D S0 yX10_circuitWith cX10_circuitWith 5 (some .int) d [.ref a, I n, I v, I x] h mc1 ms1 P1 PX) (h0 : ∀ r h', P1 r h' → (∃ z : Int, r = some (I z)) ∧ h' out = some (lo, aL 1 G)) (hx : ∀ E h', PX E h' → E = eIOO ∨ E = eUOE ∨ E = eNSE) : MH l D S0 yL_circuitWith cL_circuitWith 6 (some .int) [(0, 12, 15, 45), (0, 12, 19, 25), (0, 12, 23, 40)] (d + 1) [.ref a, I n, I v, I x, .ref out] h mc1 ms1 (fun r h' => (∃ (z : Int) (h1 : AH), P1 (some (I z)) h1 ∧ r = some (I 0) ∧ h' = hset h1 out (lo, aL 1 (up G 0 (Int32.ofInt z).toInt64))) ∨ (PX eIOO h' ∧ r = some (I 1)) ∨ (PX eUOE h' ∧ r = some (I 2)) ∨ (PX eNSE h' ∧ r = some (I 3))) := by
  refine MH.start hW (by decide) [.val (.ref a), .val (I n), .val (I v), .val (I x), .val (.ref out), .unset] rfl ?_
  rintro X rfl rfl rfl hT hX
  have kx : ∀ (E : String) (h' : AH), PX E h' → ∃ hp, catW yL_circuitWith.cls 7 E [(0, 12, 15, 45), (0, 12, 19, 25), (0, 12, 23, 40)] [eIOO, eUOE, eNSE] = some hp ∧ ∀ q : Nat, WA X h' 0 0 hp [.val (.ref a), .val (I n), .val (I v), .val (I x), .val (.ref out), .unset] [.ref q] := by
    intro E9 h9 p9
    rcases hx E9 h9 p9 with rfl | rfl | rfl
    · refine ⟨15, by decide +kernel, fun q => ?_⟩
      refine wa_astore hX dL_circuitWith_15 rfl ?_
      dsimp only [List.set]
      refine wi_iconst hX dL_circuitWith_17 ?_
      refine wa_iret hX dL_circuitWith_18 ?_
      exact Or.inr (Or.inl ⟨p9, rfl⟩)
    · refine ⟨19, by decide +kernel, fun q => ?_⟩
      refine wa_astore hX dL_circuitWith_19 rfl ?_
      dsimp only [List.set]
      refine wi_iconst hX dL_circuitWith_21 ?_
      refine wa_iret hX dL_circuitWith_22 ?_
      exact Or.inr (Or.inr (Or.inl ⟨p9, rfl⟩))
    · refine ⟨23, by decide +kernel, fun q => ?_⟩
      refine wa_astore hX dL_circuitWith_23 rfl ?_
      dsimp only [List.set]
      refine wi_iconst hX dL_circuitWith_25 ?_
      refine wa_iret hX dL_circuitWith_26 ?_
      exact Or.inr (Or.inr (Or.inr (⟨p9, rfl⟩)))
  refine WA.room (k2 := 0 + mc1) (sl2 := 0 + ms1) (by omega) (by omega) ?_
  refine wa_aload hX dL_circuitWith_0 rfl ?_
  refine wi_iconst hX dL_circuitWith_2 ?_
  refine wa_aload_n hX (i := 0) dL_circuitWith_3 rfl rfl ?_
  refine wa_iload_n hX (i := 1) dL_circuitWith_4 rfl rfl ?_
  refine wa_iload_n hX (i := 2) dL_circuitWith_5 rfl rfl ?_
  refine wa_iload_n hX (i := 3) dL_circuitWith_6 rfl rfl ?_
  refine wa_callVH hX [eIOO, eUOE, eNSE] hT hM ha (by rfl) (by rfl) (by omega) (nA := 3) (by rfl) (by decide +kernel) rfl (by exact Nat.le_of_ble_eq_true rfl) dL_circuitWith_7 (fun r7 h7 p7 => ?_) kx
  obtain ⟨⟨z, rfl⟩, hG⟩ := h0 _ _ p7
  dsimp only [Option.toList, List.cons_append, List.nil_append]
  refine wa_i2l hX dL_circuitWith_10 ?_
  refine wi_lastore hX hG (by decide) (by decide) (by decide) dL_circuitWith_11 ?_
  rw [show (0 : Int).toNat = 0 from rfl]
  refine wa_goto hX (tgt := 27) dL_circuitWith_12 (by decide) ?_
  refine wi_iconst hX dL_circuitWith_27 ?_
  refine wa_iret hX dL_circuitWith_28 ?_
  exact Or.inl ⟨z, h7, p7, rfl, rfl⟩
set_option maxHeartbeats 1000000 in
set_option maxRecDepth 100000 in
theorem c_L_component (hW : WOK l D S0) (d : Nat) {h : AH} {a la out lo : Nat} {fs : List Value} {G : Nat → Int64} {mc1 ms1 : Nat} {P1 : Option Value → AH → Prop} {PX : String → AH → Prop} {n : Int} {v : Int} (ha : h a = some (la, oF 11 fs)) (hM : MA l D S0 yX10_component cX10_component 4 (some .int) d [.ref a, I n, I v] h mc1 ms1 P1 PX) (h0 : ∀ r h', P1 r h' → (∃ z : Int, r = some (I z)) ∧ h' out = some (lo, aL 1 G)) (hx : ∀ E h', PX E h' → E = eIOO) : MH l D S0 yL_component cL_component 5 (some .int) [(0, 10, 13, 45)] (d + 1) [.ref a, I n, I v, .ref out] h mc1 ms1 (fun r h' => (∃ (z : Int) (h1 : AH), P1 (some (I z)) h1 ∧ r = some (I 0) ∧ h' = hset h1 out (lo, aL 1 (up G 0 (Int32.ofInt z).toInt64))) ∨ (PX eIOO h' ∧ r = some (I 1))) := by
  refine MH.start hW (by decide) [.val (.ref a), .val (I n), .val (I v), .val (.ref out), .unset] rfl ?_
  rintro X rfl rfl rfl hT hX
  have kx : ∀ (E : String) (h' : AH), PX E h' → ∃ hp, catW yL_component.cls 5 E [(0, 10, 13, 45)] [eIOO] = some hp ∧ ∀ q : Nat, WA X h' 0 0 hp [.val (.ref a), .val (I n), .val (I v), .val (.ref out), .unset] [.ref q] := by
    intro E9 h9 p9
    obtain rfl := hx E9 h9 p9
    · refine ⟨13, by decide +kernel, fun q => ?_⟩
      refine wa_astore hX dL_component_13 rfl ?_
      dsimp only [List.set]
      refine wi_iconst hX dL_component_15 ?_
      refine wa_iret hX dL_component_16 ?_
      exact Or.inr (⟨p9, rfl⟩)
  refine WA.room (k2 := 0 + mc1) (sl2 := 0 + ms1) (by omega) (by omega) ?_
  refine wa_aload_n hX (i := 3) dL_component_0 rfl rfl ?_
  refine wi_iconst hX dL_component_1 ?_
  refine wa_aload_n hX (i := 0) dL_component_2 rfl rfl ?_
  refine wa_iload_n hX (i := 1) dL_component_3 rfl rfl ?_
  refine wa_iload_n hX (i := 2) dL_component_4 rfl rfl ?_
  refine wa_callVH hX [eIOO] hT hM ha (by rfl) (by rfl) (by omega) (nA := 2) (by rfl) (by decide +kernel) rfl (by exact Nat.le_of_ble_eq_true rfl) dL_component_5 (fun r5 h5 p5 => ?_) kx
  obtain ⟨⟨z, rfl⟩, hG⟩ := h0 _ _ p5
  dsimp only [Option.toList, List.cons_append, List.nil_append]
  refine wa_i2l hX dL_component_8 ?_
  refine wi_lastore hX hG (by decide) (by decide) (by decide) dL_component_9 ?_
  rw [show (0 : Int).toNat = 0 from rfl]
  refine wa_goto hX (tgt := 17) dL_component_10 (by decide) ?_
  refine wi_iconst hX dL_component_17 ?_
  refine wa_iret hX dL_component_18 ?_
  exact Or.inl ⟨z, h5, p5, rfl, rfl⟩
set_option maxHeartbeats 1000000 in
set_option maxRecDepth 100000 in
theorem c_L_areAlike (hW : WOK l D S0) (d : Nat) {h : AH} {a la out lo : Nat} {fs : List Value} {G : Nat → Int64} {mc1 ms1 : Nat} {P1 : Option Value → AH → Prop} {PX : String → AH → Prop} {n : Int} {v : Int} (ha : h a = some (la, oF 11 fs)) (hM : MA l D S0 yX10_areAlike cX10_areAlike 5 (some .boolean) d [.ref a, I n, I v] h mc1 ms1 P1 PX) (h0 : ∀ r h', P1 r h' → (∃ b : Bool, r = some (I ((b2n b : Nat) : Int))) ∧ h' out = some (lo, aL 1 G)) (hx : ∀ E h', PX E h' → E = eIOO) : MH l D S0 yL_areAlike cL_areAlike 5 (some .int) [(0, 17, 20, 45)] (d + 1) [.ref a, I n, I v, .ref out] h mc1 ms1 (fun r h' => (∃ (b : Bool) (h1 : AH), P1 (some (I ((b2n b : Nat) : Int))) h1 ∧ r = some (I 0) ∧ h' = hset h1 out (lo, aL 1 (up G 0 (if b = true then (1 : Int64) else 0)))) ∨ (PX eIOO h' ∧ r = some (I 1))) := by
  refine MH.start hW (by decide) [.val (.ref a), .val (I n), .val (I v), .val (.ref out), .unset] rfl ?_
  rintro X rfl rfl rfl hT hX
  have kx : ∀ (E : String) (h' : AH), PX E h' → ∃ hp, catW yL_areAlike.cls 5 E [(0, 17, 20, 45)] [eIOO] = some hp ∧ ∀ q : Nat, WA X h' 0 0 hp [.val (.ref a), .val (I n), .val (I v), .val (.ref out), .unset] [.ref q] := by
    intro E9 h9 p9
    obtain rfl := hx E9 h9 p9
    · refine ⟨20, by decide +kernel, fun q => ?_⟩
      refine wa_astore hX dL_areAlike_20 rfl ?_
      dsimp only [List.set]
      refine wi_iconst hX dL_areAlike_22 ?_
      refine wa_iret hX dL_areAlike_23 ?_
      exact Or.inr (⟨p9, rfl⟩)
  refine WA.room (k2 := 0 + mc1) (sl2 := 0 + ms1) (by omega) (by omega) ?_
  refine wa_aload_n hX (i := 3) dL_areAlike_0 rfl rfl ?_
  refine wi_iconst hX dL_areAlike_1 ?_
  refine wa_aload_n hX (i := 0) dL_areAlike_2 rfl rfl ?_
  refine wa_iload_n hX (i := 1) dL_areAlike_3 rfl rfl ?_
  refine wa_iload_n hX (i := 2) dL_areAlike_4 rfl rfl ?_
  refine wa_callVH hX [eIOO] hT hM ha (by rfl) (by rfl) (by omega) (nA := 2) (by rfl) (by decide +kernel) rfl (by exact Nat.le_of_ble_eq_true rfl) dL_areAlike_5 (fun r5 h5 p5 => ?_) kx
  obtain ⟨⟨b, rfl⟩, hG⟩ := h0 _ _ p5
  dsimp only [Option.toList, List.cons_append, List.nil_append]
  refine wi_if_eq hX (tgt := 15) dL_areAlike_8 (by decide) (by exact b2n_inR _) (fun c8 => ?_) (fun c8 => ?_)
  · skip
    refine wa_lconst hX dL_areAlike_15 ?_
    refine wi_lastore hX hG (by decide) (by decide) (by decide) dL_areAlike_16 ?_
    rw [show (0 : Int).toNat = 0 from rfl]
    refine wa_goto hX (tgt := 24) dL_areAlike_17 (by decide) ?_
    refine wi_iconst hX dL_areAlike_24 ?_
    refine wa_iret hX dL_areAlike_25 ?_
    first
      | (have q := b2n_t c8
         subst q
         exact Or.inl ⟨true, h5, p5, rfl, rfl⟩)
      | (have q := b2n_f c8
         subst q
         exact Or.inl ⟨false, h5, p5, rfl, rfl⟩)
  · skip
    refine wa_lconst hX dL_areAlike_11 ?_
    refine wa_goto hX (tgt := 16) dL_areAlike_12 (by decide) ?_
    refine wi_lastore hX hG (by decide) (by decide) (by decide) dL_areAlike_16 ?_
    rw [show (0 : Int).toNat = 0 from rfl]
    refine wa_goto hX (tgt := 24) dL_areAlike_17 (by decide) ?_
    refine wi_iconst hX dL_areAlike_24 ?_
    refine wa_iret hX dL_areAlike_25 ?_
    first
      | (have q := b2n_t c8
         subst q
         exact Or.inl ⟨true, h5, p5, rfl, rfl⟩)
      | (have q := b2n_f c8
         subst q
         exact Or.inl ⟨false, h5, p5, rfl, rfl⟩)
set_option maxHeartbeats 1000000 in
set_option maxRecDepth 100000 in
theorem c_L_image (hW : WOK l D S0) (d : Nat) {h : AH} {a la out lo : Nat} {fs : List Value} {G : Nat → Int64} {mc1 ms1 : Nat} {P1 : Option Value → AH → Prop} {PX : String → AH → Prop} {n : Int} {v : Int} {x : Int} (ha : h a = some (la, oF 11 fs)) (hM : MA l D S0 yX10_image cX10_image 5 (some .int) d [.ref a, I n, I v, I x] h mc1 ms1 P1 PX) (h0 : ∀ r h', P1 r h' → (∃ z : Int, r = some (I z)) ∧ h' out = some (lo, aL 1 G)) (hx : ∀ E h', PX E h' → E = eIOO ∨ E = eNSE) : MH l D S0 yL_image cL_image 6 (some .int) [(0, 12, 15, 45), (0, 12, 19, 40)] (d + 1) [.ref a, I n, I v, I x, .ref out] h mc1 ms1 (fun r h' => (∃ (z : Int) (h1 : AH), P1 (some (I z)) h1 ∧ r = some (I 0) ∧ h' = hset h1 out (lo, aL 1 (up G 0 (Int32.ofInt z).toInt64))) ∨ (PX eIOO h' ∧ r = some (I 1)) ∨ (PX eNSE h' ∧ r = some (I 2))) := by
  refine MH.start hW (by decide) [.val (.ref a), .val (I n), .val (I v), .val (I x), .val (.ref out), .unset] rfl ?_
  rintro X rfl rfl rfl hT hX
  have kx : ∀ (E : String) (h' : AH), PX E h' → ∃ hp, catW yL_image.cls 7 E [(0, 12, 15, 45), (0, 12, 19, 40)] [eIOO, eNSE] = some hp ∧ ∀ q : Nat, WA X h' 0 0 hp [.val (.ref a), .val (I n), .val (I v), .val (I x), .val (.ref out), .unset] [.ref q] := by
    intro E9 h9 p9
    rcases hx E9 h9 p9 with rfl | rfl
    · refine ⟨15, by decide +kernel, fun q => ?_⟩
      refine wa_astore hX dL_image_15 rfl ?_
      dsimp only [List.set]
      refine wi_iconst hX dL_image_17 ?_
      refine wa_iret hX dL_image_18 ?_
      exact Or.inr (Or.inl ⟨p9, rfl⟩)
    · refine ⟨19, by decide +kernel, fun q => ?_⟩
      refine wa_astore hX dL_image_19 rfl ?_
      dsimp only [List.set]
      refine wi_iconst hX dL_image_21 ?_
      refine wa_iret hX dL_image_22 ?_
      exact Or.inr (Or.inr (⟨p9, rfl⟩))
  refine WA.room (k2 := 0 + mc1) (sl2 := 0 + ms1) (by omega) (by omega) ?_
  refine wa_aload hX dL_image_0 rfl ?_
  refine wi_iconst hX dL_image_2 ?_
  refine wa_aload_n hX (i := 0) dL_image_3 rfl rfl ?_
  refine wa_iload_n hX (i := 1) dL_image_4 rfl rfl ?_
  refine wa_iload_n hX (i := 2) dL_image_5 rfl rfl ?_
  refine wa_iload_n hX (i := 3) dL_image_6 rfl rfl ?_
  refine wa_callVH hX [eIOO, eNSE] hT hM ha (by rfl) (by rfl) (by omega) (nA := 3) (by rfl) (by decide +kernel) rfl (by exact Nat.le_of_ble_eq_true rfl) dL_image_7 (fun r7 h7 p7 => ?_) kx
  obtain ⟨⟨z, rfl⟩, hG⟩ := h0 _ _ p7
  dsimp only [Option.toList, List.cons_append, List.nil_append]
  refine wa_i2l hX dL_image_10 ?_
  refine wi_lastore hX hG (by decide) (by decide) (by decide) dL_image_11 ?_
  rw [show (0 : Int).toNat = 0 from rfl]
  refine wa_goto hX (tgt := 23) dL_image_12 (by decide) ?_
  refine wi_iconst hX dL_image_23 ?_
  refine wa_iret hX dL_image_24 ?_
  exact Or.inl ⟨z, h7, p7, rfl, rfl⟩
set_option maxHeartbeats 1000000 in
set_option maxRecDepth 100000 in
theorem c_L_symmetries (hW : WOK l D S0) (d : Nat) {h : AH} {a la out lo : Nat} {fs : List Value} {G : Nat → Int64} {mc1 ms1 : Nat} {P1 : Option Value → AH → Prop} {PX : String → AH → Prop} {n : Int} (ha : h a = some (la, oF 11 fs)) (hM : MA l D S0 yX10_symmetries cX10_symmetries 3 (some .int) d [.ref a, I n] h mc1 ms1 P1 PX) (h0 : ∀ r h', P1 r h' → (∃ z : Int, r = some (I z)) ∧ h' out = some (lo, aL 1 G)) (hx : ∀ E h', PX E h' → E = eIOO) : MH l D S0 yL_symmetries cL_symmetries 4 (some .int) [(0, 9, 12, 45)] (d + 1) [.ref a, I n, .ref out] h mc1 ms1 (fun r h' => (∃ (z : Int) (h1 : AH), P1 (some (I z)) h1 ∧ r = some (I 0) ∧ h' = hset h1 out (lo, aL 1 (up G 0 (Int32.ofInt z).toInt64))) ∨ (PX eIOO h' ∧ r = some (I 1))) := by
  refine MH.start hW (by decide) [.val (.ref a), .val (I n), .val (.ref out), .unset] rfl ?_
  rintro X rfl rfl rfl hT hX
  have kx : ∀ (E : String) (h' : AH), PX E h' → ∃ hp, catW yL_symmetries.cls 4 E [(0, 9, 12, 45)] [eIOO] = some hp ∧ ∀ q : Nat, WA X h' 0 0 hp [.val (.ref a), .val (I n), .val (.ref out), .unset] [.ref q] := by
    intro E9 h9 p9
    obtain rfl := hx E9 h9 p9
    · refine ⟨12, by decide +kernel, fun q => ?_⟩
      refine wa_astore_n hX (i := 3) dL_symmetries_12 rfl rfl ?_
      dsimp only [List.set]
      refine wi_iconst hX dL_symmetries_13 ?_
      refine wa_iret hX dL_symmetries_14 ?_
      exact Or.inr (⟨p9, rfl⟩)
  refine WA.room (k2 := 0 + mc1) (sl2 := 0 + ms1) (by omega) (by omega) ?_
  refine wa_aload_n hX (i := 2) dL_symmetries_0 rfl rfl ?_
  refine wi_iconst hX dL_symmetries_1 ?_
  refine wa_aload_n hX (i := 0) dL_symmetries_2 rfl rfl ?_
  refine wa_iload_n hX (i := 1) dL_symmetries_3 rfl rfl ?_
  refine wa_callVH hX [eIOO] hT hM ha (by rfl) (by rfl) (by omega) (nA := 1) (by rfl) (by decide +kernel) rfl (by exact Nat.le_of_ble_eq_true rfl) dL_symmetries_4 (fun r4 h4 p4 => ?_) kx
  obtain ⟨⟨z, rfl⟩, hG⟩ := h0 _ _ p4
  dsimp only [Option.toList, List.cons_append, List.nil_append]
  refine wa_i2l hX dL_symmetries_7 ?_
  refine wi_lastore hX hG (by decide) (by decide) (by decide) dL_symmetries_8 ?_
  rw [show (0 : Int).toNat = 0 from rfl]
  refine wa_goto hX (tgt := 15) dL_symmetries_9 (by decide) ?_
  refine wi_iconst hX dL_symmetries_15 ?_
  refine wa_iret hX dL_symmetries_16 ?_
  exact Or.inl ⟨z, h4, p4, rfl, rfl⟩
set_option maxHeartbeats 1000000 in
set_option maxRecDepth 100000 in
theorem c_L_minorBy (hW : WOK l D S0) (d : Nat) {h : AH} {a la out lo : Nat} {fs : List Value} {G : Nat → Int64} {mc1 ms1 : Nat} {P1 : Option Value → AH → Prop} {PX : String → AH → Prop} {n : Int} {v : Int} (ha : h a = some (la, oF 11 fs)) (hM : MA l D S0 yX10_minorBy cX10_minorBy 3 (some .int) d [.ref a, I n, I v] h mc1 ms1 P1 PX) (h0 : ∀ r h', P1 r h' → (∃ z : Int, r = some (I z)) ∧ h' out = some (lo, aL 1 G)) (hx : ∀ E h', PX E h' → E = eIOO ∨ E = eNSE) : MH l D S0 yL_minorBy cL_minorBy 5 (some .int) [(0, 10, 13, 45), (0, 10, 17, 40)] (d + 1) [.ref a, I n, I v, .ref out] h mc1 ms1 (fun r h' => (∃ (z : Int) (h1 : AH), P1 (some (I z)) h1 ∧ r = some (I 0) ∧ h' = hset h1 out (lo, aL 1 (up G 0 (Int32.ofInt z).toInt64))) ∨ (PX eIOO h' ∧ r = some (I 1)) ∨ (PX eNSE h' ∧ r = some (I 2))) := by
  refine MH.start hW (by decide) [.val (.ref a), .val (I n), .val (I v), .val (.ref out), .unset] rfl ?_
  rintro X rfl rfl rfl hT hX
  have kx : ∀ (E : String) (h' : AH), PX E h' → ∃ hp, catW yL_minorBy.cls 5 E [(0, 10, 13, 45), (0, 10, 17, 40)] [eIOO, eNSE] = some hp ∧ ∀ q : Nat, WA X h' 0 0 hp [.val (.ref a), .val (I n), .val (I v), .val (.ref out), .unset] [.ref q] := by
    intro E9 h9 p9
    rcases hx E9 h9 p9 with rfl | rfl
    · refine ⟨13, by decide +kernel, fun q => ?_⟩
      refine wa_astore hX dL_minorBy_13 rfl ?_
      dsimp only [List.set]
      refine wi_iconst hX dL_minorBy_15 ?_
      refine wa_iret hX dL_minorBy_16 ?_
      exact Or.inr (Or.inl ⟨p9, rfl⟩)
    · refine ⟨17, by decide +kernel, fun q => ?_⟩
      refine wa_astore hX dL_minorBy_17 rfl ?_
      dsimp only [List.set]
      refine wi_iconst hX dL_minorBy_19 ?_
      refine wa_iret hX dL_minorBy_20 ?_
      exact Or.inr (Or.inr (⟨p9, rfl⟩))
  refine WA.room (k2 := 0 + mc1) (sl2 := 0 + ms1) (by omega) (by omega) ?_
  refine wa_aload_n hX (i := 3) dL_minorBy_0 rfl rfl ?_
  refine wi_iconst hX dL_minorBy_1 ?_
  refine wa_aload_n hX (i := 0) dL_minorBy_2 rfl rfl ?_
  refine wa_iload_n hX (i := 1) dL_minorBy_3 rfl rfl ?_
  refine wa_iload_n hX (i := 2) dL_minorBy_4 rfl rfl ?_
  refine wa_callVH hX [eIOO, eNSE] hT hM ha (by rfl) (by rfl) (by omega) (nA := 2) (by rfl) (by decide +kernel) rfl (by exact Nat.le_of_ble_eq_true rfl) dL_minorBy_5 (fun r5 h5 p5 => ?_) kx
  obtain ⟨⟨z, rfl⟩, hG⟩ := h0 _ _ p5
  dsimp only [Option.toList, List.cons_append, List.nil_append]
  refine wa_i2l hX dL_minorBy_8 ?_
  refine wi_lastore hX hG (by decide) (by decide) (by decide) dL_minorBy_9 ?_
  rw [show (0 : Int).toNat = 0 from rfl]
  refine wa_goto hX (tgt := 21) dL_minorBy_10 (by decide) ?_
  refine wi_iconst hX dL_minorBy_21 ?_
  refine wa_iret hX dL_minorBy_22 ?_
  exact Or.inl ⟨z, h5, p5, rfl, rfl⟩
set_option maxHeartbeats 1000000 in
set_option maxRecDepth 100000 in
theorem c_L_minorWithout (hW : WOK l D S0) (d : Nat) {h : AH} {a la out lo : Nat} {fs : List Value} {G : Nat → Int64} {mc1 ms1 : Nat} {P1 : Option Value → AH → Prop} {PX : String → AH → Prop} {n : Int} {v : Int} (ha : h a = some (la, oF 11 fs)) (hM : MA l D S0 yX10_minorWithout cX10_minorWithout 3 (some .int) d [.ref a, I n, I v] h mc1 ms1 P1 PX) (h0 : ∀ r h', P1 r h' → (∃ z : Int, r = some (I z)) ∧ h' out = some (lo, aL 1 G)) (hx : ∀ E h', PX E h' → E = eIOO ∨ E = eNSE) : MH l D S0 yL_minorWithout cL_minorWithout 5 (some .int) [(0, 10, 13, 45), (0, 10, 17, 40)] (d + 1) [.ref a, I n, I v, .ref out] h mc1 ms1 (fun r h' => (∃ (z : Int) (h1 : AH), P1 (some (I z)) h1 ∧ r = some (I 0) ∧ h' = hset h1 out (lo, aL 1 (up G 0 (Int32.ofInt z).toInt64))) ∨ (PX eIOO h' ∧ r = some (I 1)) ∨ (PX eNSE h' ∧ r = some (I 2))) := by
  refine MH.start hW (by decide) [.val (.ref a), .val (I n), .val (I v), .val (.ref out), .unset] rfl ?_
  rintro X rfl rfl rfl hT hX
  have kx : ∀ (E : String) (h' : AH), PX E h' → ∃ hp, catW yL_minorWithout.cls 5 E [(0, 10, 13, 45), (0, 10, 17, 40)] [eIOO, eNSE] = some hp ∧ ∀ q : Nat, WA X h' 0 0 hp [.val (.ref a), .val (I n), .val (I v), .val (.ref out), .unset] [.ref q] := by
    intro E9 h9 p9
    rcases hx E9 h9 p9 with rfl | rfl
    · refine ⟨13, by decide +kernel, fun q => ?_⟩
      refine wa_astore hX dL_minorWithout_13 rfl ?_
      dsimp only [List.set]
      refine wi_iconst hX dL_minorWithout_15 ?_
      refine wa_iret hX dL_minorWithout_16 ?_
      exact Or.inr (Or.inl ⟨p9, rfl⟩)
    · refine ⟨17, by decide +kernel, fun q => ?_⟩
      refine wa_astore hX dL_minorWithout_17 rfl ?_
      dsimp only [List.set]
      refine wi_iconst hX dL_minorWithout_19 ?_
      refine wa_iret hX dL_minorWithout_20 ?_
      exact Or.inr (Or.inr (⟨p9, rfl⟩))
  refine WA.room (k2 := 0 + mc1) (sl2 := 0 + ms1) (by omega) (by omega) ?_
  refine wa_aload_n hX (i := 3) dL_minorWithout_0 rfl rfl ?_
  refine wi_iconst hX dL_minorWithout_1 ?_
  refine wa_aload_n hX (i := 0) dL_minorWithout_2 rfl rfl ?_
  refine wa_iload_n hX (i := 1) dL_minorWithout_3 rfl rfl ?_
  refine wa_iload_n hX (i := 2) dL_minorWithout_4 rfl rfl ?_
  refine wa_callVH hX [eIOO, eNSE] hT hM ha (by rfl) (by rfl) (by omega) (nA := 2) (by rfl) (by decide +kernel) rfl (by exact Nat.le_of_ble_eq_true rfl) dL_minorWithout_5 (fun r5 h5 p5 => ?_) kx
  obtain ⟨⟨z, rfl⟩, hG⟩ := h0 _ _ p5
  dsimp only [Option.toList, List.cons_append, List.nil_append]
  refine wa_i2l hX dL_minorWithout_8 ?_
  refine wi_lastore hX hG (by decide) (by decide) (by decide) dL_minorWithout_9 ?_
  rw [show (0 : Int).toNat = 0 from rfl]
  refine wa_goto hX (tgt := 21) dL_minorWithout_10 (by decide) ?_
  refine wi_iconst hX dL_minorWithout_21 ?_
  refine wa_iret hX dL_minorWithout_22 ?_
  exact Or.inl ⟨z, h5, p5, rfl, rfl⟩
set_option maxHeartbeats 1000000 in
set_option maxRecDepth 100000 in
theorem c_L_canBeDrawn (hW : WOK l D S0) (d : Nat) {h : AH} {a la out lo : Nat} {fs : List Value} {G : Nat → Int64} {mc1 ms1 : Nat} {P1 : Option Value → AH → Prop} {PX : String → AH → Prop} {n : Int} {v : Int} (ha : h a = some (la, oF 11 fs)) (hM : MA l D S0 yX10_canBeDrawn cX10_canBeDrawn 3 (some .boolean) d [.ref a, I n, I v] h mc1 ms1 P1 PX) (h0 : ∀ r h', P1 r h' → (∃ b : Bool, r = some (I ((b2n b : Nat) : Int))) ∧ h' out = some (lo, aL 1 G)) (hx : ∀ E h', PX E h' → E = eIOO ∨ E = eIAE) : MH l D S0 yL_canBeDrawn cL_canBeDrawn 5 (some .int) [(0, 17, 20, 45), (0, 17, 24, 13)] (d + 1) [.ref a, I n, I v, .ref out] h mc1 ms1 (fun r h' => (∃ (b : Bool) (h1 : AH), P1 (some (I ((b2n b : Nat) : Int))) h1 ∧ r = some (I 0) ∧ h' = hset h1 out (lo, aL 1 (up G 0 (if b = true then (1 : Int64) else 0)))) ∨ (PX eIOO h' ∧ r = some (I 1)) ∨ (PX eIAE h' ∧ r = some (I 2))) := by
  refine MH.start hW (by decide) [.val (.ref a), .val (I n), .val (I v), .val (.ref out), .unset] rfl ?_
  rintro X rfl rfl rfl hT hX
  have kx : ∀ (E : String) (h' : AH), PX E h' → ∃ hp, catW yL_canBeDrawn.cls 5 E [(0, 17, 20, 45), (0, 17, 24, 13)] [eIOO, eIAE] = some hp ∧ ∀ q : Nat, WA X h' 0 0 hp [.val (.ref a), .val (I n), .val (I v), .val (.ref out), .unset] [.ref q] := by
    intro E9 h9 p9
    rcases hx E9 h9 p9 with rfl | rfl
    · refine ⟨20, by decide +kernel, fun q => ?_⟩
      refine wa_astore hX dL_canBeDrawn_20 rfl ?_
      dsimp only [List.set]
      refine wi_iconst hX dL_canBeDrawn_22 ?_
      refine wa_iret hX dL_canBeDrawn_23 ?_
      exact Or.inr (Or.inl ⟨p9, rfl⟩)
    · refine ⟨24, by decide +kernel, fun q => ?_⟩
      refine wa_astore hX dL_canBeDrawn_24 rfl ?_
      dsimp only [List.set]
      refine wi_iconst hX dL_canBeDrawn_26 ?_
      refine wa_iret hX dL_canBeDrawn_27 ?_
      exact Or.inr (Or.inr (⟨p9, rfl⟩))
  refine WA.room (k2 := 0 + mc1) (sl2 := 0 + ms1) (by omega) (by omega) ?_
  refine wa_aload_n hX (i := 3) dL_canBeDrawn_0 rfl rfl ?_
  refine wi_iconst hX dL_canBeDrawn_1 ?_
  refine wa_aload_n hX (i := 0) dL_canBeDrawn_2 rfl rfl ?_
  refine wa_iload_n hX (i := 1) dL_canBeDrawn_3 rfl rfl ?_
  refine wa_iload_n hX (i := 2) dL_canBeDrawn_4 rfl rfl ?_
  refine wa_callVH hX [eIOO, eIAE] hT hM ha (by rfl) (by rfl) (by omega) (nA := 2) (by rfl) (by decide +kernel) rfl (by exact Nat.le_of_ble_eq_true rfl) dL_canBeDrawn_5 (fun r5 h5 p5 => ?_) kx
  obtain ⟨⟨b, rfl⟩, hG⟩ := h0 _ _ p5
  dsimp only [Option.toList, List.cons_append, List.nil_append]
  refine wi_if_eq hX (tgt := 15) dL_canBeDrawn_8 (by decide) (by exact b2n_inR _) (fun c8 => ?_) (fun c8 => ?_)
  · skip
    refine wa_lconst hX dL_canBeDrawn_15 ?_
    refine wi_lastore hX hG (by decide) (by decide) (by decide) dL_canBeDrawn_16 ?_
    rw [show (0 : Int).toNat = 0 from rfl]
    refine wa_goto hX (tgt := 28) dL_canBeDrawn_17 (by decide) ?_
    refine wi_iconst hX dL_canBeDrawn_28 ?_
    refine wa_iret hX dL_canBeDrawn_29 ?_
    first
      | (have q := b2n_t c8
         subst q
         exact Or.inl ⟨true, h5, p5, rfl, rfl⟩)
      | (have q := b2n_f c8
         subst q
         exact Or.inl ⟨false, h5, p5, rfl, rfl⟩)
  · skip
    refine wa_lconst hX dL_canBeDrawn_11 ?_
    refine wa_goto hX (tgt := 16) dL_canBeDrawn_12 (by decide) ?_
    refine wi_lastore hX hG (by decide) (by decide) (by decide) dL_canBeDrawn_16 ?_
    rw [show (0 : Int).toNat = 0 from rfl]
    refine wa_goto hX (tgt := 28) dL_canBeDrawn_17 (by decide) ?_
    refine wi_iconst hX dL_canBeDrawn_28 ?_
    refine wa_iret hX dL_canBeDrawn_29 ?_
    first
      | (have q := b2n_t c8
         subst q
         exact Or.inl ⟨true, h5, p5, rfl, rfl⟩)
      | (have q := b2n_f c8
         subst q
         exact Or.inl ⟨false, h5, p5, rfl, rfl⟩)
set_option maxHeartbeats 1000000 in
set_option maxRecDepth 100000 in
theorem c_L_entry (hW : WOK l D S0) (d : Nat) {h : AH} {a la out lo : Nat} {fs : List Value} {G : Nat → Int64} {mc1 ms1 : Nat} {P1 : Option Value → AH → Prop} {PX : String → AH → Prop} {n : Int} {v : Int} {x : Int} {y : Int} (ha : h a = some (la, oF 11 fs)) (hM : MA l D S0 yX10_entry cX10_entry 7 (some .int) d [.ref a, I n, I v, I x, I y] h mc1 ms1 P1 PX) (h0 : ∀ r h', P1 r h' → (∃ z : Int, r = some (I z)) ∧ h' out = some (lo, aL 1 G)) (hx : ∀ E h', PX E h' → E = eIOO ∨ E = eIAE ∨ E = eNSE) : MH l D S0 yL_entry cL_entry 7 (some .int) [(0, 14, 17, 45), (0, 14, 21, 13), (0, 14, 25, 40)] (d + 1) [.ref a, I n, I v, I x, I y, .ref out] h mc1 ms1 (fun r h' => (∃ (z : Int) (h1 : AH), P1 (some (I z)) h1 ∧ r = some (I 0) ∧ h' = hset h1 out (lo, aL 1 (up G 0 (Int32.ofInt z).toInt64))) ∨ (PX eIOO h' ∧ r = some (I 1)) ∨ (PX eIAE h' ∧ r = some (I 2)) ∨ (PX eNSE h' ∧ r = some (I 3))) := by
  refine MH.start hW (by decide) [.val (.ref a), .val (I n), .val (I v), .val (I x), .val (I y), .val (.ref out), .unset] rfl ?_
  rintro X rfl rfl rfl hT hX
  have kx : ∀ (E : String) (h' : AH), PX E h' → ∃ hp, catW yL_entry.cls 9 E [(0, 14, 17, 45), (0, 14, 21, 13), (0, 14, 25, 40)] [eIOO, eIAE, eNSE] = some hp ∧ ∀ q : Nat, WA X h' 0 0 hp [.val (.ref a), .val (I n), .val (I v), .val (I x), .val (I y), .val (.ref out), .unset] [.ref q] := by
    intro E9 h9 p9
    rcases hx E9 h9 p9 with rfl | rfl | rfl
    · refine ⟨17, by decide +kernel, fun q => ?_⟩
      refine wa_astore hX dL_entry_17 rfl ?_
      dsimp only [List.set]
      refine wi_iconst hX dL_entry_19 ?_
      refine wa_iret hX dL_entry_20 ?_
      exact Or.inr (Or.inl ⟨p9, rfl⟩)
    · refine ⟨21, by decide +kernel, fun q => ?_⟩
      refine wa_astore hX dL_entry_21 rfl ?_
      dsimp only [List.set]
      refine wi_iconst hX dL_entry_23 ?_
      refine wa_iret hX dL_entry_24 ?_
      exact Or.inr (Or.inr (Or.inl ⟨p9, rfl⟩))
    · refine ⟨25, by decide +kernel, fun q => ?_⟩
      refine wa_astore hX dL_entry_25 rfl ?_
      dsimp only [List.set]
      refine wi_iconst hX dL_entry_27 ?_
      refine wa_iret hX dL_entry_28 ?_
      exact Or.inr (Or.inr (Or.inr (⟨p9, rfl⟩)))
  refine WA.room (k2 := 0 + mc1) (sl2 := 0 + ms1) (by omega) (by omega) ?_
  refine wa_aload hX dL_entry_0 rfl ?_
  refine wi_iconst hX dL_entry_2 ?_
  refine wa_aload_n hX (i := 0) dL_entry_3 rfl rfl ?_
  refine wa_iload_n hX (i := 1) dL_entry_4 rfl rfl ?_
  refine wa_iload_n hX (i := 2) dL_entry_5 rfl rfl ?_
  refine wa_iload_n hX (i := 3) dL_entry_6 rfl rfl ?_
  refine wa_iload hX dL_entry_7 rfl ?_
  refine wa_callVH hX [eIOO, eIAE, eNSE] hT hM ha (by rfl) (by rfl) (by omega) (nA := 4) (by rfl) (by decide +kernel) rfl (by exact Nat.le_of_ble_eq_true rfl) dL_entry_9 (fun r9 h9 p9 => ?_) kx
  obtain ⟨⟨z, rfl⟩, hG⟩ := h0 _ _ p9
  dsimp only [Option.toList, List.cons_append, List.nil_append]
  refine wa_i2l hX dL_entry_12 ?_
  refine wi_lastore hX hG (by decide) (by decide) (by decide) dL_entry_13 ?_
  rw [show (0 : Int).toNat = 0 from rfl]
  refine wa_goto hX (tgt := 29) dL_entry_14 (by decide) ?_
  refine wi_iconst hX dL_entry_29 ?_
  refine wa_iret hX dL_entry_30 ?_
  exact Or.inl ⟨z, h9, p9, rfl, rfl⟩
set_option maxHeartbeats 1000000 in
set_option maxRecDepth 100000 in
theorem c_L_greedy (hW : WOK l D S0) (d : Nat) {h : AH} {a la out lo : Nat} {fs : List Value} {G : Nat → Int64} {mc1 ms1 : Nat} {P1 : Option Value → AH → Prop} {PX : String → AH → Prop} {n : Int} (ha : h a = some (la, oF 11 fs)) (hM : MA l D S0 yX10_greedy cX10_greedy 3 (some .int) d [.ref a, I n] h mc1 ms1 P1 PX) (h0 : ∀ r h', P1 r h' → (∃ z : Int, r = some (I z)) ∧ h' out = some (lo, aL 1 G)) (hx : ∀ E h', PX E h' → E = eIOO ∨ E = eUOE) : MH l D S0 yL_greedy cL_greedy 4 (some .int) [(0, 9, 12, 45), (0, 9, 15, 25)] (d + 1) [.ref a, I n, .ref out] h mc1 ms1 (fun r h' => (∃ (z : Int) (h1 : AH), P1 (some (I z)) h1 ∧ r = some (I 0) ∧ h' = hset h1 out (lo, aL 1 (up G 0 (Int32.ofInt z).toInt64))) ∨ (PX eIOO h' ∧ r = some (I 1)) ∨ (PX eUOE h' ∧ r = some (I 2))) := by
  refine MH.start hW (by decide) [.val (.ref a), .val (I n), .val (.ref out), .unset] rfl ?_
  rintro X rfl rfl rfl hT hX
  have kx : ∀ (E : String) (h' : AH), PX E h' → ∃ hp, catW yL_greedy.cls 4 E [(0, 9, 12, 45), (0, 9, 15, 25)] [eIOO, eUOE] = some hp ∧ ∀ q : Nat, WA X h' 0 0 hp [.val (.ref a), .val (I n), .val (.ref out), .unset] [.ref q] := by
    intro E9 h9 p9
    rcases hx E9 h9 p9 with rfl | rfl
    · refine ⟨12, by decide +kernel, fun q => ?_⟩
      refine wa_astore_n hX (i := 3) dL_greedy_12 rfl rfl ?_
      dsimp only [List.set]
      refine wi_iconst hX dL_greedy_13 ?_
      refine wa_iret hX dL_greedy_14 ?_
      exact Or.inr (Or.inl ⟨p9, rfl⟩)
    · refine ⟨15, by decide +kernel, fun q => ?_⟩
      refine wa_astore_n hX (i := 3) dL_greedy_15 rfl rfl ?_
      dsimp only [List.set]
      refine wi_iconst hX dL_greedy_16 ?_
      refine wa_iret hX dL_greedy_17 ?_
      exact Or.inr (Or.inr (⟨p9, rfl⟩))
  refine WA.room (k2 := 0 + mc1) (sl2 := 0 + ms1) (by omega) (by omega) ?_
  refine wa_aload_n hX (i := 2) dL_greedy_0 rfl rfl ?_
  refine wi_iconst hX dL_greedy_1 ?_
  refine wa_aload_n hX (i := 0) dL_greedy_2 rfl rfl ?_
  refine wa_iload_n hX (i := 1) dL_greedy_3 rfl rfl ?_
  refine wa_callVH hX [eIOO, eUOE] hT hM ha (by rfl) (by rfl) (by omega) (nA := 1) (by rfl) (by decide +kernel) rfl (by exact Nat.le_of_ble_eq_true rfl) dL_greedy_4 (fun r4 h4 p4 => ?_) kx
  obtain ⟨⟨z, rfl⟩, hG⟩ := h0 _ _ p4
  dsimp only [Option.toList, List.cons_append, List.nil_append]
  refine wa_i2l hX dL_greedy_7 ?_
  refine wi_lastore hX hG (by decide) (by decide) (by decide) dL_greedy_8 ?_
  rw [show (0 : Int).toNat = 0 from rfl]
  refine wa_goto hX (tgt := 18) dL_greedy_9 (by decide) ?_
  refine wi_iconst hX dL_greedy_18 ?_
  refine wa_iret hX dL_greedy_19 ?_
  exact Or.inl ⟨z, h4, p4, rfl, rfl⟩
end C9s
