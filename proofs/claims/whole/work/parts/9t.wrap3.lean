/-! The law's wrappers, 3 -/
section C9t
variable {l : Launch} {D : va_G} {S0 : State}
set_option maxHeartbeats 1000000 in
set_option maxRecDepth 100000 in
theorem c_L_common (hW : WOK l D S0) (d : Nat) {h : AH} {a la out lo : Nat} {fs : List Value} {G : Nat → Int64} {mc1 ms1 : Nat} {P1 : Option Value → AH → Prop} {PX : String → AH → Prop} {n : Int} {v : Int} (ha : h a = some (la, oF 11 fs)) (hM : MA l D S0 yX10_common cX10_common 3 (some .int) d [.ref a, I n, I v] h mc1 ms1 P1 PX) (h0 : ∀ r h', P1 r h' → (∃ z : Int, r = some (I z)) ∧ h' out = some (lo, aL 1 G)) (hx : ∀ E h', PX E h' → E = eIOO ∨ E = eUOE) : MH l D S0 yL_common cL_common 5 (some .int) [(0, 10, 13, 45), (0, 10, 17, 25)] (d + 1) [.ref a, I n, I v, .ref out] h mc1 ms1 (fun r h' => (∃ (z : Int) (h1 : AH), P1 (some (I z)) h1 ∧ r = some (I 0) ∧ h' = hset h1 out (lo, aL 1 (up G 0 (Int32.ofInt z).toInt64))) ∨ (PX eIOO h' ∧ r = some (I 1)) ∨ (PX eUOE h' ∧ r = some (I 2))) := by
  refine MH.start hW (by decide) [.val (.ref a), .val (I n), .val (I v), .val (.ref out), .unset] rfl ?_
  rintro X rfl rfl rfl hT hX
  have kx : ∀ (E : String) (h' : AH), PX E h' → ∃ hp, catW yL_common.cls 5 E [(0, 10, 13, 45), (0, 10, 17, 25)] [eIOO, eUOE] = some hp ∧ ∀ q : Nat, WA X h' 0 0 hp [.val (.ref a), .val (I n), .val (I v), .val (.ref out), .unset] [.ref q] := by
    intro E9 h9 p9
    rcases hx E9 h9 p9 with rfl | rfl
    · refine ⟨13, by decide +kernel, fun q => ?_⟩
      refine wa_astore hX dL_common_13 rfl ?_
      dsimp only [List.set]
      refine wi_iconst hX dL_common_15 ?_
      refine wa_iret hX dL_common_16 ?_
      exact Or.inr (Or.inl ⟨p9, rfl⟩)
    · refine ⟨17, by decide +kernel, fun q => ?_⟩
      refine wa_astore hX dL_common_17 rfl ?_
      dsimp only [List.set]
      refine wi_iconst hX dL_common_19 ?_
      refine wa_iret hX dL_common_20 ?_
      exact Or.inr (Or.inr (⟨p9, rfl⟩))
  refine WA.room (k2 := 0 + mc1) (sl2 := 0 + ms1) (by omega) (by omega) ?_
  refine wa_aload_n hX (i := 3) dL_common_0 rfl rfl ?_
  refine wi_iconst hX dL_common_1 ?_
  refine wa_aload_n hX (i := 0) dL_common_2 rfl rfl ?_
  refine wa_iload_n hX (i := 1) dL_common_3 rfl rfl ?_
  refine wa_iload_n hX (i := 2) dL_common_4 rfl rfl ?_
  refine wa_callVH hX [eIOO, eUOE] hT hM ha (by rfl) (by rfl) (by omega) (nA := 2) (by rfl) (by decide +kernel) rfl (by exact Nat.le_of_ble_eq_true rfl) dL_common_5 (fun r5 h5 p5 => ?_) kx
  obtain ⟨⟨z, rfl⟩, hG⟩ := h0 _ _ p5
  dsimp only [Option.toList, List.cons_append, List.nil_append]
  refine wa_i2l hX dL_common_8 ?_
  refine wi_lastore hX hG (by decide) (by decide) (by decide) dL_common_9 ?_
  rw [show (0 : Int).toNat = 0 from rfl]
  refine wa_goto hX (tgt := 21) dL_common_10 (by decide) ?_
  refine wi_iconst hX dL_common_21 ?_
  refine wa_iret hX dL_common_22 ?_
  exact Or.inl ⟨z, h5, p5, rfl, rfl⟩
set_option maxHeartbeats 1000000 in
set_option maxRecDepth 100000 in
theorem c_L_commonSet (hW : WOK l D S0) (d : Nat) {h : AH} {a la out lo : Nat} {fs : List Value} {G : Nat → Int64} {mc1 ms1 : Nat} {P1 : Option Value → AH → Prop} {PX : String → AH → Prop} {n : Int} {v : Int} (ha : h a = some (la, oF 11 fs)) (hM : MA l D S0 yX10_commonSet cX10_commonSet 5 (some .int) d [.ref a, I n, I v] h mc1 ms1 P1 PX) (h0 : ∀ r h', P1 r h' → (∃ z : Int, r = some (I z)) ∧ h' out = some (lo, aL 1 G)) (hx : ∀ E h', PX E h' → E = eIOO ∨ E = eUOE) : MH l D S0 yL_commonSet cL_commonSet 5 (some .int) [(0, 10, 13, 45), (0, 10, 17, 25)] (d + 1) [.ref a, I n, I v, .ref out] h mc1 ms1 (fun r h' => (∃ (z : Int) (h1 : AH), P1 (some (I z)) h1 ∧ r = some (I 0) ∧ h' = hset h1 out (lo, aL 1 (up G 0 (Int32.ofInt z).toInt64))) ∨ (PX eIOO h' ∧ r = some (I 1)) ∨ (PX eUOE h' ∧ r = some (I 2))) := by
  refine MH.start hW (by decide) [.val (.ref a), .val (I n), .val (I v), .val (.ref out), .unset] rfl ?_
  rintro X rfl rfl rfl hT hX
  have kx : ∀ (E : String) (h' : AH), PX E h' → ∃ hp, catW yL_commonSet.cls 5 E [(0, 10, 13, 45), (0, 10, 17, 25)] [eIOO, eUOE] = some hp ∧ ∀ q : Nat, WA X h' 0 0 hp [.val (.ref a), .val (I n), .val (I v), .val (.ref out), .unset] [.ref q] := by
    intro E9 h9 p9
    rcases hx E9 h9 p9 with rfl | rfl
    · refine ⟨13, by decide +kernel, fun q => ?_⟩
      refine wa_astore hX dL_commonSet_13 rfl ?_
      dsimp only [List.set]
      refine wi_iconst hX dL_commonSet_15 ?_
      refine wa_iret hX dL_commonSet_16 ?_
      exact Or.inr (Or.inl ⟨p9, rfl⟩)
    · refine ⟨17, by decide +kernel, fun q => ?_⟩
      refine wa_astore hX dL_commonSet_17 rfl ?_
      dsimp only [List.set]
      refine wi_iconst hX dL_commonSet_19 ?_
      refine wa_iret hX dL_commonSet_20 ?_
      exact Or.inr (Or.inr (⟨p9, rfl⟩))
  refine WA.room (k2 := 0 + mc1) (sl2 := 0 + ms1) (by omega) (by omega) ?_
  refine wa_aload_n hX (i := 3) dL_commonSet_0 rfl rfl ?_
  refine wi_iconst hX dL_commonSet_1 ?_
  refine wa_aload_n hX (i := 0) dL_commonSet_2 rfl rfl ?_
  refine wa_iload_n hX (i := 1) dL_commonSet_3 rfl rfl ?_
  refine wa_iload_n hX (i := 2) dL_commonSet_4 rfl rfl ?_
  refine wa_callVH hX [eIOO, eUOE] hT hM ha (by rfl) (by rfl) (by omega) (nA := 2) (by rfl) (by decide +kernel) rfl (by exact Nat.le_of_ble_eq_true rfl) dL_commonSet_5 (fun r5 h5 p5 => ?_) kx
  obtain ⟨⟨z, rfl⟩, hG⟩ := h0 _ _ p5
  dsimp only [Option.toList, List.cons_append, List.nil_append]
  refine wa_i2l hX dL_commonSet_8 ?_
  refine wi_lastore hX hG (by decide) (by decide) (by decide) dL_commonSet_9 ?_
  rw [show (0 : Int).toNat = 0 from rfl]
  refine wa_goto hX (tgt := 21) dL_commonSet_10 (by decide) ?_
  refine wi_iconst hX dL_commonSet_21 ?_
  refine wa_iret hX dL_commonSet_22 ?_
  exact Or.inl ⟨z, h5, p5, rfl, rfl⟩
set_option maxHeartbeats 1000000 in
set_option maxRecDepth 100000 in
theorem c_L_commonBound (hW : WOK l D S0) (d : Nat) {h : AH} {a la out lo : Nat} {fs : List Value} {G : Nat → Int64} {mc1 ms1 : Nat} {P1 : Option Value → AH → Prop} {PX : String → AH → Prop} {n : Int} {v : Int} (ha : h a = some (la, oF 11 fs)) (hM : MA l D S0 yX10_commonBound cX10_commonBound 5 (some .int) d [.ref a, I n, I v] h mc1 ms1 P1 PX) (h0 : ∀ r h', P1 r h' → (∃ z : Int, r = some (I z)) ∧ h' out = some (lo, aL 1 G)) (hx : ∀ E h', PX E h' → E = eIOO ∨ E = eUOE) : MH l D S0 yL_commonBound cL_commonBound 5 (some .int) [(0, 10, 13, 45), (0, 10, 17, 25)] (d + 1) [.ref a, I n, I v, .ref out] h mc1 ms1 (fun r h' => (∃ (z : Int) (h1 : AH), P1 (some (I z)) h1 ∧ r = some (I 0) ∧ h' = hset h1 out (lo, aL 1 (up G 0 (Int32.ofInt z).toInt64))) ∨ (PX eIOO h' ∧ r = some (I 1)) ∨ (PX eUOE h' ∧ r = some (I 2))) := by
  refine MH.start hW (by decide) [.val (.ref a), .val (I n), .val (I v), .val (.ref out), .unset] rfl ?_
  rintro X rfl rfl rfl hT hX
  have kx : ∀ (E : String) (h' : AH), PX E h' → ∃ hp, catW yL_commonBound.cls 5 E [(0, 10, 13, 45), (0, 10, 17, 25)] [eIOO, eUOE] = some hp ∧ ∀ q : Nat, WA X h' 0 0 hp [.val (.ref a), .val (I n), .val (I v), .val (.ref out), .unset] [.ref q] := by
    intro E9 h9 p9
    rcases hx E9 h9 p9 with rfl | rfl
    · refine ⟨13, by decide +kernel, fun q => ?_⟩
      refine wa_astore hX dL_commonBound_13 rfl ?_
      dsimp only [List.set]
      refine wi_iconst hX dL_commonBound_15 ?_
      refine wa_iret hX dL_commonBound_16 ?_
      exact Or.inr (Or.inl ⟨p9, rfl⟩)
    · refine ⟨17, by decide +kernel, fun q => ?_⟩
      refine wa_astore hX dL_commonBound_17 rfl ?_
      dsimp only [List.set]
      refine wi_iconst hX dL_commonBound_19 ?_
      refine wa_iret hX dL_commonBound_20 ?_
      exact Or.inr (Or.inr (⟨p9, rfl⟩))
  refine WA.room (k2 := 0 + mc1) (sl2 := 0 + ms1) (by omega) (by omega) ?_
  refine wa_aload_n hX (i := 3) dL_commonBound_0 rfl rfl ?_
  refine wi_iconst hX dL_commonBound_1 ?_
  refine wa_aload_n hX (i := 0) dL_commonBound_2 rfl rfl ?_
  refine wa_iload_n hX (i := 1) dL_commonBound_3 rfl rfl ?_
  refine wa_iload_n hX (i := 2) dL_commonBound_4 rfl rfl ?_
  refine wa_callVH hX [eIOO, eUOE] hT hM ha (by rfl) (by rfl) (by omega) (nA := 2) (by rfl) (by decide +kernel) rfl (by exact Nat.le_of_ble_eq_true rfl) dL_commonBound_5 (fun r5 h5 p5 => ?_) kx
  obtain ⟨⟨z, rfl⟩, hG⟩ := h0 _ _ p5
  dsimp only [Option.toList, List.cons_append, List.nil_append]
  refine wa_i2l hX dL_commonBound_8 ?_
  refine wi_lastore hX hG (by decide) (by decide) (by decide) dL_commonBound_9 ?_
  rw [show (0 : Int).toNat = 0 from rfl]
  refine wa_goto hX (tgt := 21) dL_commonBound_10 (by decide) ?_
  refine wi_iconst hX dL_commonBound_21 ?_
  refine wa_iret hX dL_commonBound_22 ?_
  exact Or.inl ⟨z, h5, p5, rfl, rfl⟩
set_option maxHeartbeats 1000000 in
set_option maxRecDepth 100000 in
theorem c_L_cover (hW : WOK l D S0) (d : Nat) {h : AH} {a la out lo : Nat} {fs : List Value} {G : Nat → Int64} {mc1 ms1 : Nat} {P1 : Option Value → AH → Prop} {PX : String → AH → Prop} {n : Int} (ha : h a = some (la, oF 11 fs)) (hM : MA l D S0 yX10_cover cX10_cover 3 (some .int) d [.ref a, I n] h mc1 ms1 P1 PX) (h0 : ∀ r h', P1 r h' → (∃ z : Int, r = some (I z)) ∧ h' out = some (lo, aL 1 G)) (hx : ∀ E h', PX E h' → E = eIOO ∨ E = eUOE) : MH l D S0 yL_cover cL_cover 4 (some .int) [(0, 9, 12, 45), (0, 9, 15, 25)] (d + 1) [.ref a, I n, .ref out] h mc1 ms1 (fun r h' => (∃ (z : Int) (h1 : AH), P1 (some (I z)) h1 ∧ r = some (I 0) ∧ h' = hset h1 out (lo, aL 1 (up G 0 (Int32.ofInt z).toInt64))) ∨ (PX eIOO h' ∧ r = some (I 1)) ∨ (PX eUOE h' ∧ r = some (I 2))) := by
  refine MH.start hW (by decide) [.val (.ref a), .val (I n), .val (.ref out), .unset] rfl ?_
  rintro X rfl rfl rfl hT hX
  have kx : ∀ (E : String) (h' : AH), PX E h' → ∃ hp, catW yL_cover.cls 4 E [(0, 9, 12, 45), (0, 9, 15, 25)] [eIOO, eUOE] = some hp ∧ ∀ q : Nat, WA X h' 0 0 hp [.val (.ref a), .val (I n), .val (.ref out), .unset] [.ref q] := by
    intro E9 h9 p9
    rcases hx E9 h9 p9 with rfl | rfl
    · refine ⟨12, by decide +kernel, fun q => ?_⟩
      refine wa_astore_n hX (i := 3) dL_cover_12 rfl rfl ?_
      dsimp only [List.set]
      refine wi_iconst hX dL_cover_13 ?_
      refine wa_iret hX dL_cover_14 ?_
      exact Or.inr (Or.inl ⟨p9, rfl⟩)
    · refine ⟨15, by decide +kernel, fun q => ?_⟩
      refine wa_astore_n hX (i := 3) dL_cover_15 rfl rfl ?_
      dsimp only [List.set]
      refine wi_iconst hX dL_cover_16 ?_
      refine wa_iret hX dL_cover_17 ?_
      exact Or.inr (Or.inr (⟨p9, rfl⟩))
  refine WA.room (k2 := 0 + mc1) (sl2 := 0 + ms1) (by omega) (by omega) ?_
  refine wa_aload_n hX (i := 2) dL_cover_0 rfl rfl ?_
  refine wi_iconst hX dL_cover_1 ?_
  refine wa_aload_n hX (i := 0) dL_cover_2 rfl rfl ?_
  refine wa_iload_n hX (i := 1) dL_cover_3 rfl rfl ?_
  refine wa_callVH hX [eIOO, eUOE] hT hM ha (by rfl) (by rfl) (by omega) (nA := 1) (by rfl) (by decide +kernel) rfl (by exact Nat.le_of_ble_eq_true rfl) dL_cover_4 (fun r4 h4 p4 => ?_) kx
  obtain ⟨⟨z, rfl⟩, hG⟩ := h0 _ _ p4
  dsimp only [Option.toList, List.cons_append, List.nil_append]
  refine wa_i2l hX dL_cover_7 ?_
  refine wi_lastore hX hG (by decide) (by decide) (by decide) dL_cover_8 ?_
  rw [show (0 : Int).toNat = 0 from rfl]
  refine wa_goto hX (tgt := 18) dL_cover_9 (by decide) ?_
  refine wi_iconst hX dL_cover_18 ?_
  refine wa_iret hX dL_cover_19 ?_
  exact Or.inl ⟨z, h4, p4, rfl, rfl⟩
set_option maxHeartbeats 1000000 in
set_option maxRecDepth 100000 in
theorem c_L_coverBound (hW : WOK l D S0) (d : Nat) {h : AH} {a la out lo : Nat} {fs : List Value} {G : Nat → Int64} {mc1 ms1 : Nat} {P1 : Option Value → AH → Prop} {PX : String → AH → Prop} {n : Int} (ha : h a = some (la, oF 11 fs)) (hM : MA l D S0 yX10_coverBound cX10_coverBound 3 (some .int) d [.ref a, I n] h mc1 ms1 P1 PX) (h0 : ∀ r h', P1 r h' → (∃ z : Int, r = some (I z)) ∧ h' out = some (lo, aL 1 G)) (hx : ∀ E h', PX E h' → E = eIOO ∨ E = eUOE ∨ E = eNSE) : MH l D S0 yL_coverBound cL_coverBound 4 (some .int) [(0, 9, 12, 45), (0, 9, 15, 25), (0, 9, 18, 40)] (d + 1) [.ref a, I n, .ref out] h mc1 ms1 (fun r h' => (∃ (z : Int) (h1 : AH), P1 (some (I z)) h1 ∧ r = some (I 0) ∧ h' = hset h1 out (lo, aL 1 (up G 0 (Int32.ofInt z).toInt64))) ∨ (PX eIOO h' ∧ r = some (I 1)) ∨ (PX eUOE h' ∧ r = some (I 2)) ∨ (PX eNSE h' ∧ r = some (I 3))) := by
  refine MH.start hW (by decide) [.val (.ref a), .val (I n), .val (.ref out), .unset] rfl ?_
  rintro X rfl rfl rfl hT hX
  have kx : ∀ (E : String) (h' : AH), PX E h' → ∃ hp, catW yL_coverBound.cls 4 E [(0, 9, 12, 45), (0, 9, 15, 25), (0, 9, 18, 40)] [eIOO, eUOE, eNSE] = some hp ∧ ∀ q : Nat, WA X h' 0 0 hp [.val (.ref a), .val (I n), .val (.ref out), .unset] [.ref q] := by
    intro E9 h9 p9
    rcases hx E9 h9 p9 with rfl | rfl | rfl
    · refine ⟨12, by decide +kernel, fun q => ?_⟩
      refine wa_astore_n hX (i := 3) dL_coverBound_12 rfl rfl ?_
      dsimp only [List.set]
      refine wi_iconst hX dL_coverBound_13 ?_
      refine wa_iret hX dL_coverBound_14 ?_
      exact Or.inr (Or.inl ⟨p9, rfl⟩)
    · refine ⟨15, by decide +kernel, fun q => ?_⟩
      refine wa_astore_n hX (i := 3) dL_coverBound_15 rfl rfl ?_
      dsimp only [List.set]
      refine wi_iconst hX dL_coverBound_16 ?_
      refine wa_iret hX dL_coverBound_17 ?_
      exact Or.inr (Or.inr (Or.inl ⟨p9, rfl⟩))
    · refine ⟨18, by decide +kernel, fun q => ?_⟩
      refine wa_astore_n hX (i := 3) dL_coverBound_18 rfl rfl ?_
      dsimp only [List.set]
      refine wi_iconst hX dL_coverBound_19 ?_
      refine wa_iret hX dL_coverBound_20 ?_
      exact Or.inr (Or.inr (Or.inr (⟨p9, rfl⟩)))
  refine WA.room (k2 := 0 + mc1) (sl2 := 0 + ms1) (by omega) (by omega) ?_
  refine wa_aload_n hX (i := 2) dL_coverBound_0 rfl rfl ?_
  refine wi_iconst hX dL_coverBound_1 ?_
  refine wa_aload_n hX (i := 0) dL_coverBound_2 rfl rfl ?_
  refine wa_iload_n hX (i := 1) dL_coverBound_3 rfl rfl ?_
  refine wa_callVH hX [eIOO, eUOE, eNSE] hT hM ha (by rfl) (by rfl) (by omega) (nA := 1) (by rfl) (by decide +kernel) rfl (by exact Nat.le_of_ble_eq_true rfl) dL_coverBound_4 (fun r4 h4 p4 => ?_) kx
  obtain ⟨⟨z, rfl⟩, hG⟩ := h0 _ _ p4
  dsimp only [Option.toList, List.cons_append, List.nil_append]
  refine wa_i2l hX dL_coverBound_7 ?_
  refine wi_lastore hX hG (by decide) (by decide) (by decide) dL_coverBound_8 ?_
  rw [show (0 : Int).toNat = 0 from rfl]
  refine wa_goto hX (tgt := 21) dL_coverBound_9 (by decide) ?_
  refine wi_iconst hX dL_coverBound_21 ?_
  refine wa_iret hX dL_coverBound_22 ?_
  exact Or.inl ⟨z, h4, p4, rfl, rfl⟩
set_option maxHeartbeats 1000000 in
set_option maxRecDepth 100000 in
theorem c_L_packing (hW : WOK l D S0) (d : Nat) {h : AH} {a la out lo : Nat} {fs : List Value} {G : Nat → Int64} {mc1 ms1 : Nat} {P1 : Option Value → AH → Prop} {PX : String → AH → Prop} {n : Int} (ha : h a = some (la, oF 11 fs)) (hM : MA l D S0 yX10_packing cX10_packing 3 (some .int) d [.ref a, I n] h mc1 ms1 P1 PX) (h0 : ∀ r h', P1 r h' → (∃ z : Int, r = some (I z)) ∧ h' out = some (lo, aL 1 G)) (hx : ∀ E h', PX E h' → E = eIOO ∨ E = eUOE) : MH l D S0 yL_packing cL_packing 4 (some .int) [(0, 9, 12, 45), (0, 9, 15, 25)] (d + 1) [.ref a, I n, .ref out] h mc1 ms1 (fun r h' => (∃ (z : Int) (h1 : AH), P1 (some (I z)) h1 ∧ r = some (I 0) ∧ h' = hset h1 out (lo, aL 1 (up G 0 (Int32.ofInt z).toInt64))) ∨ (PX eIOO h' ∧ r = some (I 1)) ∨ (PX eUOE h' ∧ r = some (I 2))) := by
  refine MH.start hW (by decide) [.val (.ref a), .val (I n), .val (.ref out), .unset] rfl ?_
  rintro X rfl rfl rfl hT hX
  have kx : ∀ (E : String) (h' : AH), PX E h' → ∃ hp, catW yL_packing.cls 4 E [(0, 9, 12, 45), (0, 9, 15, 25)] [eIOO, eUOE] = some hp ∧ ∀ q : Nat, WA X h' 0 0 hp [.val (.ref a), .val (I n), .val (.ref out), .unset] [.ref q] := by
    intro E9 h9 p9
    rcases hx E9 h9 p9 with rfl | rfl
    · refine ⟨12, by decide +kernel, fun q => ?_⟩
      refine wa_astore_n hX (i := 3) dL_packing_12 rfl rfl ?_
      dsimp only [List.set]
      refine wi_iconst hX dL_packing_13 ?_
      refine wa_iret hX dL_packing_14 ?_
      exact Or.inr (Or.inl ⟨p9, rfl⟩)
    · refine ⟨15, by decide +kernel, fun q => ?_⟩
      refine wa_astore_n hX (i := 3) dL_packing_15 rfl rfl ?_
      dsimp only [List.set]
      refine wi_iconst hX dL_packing_16 ?_
      refine wa_iret hX dL_packing_17 ?_
      exact Or.inr (Or.inr (⟨p9, rfl⟩))
  refine WA.room (k2 := 0 + mc1) (sl2 := 0 + ms1) (by omega) (by omega) ?_
  refine wa_aload_n hX (i := 2) dL_packing_0 rfl rfl ?_
  refine wi_iconst hX dL_packing_1 ?_
  refine wa_aload_n hX (i := 0) dL_packing_2 rfl rfl ?_
  refine wa_iload_n hX (i := 1) dL_packing_3 rfl rfl ?_
  refine wa_callVH hX [eIOO, eUOE] hT hM ha (by rfl) (by rfl) (by omega) (nA := 1) (by rfl) (by decide +kernel) rfl (by exact Nat.le_of_ble_eq_true rfl) dL_packing_4 (fun r4 h4 p4 => ?_) kx
  obtain ⟨⟨z, rfl⟩, hG⟩ := h0 _ _ p4
  dsimp only [Option.toList, List.cons_append, List.nil_append]
  refine wa_i2l hX dL_packing_7 ?_
  refine wi_lastore hX hG (by decide) (by decide) (by decide) dL_packing_8 ?_
  rw [show (0 : Int).toNat = 0 from rfl]
  refine wa_goto hX (tgt := 18) dL_packing_9 (by decide) ?_
  refine wi_iconst hX dL_packing_18 ?_
  refine wa_iret hX dL_packing_19 ?_
  exact Or.inl ⟨z, h4, p4, rfl, rfl⟩
set_option maxHeartbeats 1000000 in
set_option maxRecDepth 100000 in
theorem c_L_packingBound (hW : WOK l D S0) (d : Nat) {h : AH} {a la out lo : Nat} {fs : List Value} {G : Nat → Int64} {mc1 ms1 : Nat} {P1 : Option Value → AH → Prop} {PX : String → AH → Prop} {n : Int} (ha : h a = some (la, oF 11 fs)) (hM : MA l D S0 yX10_packingBound cX10_packingBound 3 (some .int) d [.ref a, I n] h mc1 ms1 P1 PX) (h0 : ∀ r h', P1 r h' → (∃ z : Int, r = some (I z)) ∧ h' out = some (lo, aL 1 G)) (hx : ∀ E h', PX E h' → E = eIOO ∨ E = eUOE) : MH l D S0 yL_packingBound cL_packingBound 4 (some .int) [(0, 9, 12, 45), (0, 9, 15, 25)] (d + 1) [.ref a, I n, .ref out] h mc1 ms1 (fun r h' => (∃ (z : Int) (h1 : AH), P1 (some (I z)) h1 ∧ r = some (I 0) ∧ h' = hset h1 out (lo, aL 1 (up G 0 (Int32.ofInt z).toInt64))) ∨ (PX eIOO h' ∧ r = some (I 1)) ∨ (PX eUOE h' ∧ r = some (I 2))) := by
  refine MH.start hW (by decide) [.val (.ref a), .val (I n), .val (.ref out), .unset] rfl ?_
  rintro X rfl rfl rfl hT hX
  have kx : ∀ (E : String) (h' : AH), PX E h' → ∃ hp, catW yL_packingBound.cls 4 E [(0, 9, 12, 45), (0, 9, 15, 25)] [eIOO, eUOE] = some hp ∧ ∀ q : Nat, WA X h' 0 0 hp [.val (.ref a), .val (I n), .val (.ref out), .unset] [.ref q] := by
    intro E9 h9 p9
    rcases hx E9 h9 p9 with rfl | rfl
    · refine ⟨12, by decide +kernel, fun q => ?_⟩
      refine wa_astore_n hX (i := 3) dL_packingBound_12 rfl rfl ?_
      dsimp only [List.set]
      refine wi_iconst hX dL_packingBound_13 ?_
      refine wa_iret hX dL_packingBound_14 ?_
      exact Or.inr (Or.inl ⟨p9, rfl⟩)
    · refine ⟨15, by decide +kernel, fun q => ?_⟩
      refine wa_astore_n hX (i := 3) dL_packingBound_15 rfl rfl ?_
      dsimp only [List.set]
      refine wi_iconst hX dL_packingBound_16 ?_
      refine wa_iret hX dL_packingBound_17 ?_
      exact Or.inr (Or.inr (⟨p9, rfl⟩))
  refine WA.room (k2 := 0 + mc1) (sl2 := 0 + ms1) (by omega) (by omega) ?_
  refine wa_aload_n hX (i := 2) dL_packingBound_0 rfl rfl ?_
  refine wi_iconst hX dL_packingBound_1 ?_
  refine wa_aload_n hX (i := 0) dL_packingBound_2 rfl rfl ?_
  refine wa_iload_n hX (i := 1) dL_packingBound_3 rfl rfl ?_
  refine wa_callVH hX [eIOO, eUOE] hT hM ha (by rfl) (by rfl) (by omega) (nA := 1) (by rfl) (by decide +kernel) rfl (by exact Nat.le_of_ble_eq_true rfl) dL_packingBound_4 (fun r4 h4 p4 => ?_) kx
  obtain ⟨⟨z, rfl⟩, hG⟩ := h0 _ _ p4
  dsimp only [Option.toList, List.cons_append, List.nil_append]
  refine wa_i2l hX dL_packingBound_7 ?_
  refine wi_lastore hX hG (by decide) (by decide) (by decide) dL_packingBound_8 ?_
  rw [show (0 : Int).toNat = 0 from rfl]
  refine wa_goto hX (tgt := 18) dL_packingBound_9 (by decide) ?_
  refine wi_iconst hX dL_packingBound_18 ?_
  refine wa_iret hX dL_packingBound_19 ?_
  exact Or.inl ⟨z, h4, p4, rfl, rfl⟩
set_option maxHeartbeats 1000000 in
set_option maxRecDepth 100000 in
theorem c_L_coefficient (hW : WOK l D S0) (d : Nat) {h : AH} {a la out lo : Nat} {fs : List Value} {G : Nat → Int64} {mc1 ms1 : Nat} {P1 : Option Value → AH → Prop} {PX : String → AH → Prop} {n : Int} {v : Int} {x : Int} (ha : h a = some (la, oF 11 fs)) (hM : MA l D S0 yX10_coefficient cX10_coefficient 5 (some .int) d [.ref a, I n, I v, I x] h mc1 ms1 P1 PX) (h0 : ∀ r h', P1 r h' → (∃ z : Int, r = some (I z)) ∧ h' out = some (lo, aL 1 G)) (hx : ∀ E h', PX E h' → E = eIOO ∨ E = eIAE) : MH l D S0 yL_coefficient cL_coefficient 6 (some .int) [(0, 12, 15, 45), (0, 12, 19, 13)] (d + 1) [.ref a, I n, I v, I x, .ref out] h mc1 ms1 (fun r h' => (∃ (z : Int) (h1 : AH), P1 (some (I z)) h1 ∧ r = some (I 0) ∧ h' = hset h1 out (lo, aL 1 (up G 0 (Int32.ofInt z).toInt64))) ∨ (PX eIOO h' ∧ r = some (I 1)) ∨ (PX eIAE h' ∧ r = some (I 2))) := by
  refine MH.start hW (by decide) [.val (.ref a), .val (I n), .val (I v), .val (I x), .val (.ref out), .unset] rfl ?_
  rintro X rfl rfl rfl hT hX
  have kx : ∀ (E : String) (h' : AH), PX E h' → ∃ hp, catW yL_coefficient.cls 7 E [(0, 12, 15, 45), (0, 12, 19, 13)] [eIOO, eIAE] = some hp ∧ ∀ q : Nat, WA X h' 0 0 hp [.val (.ref a), .val (I n), .val (I v), .val (I x), .val (.ref out), .unset] [.ref q] := by
    intro E9 h9 p9
    rcases hx E9 h9 p9 with rfl | rfl
    · refine ⟨15, by decide +kernel, fun q => ?_⟩
      refine wa_astore hX dL_coefficient_15 rfl ?_
      dsimp only [List.set]
      refine wi_iconst hX dL_coefficient_17 ?_
      refine wa_iret hX dL_coefficient_18 ?_
      exact Or.inr (Or.inl ⟨p9, rfl⟩)
    · refine ⟨19, by decide +kernel, fun q => ?_⟩
      refine wa_astore hX dL_coefficient_19 rfl ?_
      dsimp only [List.set]
      refine wi_iconst hX dL_coefficient_21 ?_
      refine wa_iret hX dL_coefficient_22 ?_
      exact Or.inr (Or.inr (⟨p9, rfl⟩))
  refine WA.room (k2 := 0 + mc1) (sl2 := 0 + ms1) (by omega) (by omega) ?_
  refine wa_aload hX dL_coefficient_0 rfl ?_
  refine wi_iconst hX dL_coefficient_2 ?_
  refine wa_aload_n hX (i := 0) dL_coefficient_3 rfl rfl ?_
  refine wa_iload_n hX (i := 1) dL_coefficient_4 rfl rfl ?_
  refine wa_iload_n hX (i := 2) dL_coefficient_5 rfl rfl ?_
  refine wa_iload_n hX (i := 3) dL_coefficient_6 rfl rfl ?_
  refine wa_callVH hX [eIOO, eIAE] hT hM ha (by rfl) (by rfl) (by omega) (nA := 3) (by rfl) (by decide +kernel) rfl (by exact Nat.le_of_ble_eq_true rfl) dL_coefficient_7 (fun r7 h7 p7 => ?_) kx
  obtain ⟨⟨z, rfl⟩, hG⟩ := h0 _ _ p7
  dsimp only [Option.toList, List.cons_append, List.nil_append]
  refine wa_i2l hX dL_coefficient_10 ?_
  refine wi_lastore hX hG (by decide) (by decide) (by decide) dL_coefficient_11 ?_
  rw [show (0 : Int).toNat = 0 from rfl]
  refine wa_goto hX (tgt := 23) dL_coefficient_12 (by decide) ?_
  refine wi_iconst hX dL_coefficient_23 ?_
  refine wa_iret hX dL_coefficient_24 ?_
  exact Or.inl ⟨z, h7, p7, rfl, rfl⟩
set_option maxHeartbeats 1000000 in
set_option maxRecDepth 100000 in
theorem c_L_value (hW : WOK l D S0) (d : Nat) {h : AH} {a la out lo : Nat} {fs : List Value} {G : Nat → Int64} {mc1 ms1 : Nat} {P1 : Option Value → AH → Prop} {PX : String → AH → Prop} {n : Int} {v : Int} {x : Int} (ha : h a = some (la, oF 11 fs)) (hM : MA l D S0 yX10_value cX10_value 5 (some .long) d [.ref a, I n, I v, I x] h mc1 ms1 P1 PX) (h0 : ∀ r h', P1 r h' → (∃ z : Int64, r = some (.long z)) ∧ h' out = some (lo, aL 1 G)) (hx : ∀ E h', PX E h' → E = eIOO ∨ E = eIAE) : MH l D S0 yL_value cL_value 6 (some .int) [(0, 11, 14, 45), (0, 11, 18, 13)] (d + 1) [.ref a, I n, I v, I x, .ref out] h mc1 ms1 (fun r h' => (∃ (z : Int64) (h1 : AH), P1 (some (.long z)) h1 ∧ r = some (I 0) ∧ h' = hset h1 out (lo, aL 1 (up G 0 z))) ∨ (PX eIOO h' ∧ r = some (I 1)) ∨ (PX eIAE h' ∧ r = some (I 2))) := by
  refine MH.start hW (by decide) [.val (.ref a), .val (I n), .val (I v), .val (I x), .val (.ref out), .unset] rfl ?_
  rintro X rfl rfl rfl hT hX
  have kx : ∀ (E : String) (h' : AH), PX E h' → ∃ hp, catW yL_value.cls 7 E [(0, 11, 14, 45), (0, 11, 18, 13)] [eIOO, eIAE] = some hp ∧ ∀ q : Nat, WA X h' 0 0 hp [.val (.ref a), .val (I n), .val (I v), .val (I x), .val (.ref out), .unset] [.ref q] := by
    intro E9 h9 p9
    rcases hx E9 h9 p9 with rfl | rfl
    · refine ⟨14, by decide +kernel, fun q => ?_⟩
      refine wa_astore hX dL_value_14 rfl ?_
      dsimp only [List.set]
      refine wi_iconst hX dL_value_16 ?_
      refine wa_iret hX dL_value_17 ?_
      exact Or.inr (Or.inl ⟨p9, rfl⟩)
    · refine ⟨18, by decide +kernel, fun q => ?_⟩
      refine wa_astore hX dL_value_18 rfl ?_
      dsimp only [List.set]
      refine wi_iconst hX dL_value_20 ?_
      refine wa_iret hX dL_value_21 ?_
      exact Or.inr (Or.inr (⟨p9, rfl⟩))
  refine WA.room (k2 := 0 + mc1) (sl2 := 0 + ms1) (by omega) (by omega) ?_
  refine wa_aload hX dL_value_0 rfl ?_
  refine wi_iconst hX dL_value_2 ?_
  refine wa_aload_n hX (i := 0) dL_value_3 rfl rfl ?_
  refine wa_iload_n hX (i := 1) dL_value_4 rfl rfl ?_
  refine wa_iload_n hX (i := 2) dL_value_5 rfl rfl ?_
  refine wa_iload_n hX (i := 3) dL_value_6 rfl rfl ?_
  refine wa_callVH hX [eIOO, eIAE] hT hM ha (by rfl) (by rfl) (by omega) (nA := 3) (by rfl) (by decide +kernel) rfl (by exact Nat.le_of_ble_eq_true rfl) dL_value_7 (fun r7 h7 p7 => ?_) kx
  obtain ⟨⟨z, rfl⟩, hG⟩ := h0 _ _ p7
  dsimp only [Option.toList, List.cons_append, List.nil_append]
  refine wi_lastore hX hG (by decide) (by decide) (by decide) dL_value_10 ?_
  rw [show (0 : Int).toNat = 0 from rfl]
  refine wa_goto hX (tgt := 22) dL_value_11 (by decide) ?_
  refine wi_iconst hX dL_value_22 ?_
  refine wa_iret hX dL_value_23 ?_
  exact Or.inl ⟨z, h7, p7, rfl, rfl⟩
set_option maxHeartbeats 1000000 in
set_option maxRecDepth 100000 in
theorem c_L_other (hW : WOK l D S0) (d : Nat) {h : AH} {a la out lo : Nat} {fs : List Value} {G : Nat → Int64} {mc1 ms1 : Nat} {P1 : Option Value → AH → Prop} {PX : String → AH → Prop} {n : Int} {v : Int} (ha : h a = some (la, oF 11 fs)) (hM : MA l D S0 yX10_other cX10_other 4 (some .int) d [.ref a, I n, I v] h mc1 ms1 P1 PX) (h0 : ∀ r h', P1 r h' → (∃ z : Int, r = some (I z)) ∧ h' out = some (lo, aL 1 G)) (hx : ∀ E h', PX E h' → E = eIOO ∨ E = eIAE) : MH l D S0 yL_other cL_other 5 (some .int) [(0, 10, 13, 45), (0, 10, 17, 13)] (d + 1) [.ref a, I n, I v, .ref out] h mc1 ms1 (fun r h' => (∃ (z : Int) (h1 : AH), P1 (some (I z)) h1 ∧ r = some (I 0) ∧ h' = hset h1 out (lo, aL 1 (up G 0 (Int32.ofInt z).toInt64))) ∨ (PX eIOO h' ∧ r = some (I 1)) ∨ (PX eIAE h' ∧ r = some (I 2))) := by
  refine MH.start hW (by decide) [.val (.ref a), .val (I n), .val (I v), .val (.ref out), .unset] rfl ?_
  rintro X rfl rfl rfl hT hX
  have kx : ∀ (E : String) (h' : AH), PX E h' → ∃ hp, catW yL_other.cls 5 E [(0, 10, 13, 45), (0, 10, 17, 13)] [eIOO, eIAE] = some hp ∧ ∀ q : Nat, WA X h' 0 0 hp [.val (.ref a), .val (I n), .val (I v), .val (.ref out), .unset] [.ref q] := by
    intro E9 h9 p9
    rcases hx E9 h9 p9 with rfl | rfl
    · refine ⟨13, by decide +kernel, fun q => ?_⟩
      refine wa_astore hX dL_other_13 rfl ?_
      dsimp only [List.set]
      refine wi_iconst hX dL_other_15 ?_
      refine wa_iret hX dL_other_16 ?_
      exact Or.inr (Or.inl ⟨p9, rfl⟩)
    · refine ⟨17, by decide +kernel, fun q => ?_⟩
      refine wa_astore hX dL_other_17 rfl ?_
      dsimp only [List.set]
      refine wi_iconst hX dL_other_19 ?_
      refine wa_iret hX dL_other_20 ?_
      exact Or.inr (Or.inr (⟨p9, rfl⟩))
  refine WA.room (k2 := 0 + mc1) (sl2 := 0 + ms1) (by omega) (by omega) ?_
  refine wa_aload_n hX (i := 3) dL_other_0 rfl rfl ?_
  refine wi_iconst hX dL_other_1 ?_
  refine wa_aload_n hX (i := 0) dL_other_2 rfl rfl ?_
  refine wa_iload_n hX (i := 1) dL_other_3 rfl rfl ?_
  refine wa_iload_n hX (i := 2) dL_other_4 rfl rfl ?_
  refine wa_callVH hX [eIOO, eIAE] hT hM ha (by rfl) (by rfl) (by omega) (nA := 2) (by rfl) (by decide +kernel) rfl (by exact Nat.le_of_ble_eq_true rfl) dL_other_5 (fun r5 h5 p5 => ?_) kx
  obtain ⟨⟨z, rfl⟩, hG⟩ := h0 _ _ p5
  dsimp only [Option.toList, List.cons_append, List.nil_append]
  refine wa_i2l hX dL_other_8 ?_
  refine wi_lastore hX hG (by decide) (by decide) (by decide) dL_other_9 ?_
  rw [show (0 : Int).toNat = 0 from rfl]
  refine wa_goto hX (tgt := 21) dL_other_10 (by decide) ?_
  refine wi_iconst hX dL_other_21 ?_
  refine wa_iret hX dL_other_22 ?_
  exact Or.inl ⟨z, h5, p5, rfl, rfl⟩
set_option maxHeartbeats 1000000 in
set_option maxRecDepth 100000 in
theorem c_L_binaryShare (hW : WOK l D S0) (d : Nat) {h : AH} {a la out lo : Nat} {fs : List Value} {G : Nat → UInt64} {mc1 ms1 : Nat} {P1 : Option Value → AH → Prop} {PX : String → AH → Prop} (ha : h a = some (la, oF 11 fs)) (hM : MA l D S0 yX10_binaryShare cX10_binaryShare 3 (some .float) d [.ref a] h mc1 ms1 P1 PX) (h0 : ∀ r h', P1 r h' → (∃ z : UInt32, r = some (.float z) ∧ vf_n64 (FP.f2d z)) ∧ h' out = some (lo, aD 1 G)) (hx : ∀ E h', PX E h' → E = eARI) : MH l D S0 yL_binaryShare cL_binaryShare 3 (some .int) [(0, 8, 11, 153)] (d + 1) [.ref a, .ref out] h mc1 ms1 (fun r h' => (∃ (z : UInt32) (h1 : AH), P1 (some (.float z)) h1 ∧ r = some (I 0) ∧ h' = hset h1 out (lo, aD 1 (up G 0 (FP.f2d z)))) ∨ (PX eARI h' ∧ r = some (I 1))) := by
  refine MH.start hW (by decide) [.val (.ref a), .val (.ref out), .unset] rfl ?_
  rintro X rfl rfl rfl hT hX
  have kx : ∀ (E : String) (h' : AH), PX E h' → ∃ hp, catW yL_binaryShare.cls 3 E [(0, 8, 11, 153)] [eARI] = some hp ∧ ∀ q : Nat, WA X h' 0 0 hp [.val (.ref a), .val (.ref out), .unset] [.ref q] := by
    intro E9 h9 p9
    obtain rfl := hx E9 h9 p9
    · refine ⟨11, by decide +kernel, fun q => ?_⟩
      refine wa_astore_n hX (i := 2) dL_binaryShare_11 rfl rfl ?_
      dsimp only [List.set]
      refine wi_iconst hX dL_binaryShare_12 ?_
      refine wa_iret hX dL_binaryShare_13 ?_
      exact Or.inr (⟨p9, rfl⟩)
  refine WA.room (k2 := 0 + mc1) (sl2 := 0 + ms1) (by omega) (by omega) ?_
  refine wa_aload_n hX (i := 1) dL_binaryShare_0 rfl rfl ?_
  refine wi_iconst hX dL_binaryShare_1 ?_
  refine wa_aload_n hX (i := 0) dL_binaryShare_2 rfl rfl ?_
  refine wa_callVH hX [eARI] hT hM ha (by rfl) (by rfl) (by omega) (nA := 0) (by rfl) (by decide +kernel) rfl (by exact Nat.le_of_ble_eq_true rfl) dL_binaryShare_3 (fun r3 h3 p3 => ?_) kx
  obtain ⟨⟨z, rfl, hnn⟩, hG⟩ := h0 _ _ p3
  dsimp only [Option.toList, List.cons_append, List.nil_append]
  refine wa_f2d hX dL_binaryShare_6 hnn ?_
  refine wi_dastore hX hG (by decide) (by decide) (by decide) dL_binaryShare_7 ?_
  rw [show (0 : Int).toNat = 0 from rfl]
  refine wa_goto hX (tgt := 14) dL_binaryShare_8 (by decide) ?_
  refine wi_iconst hX dL_binaryShare_14 ?_
  refine wa_iret hX dL_binaryShare_15 ?_
  exact Or.inl ⟨z, h3, p3, rfl, rfl⟩
set_option maxHeartbeats 1000000 in
set_option maxRecDepth 100000 in
theorem c_L_meanBases (hW : WOK l D S0) (d : Nat) {h : AH} {a la out lo : Nat} {fs : List Value} {G : Nat → UInt64} {mc1 ms1 : Nat} {P1 : Option Value → AH → Prop} {PX : String → AH → Prop} (ha : h a = some (la, oF 11 fs)) (hM : MA l D S0 yX10_meanBases cX10_meanBases 3 (some .double) d [.ref a] h mc1 ms1 P1 PX) (h0 : ∀ r h', P1 r h' → (∃ z : UInt64, r = some (.double z)) ∧ h' out = some (lo, aD 1 G)) (hx : ∀ E h', PX E h' → E = eARI) : MH l D S0 yL_meanBases cL_meanBases 3 (some .int) [(0, 7, 10, 153)] (d + 1) [.ref a, .ref out] h mc1 ms1 (fun r h' => (∃ (z : UInt64) (h1 : AH), P1 (some (.double z)) h1 ∧ r = some (I 0) ∧ h' = hset h1 out (lo, aD 1 (up G 0 z))) ∨ (PX eARI h' ∧ r = some (I 1))) := by
  refine MH.start hW (by decide) [.val (.ref a), .val (.ref out), .unset] rfl ?_
  rintro X rfl rfl rfl hT hX
  have kx : ∀ (E : String) (h' : AH), PX E h' → ∃ hp, catW yL_meanBases.cls 3 E [(0, 7, 10, 153)] [eARI] = some hp ∧ ∀ q : Nat, WA X h' 0 0 hp [.val (.ref a), .val (.ref out), .unset] [.ref q] := by
    intro E9 h9 p9
    obtain rfl := hx E9 h9 p9
    · refine ⟨10, by decide +kernel, fun q => ?_⟩
      refine wa_astore_n hX (i := 2) dL_meanBases_10 rfl rfl ?_
      dsimp only [List.set]
      refine wi_iconst hX dL_meanBases_11 ?_
      refine wa_iret hX dL_meanBases_12 ?_
      exact Or.inr (⟨p9, rfl⟩)
  refine WA.room (k2 := 0 + mc1) (sl2 := 0 + ms1) (by omega) (by omega) ?_
  refine wa_aload_n hX (i := 1) dL_meanBases_0 rfl rfl ?_
  refine wi_iconst hX dL_meanBases_1 ?_
  refine wa_aload_n hX (i := 0) dL_meanBases_2 rfl rfl ?_
  refine wa_callVH hX [eARI] hT hM ha (by rfl) (by rfl) (by omega) (nA := 0) (by rfl) (by decide +kernel) rfl (by exact Nat.le_of_ble_eq_true rfl) dL_meanBases_3 (fun r3 h3 p3 => ?_) kx
  obtain ⟨⟨z, rfl⟩, hG⟩ := h0 _ _ p3
  dsimp only [Option.toList, List.cons_append, List.nil_append]
  refine wi_dastore hX hG (by decide) (by decide) (by decide) dL_meanBases_6 ?_
  rw [show (0 : Int).toNat = 0 from rfl]
  refine wa_goto hX (tgt := 13) dL_meanBases_7 (by decide) ?_
  refine wi_iconst hX dL_meanBases_13 ?_
  refine wa_iret hX dL_meanBases_14 ?_
  exact Or.inl ⟨z, h3, p3, rfl, rfl⟩
end C9t
