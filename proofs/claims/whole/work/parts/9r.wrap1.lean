/-! The law's wrappers, 1 -/
section C9r
variable {l : Launch} {D : va_G} {S0 : State}
set_option maxHeartbeats 1000000 in
set_option maxRecDepth 100000 in
theorem c_L_type (hW : WOK l D S0) (d : Nat) {h : AH} {a la out lo : Nat} {fs : List Value} {G : Nat → Int64} {mc1 ms1 : Nat} {P1 : Option Value → AH → Prop} {PX : String → AH → Prop} {n : Int} (ha : h a = some (la, oF 11 fs)) (hM : MA l D S0 yX10_type cX10_type 2 (some .int) d [.ref a, I n] h mc1 ms1 P1 PX) (h0 : ∀ r h', P1 r h' → (∃ z : Int, r = some (I z)) ∧ h' out = some (lo, aL 1 G)) (hx : ∀ E h', PX E h' → E = eIAE ∨ E = eISE) : MH l D S0 yL_type cL_type 4 (some .int) [(0, 9, 12, 13), (0, 9, 15, 15)] (d + 1) [.ref a, I n, .ref out] h mc1 ms1 (fun r h' => (∃ (z : Int) (h1 : AH), P1 (some (I z)) h1 ∧ r = some (I 0) ∧ h' = hset h1 out (lo, aL 1 (up G 0 (Int32.ofInt z).toInt64))) ∨ (PX eIAE h' ∧ r = some (I 1)) ∨ (PX eISE h' ∧ r = some (I 2))) := by
  refine MH.start hW (by decide) [.val (.ref a), .val (I n), .val (.ref out), .unset] rfl ?_
  rintro X rfl rfl rfl hT hX
  have kx : ∀ (E : String) (h' : AH), PX E h' → ∃ hp, catW yL_type.cls 4 E [(0, 9, 12, 13), (0, 9, 15, 15)] [eIAE, eISE] = some hp ∧ ∀ q : Nat, WA X h' 0 0 hp [.val (.ref a), .val (I n), .val (.ref out), .unset] [.ref q] := by
    intro E9 h9 p9
    rcases hx E9 h9 p9 with rfl | rfl
    · refine ⟨12, by decide +kernel, fun q => ?_⟩
      refine wa_astore_n hX (i := 3) dL_type_12 rfl rfl ?_
      dsimp only [List.set]
      refine wi_iconst hX dL_type_13 ?_
      refine wa_iret hX dL_type_14 ?_
      exact Or.inr (Or.inl ⟨p9, rfl⟩)
    · refine ⟨15, by decide +kernel, fun q => ?_⟩
      refine wa_astore_n hX (i := 3) dL_type_15 rfl rfl ?_
      dsimp only [List.set]
      refine wi_iconst hX dL_type_16 ?_
      refine wa_iret hX dL_type_17 ?_
      exact Or.inr (Or.inr (⟨p9, rfl⟩))
  refine WA.room (k2 := 0 + mc1) (sl2 := 0 + ms1) (by omega) (by omega) ?_
  refine wa_aload_n hX (i := 2) dL_type_0 rfl rfl ?_
  refine wi_iconst hX dL_type_1 ?_
  refine wa_aload_n hX (i := 0) dL_type_2 rfl rfl ?_
  refine wa_iload_n hX (i := 1) dL_type_3 rfl rfl ?_
  refine wa_callVH hX [eIAE, eISE] hT hM ha (by rfl) (by rfl) (by omega) (nA := 1) (by rfl) (by decide +kernel) rfl (by exact Nat.le_of_ble_eq_true rfl) dL_type_4 (fun r4 h4 p4 => ?_) kx
  obtain ⟨⟨z, rfl⟩, hG⟩ := h0 _ _ p4
  dsimp only [Option.toList, List.cons_append, List.nil_append]
  refine wa_i2l hX dL_type_7 ?_
  refine wi_lastore hX hG (by decide) (by decide) (by decide) dL_type_8 ?_
  rw [show (0 : Int).toNat = 0 from rfl]
  refine wa_goto hX (tgt := 18) dL_type_9 (by decide) ?_
  refine wi_iconst hX dL_type_18 ?_
  refine wa_iret hX dL_type_19 ?_
  exact Or.inl ⟨z, h4, p4, rfl, rfl⟩
set_option maxHeartbeats 1000000 in
set_option maxRecDepth 100000 in
theorem c_L_uniform (hW : WOK l D S0) (d : Nat) {h : AH} {a la out lo : Nat} {fs : List Value} {G : Nat → Int64} {mc1 ms1 : Nat} {P1 : Option Value → AH → Prop} {PX : String → AH → Prop} {n : Int} {v : Int} (ha : h a = some (la, oF 11 fs)) (hM : MA l D S0 yX10_uniform cX10_uniform 3 (some .int) d [.ref a, I n, I v] h mc1 ms1 P1 PX) (h0 : ∀ r h', P1 r h' → (∃ z : Int, r = some (I z)) ∧ h' out = some (lo, aL 1 G)) (hx : ∀ E h', PX E h' → E = eIAE ∨ E = eISE) : MH l D S0 yL_uniform cL_uniform 5 (some .int) [(0, 10, 13, 13), (0, 10, 17, 15)] (d + 1) [.ref a, I n, I v, .ref out] h mc1 ms1 (fun r h' => (∃ (z : Int) (h1 : AH), P1 (some (I z)) h1 ∧ r = some (I 0) ∧ h' = hset h1 out (lo, aL 1 (up G 0 (Int32.ofInt z).toInt64))) ∨ (PX eIAE h' ∧ r = some (I 1)) ∨ (PX eISE h' ∧ r = some (I 2))) := by
  refine MH.start hW (by decide) [.val (.ref a), .val (I n), .val (I v), .val (.ref out), .unset] rfl ?_
  rintro X rfl rfl rfl hT hX
  have kx : ∀ (E : String) (h' : AH), PX E h' → ∃ hp, catW yL_uniform.cls 5 E [(0, 10, 13, 13), (0, 10, 17, 15)] [eIAE, eISE] = some hp ∧ ∀ q : Nat, WA X h' 0 0 hp [.val (.ref a), .val (I n), .val (I v), .val (.ref out), .unset] [.ref q] := by
    intro E9 h9 p9
    rcases hx E9 h9 p9 with rfl | rfl
    · refine ⟨13, by decide +kernel, fun q => ?_⟩
      refine wa_astore hX dL_uniform_13 rfl ?_
      dsimp only [List.set]
      refine wi_iconst hX dL_uniform_15 ?_
      refine wa_iret hX dL_uniform_16 ?_
      exact Or.inr (Or.inl ⟨p9, rfl⟩)
    · refine ⟨17, by decide +kernel, fun q => ?_⟩
      refine wa_astore hX dL_uniform_17 rfl ?_
      dsimp only [List.set]
      refine wi_iconst hX dL_uniform_19 ?_
      refine wa_iret hX dL_uniform_20 ?_
      exact Or.inr (Or.inr (⟨p9, rfl⟩))
  refine WA.room (k2 := 0 + mc1) (sl2 := 0 + ms1) (by omega) (by omega) ?_
  refine wa_aload_n hX (i := 3) dL_uniform_0 rfl rfl ?_
  refine wi_iconst hX dL_uniform_1 ?_
  refine wa_aload_n hX (i := 0) dL_uniform_2 rfl rfl ?_
  refine wa_iload_n hX (i := 1) dL_uniform_3 rfl rfl ?_
  refine wa_iload_n hX (i := 2) dL_uniform_4 rfl rfl ?_
  refine wa_callVH hX [eIAE, eISE] hT hM ha (by rfl) (by rfl) (by omega) (nA := 2) (by rfl) (by decide +kernel) rfl (by exact Nat.le_of_ble_eq_true rfl) dL_uniform_5 (fun r5 h5 p5 => ?_) kx
  obtain ⟨⟨z, rfl⟩, hG⟩ := h0 _ _ p5
  dsimp only [Option.toList, List.cons_append, List.nil_append]
  refine wa_i2l hX dL_uniform_8 ?_
  refine wi_lastore hX hG (by decide) (by decide) (by decide) dL_uniform_9 ?_
  rw [show (0 : Int).toNat = 0 from rfl]
  refine wa_goto hX (tgt := 21) dL_uniform_10 (by decide) ?_
  refine wi_iconst hX dL_uniform_21 ?_
  refine wa_iret hX dL_uniform_22 ?_
  exact Or.inl ⟨z, h5, p5, rfl, rfl⟩
set_option maxHeartbeats 1000000 in
set_option maxRecDepth 100000 in
theorem c_L_graph (hW : WOK l D S0) (d : Nat) {h : AH} {a la out lo : Nat} {fs : List Value} {G : Nat → Int64} {mc1 ms1 : Nat} {P1 : Option Value → AH → Prop} {PX : String → AH → Prop} (ha : h a = some (la, oF 11 fs)) (hM : MA l D S0 yX10_graph cX10_graph 2 (some .int) d [.ref a] h mc1 ms1 P1 PX) (h0 : ∀ r h', P1 r h' → (∃ z : Int, r = some (I z)) ∧ h' out = some (lo, aL 1 G)) (hx : ∀ E h', PX E h' → E = eUOE ∨ E = eISE) : MH l D S0 yL_graph cL_graph 3 (some .int) [(0, 8, 11, 25), (0, 8, 14, 15)] (d + 1) [.ref a, .ref out] h mc1 ms1 (fun r h' => (∃ (z : Int) (h1 : AH), P1 (some (I z)) h1 ∧ r = some (I 0) ∧ h' = hset h1 out (lo, aL 1 (up G 0 (Int32.ofInt z).toInt64))) ∨ (PX eUOE h' ∧ r = some (I 1)) ∨ (PX eISE h' ∧ r = some (I 2))) := by
  refine MH.start hW (by decide) [.val (.ref a), .val (.ref out), .unset] rfl ?_
  rintro X rfl rfl rfl hT hX
  have kx : ∀ (E : String) (h' : AH), PX E h' → ∃ hp, catW yL_graph.cls 3 E [(0, 8, 11, 25), (0, 8, 14, 15)] [eUOE, eISE] = some hp ∧ ∀ q : Nat, WA X h' 0 0 hp [.val (.ref a), .val (.ref out), .unset] [.ref q] := by
    intro E9 h9 p9
    rcases hx E9 h9 p9 with rfl | rfl
    · refine ⟨11, by decide +kernel, fun q => ?_⟩
      refine wa_astore_n hX (i := 2) dL_graph_11 rfl rfl ?_
      dsimp only [List.set]
      refine wi_iconst hX dL_graph_12 ?_
      refine wa_iret hX dL_graph_13 ?_
      exact Or.inr (Or.inl ⟨p9, rfl⟩)
    · refine ⟨14, by decide +kernel, fun q => ?_⟩
      refine wa_astore_n hX (i := 2) dL_graph_14 rfl rfl ?_
      dsimp only [List.set]
      refine wi_iconst hX dL_graph_15 ?_
      refine wa_iret hX dL_graph_16 ?_
      exact Or.inr (Or.inr (⟨p9, rfl⟩))
  refine WA.room (k2 := 0 + mc1) (sl2 := 0 + ms1) (by omega) (by omega) ?_
  refine wa_aload_n hX (i := 1) dL_graph_0 rfl rfl ?_
  refine wi_iconst hX dL_graph_1 ?_
  refine wa_aload_n hX (i := 0) dL_graph_2 rfl rfl ?_
  refine wa_callVH hX [eUOE, eISE] hT hM ha (by rfl) (by rfl) (by omega) (nA := 0) (by rfl) (by decide +kernel) rfl (by exact Nat.le_of_ble_eq_true rfl) dL_graph_3 (fun r3 h3 p3 => ?_) kx
  obtain ⟨⟨z, rfl⟩, hG⟩ := h0 _ _ p3
  dsimp only [Option.toList, List.cons_append, List.nil_append]
  refine wa_i2l hX dL_graph_6 ?_
  refine wi_lastore hX hG (by decide) (by decide) (by decide) dL_graph_7 ?_
  rw [show (0 : Int).toNat = 0 from rfl]
  refine wa_goto hX (tgt := 17) dL_graph_8 (by decide) ?_
  refine wi_iconst hX dL_graph_17 ?_
  refine wa_iret hX dL_graph_18 ?_
  exact Or.inl ⟨z, h3, p3, rfl, rfl⟩
set_option maxHeartbeats 1000000 in
set_option maxRecDepth 100000 in
theorem c_L_columns (hW : WOK l D S0) (d : Nat) {h : AH} {a la out lo : Nat} {fs : List Value} {G : Nat → Int64} {mc1 ms1 : Nat} {P1 : Option Value → AH → Prop} {PX : String → AH → Prop} {n : Int} {v : Int} (ha : h a = some (la, oF 11 fs)) (hM : MA l D S0 yX10_columns cX10_columns 4 (some .int) d [.ref a, I n, I v] h mc1 ms1 P1 PX) (h0 : ∀ r h', P1 r h' → (∃ z : Int, r = some (I z)) ∧ h' out = some (lo, aL 1 G)) (hx : ∀ E h', PX E h' → E = eIAE ∨ E = eUOE ∨ E = eISE) : MH l D S0 yL_columns cL_columns 5 (some .int) [(0, 10, 13, 13), (0, 10, 17, 25), (0, 10, 21, 15)] (d + 1) [.ref a, I n, I v, .ref out] h mc1 ms1 (fun r h' => (∃ (z : Int) (h1 : AH), P1 (some (I z)) h1 ∧ r = some (I 0) ∧ h' = hset h1 out (lo, aL 1 (up G 0 (Int32.ofInt z).toInt64))) ∨ (PX eIAE h' ∧ r = some (I 1)) ∨ (PX eUOE h' ∧ r = some (I 2)) ∨ (PX eISE h' ∧ r = some (I 3))) := by
  refine MH.start hW (by decide) [.val (.ref a), .val (I n), .val (I v), .val (.ref out), .unset] rfl ?_
  rintro X rfl rfl rfl hT hX
  have kx : ∀ (E : String) (h' : AH), PX E h' → ∃ hp, catW yL_columns.cls 5 E [(0, 10, 13, 13), (0, 10, 17, 25), (0, 10, 21, 15)] [eIAE, eUOE, eISE] = some hp ∧ ∀ q : Nat, WA X h' 0 0 hp [.val (.ref a), .val (I n), .val (I v), .val (.ref out), .unset] [.ref q] := by
    intro E9 h9 p9
    rcases hx E9 h9 p9 with rfl | rfl | rfl
    · refine ⟨13, by decide +kernel, fun q => ?_⟩
      refine wa_astore hX dL_columns_13 rfl ?_
      dsimp only [List.set]
      refine wi_iconst hX dL_columns_15 ?_
      refine wa_iret hX dL_columns_16 ?_
      exact Or.inr (Or.inl ⟨p9, rfl⟩)
    · refine ⟨17, by decide +kernel, fun q => ?_⟩
      refine wa_astore hX dL_columns_17 rfl ?_
      dsimp only [List.set]
      refine wi_iconst hX dL_columns_19 ?_
      refine wa_iret hX dL_columns_20 ?_
      exact Or.inr (Or.inr (Or.inl ⟨p9, rfl⟩))
    · refine ⟨21, by decide +kernel, fun q => ?_⟩
      refine wa_astore hX dL_columns_21 rfl ?_
      dsimp only [List.set]
      refine wi_iconst hX dL_columns_23 ?_
      refine wa_iret hX dL_columns_24 ?_
      exact Or.inr (Or.inr (Or.inr (⟨p9, rfl⟩)))
  refine WA.room (k2 := 0 + mc1) (sl2 := 0 + ms1) (by omega) (by omega) ?_
  refine wa_aload_n hX (i := 3) dL_columns_0 rfl rfl ?_
  refine wi_iconst hX dL_columns_1 ?_
  refine wa_aload_n hX (i := 0) dL_columns_2 rfl rfl ?_
  refine wa_iload_n hX (i := 1) dL_columns_3 rfl rfl ?_
  refine wa_iload_n hX (i := 2) dL_columns_4 rfl rfl ?_
  refine wa_callVH hX [eIAE, eUOE, eISE] hT hM ha (by rfl) (by rfl) (by omega) (nA := 2) (by rfl) (by decide +kernel) rfl (by exact Nat.le_of_ble_eq_true rfl) dL_columns_5 (fun r5 h5 p5 => ?_) kx
  obtain ⟨⟨z, rfl⟩, hG⟩ := h0 _ _ p5
  dsimp only [Option.toList, List.cons_append, List.nil_append]
  refine wa_i2l hX dL_columns_8 ?_
  refine wi_lastore hX hG (by decide) (by decide) (by decide) dL_columns_9 ?_
  rw [show (0 : Int).toNat = 0 from rfl]
  refine wa_goto hX (tgt := 25) dL_columns_10 (by decide) ?_
  refine wi_iconst hX dL_columns_25 ?_
  refine wa_iret hX dL_columns_26 ?_
  exact Or.inl ⟨z, h5, p5, rfl, rfl⟩
set_option maxHeartbeats 1000000 in
set_option maxRecDepth 100000 in
theorem c_L_meeting (hW : WOK l D S0) (d : Nat) {h : AH} {a la out lo : Nat} {fs : List Value} {G : Nat → Int64} {mc1 ms1 : Nat} {P1 : Option Value → AH → Prop} {PX : String → AH → Prop} {n : Int} (ha : h a = some (la, oF 11 fs)) (hM : MA l D S0 yX10_meeting cX10_meeting 2 (some .int) d [.ref a, I n] h mc1 ms1 P1 PX) (h0 : ∀ r h', P1 r h' → (∃ z : Int, r = some (I z)) ∧ h' out = some (lo, aL 1 G)) (hx : ∀ E h', PX E h' → E = eIAE ∨ E = eUOE ∨ E = eISE) : MH l D S0 yL_meeting cL_meeting 4 (some .int) [(0, 9, 12, 13), (0, 9, 15, 25), (0, 9, 18, 15)] (d + 1) [.ref a, I n, .ref out] h mc1 ms1 (fun r h' => (∃ (z : Int) (h1 : AH), P1 (some (I z)) h1 ∧ r = some (I 0) ∧ h' = hset h1 out (lo, aL 1 (up G 0 (Int32.ofInt z).toInt64))) ∨ (PX eIAE h' ∧ r = some (I 1)) ∨ (PX eUOE h' ∧ r = some (I 2)) ∨ (PX eISE h' ∧ r = some (I 3))) := by
  refine MH.start hW (by decide) [.val (.ref a), .val (I n), .val (.ref out), .unset] rfl ?_
  rintro X rfl rfl rfl hT hX
  have kx : ∀ (E : String) (h' : AH), PX E h' → ∃ hp, catW yL_meeting.cls 4 E [(0, 9, 12, 13), (0, 9, 15, 25), (0, 9, 18, 15)] [eIAE, eUOE, eISE] = some hp ∧ ∀ q : Nat, WA X h' 0 0 hp [.val (.ref a), .val (I n), .val (.ref out), .unset] [.ref q] := by
    intro E9 h9 p9
    rcases hx E9 h9 p9 with rfl | rfl | rfl
    · refine ⟨12, by decide +kernel, fun q => ?_⟩
      refine wa_astore_n hX (i := 3) dL_meeting_12 rfl rfl ?_
      dsimp only [List.set]
      refine wi_iconst hX dL_meeting_13 ?_
      refine wa_iret hX dL_meeting_14 ?_
      exact Or.inr (Or.inl ⟨p9, rfl⟩)
    · refine ⟨15, by decide +kernel, fun q => ?_⟩
      refine wa_astore_n hX (i := 3) dL_meeting_15 rfl rfl ?_
      dsimp only [List.set]
      refine wi_iconst hX dL_meeting_16 ?_
      refine wa_iret hX dL_meeting_17 ?_
      exact Or.inr (Or.inr (Or.inl ⟨p9, rfl⟩))
    · refine ⟨18, by decide +kernel, fun q => ?_⟩
      refine wa_astore_n hX (i := 3) dL_meeting_18 rfl rfl ?_
      dsimp only [List.set]
      refine wi_iconst hX dL_meeting_19 ?_
      refine wa_iret hX dL_meeting_20 ?_
      exact Or.inr (Or.inr (Or.inr (⟨p9, rfl⟩)))
  refine WA.room (k2 := 0 + mc1) (sl2 := 0 + ms1) (by omega) (by omega) ?_
  refine wa_aload_n hX (i := 2) dL_meeting_0 rfl rfl ?_
  refine wi_iconst hX dL_meeting_1 ?_
  refine wa_aload_n hX (i := 0) dL_meeting_2 rfl rfl ?_
  refine wa_iload_n hX (i := 1) dL_meeting_3 rfl rfl ?_
  refine wa_callVH hX [eIAE, eUOE, eISE] hT hM ha (by rfl) (by rfl) (by omega) (nA := 1) (by rfl) (by decide +kernel) rfl (by exact Nat.le_of_ble_eq_true rfl) dL_meeting_4 (fun r4 h4 p4 => ?_) kx
  obtain ⟨⟨z, rfl⟩, hG⟩ := h0 _ _ p4
  dsimp only [Option.toList, List.cons_append, List.nil_append]
  refine wa_i2l hX dL_meeting_7 ?_
  refine wi_lastore hX hG (by decide) (by decide) (by decide) dL_meeting_8 ?_
  rw [show (0 : Int).toNat = 0 from rfl]
  refine wa_goto hX (tgt := 21) dL_meeting_9 (by decide) ?_
  refine wi_iconst hX dL_meeting_21 ?_
  refine wa_iret hX dL_meeting_22 ?_
  exact Or.inl ⟨z, h4, p4, rfl, rfl⟩
set_option maxHeartbeats 1000000 in
set_option maxRecDepth 100000 in
theorem c_L_bases (hW : WOK l D S0) (d : Nat) {h : AH} {a la out lo : Nat} {fs : List Value} {G : Nat → Int64} {mc1 ms1 : Nat} {P1 : Option Value → AH → Prop} {PX : String → AH → Prop} {n : Int} (ha : h a = some (la, oF 11 fs)) (hM : MA l D S0 yX10_bases cX10_bases 3 (some .int) d [.ref a, I n] h mc1 ms1 P1 PX) (h0 : ∀ r h', P1 r h' → (∃ z : Int, r = some (I z)) ∧ h' out = some (lo, aL 1 G)) (hx : ∀ E h', PX E h' → E = eIAE ∨ E = eUOE ∨ E = eISE) : MH l D S0 yL_bases cL_bases 4 (some .int) [(0, 9, 12, 13), (0, 9, 15, 25), (0, 9, 18, 15)] (d + 1) [.ref a, I n, .ref out] h mc1 ms1 (fun r h' => (∃ (z : Int) (h1 : AH), P1 (some (I z)) h1 ∧ r = some (I 0) ∧ h' = hset h1 out (lo, aL 1 (up G 0 (Int32.ofInt z).toInt64))) ∨ (PX eIAE h' ∧ r = some (I 1)) ∨ (PX eUOE h' ∧ r = some (I 2)) ∨ (PX eISE h' ∧ r = some (I 3))) := by
  refine MH.start hW (by decide) [.val (.ref a), .val (I n), .val (.ref out), .unset] rfl ?_
  rintro X rfl rfl rfl hT hX
  have kx : ∀ (E : String) (h' : AH), PX E h' → ∃ hp, catW yL_bases.cls 4 E [(0, 9, 12, 13), (0, 9, 15, 25), (0, 9, 18, 15)] [eIAE, eUOE, eISE] = some hp ∧ ∀ q : Nat, WA X h' 0 0 hp [.val (.ref a), .val (I n), .val (.ref out), .unset] [.ref q] := by
    intro E9 h9 p9
    rcases hx E9 h9 p9 with rfl | rfl | rfl
    · refine ⟨12, by decide +kernel, fun q => ?_⟩
      refine wa_astore_n hX (i := 3) dL_bases_12 rfl rfl ?_
      dsimp only [List.set]
      refine wi_iconst hX dL_bases_13 ?_
      refine wa_iret hX dL_bases_14 ?_
      exact Or.inr (Or.inl ⟨p9, rfl⟩)
    · refine ⟨15, by decide +kernel, fun q => ?_⟩
      refine wa_astore_n hX (i := 3) dL_bases_15 rfl rfl ?_
      dsimp only [List.set]
      refine wi_iconst hX dL_bases_16 ?_
      refine wa_iret hX dL_bases_17 ?_
      exact Or.inr (Or.inr (Or.inl ⟨p9, rfl⟩))
    · refine ⟨18, by decide +kernel, fun q => ?_⟩
      refine wa_astore_n hX (i := 3) dL_bases_18 rfl rfl ?_
      dsimp only [List.set]
      refine wi_iconst hX dL_bases_19 ?_
      refine wa_iret hX dL_bases_20 ?_
      exact Or.inr (Or.inr (Or.inr (⟨p9, rfl⟩)))
  refine WA.room (k2 := 0 + mc1) (sl2 := 0 + ms1) (by omega) (by omega) ?_
  refine wa_aload_n hX (i := 2) dL_bases_0 rfl rfl ?_
  refine wi_iconst hX dL_bases_1 ?_
  refine wa_aload_n hX (i := 0) dL_bases_2 rfl rfl ?_
  refine wa_iload_n hX (i := 1) dL_bases_3 rfl rfl ?_
  refine wa_callVH hX [eIAE, eUOE, eISE] hT hM ha (by rfl) (by rfl) (by omega) (nA := 1) (by rfl) (by decide +kernel) rfl (by exact Nat.le_of_ble_eq_true rfl) dL_bases_4 (fun r4 h4 p4 => ?_) kx
  obtain ⟨⟨z, rfl⟩, hG⟩ := h0 _ _ p4
  dsimp only [Option.toList, List.cons_append, List.nil_append]
  refine wa_i2l hX dL_bases_7 ?_
  refine wi_lastore hX hG (by decide) (by decide) (by decide) dL_bases_8 ?_
  rw [show (0 : Int).toNat = 0 from rfl]
  refine wa_goto hX (tgt := 21) dL_bases_9 (by decide) ?_
  refine wi_iconst hX dL_bases_21 ?_
  refine wa_iret hX dL_bases_22 ?_
  exact Or.inl ⟨z, h4, p4, rfl, rfl⟩
set_option maxHeartbeats 1000000 in
set_option maxRecDepth 100000 in
theorem c_L_broken (hW : WOK l D S0) (d : Nat) {h : AH} {a la out lo : Nat} {fs : List Value} {G : Nat → Int64} {mc1 ms1 : Nat} {P1 : Option Value → AH → Prop} {PX : String → AH → Prop} {n : Int} (ha : h a = some (la, oF 11 fs)) (hM : MA l D S0 yX10_broken cX10_broken 2 (some .int) d [.ref a, I n] h mc1 ms1 P1 PX) (h0 : ∀ r h', P1 r h' → (∃ z : Int, r = some (I z)) ∧ h' out = some (lo, aL 1 G)) (hx : ∀ E h', PX E h' → E = eIAE ∨ E = eNSE) : MH l D S0 yL_broken cL_broken 4 (some .int) [(0, 9, 12, 13), (0, 9, 15, 40)] (d + 1) [.ref a, I n, .ref out] h mc1 ms1 (fun r h' => (∃ (z : Int) (h1 : AH), P1 (some (I z)) h1 ∧ r = some (I 0) ∧ h' = hset h1 out (lo, aL 1 (up G 0 (Int32.ofInt z).toInt64))) ∨ (PX eIAE h' ∧ r = some (I 1)) ∨ (PX eNSE h' ∧ r = some (I 2))) := by
  refine MH.start hW (by decide) [.val (.ref a), .val (I n), .val (.ref out), .unset] rfl ?_
  rintro X rfl rfl rfl hT hX
  have kx : ∀ (E : String) (h' : AH), PX E h' → ∃ hp, catW yL_broken.cls 4 E [(0, 9, 12, 13), (0, 9, 15, 40)] [eIAE, eNSE] = some hp ∧ ∀ q : Nat, WA X h' 0 0 hp [.val (.ref a), .val (I n), .val (.ref out), .unset] [.ref q] := by
    intro E9 h9 p9
    rcases hx E9 h9 p9 with rfl | rfl
    · refine ⟨12, by decide +kernel, fun q => ?_⟩
      refine wa_astore_n hX (i := 3) dL_broken_12 rfl rfl ?_
      dsimp only [List.set]
      refine wi_iconst hX dL_broken_13 ?_
      refine wa_iret hX dL_broken_14 ?_
      exact Or.inr (Or.inl ⟨p9, rfl⟩)
    · refine ⟨15, by decide +kernel, fun q => ?_⟩
      refine wa_astore_n hX (i := 3) dL_broken_15 rfl rfl ?_
      dsimp only [List.set]
      refine wi_iconst hX dL_broken_16 ?_
      refine wa_iret hX dL_broken_17 ?_
      exact Or.inr (Or.inr (⟨p9, rfl⟩))
  refine WA.room (k2 := 0 + mc1) (sl2 := 0 + ms1) (by omega) (by omega) ?_
  refine wa_aload_n hX (i := 2) dL_broken_0 rfl rfl ?_
  refine wi_iconst hX dL_broken_1 ?_
  refine wa_aload_n hX (i := 0) dL_broken_2 rfl rfl ?_
  refine wa_iload_n hX (i := 1) dL_broken_3 rfl rfl ?_
  refine wa_callVH hX [eIAE, eNSE] hT hM ha (by rfl) (by rfl) (by omega) (nA := 1) (by rfl) (by decide +kernel) rfl (by exact Nat.le_of_ble_eq_true rfl) dL_broken_4 (fun r4 h4 p4 => ?_) kx
  obtain ⟨⟨z, rfl⟩, hG⟩ := h0 _ _ p4
  dsimp only [Option.toList, List.cons_append, List.nil_append]
  refine wa_i2l hX dL_broken_7 ?_
  refine wi_lastore hX hG (by decide) (by decide) (by decide) dL_broken_8 ?_
  rw [show (0 : Int).toNat = 0 from rfl]
  refine wa_goto hX (tgt := 18) dL_broken_9 (by decide) ?_
  refine wi_iconst hX dL_broken_18 ?_
  refine wa_iret hX dL_broken_19 ?_
  exact Or.inl ⟨z, h4, p4, rfl, rfl⟩
set_option maxHeartbeats 1000000 in
set_option maxRecDepth 100000 in
theorem c_L_dual (hW : WOK l D S0) (d : Nat) {h : AH} {a la out lo : Nat} {fs : List Value} {G : Nat → Int64} {mc1 ms1 : Nat} {P1 : Option Value → AH → Prop} {PX : String → AH → Prop} {n : Int} (ha : h a = some (la, oF 11 fs)) (hM : MA l D S0 yX10_dual cX10_dual 3 (some .int) d [.ref a, I n] h mc1 ms1 P1 PX) (h0 : ∀ r h', P1 r h' → (∃ z : Int, r = some (I z)) ∧ h' out = some (lo, aL 1 G)) (hx : ∀ E h', PX E h' → E = eIOO ∨ E = eISE) : MH l D S0 yL_dual cL_dual 4 (some .int) [(0, 9, 12, 45), (0, 9, 15, 15)] (d + 1) [.ref a, I n, .ref out] h mc1 ms1 (fun r h' => (∃ (z : Int) (h1 : AH), P1 (some (I z)) h1 ∧ r = some (I 0) ∧ h' = hset h1 out (lo, aL 1 (up G 0 (Int32.ofInt z).toInt64))) ∨ (PX eIOO h' ∧ r = some (I 1)) ∨ (PX eISE h' ∧ r = some (I 2))) := by
  refine MH.start hW (by decide) [.val (.ref a), .val (I n), .val (.ref out), .unset] rfl ?_
  rintro X rfl rfl rfl hT hX
  have kx : ∀ (E : String) (h' : AH), PX E h' → ∃ hp, catW yL_dual.cls 4 E [(0, 9, 12, 45), (0, 9, 15, 15)] [eIOO, eISE] = some hp ∧ ∀ q : Nat, WA X h' 0 0 hp [.val (.ref a), .val (I n), .val (.ref out), .unset] [.ref q] := by
    intro E9 h9 p9
    rcases hx E9 h9 p9 with rfl | rfl
    · refine ⟨12, by decide +kernel, fun q => ?_⟩
      refine wa_astore_n hX (i := 3) dL_dual_12 rfl rfl ?_
      dsimp only [List.set]
      refine wi_iconst hX dL_dual_13 ?_
      refine wa_iret hX dL_dual_14 ?_
      exact Or.inr (Or.inl ⟨p9, rfl⟩)
    · refine ⟨15, by decide +kernel, fun q => ?_⟩
      refine wa_astore_n hX (i := 3) dL_dual_15 rfl rfl ?_
      dsimp only [List.set]
      refine wi_iconst hX dL_dual_16 ?_
      refine wa_iret hX dL_dual_17 ?_
      exact Or.inr (Or.inr (⟨p9, rfl⟩))
  refine WA.room (k2 := 0 + mc1) (sl2 := 0 + ms1) (by omega) (by omega) ?_
  refine wa_aload_n hX (i := 2) dL_dual_0 rfl rfl ?_
  refine wi_iconst hX dL_dual_1 ?_
  refine wa_aload_n hX (i := 0) dL_dual_2 rfl rfl ?_
  refine wa_iload_n hX (i := 1) dL_dual_3 rfl rfl ?_
  refine wa_callVH hX [eIOO, eISE] hT hM ha (by rfl) (by rfl) (by omega) (nA := 1) (by rfl) (by decide +kernel) rfl (by exact Nat.le_of_ble_eq_true rfl) dL_dual_4 (fun r4 h4 p4 => ?_) kx
  obtain ⟨⟨z, rfl⟩, hG⟩ := h0 _ _ p4
  dsimp only [Option.toList, List.cons_append, List.nil_append]
  refine wa_i2l hX dL_dual_7 ?_
  refine wi_lastore hX hG (by decide) (by decide) (by decide) dL_dual_8 ?_
  rw [show (0 : Int).toNat = 0 from rfl]
  refine wa_goto hX (tgt := 18) dL_dual_9 (by decide) ?_
  refine wi_iconst hX dL_dual_18 ?_
  refine wa_iret hX dL_dual_19 ?_
  exact Or.inl ⟨z, h4, p4, rfl, rfl⟩
set_option maxHeartbeats 1000000 in
set_option maxRecDepth 100000 in
theorem c_L_delete (hW : WOK l D S0) (d : Nat) {h : AH} {a la out lo : Nat} {fs : List Value} {G : Nat → Int64} {mc1 ms1 : Nat} {P1 : Option Value → AH → Prop} {PX : String → AH → Prop} {n : Int} {v : Int} (ha : h a = some (la, oF 11 fs)) (hM : MA l D S0 yX10_delete cX10_delete 4 (some .int) d [.ref a, I n, I v] h mc1 ms1 P1 PX) (h0 : ∀ r h', P1 r h' → (∃ z : Int, r = some (I z)) ∧ h' out = some (lo, aL 1 G)) (hx : ∀ E h', PX E h' → E = eIOO ∨ E = eISE) : MH l D S0 yL_delete cL_delete 5 (some .int) [(0, 10, 13, 45), (0, 10, 17, 15)] (d + 1) [.ref a, I n, I v, .ref out] h mc1 ms1 (fun r h' => (∃ (z : Int) (h1 : AH), P1 (some (I z)) h1 ∧ r = some (I 0) ∧ h' = hset h1 out (lo, aL 1 (up G 0 (Int32.ofInt z).toInt64))) ∨ (PX eIOO h' ∧ r = some (I 1)) ∨ (PX eISE h' ∧ r = some (I 2))) := by
  refine MH.start hW (by decide) [.val (.ref a), .val (I n), .val (I v), .val (.ref out), .unset] rfl ?_
  rintro X rfl rfl rfl hT hX
  have kx : ∀ (E : String) (h' : AH), PX E h' → ∃ hp, catW yL_delete.cls 5 E [(0, 10, 13, 45), (0, 10, 17, 15)] [eIOO, eISE] = some hp ∧ ∀ q : Nat, WA X h' 0 0 hp [.val (.ref a), .val (I n), .val (I v), .val (.ref out), .unset] [.ref q] := by
    intro E9 h9 p9
    rcases hx E9 h9 p9 with rfl | rfl
    · refine ⟨13, by decide +kernel, fun q => ?_⟩
      refine wa_astore hX dL_delete_13 rfl ?_
      dsimp only [List.set]
      refine wi_iconst hX dL_delete_15 ?_
      refine wa_iret hX dL_delete_16 ?_
      exact Or.inr (Or.inl ⟨p9, rfl⟩)
    · refine ⟨17, by decide +kernel, fun q => ?_⟩
      refine wa_astore hX dL_delete_17 rfl ?_
      dsimp only [List.set]
      refine wi_iconst hX dL_delete_19 ?_
      refine wa_iret hX dL_delete_20 ?_
      exact Or.inr (Or.inr (⟨p9, rfl⟩))
  refine WA.room (k2 := 0 + mc1) (sl2 := 0 + ms1) (by omega) (by omega) ?_
  refine wa_aload_n hX (i := 3) dL_delete_0 rfl rfl ?_
  refine wi_iconst hX dL_delete_1 ?_
  refine wa_aload_n hX (i := 0) dL_delete_2 rfl rfl ?_
  refine wa_iload_n hX (i := 1) dL_delete_3 rfl rfl ?_
  refine wa_iload_n hX (i := 2) dL_delete_4 rfl rfl ?_
  refine wa_callVH hX [eIOO, eISE] hT hM ha (by rfl) (by rfl) (by omega) (nA := 2) (by rfl) (by decide +kernel) rfl (by exact Nat.le_of_ble_eq_true rfl) dL_delete_5 (fun r5 h5 p5 => ?_) kx
  obtain ⟨⟨z, rfl⟩, hG⟩ := h0 _ _ p5
  dsimp only [Option.toList, List.cons_append, List.nil_append]
  refine wa_i2l hX dL_delete_8 ?_
  refine wi_lastore hX hG (by decide) (by decide) (by decide) dL_delete_9 ?_
  rw [show (0 : Int).toNat = 0 from rfl]
  refine wa_goto hX (tgt := 21) dL_delete_10 (by decide) ?_
  refine wi_iconst hX dL_delete_21 ?_
  refine wa_iret hX dL_delete_22 ?_
  exact Or.inl ⟨z, h5, p5, rfl, rfl⟩
set_option maxHeartbeats 1000000 in
set_option maxRecDepth 100000 in
theorem c_L_contract (hW : WOK l D S0) (d : Nat) {h : AH} {a la out lo : Nat} {fs : List Value} {G : Nat → Int64} {mc1 ms1 : Nat} {P1 : Option Value → AH → Prop} {PX : String → AH → Prop} {n : Int} {v : Int} (ha : h a = some (la, oF 11 fs)) (hM : MA l D S0 yX10_contract cX10_contract 4 (some .int) d [.ref a, I n, I v] h mc1 ms1 P1 PX) (h0 : ∀ r h', P1 r h' → (∃ z : Int, r = some (I z)) ∧ h' out = some (lo, aL 1 G)) (hx : ∀ E h', PX E h' → E = eIOO ∨ E = eISE) : MH l D S0 yL_contract cL_contract 5 (some .int) [(0, 10, 13, 45), (0, 10, 17, 15)] (d + 1) [.ref a, I n, I v, .ref out] h mc1 ms1 (fun r h' => (∃ (z : Int) (h1 : AH), P1 (some (I z)) h1 ∧ r = some (I 0) ∧ h' = hset h1 out (lo, aL 1 (up G 0 (Int32.ofInt z).toInt64))) ∨ (PX eIOO h' ∧ r = some (I 1)) ∨ (PX eISE h' ∧ r = some (I 2))) := by
  refine MH.start hW (by decide) [.val (.ref a), .val (I n), .val (I v), .val (.ref out), .unset] rfl ?_
  rintro X rfl rfl rfl hT hX
  have kx : ∀ (E : String) (h' : AH), PX E h' → ∃ hp, catW yL_contract.cls 5 E [(0, 10, 13, 45), (0, 10, 17, 15)] [eIOO, eISE] = some hp ∧ ∀ q : Nat, WA X h' 0 0 hp [.val (.ref a), .val (I n), .val (I v), .val (.ref out), .unset] [.ref q] := by
    intro E9 h9 p9
    rcases hx E9 h9 p9 with rfl | rfl
    · refine ⟨13, by decide +kernel, fun q => ?_⟩
      refine wa_astore hX dL_contract_13 rfl ?_
      dsimp only [List.set]
      refine wi_iconst hX dL_contract_15 ?_
      refine wa_iret hX dL_contract_16 ?_
      exact Or.inr (Or.inl ⟨p9, rfl⟩)
    · refine ⟨17, by decide +kernel, fun q => ?_⟩
      refine wa_astore hX dL_contract_17 rfl ?_
      dsimp only [List.set]
      refine wi_iconst hX dL_contract_19 ?_
      refine wa_iret hX dL_contract_20 ?_
      exact Or.inr (Or.inr (⟨p9, rfl⟩))
  refine WA.room (k2 := 0 + mc1) (sl2 := 0 + ms1) (by omega) (by omega) ?_
  refine wa_aload_n hX (i := 3) dL_contract_0 rfl rfl ?_
  refine wi_iconst hX dL_contract_1 ?_
  refine wa_aload_n hX (i := 0) dL_contract_2 rfl rfl ?_
  refine wa_iload_n hX (i := 1) dL_contract_3 rfl rfl ?_
  refine wa_iload_n hX (i := 2) dL_contract_4 rfl rfl ?_
  refine wa_callVH hX [eIOO, eISE] hT hM ha (by rfl) (by rfl) (by omega) (nA := 2) (by rfl) (by decide +kernel) rfl (by exact Nat.le_of_ble_eq_true rfl) dL_contract_5 (fun r5 h5 p5 => ?_) kx
  obtain ⟨⟨z, rfl⟩, hG⟩ := h0 _ _ p5
  dsimp only [Option.toList, List.cons_append, List.nil_append]
  refine wa_i2l hX dL_contract_8 ?_
  refine wi_lastore hX hG (by decide) (by decide) (by decide) dL_contract_9 ?_
  rw [show (0 : Int).toNat = 0 from rfl]
  refine wa_goto hX (tgt := 21) dL_contract_10 (by decide) ?_
  refine wi_iconst hX dL_contract_21 ?_
  refine wa_iret hX dL_contract_22 ?_
  exact Or.inl ⟨z, h5, p5, rfl, rfl⟩
set_option maxHeartbeats 1000000 in
set_option maxRecDepth 100000 in
theorem c_L_sum (hW : WOK l D S0) (d : Nat) {h : AH} {a la out lo : Nat} {fs : List Value} {G : Nat → Int64} {mc1 ms1 : Nat} {P1 : Option Value → AH → Prop} {PX : String → AH → Prop} {n : Int} {v : Int} (ha : h a = some (la, oF 11 fs)) (hM : MA l D S0 yX10_sum cX10_sum 5 (some .int) d [.ref a, I n, I v] h mc1 ms1 P1 PX) (h0 : ∀ r h', P1 r h' → (∃ z : Int, r = some (I z)) ∧ h' out = some (lo, aL 1 G)) (hx : ∀ E h', PX E h' → E = eIOO ∨ E = eUOE ∨ E = eISE) : MH l D S0 yL_sum cL_sum 5 (some .int) [(0, 10, 13, 45), (0, 10, 17, 25), (0, 10, 21, 15)] (d + 1) [.ref a, I n, I v, .ref out] h mc1 ms1 (fun r h' => (∃ (z : Int) (h1 : AH), P1 (some (I z)) h1 ∧ r = some (I 0) ∧ h' = hset h1 out (lo, aL 1 (up G 0 (Int32.ofInt z).toInt64))) ∨ (PX eIOO h' ∧ r = some (I 1)) ∨ (PX eUOE h' ∧ r = some (I 2)) ∨ (PX eISE h' ∧ r = some (I 3))) := by
  refine MH.start hW (by decide) [.val (.ref a), .val (I n), .val (I v), .val (.ref out), .unset] rfl ?_
  rintro X rfl rfl rfl hT hX
  have kx : ∀ (E : String) (h' : AH), PX E h' → ∃ hp, catW yL_sum.cls 5 E [(0, 10, 13, 45), (0, 10, 17, 25), (0, 10, 21, 15)] [eIOO, eUOE, eISE] = some hp ∧ ∀ q : Nat, WA X h' 0 0 hp [.val (.ref a), .val (I n), .val (I v), .val (.ref out), .unset] [.ref q] := by
    intro E9 h9 p9
    rcases hx E9 h9 p9 with rfl | rfl | rfl
    · refine ⟨13, by decide +kernel, fun q => ?_⟩
      refine wa_astore hX dL_sum_13 rfl ?_
      dsimp only [List.set]
      refine wi_iconst hX dL_sum_15 ?_
      refine wa_iret hX dL_sum_16 ?_
      exact Or.inr (Or.inl ⟨p9, rfl⟩)
    · refine ⟨17, by decide +kernel, fun q => ?_⟩
      refine wa_astore hX dL_sum_17 rfl ?_
      dsimp only [List.set]
      refine wi_iconst hX dL_sum_19 ?_
      refine wa_iret hX dL_sum_20 ?_
      exact Or.inr (Or.inr (Or.inl ⟨p9, rfl⟩))
    · refine ⟨21, by decide +kernel, fun q => ?_⟩
      refine wa_astore hX dL_sum_21 rfl ?_
      dsimp only [List.set]
      refine wi_iconst hX dL_sum_23 ?_
      refine wa_iret hX dL_sum_24 ?_
      exact Or.inr (Or.inr (Or.inr (⟨p9, rfl⟩)))
  refine WA.room (k2 := 0 + mc1) (sl2 := 0 + ms1) (by omega) (by omega) ?_
  refine wa_aload_n hX (i := 3) dL_sum_0 rfl rfl ?_
  refine wi_iconst hX dL_sum_1 ?_
  refine wa_aload_n hX (i := 0) dL_sum_2 rfl rfl ?_
  refine wa_iload_n hX (i := 1) dL_sum_3 rfl rfl ?_
  refine wa_iload_n hX (i := 2) dL_sum_4 rfl rfl ?_
  refine wa_callVH hX [eIOO, eUOE, eISE] hT hM ha (by rfl) (by rfl) (by omega) (nA := 2) (by rfl) (by decide +kernel) rfl (by exact Nat.le_of_ble_eq_true rfl) dL_sum_5 (fun r5 h5 p5 => ?_) kx
  obtain ⟨⟨z, rfl⟩, hG⟩ := h0 _ _ p5
  dsimp only [Option.toList, List.cons_append, List.nil_append]
  refine wa_i2l hX dL_sum_8 ?_
  refine wi_lastore hX hG (by decide) (by decide) (by decide) dL_sum_9 ?_
  rw [show (0 : Int).toNat = 0 from rfl]
  refine wa_goto hX (tgt := 25) dL_sum_10 (by decide) ?_
  refine wi_iconst hX dL_sum_25 ?_
  refine wa_iret hX dL_sum_26 ?_
  exact Or.inl ⟨z, h5, p5, rfl, rfl⟩
set_option maxHeartbeats 1000000 in
set_option maxRecDepth 100000 in
theorem c_L_union (hW : WOK l D S0) (d : Nat) {h : AH} {a la out lo : Nat} {fs : List Value} {G : Nat → Int64} {mc1 ms1 : Nat} {P1 : Option Value → AH → Prop} {PX : String → AH → Prop} {n : Int} {v : Int} (ha : h a = some (la, oF 11 fs)) (hM : MA l D S0 yX10_union cX10_union 5 (some .int) d [.ref a, I n, I v] h mc1 ms1 P1 PX) (h0 : ∀ r h', P1 r h' → (∃ z : Int, r = some (I z)) ∧ h' out = some (lo, aL 1 G)) (hx : ∀ E h', PX E h' → E = eIOO ∨ E = eUOE ∨ E = eISE) : MH l D S0 yL_union cL_union 5 (some .int) [(0, 10, 13, 45), (0, 10, 17, 25), (0, 10, 21, 15)] (d + 1) [.ref a, I n, I v, .ref out] h mc1 ms1 (fun r h' => (∃ (z : Int) (h1 : AH), P1 (some (I z)) h1 ∧ r = some (I 0) ∧ h' = hset h1 out (lo, aL 1 (up G 0 (Int32.ofInt z).toInt64))) ∨ (PX eIOO h' ∧ r = some (I 1)) ∨ (PX eUOE h' ∧ r = some (I 2)) ∨ (PX eISE h' ∧ r = some (I 3))) := by
  refine MH.start hW (by decide) [.val (.ref a), .val (I n), .val (I v), .val (.ref out), .unset] rfl ?_
  rintro X rfl rfl rfl hT hX
  have kx : ∀ (E : String) (h' : AH), PX E h' → ∃ hp, catW yL_union.cls 5 E [(0, 10, 13, 45), (0, 10, 17, 25), (0, 10, 21, 15)] [eIOO, eUOE, eISE] = some hp ∧ ∀ q : Nat, WA X h' 0 0 hp [.val (.ref a), .val (I n), .val (I v), .val (.ref out), .unset] [.ref q] := by
    intro E9 h9 p9
    rcases hx E9 h9 p9 with rfl | rfl | rfl
    · refine ⟨13, by decide +kernel, fun q => ?_⟩
      refine wa_astore hX dL_union_13 rfl ?_
      dsimp only [List.set]
      refine wi_iconst hX dL_union_15 ?_
      refine wa_iret hX dL_union_16 ?_
      exact Or.inr (Or.inl ⟨p9, rfl⟩)
    · refine ⟨17, by decide +kernel, fun q => ?_⟩
      refine wa_astore hX dL_union_17 rfl ?_
      dsimp only [List.set]
      refine wi_iconst hX dL_union_19 ?_
      refine wa_iret hX dL_union_20 ?_
      exact Or.inr (Or.inr (Or.inl ⟨p9, rfl⟩))
    · refine ⟨21, by decide +kernel, fun q => ?_⟩
      refine wa_astore hX dL_union_21 rfl ?_
      dsimp only [List.set]
      refine wi_iconst hX dL_union_23 ?_
      refine wa_iret hX dL_union_24 ?_
      exact Or.inr (Or.inr (Or.inr (⟨p9, rfl⟩)))
  refine WA.room (k2 := 0 + mc1) (sl2 := 0 + ms1) (by omega) (by omega) ?_
  refine wa_aload_n hX (i := 3) dL_union_0 rfl rfl ?_
  refine wi_iconst hX dL_union_1 ?_
  refine wa_aload_n hX (i := 0) dL_union_2 rfl rfl ?_
  refine wa_iload_n hX (i := 1) dL_union_3 rfl rfl ?_
  refine wa_iload_n hX (i := 2) dL_union_4 rfl rfl ?_
  refine wa_callVH hX [eIOO, eUOE, eISE] hT hM ha (by rfl) (by rfl) (by omega) (nA := 2) (by rfl) (by decide +kernel) rfl (by exact Nat.le_of_ble_eq_true rfl) dL_union_5 (fun r5 h5 p5 => ?_) kx
  obtain ⟨⟨z, rfl⟩, hG⟩ := h0 _ _ p5
  dsimp only [Option.toList, List.cons_append, List.nil_append]
  refine wa_i2l hX dL_union_8 ?_
  refine wi_lastore hX hG (by decide) (by decide) (by decide) dL_union_9 ?_
  rw [show (0 : Int).toNat = 0 from rfl]
  refine wa_goto hX (tgt := 25) dL_union_10 (by decide) ?_
  refine wi_iconst hX dL_union_25 ?_
  refine wa_iret hX dL_union_26 ?_
  exact Or.inl ⟨z, h5, p5, rfl, rfl⟩
set_option maxHeartbeats 1000000 in
set_option maxRecDepth 100000 in
theorem c_L_truncate (hW : WOK l D S0) (d : Nat) {h : AH} {a la out lo : Nat} {fs : List Value} {G : Nat → Int64} {mc1 ms1 : Nat} {P1 : Option Value → AH → Prop} {PX : String → AH → Prop} {n : Int} (ha : h a = some (la, oF 11 fs)) (hM : MA l D S0 yX10_truncate cX10_truncate 3 (some .int) d [.ref a, I n] h mc1 ms1 P1 PX) (h0 : ∀ r h', P1 r h' → (∃ z : Int, r = some (I z)) ∧ h' out = some (lo, aL 1 G)) (hx : ∀ E h', PX E h' → E = eIOO ∨ E = eUOE ∨ E = eISE) : MH l D S0 yL_truncate cL_truncate 4 (some .int) [(0, 9, 12, 45), (0, 9, 15, 25), (0, 9, 18, 15)] (d + 1) [.ref a, I n, .ref out] h mc1 ms1 (fun r h' => (∃ (z : Int) (h1 : AH), P1 (some (I z)) h1 ∧ r = some (I 0) ∧ h' = hset h1 out (lo, aL 1 (up G 0 (Int32.ofInt z).toInt64))) ∨ (PX eIOO h' ∧ r = some (I 1)) ∨ (PX eUOE h' ∧ r = some (I 2)) ∨ (PX eISE h' ∧ r = some (I 3))) := by
  refine MH.start hW (by decide) [.val (.ref a), .val (I n), .val (.ref out), .unset] rfl ?_
  rintro X rfl rfl rfl hT hX
  have kx : ∀ (E : String) (h' : AH), PX E h' → ∃ hp, catW yL_truncate.cls 4 E [(0, 9, 12, 45), (0, 9, 15, 25), (0, 9, 18, 15)] [eIOO, eUOE, eISE] = some hp ∧ ∀ q : Nat, WA X h' 0 0 hp [.val (.ref a), .val (I n), .val (.ref out), .unset] [.ref q] := by
    intro E9 h9 p9
    rcases hx E9 h9 p9 with rfl | rfl | rfl
    · refine ⟨12, by decide +kernel, fun q => ?_⟩
      refine wa_astore_n hX (i := 3) dL_truncate_12 rfl rfl ?_
      dsimp only [List.set]
      refine wi_iconst hX dL_truncate_13 ?_
      refine wa_iret hX dL_truncate_14 ?_
      exact Or.inr (Or.inl ⟨p9, rfl⟩)
    · refine ⟨15, by decide +kernel, fun q => ?_⟩
      refine wa_astore_n hX (i := 3) dL_truncate_15 rfl rfl ?_
      dsimp only [List.set]
      refine wi_iconst hX dL_truncate_16 ?_
      refine wa_iret hX dL_truncate_17 ?_
      exact Or.inr (Or.inr (Or.inl ⟨p9, rfl⟩))
    · refine ⟨18, by decide +kernel, fun q => ?_⟩
      refine wa_astore_n hX (i := 3) dL_truncate_18 rfl rfl ?_
      dsimp only [List.set]
      refine wi_iconst hX dL_truncate_19 ?_
      refine wa_iret hX dL_truncate_20 ?_
      exact Or.inr (Or.inr (Or.inr (⟨p9, rfl⟩)))
  refine WA.room (k2 := 0 + mc1) (sl2 := 0 + ms1) (by omega) (by omega) ?_
  refine wa_aload_n hX (i := 2) dL_truncate_0 rfl rfl ?_
  refine wi_iconst hX dL_truncate_1 ?_
  refine wa_aload_n hX (i := 0) dL_truncate_2 rfl rfl ?_
  refine wa_iload_n hX (i := 1) dL_truncate_3 rfl rfl ?_
  refine wa_callVH hX [eIOO, eUOE, eISE] hT hM ha (by rfl) (by rfl) (by omega) (nA := 1) (by rfl) (by decide +kernel) rfl (by exact Nat.le_of_ble_eq_true rfl) dL_truncate_4 (fun r4 h4 p4 => ?_) kx
  obtain ⟨⟨z, rfl⟩, hG⟩ := h0 _ _ p4
  dsimp only [Option.toList, List.cons_append, List.nil_append]
  refine wa_i2l hX dL_truncate_7 ?_
  refine wi_lastore hX hG (by decide) (by decide) (by decide) dL_truncate_8 ?_
  rw [show (0 : Int).toNat = 0 from rfl]
  refine wa_goto hX (tgt := 21) dL_truncate_9 (by decide) ?_
  refine wi_iconst hX dL_truncate_21 ?_
  refine wa_iret hX dL_truncate_22 ?_
  exact Or.inl ⟨z, h4, p4, rfl, rfl⟩
set_option maxHeartbeats 1000000 in
set_option maxRecDepth 100000 in
theorem c_L_relax (hW : WOK l D S0) (d : Nat) {h : AH} {a la out lo : Nat} {fs : List Value} {G : Nat → Int64} {mc1 ms1 : Nat} {P1 : Option Value → AH → Prop} {PX : String → AH → Prop} {n : Int} {v : Int} (ha : h a = some (la, oF 11 fs)) (hM : MA l D S0 yX10_relax cX10_relax 4 (some .int) d [.ref a, I n, I v] h mc1 ms1 P1 PX) (h0 : ∀ r h', P1 r h' → (∃ z : Int, r = some (I z)) ∧ h' out = some (lo, aL 1 G)) (hx : ∀ E h', PX E h' → E = eIOO ∨ E = eIAE ∨ E = eUOE ∨ E = eISE) : MH l D S0 yL_relax cL_relax 5 (some .int) [(0, 10, 13, 45), (0, 10, 17, 13), (0, 10, 21, 25), (0, 10, 25, 15)] (d + 1) [.ref a, I n, I v, .ref out] h mc1 ms1 (fun r h' => (∃ (z : Int) (h1 : AH), P1 (some (I z)) h1 ∧ r = some (I 0) ∧ h' = hset h1 out (lo, aL 1 (up G 0 (Int32.ofInt z).toInt64))) ∨ (PX eIOO h' ∧ r = some (I 1)) ∨ (PX eIAE h' ∧ r = some (I 2)) ∨ (PX eUOE h' ∧ r = some (I 3)) ∨ (PX eISE h' ∧ r = some (I 4))) := by
  refine MH.start hW (by decide) [.val (.ref a), .val (I n), .val (I v), .val (.ref out), .unset] rfl ?_
  rintro X rfl rfl rfl hT hX
  have kx : ∀ (E : String) (h' : AH), PX E h' → ∃ hp, catW yL_relax.cls 5 E [(0, 10, 13, 45), (0, 10, 17, 13), (0, 10, 21, 25), (0, 10, 25, 15)] [eIOO, eIAE, eUOE, eISE] = some hp ∧ ∀ q : Nat, WA X h' 0 0 hp [.val (.ref a), .val (I n), .val (I v), .val (.ref out), .unset] [.ref q] := by
    intro E9 h9 p9
    rcases hx E9 h9 p9 with rfl | rfl | rfl | rfl
    · refine ⟨13, by decide +kernel, fun q => ?_⟩
      refine wa_astore hX dL_relax_13 rfl ?_
      dsimp only [List.set]
      refine wi_iconst hX dL_relax_15 ?_
      refine wa_iret hX dL_relax_16 ?_
      exact Or.inr (Or.inl ⟨p9, rfl⟩)
    · refine ⟨17, by decide +kernel, fun q => ?_⟩
      refine wa_astore hX dL_relax_17 rfl ?_
      dsimp only [List.set]
      refine wi_iconst hX dL_relax_19 ?_
      refine wa_iret hX dL_relax_20 ?_
      exact Or.inr (Or.inr (Or.inl ⟨p9, rfl⟩))
    · refine ⟨21, by decide +kernel, fun q => ?_⟩
      refine wa_astore hX dL_relax_21 rfl ?_
      dsimp only [List.set]
      refine wi_iconst hX dL_relax_23 ?_
      refine wa_iret hX dL_relax_24 ?_
      exact Or.inr (Or.inr (Or.inr (Or.inl ⟨p9, rfl⟩)))
    · refine ⟨25, by decide +kernel, fun q => ?_⟩
      refine wa_astore hX dL_relax_25 rfl ?_
      dsimp only [List.set]
      refine wi_iconst hX dL_relax_27 ?_
      refine wa_iret hX dL_relax_28 ?_
      exact Or.inr (Or.inr (Or.inr (Or.inr (⟨p9, rfl⟩))))
  refine WA.room (k2 := 0 + mc1) (sl2 := 0 + ms1) (by omega) (by omega) ?_
  refine wa_aload_n hX (i := 3) dL_relax_0 rfl rfl ?_
  refine wi_iconst hX dL_relax_1 ?_
  refine wa_aload_n hX (i := 0) dL_relax_2 rfl rfl ?_
  refine wa_iload_n hX (i := 1) dL_relax_3 rfl rfl ?_
  refine wa_iload_n hX (i := 2) dL_relax_4 rfl rfl ?_
  refine wa_callVH hX [eIOO, eIAE, eUOE, eISE] hT hM ha (by rfl) (by rfl) (by omega) (nA := 2) (by rfl) (by decide +kernel) rfl (by exact Nat.le_of_ble_eq_true rfl) dL_relax_5 (fun r5 h5 p5 => ?_) kx
  obtain ⟨⟨z, rfl⟩, hG⟩ := h0 _ _ p5
  dsimp only [Option.toList, List.cons_append, List.nil_append]
  refine wa_i2l hX dL_relax_8 ?_
  refine wi_lastore hX hG (by decide) (by decide) (by decide) dL_relax_9 ?_
  rw [show (0 : Int).toNat = 0 from rfl]
  refine wa_goto hX (tgt := 29) dL_relax_10 (by decide) ?_
  refine wi_iconst hX dL_relax_29 ?_
  refine wa_iret hX dL_relax_30 ?_
  exact Or.inl ⟨z, h5, p5, rfl, rfl⟩
set_option maxHeartbeats 1000000 in
set_option maxRecDepth 100000 in
theorem c_L_extend (hW : WOK l D S0) (d : Nat) {h : AH} {a la out lo : Nat} {fs : List Value} {G : Nat → Int64} {mc1 ms1 : Nat} {P1 : Option Value → AH → Prop} {PX : String → AH → Prop} {n : Int} {v : Int} (ha : h a = some (la, oF 11 fs)) (hM : MA l D S0 yX10_extend cX10_extend 4 (some .int) d [.ref a, I n, I v] h mc1 ms1 P1 PX) (h0 : ∀ r h', P1 r h' → (∃ z : Int, r = some (I z)) ∧ h' out = some (lo, aL 1 G)) (hx : ∀ E h', PX E h' → E = eIOO ∨ E = eIAE ∨ E = eUOE ∨ E = eISE) : MH l D S0 yL_extend cL_extend 5 (some .int) [(0, 10, 13, 45), (0, 10, 17, 13), (0, 10, 21, 25), (0, 10, 25, 15)] (d + 1) [.ref a, I n, I v, .ref out] h mc1 ms1 (fun r h' => (∃ (z : Int) (h1 : AH), P1 (some (I z)) h1 ∧ r = some (I 0) ∧ h' = hset h1 out (lo, aL 1 (up G 0 (Int32.ofInt z).toInt64))) ∨ (PX eIOO h' ∧ r = some (I 1)) ∨ (PX eIAE h' ∧ r = some (I 2)) ∨ (PX eUOE h' ∧ r = some (I 3)) ∨ (PX eISE h' ∧ r = some (I 4))) := by
  refine MH.start hW (by decide) [.val (.ref a), .val (I n), .val (I v), .val (.ref out), .unset] rfl ?_
  rintro X rfl rfl rfl hT hX
  have kx : ∀ (E : String) (h' : AH), PX E h' → ∃ hp, catW yL_extend.cls 5 E [(0, 10, 13, 45), (0, 10, 17, 13), (0, 10, 21, 25), (0, 10, 25, 15)] [eIOO, eIAE, eUOE, eISE] = some hp ∧ ∀ q : Nat, WA X h' 0 0 hp [.val (.ref a), .val (I n), .val (I v), .val (.ref out), .unset] [.ref q] := by
    intro E9 h9 p9
    rcases hx E9 h9 p9 with rfl | rfl | rfl | rfl
    · refine ⟨13, by decide +kernel, fun q => ?_⟩
      refine wa_astore hX dL_extend_13 rfl ?_
      dsimp only [List.set]
      refine wi_iconst hX dL_extend_15 ?_
      refine wa_iret hX dL_extend_16 ?_
      exact Or.inr (Or.inl ⟨p9, rfl⟩)
    · refine ⟨17, by decide +kernel, fun q => ?_⟩
      refine wa_astore hX dL_extend_17 rfl ?_
      dsimp only [List.set]
      refine wi_iconst hX dL_extend_19 ?_
      refine wa_iret hX dL_extend_20 ?_
      exact Or.inr (Or.inr (Or.inl ⟨p9, rfl⟩))
    · refine ⟨21, by decide +kernel, fun q => ?_⟩
      refine wa_astore hX dL_extend_21 rfl ?_
      dsimp only [List.set]
      refine wi_iconst hX dL_extend_23 ?_
      refine wa_iret hX dL_extend_24 ?_
      exact Or.inr (Or.inr (Or.inr (Or.inl ⟨p9, rfl⟩)))
    · refine ⟨25, by decide +kernel, fun q => ?_⟩
      refine wa_astore hX dL_extend_25 rfl ?_
      dsimp only [List.set]
      refine wi_iconst hX dL_extend_27 ?_
      refine wa_iret hX dL_extend_28 ?_
      exact Or.inr (Or.inr (Or.inr (Or.inr (⟨p9, rfl⟩))))
  refine WA.room (k2 := 0 + mc1) (sl2 := 0 + ms1) (by omega) (by omega) ?_
  refine wa_aload_n hX (i := 3) dL_extend_0 rfl rfl ?_
  refine wi_iconst hX dL_extend_1 ?_
  refine wa_aload_n hX (i := 0) dL_extend_2 rfl rfl ?_
  refine wa_iload_n hX (i := 1) dL_extend_3 rfl rfl ?_
  refine wa_iload_n hX (i := 2) dL_extend_4 rfl rfl ?_
  refine wa_callVH hX [eIOO, eIAE, eUOE, eISE] hT hM ha (by rfl) (by rfl) (by omega) (nA := 2) (by rfl) (by decide +kernel) rfl (by exact Nat.le_of_ble_eq_true rfl) dL_extend_5 (fun r5 h5 p5 => ?_) kx
  obtain ⟨⟨z, rfl⟩, hG⟩ := h0 _ _ p5
  dsimp only [Option.toList, List.cons_append, List.nil_append]
  refine wa_i2l hX dL_extend_8 ?_
  refine wi_lastore hX hG (by decide) (by decide) (by decide) dL_extend_9 ?_
  rw [show (0 : Int).toNat = 0 from rfl]
  refine wa_goto hX (tgt := 29) dL_extend_10 (by decide) ?_
  refine wi_iconst hX dL_extend_29 ?_
  refine wa_iret hX dL_extend_30 ?_
  exact Or.inl ⟨z, h5, p5, rfl, rfl⟩
end C9r
