/-! The house (X10): greedy bases, common sets, covers, packings -/
theorem amn_lt {p : Nat → Bool} {v : Nat → Nat} {b0 v0 n N : Nat} (h0 : b0 < N) (hn : n ≤ N) : (amn p v b0 v0 n).1 < N := by
  induction n with
  | zero => exact h0
  | succ n ih =>
    unfold amn
    split
    · show n < N
      omega
    · exact ih (by omega)
section C71
variable {l : Launch} {D : va_G} {S0 : State}
set_option maxHeartbeats 1000000 in
set_option maxRecDepth 100000 in
theorem c_X10_greedy (hW : WOK l D S0) (d : Nat) {h : AH} {a : Nat} {w : Nat → Nat} {c m : Nat} {E : Nat → Nat} {R : Nat → Nat → Nat} {br bf bs be : Int} {D2 D3 : Nat → Bool} {so : Nat} (hI : HI h a w c m E R br bf bs be D2 D3 so) {n : Int} (hn : inR n) : MA l D S0 yX10_greedy cX10_greedy 3 (some .int) (d + 2) [.ref a, I n] h 4 24 (fun r h' => h' = h ∧ ∃ i, i < m ∧ n = (i : Int) ∧ c = E i ∧ r = some (I ((grdN (sortN (R i) (E i)) w (E i) (E i)).1 : Nat))) (fun E' h' => h' = h ∧ ((noM n m ∧ E' = eIOO) ∨ ∃ i, i < m ∧ n = (i : Int) ∧ c ≠ E i ∧ E' = eUOE)) := by
  obtain ⟨⟨hc60, hw, hm24, hso, hbr, hD, hMt⟩, row, kept, tb, cb, pr, inn, mn, pf, ps, pa, x1, x2, x3, x4, P, k1, kR, k3, kT, kC, kP, kL, kM, kI, kMat⟩ := id hI
  refine MA.start hW (by decide) [.val (.ref a), .val (I n), .unset] rfl ?_
  rintro X rfl rfl rfl hX
  refine wa_aload_n hX (i := 0) dX10_greedy_0 rfl rfl ?_
  refine wa_iload_n hX (i := 1) dX10_greedy_1 rfl rfl ?_
  refine wa_callV hX (c_X10_find hW d k1 k3 hm24 hn) (by assumption) (by rfl) (by rfl) (by omega) (nA := 1) (by rfl) (by decide +kernel) rfl (by exact Nat.le_of_ble_eq_true rfl) dX10_greedy_2 (fun r2 h2 p2 => ?_) (fun E' h' q => ⟨q.2.1, Or.inl ⟨q.2.2, q.1⟩⟩)
  obtain ⟨rfl, i, hi, rfl, rfl⟩ := p2
  obtain ⟨rq, hq, tq, sym, v2, v3, g1, g2, g3, g4, g5, g6, g7⟩ := kMat i hi
  have hMi := hMt i hi
  have he := hMi.1
  have hp := p2_le he
  have hp0 := p2_pos (E i)
  obtain ⟨rqw, r1, r2⟩ := kR
  dsimp only [Option.toList, List.cons_append, List.nil_append]
  refine wa_astore_n hX (i := 2) dX10_greedy_5 rfl rfl ?_
  dsimp only [List.set]
  refine wa_aload_n hX (i := 0) dX10_greedy_6 rfl rfl ?_
  refine wa_get hX 0 (by assumption) (by rfl) (by decide +kernel) dX10_greedy_7 ?_
  refine wa_callV hX (c_X8_length hW d r1) (by assumption) (by rfl) (by rfl) (by omega) (nA := 0) (by rfl) (by decide +kernel) rfl (by exact Nat.le_of_ble_eq_true rfl) dX10_greedy_10 (fun r10 h10 p10 => ?_) (fun _ _ q => q.elim)
  obtain ⟨rfl, qq10⟩ := p10; subst h10
  dsimp only [Option.toList, List.cons_append, List.nil_append]
  refine wa_aload_n hX (i := 2) dX10_greedy_13 rfl rfl ?_
  refine wa_get hX 0 (by assumption) (by rfl) (by decide +kernel) dX10_greedy_14 ?_
  refine wi_icmp_eq hX (tgt := 31) dX10_greedy_17 (by decide) (by omega) (by omega) (fun c17 => ?_) (fun c17 => ?_)
  · skip
    refine wa_aload_n hX (i := 2) dX10_greedy_31 rfl rfl ?_
    refine wa_aload_n hX (i := 0) dX10_greedy_32 rfl rfl ?_
    refine wa_get hX 0 (by assumption) (by rfl) (by decide +kernel) dX10_greedy_33 ?_
    refine wa_callS hX (c_X0_greedyBasis hW d g1 g4 r1 r2 he (fun j _ => sortN_lt _ _ j) hw) (by rfl) (by omega) (nA := 2) (by rfl) (by decide +kernel) rfl (by exact Nat.le_of_ble_eq_true rfl) dX10_greedy_36 (fun r36 h36 p36 => ?_) (fun _ _ q => q.elim)
    obtain ⟨rfl, qq36⟩ := p36; subst h36
    dsimp only [Option.toList, List.cons_append, List.nil_append]
    refine wa_iret hX dX10_greedy_39 ?_
    exact ⟨rfl, i, hi, rfl, by omega, rfl⟩
  · skip
    refine wa_throwSW2 hX (ik := 103) (is := 317) (ic := 107) "java/lang/UnsupportedOperationException" "the row has not a weight for each element" ["java/lang/RuntimeException", "java/lang/Exception"] (thr_ok (by decide +kernel) wx_UOE) rfl (by exact Nat.le_of_ble_eq_true rfl) dX10_greedy_20 dX10_greedy_23 dX10_greedy_24 dX10_greedy_27 dX10_greedy_30 ?_
    exact ⟨rfl, Or.inr ⟨i, hi, rfl, by omega, rfl⟩⟩
set_option maxHeartbeats 1000000 in
set_option maxRecDepth 100000 in
theorem c_X10_commonSet (hW : WOK l D S0) (d : Nat) {h : AH} {a : Nat} {w : Nat → Nat} {c m : Nat} {E : Nat → Nat} {R : Nat → Nat → Nat} {br bf bs be : Int} {D2 D3 : Nat → Bool} {so : Nat} (hI : HI h a w c m E R br bf bs be D2 D3 so) {n n2 : Int} (hn : inR n) (hn2 : inR n2) : MA l D S0 yX10_commonSet cX10_commonSet 5 (some .int) (d + 2) [.ref a, I n, I n2] h 4 24 (fun r h' => h' = h ∧ ∃ i j, i < m ∧ n = (i : Int) ∧ j < m ∧ n2 = (j : Int) ∧ E i = E j ∧ r = some (I ((amx (fun s => (sortN (R i) (E i) s &&& 1 != 0) && (sortN (R j) (E i) s &&& 1 != 0)) bc 0 0 (2 ^ E i)).1 : Nat))) (fun E' h' => h' = h ∧ (((noM n m ∨ noM n2 m) ∧ E' = eIOO) ∨ ∃ i j, i < m ∧ n = (i : Int) ∧ j < m ∧ n2 = (j : Int) ∧ E i ≠ E j ∧ E' = eUOE)) := by
  obtain ⟨⟨hc60, hw, hm24, hso, hbr, hD, hMt⟩, row, kept, tb, cb, pr, inn, mn, pf, ps, pa, x1, x2, x3, x4, P, k1, kR, k3, kT, kC, kP, kL, kM, kI, kMat⟩ := id hI
  refine MA.start hW (by decide) [.val (.ref a), .val (I n), .val (I n2), .unset, .unset] rfl ?_
  rintro X rfl rfl rfl hX
  refine wa_aload_n hX (i := 0) dX10_commonSet_0 rfl rfl ?_
  refine wa_iload_n hX (i := 1) dX10_commonSet_1 rfl rfl ?_
  refine wa_callV hX (c_X10_find hW d k1 k3 hm24 hn) (by assumption) (by rfl) (by rfl) (by omega) (nA := 1) (by rfl) (by decide +kernel) rfl (by exact Nat.le_of_ble_eq_true rfl) dX10_commonSet_2 (fun r2 h2 p2 => ?_) (fun E' h' q => ⟨q.2.1, Or.inl ⟨Or.inl q.2.2, q.1⟩⟩)
  obtain ⟨rfl, i, hi, rfl, rfl⟩ := p2
  obtain ⟨rq, hq, tq, sym, v2, v3, g1, g2, g3, g4, g5, g6, g7⟩ := kMat i hi
  have hMi := hMt i hi
  have he := hMi.1
  have hp := p2_le he
  have hp0 := p2_pos (E i)
  dsimp only [Option.toList, List.cons_append, List.nil_append]
  refine wa_astore_n hX (i := 3) dX10_commonSet_5 rfl rfl ?_
  dsimp only [List.set]
  refine wa_aload_n hX (i := 0) dX10_commonSet_6 rfl rfl ?_
  refine wa_iload_n hX (i := 2) dX10_commonSet_7 rfl rfl ?_
  refine wa_callV hX (c_X10_find hW d k1 k3 hm24 hn2) (by assumption) (by rfl) (by rfl) (by omega) (nA := 1) (by rfl) (by decide +kernel) rfl (by exact Nat.le_of_ble_eq_true rfl) dX10_commonSet_8 (fun r8 h8 p8 => ?_) (fun E' h' q => ⟨q.2.1, Or.inl ⟨Or.inr q.2.2, q.1⟩⟩)
  obtain ⟨rfl, j, hj, rfl, rfl⟩ := p8
  obtain ⟨rq', hq', tq', sym', v2', v3', y1, y2, y3, y4, y5, y6, y7⟩ := kMat j hj
  have hMj := hMt j hj
  have hej := hMj.1
  dsimp only [Option.toList, List.cons_append, List.nil_append]
  refine wa_astore hX dX10_commonSet_11 rfl ?_
  dsimp only [List.set]
  refine wa_aload_n hX (i := 3) dX10_commonSet_13 rfl rfl ?_
  refine wa_aload hX dX10_commonSet_14 rfl ?_
  refine wa_callS hX (c_X10_needSameSize hW d g1 y1 he hej) (by rfl) (by omega) (nA := 2) (by rfl) (by decide +kernel) rfl (by exact Nat.le_of_ble_eq_true rfl) dX10_commonSet_16 (fun r16 h16 p16 => ?_) (fun E' h' q => ⟨q.2.1, Or.inr ⟨i, j, hi, rfl, hj, rfl, q.2.2, q.1⟩⟩)
  obtain ⟨rfl, rfl, hE⟩ := p16
  rw [← hE] at y1 y2 y3 y4
  dsimp only [Option.toList, List.cons_append, List.nil_append]
  refine wa_aload_n hX (i := 3) dX10_commonSet_19 rfl rfl ?_
  refine wa_aload hX dX10_commonSet_20 rfl ?_
  refine wa_callS hX (c_X0_greatestInBoth hW d g1 g4 y1 y4 he (fun j _ => sortN_lt _ _ j) (fun j _ => sortN_lt _ _ j)) (by rfl) (by omega) (nA := 2) (by rfl) (by decide +kernel) rfl (by exact Nat.le_of_ble_eq_true rfl) dX10_commonSet_22 (fun r22 h22 p22 => ?_) (fun _ _ q => q.elim)
  obtain ⟨rfl, qq22⟩ := p22; subst h22
  dsimp only [Option.toList, List.cons_append, List.nil_append]
  refine wa_iret hX dX10_commonSet_25 ?_
  exact ⟨rfl, i, j, hi, rfl, hj, rfl, hE, rfl⟩
set_option maxHeartbeats 1000000 in
set_option maxRecDepth 100000 in
theorem c_X10_commonBound (hW : WOK l D S0) (d : Nat) {h : AH} {a : Nat} {w : Nat → Nat} {c m : Nat} {E : Nat → Nat} {R : Nat → Nat → Nat} {br bf bs be : Int} {D2 D3 : Nat → Bool} {so : Nat} (hI : HI h a w c m E R br bf bs be D2 D3 so) {n n2 : Int} (hn : inR n) (hn2 : inR n2) : MA l D S0 yX10_commonBound cX10_commonBound 5 (some .int) (d + 3) [.ref a, I n, I n2] h 4 24 (fun r h' => h' = h ∧ ∃ i j, i < m ∧ n = (i : Int) ∧ j < m ∧ n2 = (j : Int) ∧ E i = E j ∧ r = some (I ((amn (fun _ => true) (fun s => R i s + R j (sdf (2 ^ E i - 1) s)) 0 (R j (2 ^ E i - 1)) (2 ^ E i)).1 : Nat))) (fun E' h' => h' = h ∧ (((noM n m ∨ noM n2 m) ∧ E' = eIOO) ∨ ∃ i j, i < m ∧ n = (i : Int) ∧ j < m ∧ n2 = (j : Int) ∧ E i ≠ E j ∧ E' = eUOE)) := by
  obtain ⟨⟨hc60, hw, hm24, hso, hbr, hD, hMt⟩, row, kept, tb, cb, pr, inn, mn, pf, ps, pa, x1, x2, x3, x4, P, k1, kR, k3, kT, kC, kP, kL, kM, kI, kMat⟩ := id hI
  refine MA.start hW (by decide) [.val (.ref a), .val (I n), .val (I n2), .unset, .unset] rfl ?_
  rintro X rfl rfl rfl hX
  refine wa_aload_n hX (i := 0) dX10_commonBound_0 rfl rfl ?_
  refine wa_iload_n hX (i := 1) dX10_commonBound_1 rfl rfl ?_
  refine wa_callV hX (c_X10_find hW d k1 k3 hm24 hn) (by assumption) (by rfl) (by rfl) (by omega) (nA := 1) (by rfl) (by decide +kernel) rfl (by exact Nat.le_of_ble_eq_true rfl) dX10_commonBound_2 (fun r2 h2 p2 => ?_) (fun E' h' q => ⟨q.2.1, Or.inl ⟨Or.inl q.2.2, q.1⟩⟩)
  obtain ⟨rfl, i, hi, rfl, rfl⟩ := p2
  obtain ⟨rq, hq, tq, sym, v2, v3, g1, g2, g3, g4, g5, g6, g7⟩ := kMat i hi
  have hMi := hMt i hi
  have he := hMi.1
  have hp := p2_le he
  have hp0 := p2_pos (E i)
  dsimp only [Option.toList, List.cons_append, List.nil_append]
  refine wa_astore_n hX (i := 3) dX10_commonBound_5 rfl rfl ?_
  dsimp only [List.set]
  refine wa_aload_n hX (i := 0) dX10_commonBound_6 rfl rfl ?_
  refine wa_iload_n hX (i := 2) dX10_commonBound_7 rfl rfl ?_
  refine wa_callV hX (c_X10_find hW d k1 k3 hm24 hn2) (by assumption) (by rfl) (by rfl) (by omega) (nA := 1) (by rfl) (by decide +kernel) rfl (by exact Nat.le_of_ble_eq_true rfl) dX10_commonBound_8 (fun r8 h8 p8 => ?_) (fun E' h' q => ⟨q.2.1, Or.inl ⟨Or.inr q.2.2, q.1⟩⟩)
  obtain ⟨rfl, j, hj, rfl, rfl⟩ := p8
  obtain ⟨rq', hq', tq', sym', v2', v3', y1, y2, y3, y4, y5, y6, y7⟩ := kMat j hj
  have hMj := hMt j hj
  have hej := hMj.1
  dsimp only [Option.toList, List.cons_append, List.nil_append]
  refine wa_astore hX dX10_commonBound_11 rfl ?_
  dsimp only [List.set]
  refine wa_aload_n hX (i := 3) dX10_commonBound_13 rfl rfl ?_
  refine wa_aload hX dX10_commonBound_14 rfl ?_
  refine wa_callS hX (c_X10_needSameSize hW d g1 y1 he hej) (by rfl) (by omega) (nA := 2) (by rfl) (by decide +kernel) rfl (by exact Nat.le_of_ble_eq_true rfl) dX10_commonBound_16 (fun r16 h16 p16 => ?_) (fun E' h' q => ⟨q.2.1, Or.inr ⟨i, j, hi, rfl, hj, rfl, q.2.2, q.1⟩⟩)
  obtain ⟨rfl, rfl, hE⟩ := p16
  rw [← hE] at y1 y2 y3 y4
  dsimp only [Option.toList, List.cons_append, List.nil_append]
  refine wa_aload_n hX (i := 3) dX10_commonBound_19 rfl rfl ?_
  refine wa_aload hX dX10_commonBound_20 rfl ?_
  refine wa_callS hX (c_X0_leastForBoth hW d g1 g2 y1 y2 he (fun s hs => hMi.le10 hs) (fun s hs => hMj.le10 (by rw [← hE]; exact hs)) (hMj.le10 (by rw [← hE]; omega))) (by rfl) (by omega) (nA := 2) (by rfl) (by decide +kernel) rfl (by exact Nat.le_of_ble_eq_true rfl) dX10_commonBound_22 (fun r22 h22 p22 => ?_) (fun _ _ q => q.elim)
  obtain ⟨rfl, qq22⟩ := p22; subst h22
  dsimp only [Option.toList, List.cons_append, List.nil_append]
  refine wa_iret hX dX10_commonBound_25 ?_
  exact ⟨rfl, i, j, hi, rfl, hj, rfl, hE, rfl⟩
set_option maxHeartbeats 1000000 in
set_option maxRecDepth 100000 in
theorem c_X10_common (hW : WOK l D S0) (d : Nat) {h : AH} {a : Nat} {w : Nat → Nat} {c m : Nat} {E : Nat → Nat} {R : Nat → Nat → Nat} {br bf bs be : Int} {D2 D3 : Nat → Bool} {so : Nat} (hI : HI h a w c m E R br bf bs be D2 D3 so) {n n2 : Int} (hn : inR n) (hn2 : inR n2) : MA l D S0 yX10_common cX10_common 3 (some .int) (d + 3) [.ref a, I n, I n2] h 4 24 (fun r h' => h' = h ∧ ∃ i j, i < m ∧ n = (i : Int) ∧ j < m ∧ n2 = (j : Int) ∧ E i = E j ∧ r = some (I (bc (amx (fun s => (sortN (R i) (E i) s &&& 1 != 0) && (sortN (R j) (E i) s &&& 1 != 0)) bc 0 0 (2 ^ E i)).1 : Nat))) (fun E' h' => h' = h ∧ (((noM n m ∨ noM n2 m) ∧ E' = eIOO) ∨ ∃ i j, i < m ∧ n = (i : Int) ∧ j < m ∧ n2 = (j : Int) ∧ E i ≠ E j ∧ E' = eUOE)) := by
  obtain ⟨⟨hc60, hw, hm24, hso, hbr, hD, hMt⟩, row, kept, tb, cb, pr, inn, mn, pf, ps, pa, x1, x2, x3, x4, P, k1, kR, k3, kT, kC, kP, kL, kM, kI, kMat⟩ := id hI
  refine MA.start hW (by decide) [.val (.ref a), .val (I n), .val (I n2)] rfl ?_
  rintro X rfl rfl rfl hX
  refine wa_aload_n hX (i := 0) dX10_common_0 rfl rfl ?_
  refine wa_iload_n hX (i := 1) dX10_common_1 rfl rfl ?_
  refine wa_iload_n hX (i := 2) dX10_common_2 rfl rfl ?_
  refine wa_callV hX (c_X10_commonSet hW d hI hn hn2) (by assumption) (by rfl) (by rfl) (by omega) (nA := 2) (by rfl) (by decide +kernel) rfl (by exact Nat.le_of_ble_eq_true rfl) dX10_common_3 (fun r3 h3 p3 => ?_) (fun E' h' q => q)
  obtain ⟨rfl, i, j, hi, rfl, hj, rfl, hE, rfl⟩ := p3
  have hlt9 := amx_lt (p := fun s => (sortN (R i) (E i) s &&& 1 != 0) && (sortN (R j) (E i) s &&& 1 != 0)) (v := bc) (b0 := 0) (v0 := 0) (N := 2 ^ E i) (p2_pos (E i)) (Nat.le_refl _)
  have hp9 := p2_le (hMt i hi).1
  dsimp only [Option.toList, List.cons_append, List.nil_append]
  refine wa_callS hX (c_J6_bitCount hW d (s := (amx (fun s => (sortN (R i) (E i) s &&& 1 != 0) && (sortN (R j) (E i) s &&& 1 != 0)) bc 0 0 (2 ^ E i)).1) (by omega)) (by rfl) (by omega) (nA := 1) (by rfl) (by decide +kernel) rfl (by exact Nat.le_of_ble_eq_true rfl) dX10_common_6 (fun r6 h6 p6 => ?_) (fun _ _ q => q.elim)
  obtain ⟨rfl, qq6⟩ := p6; subst h6
  dsimp only [Option.toList, List.cons_append, List.nil_append]
  refine wa_iret hX dX10_common_9 ?_
  exact ⟨rfl, i, j, hi, rfl, hj, rfl, hE, rfl⟩
set_option maxHeartbeats 1000000 in
set_option maxRecDepth 100000 in
theorem c_X10_cover (hW : WOK l D S0) (d : Nat) {h : AH} {a : Nat} {w : Nat → Nat} {c m : Nat} {E : Nat → Nat} {R : Nat → Nat → Nat} {br bf bs be : Int} {D2 D3 : Nat → Bool} {so : Nat} (hI : HI h a w c m E R br bf bs be D2 D3 so) {n : Int} (hn : inR n) : MA l D S0 yX10_cover cX10_cover 3 (some .int) (d + 4) [.ref a, I n] h 4 24 (fun r h' => h' = h ∧ ∃ i, i < m ∧ n = (i : Int) ∧ loopB (R i) (E i) = false ∧ r = some (I (pfN (R i) (amx (fun _ => true) (pfN (R i)) 0 0 (2 ^ E i)).1 : Nat))) (fun E' h' => h' = h ∧ ((noM n m ∧ E' = eIOO) ∨ ∃ i, i < m ∧ n = (i : Int) ∧ loopB (R i) (E i) = true ∧ E' = eUOE)) := by
  obtain ⟨⟨hc60, hw, hm24, hso, hbr, hD, hMt⟩, row, kept, tb, cb, pr, inn, mn, pf, ps, pa, x1, x2, x3, x4, P, k1, kR, k3, kT, kC, kP, kL, kM, kI, kMat⟩ := id hI
  refine MA.start hW (by decide) [.val (.ref a), .val (I n), .unset] rfl ?_
  rintro X rfl rfl rfl hX
  refine wa_aload_n hX (i := 0) dX10_cover_0 rfl rfl ?_
  refine wa_iload_n hX (i := 1) dX10_cover_1 rfl rfl ?_
  refine wa_callV hX (c_X10_find hW d k1 k3 hm24 hn) (by assumption) (by rfl) (by rfl) (by omega) (nA := 1) (by rfl) (by decide +kernel) rfl (by exact Nat.le_of_ble_eq_true rfl) dX10_cover_2 (fun r2 h2 p2 => ?_) (fun E' h' q => ⟨q.2.1, Or.inl ⟨q.2.2, q.1⟩⟩)
  obtain ⟨rfl, i, hi, rfl, rfl⟩ := p2
  obtain ⟨rq, hq, tq, sym, v2, v3, g1, g2, g3, g4, g5, g6, g7⟩ := kMat i hi
  have hMi := hMt i hi
  have he := hMi.1
  have hp := p2_le he
  have hp0 := p2_pos (E i)
  have hlt9 := amx_lt (p := fun _ => true) (v := pfN (R i)) (b0 := 0) (v0 := 0) (N := 2 ^ E i) hp0 (Nat.le_refl _)
  dsimp only [Option.toList, List.cons_append, List.nil_append]
  refine wa_astore_n hX (i := 2) dX10_cover_5 rfl rfl ?_
  dsimp only [List.set]
  refine wa_aload_n hX (i := 2) dX10_cover_6 rfl rfl ?_
  refine wa_callS hX (c_X10_needNoLoop hW d g1 g2 he (fun s hs => hMi.le10 hs)) (by rfl) (by omega) (nA := 1) (by rfl) (by decide +kernel) rfl (by exact Nat.le_of_ble_eq_true rfl) dX10_cover_7 (fun r7 h7 p7 => ?_) (fun E' h' q => ⟨q.2.1, Or.inr ⟨i, hi, rfl, q.2.2, q.1⟩⟩)
  obtain ⟨rfl, rfl, hlo⟩ := p7
  dsimp only [Option.toList, List.cons_append, List.nil_append]
  refine wa_aload_n hX (i := 2) dX10_cover_10 rfl rfl ?_
  refine wa_aload_n hX (i := 2) dX10_cover_11 rfl rfl ?_
  refine wa_callS hX (c_X0_hardestToCover hW d g1 g2 he (fun s hs => hMi.le10 hs) hMi.2.1) (by rfl) (by omega) (nA := 1) (by rfl) (by decide +kernel) rfl (by exact Nat.le_of_ble_eq_true rfl) dX10_cover_12 (fun r12 h12 p12 => ?_) (fun _ _ q => q.elim)
  obtain ⟨rfl, qq12⟩ := p12; subst h12
  dsimp only [Option.toList, List.cons_append, List.nil_append]
  refine wa_callS hX (c_X0_partsFor hW d g1 g2 he hlt9 (fun s hs => hMi.le10 hs)) (by rfl) (by omega) (nA := 2) (by rfl) (by decide +kernel) rfl (by exact Nat.le_of_ble_eq_true rfl) dX10_cover_15 (fun r15 h15 p15 => ?_) (fun _ _ q => q.elim)
  obtain ⟨rfl, qq15⟩ := p15; subst h15
  dsimp only [Option.toList, List.cons_append, List.nil_append]
  refine wa_iret hX dX10_cover_18 ?_
  exact ⟨rfl, i, hi, rfl, hlo, rfl⟩
set_option maxHeartbeats 1000000 in
set_option maxRecDepth 100000 in
theorem c_X10_coverBound (hW : WOK l D S0) (d : Nat) {h : AH} {a : Nat} {w : Nat → Nat} {c m : Nat} {E : Nat → Nat} {R : Nat → Nat → Nat} {br bf bs be : Int} {D2 D3 : Nat → Bool} {so : Nat} (hI : HI h a w c m E R br bf bs be D2 D3 so) {n : Int} (hn : inR n) : MA l D S0 yX10_coverBound cX10_coverBound 3 (some .int) (d + 4) [.ref a, I n] h 4 24 (fun r h' => h' = h ∧ ∃ i, i < m ∧ n = (i : Int) ∧ loopB (R i) (E i) = false ∧ E i ≠ 0 ∧ r = some (I ((amx (fun _ => true) (pfN (R i)) 0 0 (2 ^ E i)).1 : Nat))) (fun E' h' => h' = h ∧ ((noM n m ∧ E' = eIOO) ∨ ∃ i, i < m ∧ n = (i : Int) ∧ ((loopB (R i) (E i) = true ∧ E' = eUOE) ∨ (loopB (R i) (E i) = false ∧ E i = 0 ∧ E' = eNSE)))) := by
  obtain ⟨⟨hc60, hw, hm24, hso, hbr, hD, hMt⟩, row, kept, tb, cb, pr, inn, mn, pf, ps, pa, x1, x2, x3, x4, P, k1, kR, k3, kT, kC, kP, kL, kM, kI, kMat⟩ := id hI
  refine MA.start hW (by decide) [.val (.ref a), .val (I n), .unset] rfl ?_
  rintro X rfl rfl rfl hX
  refine wa_aload_n hX (i := 0) dX10_coverBound_0 rfl rfl ?_
  refine wa_iload_n hX (i := 1) dX10_coverBound_1 rfl rfl ?_
  refine wa_callV hX (c_X10_find hW d k1 k3 hm24 hn) (by assumption) (by rfl) (by rfl) (by omega) (nA := 1) (by rfl) (by decide +kernel) rfl (by exact Nat.le_of_ble_eq_true rfl) dX10_coverBound_2 (fun r2 h2 p2 => ?_) (fun E' h' q => ⟨q.2.1, Or.inl ⟨q.2.2, q.1⟩⟩)
  obtain ⟨rfl, i, hi, rfl, rfl⟩ := p2
  obtain ⟨rq, hq, tq, sym, v2, v3, g1, g2, g3, g4, g5, g6, g7⟩ := kMat i hi
  have hMi := hMt i hi
  have he := hMi.1
  have hp := p2_le he
  have hp0 := p2_pos (E i)
  dsimp only [Option.toList, List.cons_append, List.nil_append]
  refine wa_astore_n hX (i := 2) dX10_coverBound_5 rfl rfl ?_
  dsimp only [List.set]
  refine wa_aload_n hX (i := 2) dX10_coverBound_6 rfl rfl ?_
  refine wa_callS hX (c_X10_needNoLoop hW d g1 g2 he (fun s hs => hMi.le10 hs)) (by rfl) (by omega) (nA := 1) (by rfl) (by decide +kernel) rfl (by exact Nat.le_of_ble_eq_true rfl) dX10_coverBound_7 (fun r7 h7 p7 => ?_) (fun E' h' q => ⟨q.2.1, Or.inr ⟨i, hi, rfl, Or.inl ⟨q.2.2, q.1⟩⟩⟩)
  obtain ⟨rfl, rfl, hlo⟩ := p7
  dsimp only [Option.toList, List.cons_append, List.nil_append]
  refine wa_aload_n hX (i := 2) dX10_coverBound_10 rfl rfl ?_
  refine wa_get hX 0 (by assumption) (by rfl) (by decide +kernel) dX10_coverBound_11 ?_
  refine wi_if_ne hX (tgt := 28) dX10_coverBound_14 (by decide) (by omega) (fun c14 => ?_) (fun c14 => ?_)
  · skip
    refine wa_aload_n hX (i := 2) dX10_coverBound_28 rfl rfl ?_
    refine wa_callS hX (c_X0_hardestToCover hW d g1 g2 he (fun s hs => hMi.le10 hs) hMi.2.1) (by rfl) (by omega) (nA := 1) (by rfl) (by decide +kernel) rfl (by exact Nat.le_of_ble_eq_true rfl) dX10_coverBound_29 (fun r29 h29 p29 => ?_) (fun _ _ q => q.elim)
    obtain ⟨rfl, qq29⟩ := p29; subst h29
    dsimp only [Option.toList, List.cons_append, List.nil_append]
    refine wa_iret hX dX10_coverBound_32 ?_
    exact ⟨rfl, i, hi, rfl, hlo, by omega, rfl⟩
  · skip
    refine wa_throwSW3 hX (ik := 157) (is := 350) (ic := 161) "java/util/NoSuchElementException" "there is no set that is not empty" ["java/lang/RuntimeException", "java/lang/Exception"] (thr_ok3 (by decide +kernel) wx_NSE) rfl (by exact Nat.le_of_ble_eq_true rfl) dX10_coverBound_17 dX10_coverBound_20 dX10_coverBound_21 dX10_coverBound_24 dX10_coverBound_27 ?_
    exact ⟨rfl, Or.inr ⟨i, hi, rfl, Or.inr ⟨hlo, by omega, rfl⟩⟩⟩
set_option maxHeartbeats 1000000 in
set_option maxRecDepth 100000 in
theorem c_X10_packing (hW : WOK l D S0) (d : Nat) {h : AH} {a : Nat} {w : Nat → Nat} {c m : Nat} {E : Nat → Nat} {R : Nat → Nat → Nat} {br bf bs be : Int} {D2 D3 : Nat → Bool} {so : Nat} (hI : HI h a w c m E R br bf bs be D2 D3 so) {n : Int} (hn : inR n) : MA l D S0 yX10_packing cX10_packing 3 (some .int) (d + 4) [.ref a, I n] h 4 24 (fun r h' => h' = h ∧ ∃ i, i < m ∧ n = (i : Int) ∧ R i (2 ^ E i - 1) ≠ 0 ∧ r = some (I (bbN (R i) (E i) (R i (2 ^ E i - 1)) (amn (fun s => decide (R i s < R i (2 ^ E i - 1))) (bbN (R i) (E i) (R i (2 ^ E i - 1))) 0 (bbN (R i) (E i) (R i (2 ^ E i - 1)) 0) (2 ^ E i)).1 : Nat))) (fun E' h' => h' = h ∧ ((noM n m ∧ E' = eIOO) ∨ ∃ i, i < m ∧ n = (i : Int) ∧ R i (2 ^ E i - 1) = 0 ∧ E' = eUOE)) := by
  obtain ⟨⟨hc60, hw, hm24, hso, hbr, hD, hMt⟩, row, kept, tb, cb, pr, inn, mn, pf, ps, pa, x1, x2, x3, x4, P, k1, kR, k3, kT, kC, kP, kL, kM, kI, kMat⟩ := id hI
  refine MA.start hW (by decide) [.val (.ref a), .val (I n), .unset] rfl ?_
  rintro X rfl rfl rfl hX
  refine wa_aload_n hX (i := 0) dX10_packing_0 rfl rfl ?_
  refine wa_iload_n hX (i := 1) dX10_packing_1 rfl rfl ?_
  refine wa_callV hX (c_X10_find hW d k1 k3 hm24 hn) (by assumption) (by rfl) (by rfl) (by omega) (nA := 1) (by rfl) (by decide +kernel) rfl (by exact Nat.le_of_ble_eq_true rfl) dX10_packing_2 (fun r2 h2 p2 => ?_) (fun E' h' q => ⟨q.2.1, Or.inl ⟨q.2.2, q.1⟩⟩)
  obtain ⟨rfl, i, hi, rfl, rfl⟩ := p2
  obtain ⟨rq, hq, tq, sym, v2, v3, g1, g2, g3, g4, g5, g6, g7⟩ := kMat i hi
  have hMi := hMt i hi
  have he := hMi.1
  have hp := p2_le he
  have hp0 := p2_pos (E i)
  have hf10 := hMi.le10 (show 2 ^ E i - 1 < 2 ^ E i by omega)
  have hlt9 := amn_lt (p := fun s => decide (R i s < R i (2 ^ E i - 1))) (v := bbN (R i) (E i) (R i (2 ^ E i - 1))) (b0 := 0) (v0 := bbN (R i) (E i) (R i (2 ^ E i - 1)) 0) (N := 2 ^ E i) hp0 (Nat.le_refl _)
  dsimp only [Option.toList, List.cons_append, List.nil_append]
  refine wa_astore_n hX (i := 2) dX10_packing_5 rfl rfl ?_
  dsimp only [List.set]
  refine wa_aload_n hX (i := 2) dX10_packing_6 rfl rfl ?_
  refine wa_callS hX (c_X10_needRank hW d g1 hf10) (by rfl) (by omega) (nA := 1) (by rfl) (by decide +kernel) rfl (by exact Nat.le_of_ble_eq_true rfl) dX10_packing_7 (fun r7 h7 p7 => ?_) (fun E' h' q => ⟨q.2.1, Or.inr ⟨i, hi, rfl, q.2.2, q.1⟩⟩)
  obtain ⟨rfl, rfl, hf0⟩ := p7
  dsimp only [Option.toList, List.cons_append, List.nil_append]
  refine wa_aload_n hX (i := 2) dX10_packing_10 rfl rfl ?_
  refine wa_aload_n hX (i := 2) dX10_packing_11 rfl rfl ?_
  refine wa_callS hX (c_X0_hardestToPack hW d g1 g2 he (fun s hs => hMi.le10 hs) hf10) (by rfl) (by omega) (nA := 1) (by rfl) (by decide +kernel) rfl (by exact Nat.le_of_ble_eq_true rfl) dX10_packing_12 (fun r12 h12 p12 => ?_) (fun _ _ q => q.elim)
  obtain ⟨rfl, qq12⟩ := p12; subst h12
  dsimp only [Option.toList, List.cons_append, List.nil_append]
  refine wa_callS hX (c_X0_basesBeside hW d g1 g2 he hlt9 (fun s hs => hMi.le10 hs) hf10) (by rfl) (by omega) (nA := 2) (by rfl) (by decide +kernel) rfl (by exact Nat.le_of_ble_eq_true rfl) dX10_packing_15 (fun r15 h15 p15 => ?_) (fun _ _ q => q.elim)
  obtain ⟨rfl, qq15⟩ := p15; subst h15
  dsimp only [Option.toList, List.cons_append, List.nil_append]
  refine wa_iret hX dX10_packing_18 ?_
  exact ⟨rfl, i, hi, rfl, hf0, rfl⟩
set_option maxHeartbeats 1000000 in
set_option maxRecDepth 100000 in
theorem c_X10_packingBound (hW : WOK l D S0) (d : Nat) {h : AH} {a : Nat} {w : Nat → Nat} {c m : Nat} {E : Nat → Nat} {R : Nat → Nat → Nat} {br bf bs be : Int} {D2 D3 : Nat → Bool} {so : Nat} (hI : HI h a w c m E R br bf bs be D2 D3 so) {n : Int} (hn : inR n) : MA l D S0 yX10_packingBound cX10_packingBound 3 (some .int) (d + 4) [.ref a, I n] h 4 24 (fun r h' => h' = h ∧ ∃ i, i < m ∧ n = (i : Int) ∧ R i (2 ^ E i - 1) ≠ 0 ∧ r = some (I ((amn (fun s => decide (R i s < R i (2 ^ E i - 1))) (bbN (R i) (E i) (R i (2 ^ E i - 1))) 0 (bbN (R i) (E i) (R i (2 ^ E i - 1)) 0) (2 ^ E i)).1 : Nat))) (fun E' h' => h' = h ∧ ((noM n m ∧ E' = eIOO) ∨ ∃ i, i < m ∧ n = (i : Int) ∧ R i (2 ^ E i - 1) = 0 ∧ E' = eUOE)) := by
  obtain ⟨⟨hc60, hw, hm24, hso, hbr, hD, hMt⟩, row, kept, tb, cb, pr, inn, mn, pf, ps, pa, x1, x2, x3, x4, P, k1, kR, k3, kT, kC, kP, kL, kM, kI, kMat⟩ := id hI
  refine MA.start hW (by decide) [.val (.ref a), .val (I n), .unset] rfl ?_
  rintro X rfl rfl rfl hX
  refine wa_aload_n hX (i := 0) dX10_packingBound_0 rfl rfl ?_
  refine wa_iload_n hX (i := 1) dX10_packingBound_1 rfl rfl ?_
  refine wa_callV hX (c_X10_find hW d k1 k3 hm24 hn) (by assumption) (by rfl) (by rfl) (by omega) (nA := 1) (by rfl) (by decide +kernel) rfl (by exact Nat.le_of_ble_eq_true rfl) dX10_packingBound_2 (fun r2 h2 p2 => ?_) (fun E' h' q => ⟨q.2.1, Or.inl ⟨q.2.2, q.1⟩⟩)
  obtain ⟨rfl, i, hi, rfl, rfl⟩ := p2
  obtain ⟨rq, hq, tq, sym, v2, v3, g1, g2, g3, g4, g5, g6, g7⟩ := kMat i hi
  have hMi := hMt i hi
  have he := hMi.1
  have hp := p2_le he
  have hp0 := p2_pos (E i)
  have hf10 := hMi.le10 (show 2 ^ E i - 1 < 2 ^ E i by omega)
  dsimp only [Option.toList, List.cons_append, List.nil_append]
  refine wa_astore_n hX (i := 2) dX10_packingBound_5 rfl rfl ?_
  dsimp only [List.set]
  refine wa_aload_n hX (i := 2) dX10_packingBound_6 rfl rfl ?_
  refine wa_callS hX (c_X10_needRank hW d g1 hf10) (by rfl) (by omega) (nA := 1) (by rfl) (by decide +kernel) rfl (by exact Nat.le_of_ble_eq_true rfl) dX10_packingBound_7 (fun r7 h7 p7 => ?_) (fun E' h' q => ⟨q.2.1, Or.inr ⟨i, hi, rfl, q.2.2, q.1⟩⟩)
  obtain ⟨rfl, rfl, hf0⟩ := p7
  dsimp only [Option.toList, List.cons_append, List.nil_append]
  refine wa_aload_n hX (i := 2) dX10_packingBound_10 rfl rfl ?_
  refine wa_callS hX (c_X0_hardestToPack hW d g1 g2 he (fun s hs => hMi.le10 hs) hf10) (by rfl) (by omega) (nA := 1) (by rfl) (by decide +kernel) rfl (by exact Nat.le_of_ble_eq_true rfl) dX10_packingBound_11 (fun r11 h11 p11 => ?_) (fun _ _ q => q.elim)
  obtain ⟨rfl, qq11⟩ := p11; subst h11
  dsimp only [Option.toList, List.cons_append, List.nil_append]
  refine wa_iret hX dX10_packingBound_14 ?_
  exact ⟨rfl, i, hi, rfl, hf0, rfl⟩
end C71
