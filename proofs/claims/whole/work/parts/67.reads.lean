/-! The house (X10): what is read -/
abbrev noM (n : Int) (m : Nat) : Prop := ¬ (0 ≤ n ∧ n < (m : Int))
theorem nth_in (p : Nat → Bool) (n : Nat) (k : Int) (hn : n ≤ 1024 := by omega) : -1 ≤ nth p n k ∧ nth p n k < 1024 := by
  unfold nth
  rcases fst_spec (p := fun s => p s && decide (((cnt p s : Nat) : Int) = k)) (n := n) with ⟨q, -⟩ | ⟨i, hi, q, -⟩
  · rw [q]; dsimp only; omega
  · rw [q]; dsimp only; omega
section C67
variable {l : Launch} {D : va_G} {S0 : State}
set_option maxHeartbeats 1000000 in
set_option maxRecDepth 100000 in
theorem c_X10_size (hW : WOK l D S0) (d : Nat) {h : AH} {a : Nat} {w : Nat → Nat} {c m : Nat} {E : Nat → Nat} {R : Nat → Nat → Nat} {br bf bs be : Int} {D2 D3 : Nat → Bool} {so : Nat} (hI : HI h a w c m E R br bf bs be D2 D3 so) {n : Int} (hn : inR n) : MA l D S0 yX10_size cX10_size 2 (some .int) (d + 1) [.ref a, I n] h 4 24 (fun r h' => h' = h ∧ ∃ i, i < m ∧ n = (i : Int) ∧ r = some (I (E i : Nat))) (fun E' h' => h' = h ∧ noM n m ∧ E' = eIOO) := by
  obtain ⟨⟨hc60, hw, hm24, hso, hbr, hD, hMt⟩, row, kept, tb, cb, pr, inn, mn, pf, ps, pa, x1, x2, x3, x4, P, k1, kR, k3, kT, kC, kP, kL, kM, kI, kMat⟩ := hI
  refine MA.start hW (by decide) [.val (.ref a), .val (I n)] rfl ?_
  rintro X rfl rfl rfl hX
  refine wa_aload_n hX (i := 0) dX10_size_0 rfl rfl ?_
  refine wa_iload_n hX (i := 1) dX10_size_1 rfl rfl ?_
  refine wa_callV hX (c_X10_find hW d k1 k3 hm24 hn) (by assumption) (by rfl) (by rfl) (by omega) (nA := 1) (by rfl) (by decide +kernel) rfl (by exact Nat.le_of_ble_eq_true rfl) dX10_size_2 (fun r2 h2 p2 => ?_) (fun E' h' q => ⟨q.2.1, q.2.2, q.1⟩)
  obtain ⟨rfl, i, hi, rfl, rfl⟩ := p2
  obtain ⟨rq, hq, tq, sym, v2, v3, g1, g2, g3, g4, g5, g6, g7⟩ := kMat i hi
  have hMi := hMt i hi
  have he := hMi.1
  have hp := p2_le he
  have hp0 := p2_pos (E i)
  dsimp only [Option.toList, List.cons_append, List.nil_append]
  refine wa_get hX 0 (by assumption) (by rfl) (by decide +kernel) dX10_size_5 ?_
  refine wa_iret hX dX10_size_8 ?_
  exact ⟨rfl, i, hi, rfl, rfl⟩
set_option maxHeartbeats 1000000 in
set_option maxRecDepth 100000 in
theorem c_X10_rank (hW : WOK l D S0) (d : Nat) {h : AH} {a : Nat} {w : Nat → Nat} {c m : Nat} {E : Nat → Nat} {R : Nat → Nat → Nat} {br bf bs be : Int} {D2 D3 : Nat → Bool} {so : Nat} (hI : HI h a w c m E R br bf bs be D2 D3 so) {n : Int} (hn : inR n) {s : Int} (hs : inR s) : MA l D S0 yX10_rank cX10_rank 4 (some .int) (d + 3) [.ref a, I n, I s] h 4 24 (fun r h' => h' = h ∧ ∃ i t : Nat, i < m ∧ n = (i : Int) ∧ t < 2 ^ E i ∧ s = (t : Int) ∧ r = some (I (R i t : Nat))) (fun E' h' => h' = h ∧ ((noM n m ∧ E' = eIOO) ∨ ∃ i, i < m ∧ n = (i : Int) ∧ ¬ (0 ≤ s ∧ s < ((2 ^ E i : Nat) : Int)) ∧ E' = eIAE)) := by
  obtain ⟨⟨hc60, hw, hm24, hso, hbr, hD, hMt⟩, row, kept, tb, cb, pr, inn, mn, pf, ps, pa, x1, x2, x3, x4, P, k1, kR, k3, kT, kC, kP, kL, kM, kI, kMat⟩ := hI
  refine MA.start hW (by decide) [.val (.ref a), .val (I n), .val (I s), .unset] rfl ?_
  rintro X rfl rfl rfl hX
  refine wa_aload_n hX (i := 0) dX10_rank_0 rfl rfl ?_
  refine wa_iload_n hX (i := 1) dX10_rank_1 rfl rfl ?_
  refine wa_callV hX (c_X10_find hW d k1 k3 hm24 hn) (by assumption) (by rfl) (by rfl) (by omega) (nA := 1) (by rfl) (by decide +kernel) rfl (by exact Nat.le_of_ble_eq_true rfl) dX10_rank_2 (fun r2 h2 p2 => ?_) (fun E' h' q => ⟨q.2.1, Or.inl ⟨q.2.2, q.1⟩⟩)
  obtain ⟨rfl, i, hi, rfl, rfl⟩ := p2
  obtain ⟨rq, hq, tq, sym, v2, v3, g1, g2, g3, g4, g5, g6, g7⟩ := kMat i hi
  have hMi := hMt i hi
  have he := hMi.1
  have hp := p2_le he
  have hp0 := p2_pos (E i)
  dsimp only [Option.toList, List.cons_append, List.nil_append]
  refine wa_astore_n hX (i := 3) dX10_rank_5 rfl rfl ?_
  dsimp only [List.set]
  refine wa_aload_n hX (i := 3) dX10_rank_6 rfl rfl ?_
  refine wa_iload_n hX (i := 2) dX10_rank_7 rfl rfl ?_
  refine wa_callS hX (c_X10_needSet hW d g1 he hs) (by rfl) (by omega) (nA := 2) (by rfl) (by decide +kernel) rfl (by exact Nat.le_of_ble_eq_true rfl) dX10_rank_8 (fun r8 h8 p8 => ?_) (fun E' h' q => ⟨q.2.1, Or.inr ⟨i, hi, rfl, q.2.2, q.1⟩⟩)
  obtain ⟨rfl, rfl, hs0, hs1⟩ := p8
  obtain ⟨t, rfl⟩ := Int.eq_ofNat_of_zero_le hs0
  have ht : t < 2 ^ E i := by omega
  dsimp only [Option.toList, List.cons_append, List.nil_append]
  refine wa_aload_n hX (i := 3) dX10_rank_11 rfl rfl ?_
  refine wa_iload_n hX (i := 2) dX10_rank_12 rfl rfl ?_
  refine wa_callV hX (c_X6_rank hW (d + 1) g1 g2 he (s := t) ht) (by assumption) (by rfl) (by rfl) (by omega) (nA := 1) (by rfl) (by decide +kernel) rfl (by exact Nat.le_of_ble_eq_true rfl) dX10_rank_13 (fun r13 h13 p13 => ?_) (fun _ _ q => q.elim)
  obtain ⟨rfl, qq13⟩ := p13; subst h13
  dsimp only [Option.toList, List.cons_append, List.nil_append]
  refine wa_iret hX dX10_rank_16 ?_
  exact ⟨rfl, i, t, hi, rfl, ht, rfl, rfl⟩
set_option maxHeartbeats 1000000 in
set_option maxRecDepth 100000 in
theorem c_X10_closure (hW : WOK l D S0) (d : Nat) {h : AH} {a : Nat} {w : Nat → Nat} {c m : Nat} {E : Nat → Nat} {R : Nat → Nat → Nat} {br bf bs be : Int} {D2 D3 : Nat → Bool} {so : Nat} (hI : HI h a w c m E R br bf bs be D2 D3 so) {n : Int} (hn : inR n) {s : Int} (hs : inR s) : MA l D S0 yX10_closure cX10_closure 4 (some .int) (d + 3) [.ref a, I n, I s] h 4 24 (fun r h' => h' = h ∧ ∃ i t : Nat, i < m ∧ n = (i : Int) ∧ t < 2 ^ E i ∧ s = (t : Int) ∧ r = some (I (cloN (R i) (E i) t : Nat))) (fun E' h' => h' = h ∧ ((noM n m ∧ E' = eIOO) ∨ ∃ i, i < m ∧ n = (i : Int) ∧ ¬ (0 ≤ s ∧ s < ((2 ^ E i : Nat) : Int)) ∧ E' = eIAE)) := by
  obtain ⟨⟨hc60, hw, hm24, hso, hbr, hD, hMt⟩, row, kept, tb, cb, pr, inn, mn, pf, ps, pa, x1, x2, x3, x4, P, k1, kR, k3, kT, kC, kP, kL, kM, kI, kMat⟩ := hI
  refine MA.start hW (by decide) [.val (.ref a), .val (I n), .val (I s), .unset] rfl ?_
  rintro X rfl rfl rfl hX
  refine wa_aload_n hX (i := 0) dX10_closure_0 rfl rfl ?_
  refine wa_iload_n hX (i := 1) dX10_closure_1 rfl rfl ?_
  refine wa_callV hX (c_X10_find hW d k1 k3 hm24 hn) (by assumption) (by rfl) (by rfl) (by omega) (nA := 1) (by rfl) (by decide +kernel) rfl (by exact Nat.le_of_ble_eq_true rfl) dX10_closure_2 (fun r2 h2 p2 => ?_) (fun E' h' q => ⟨q.2.1, Or.inl ⟨q.2.2, q.1⟩⟩)
  obtain ⟨rfl, i, hi, rfl, rfl⟩ := p2
  obtain ⟨rq, hq, tq, sym, v2, v3, g1, g2, g3, g4, g5, g6, g7⟩ := kMat i hi
  have hMi := hMt i hi
  have he := hMi.1
  have hp := p2_le he
  have hp0 := p2_pos (E i)
  dsimp only [Option.toList, List.cons_append, List.nil_append]
  refine wa_astore_n hX (i := 3) dX10_closure_5 rfl rfl ?_
  dsimp only [List.set]
  refine wa_aload_n hX (i := 3) dX10_closure_6 rfl rfl ?_
  refine wa_iload_n hX (i := 2) dX10_closure_7 rfl rfl ?_
  refine wa_callS hX (c_X10_needSet hW d g1 he hs) (by rfl) (by omega) (nA := 2) (by rfl) (by decide +kernel) rfl (by exact Nat.le_of_ble_eq_true rfl) dX10_closure_8 (fun r8 h8 p8 => ?_) (fun E' h' q => ⟨q.2.1, Or.inr ⟨i, hi, rfl, q.2.2, q.1⟩⟩)
  obtain ⟨rfl, rfl, hs0, hs1⟩ := p8
  obtain ⟨t, rfl⟩ := Int.eq_ofNat_of_zero_le hs0
  have ht : t < 2 ^ E i := by omega
  dsimp only [Option.toList, List.cons_append, List.nil_append]
  refine wa_aload_n hX (i := 3) dX10_closure_11 rfl rfl ?_
  refine wa_iload_n hX (i := 2) dX10_closure_12 rfl rfl ?_
  refine wa_callV hX (c_X6_closureOf hW d g1 g2 he ht (fun s hs => hMi.le10 hs)) (by assumption) (by rfl) (by rfl) (by omega) (nA := 1) (by rfl) (by decide +kernel) rfl (by exact Nat.le_of_ble_eq_true rfl) dX10_closure_13 (fun r13 h13 p13 => ?_) (fun _ _ q => q.elim)
  obtain ⟨rfl, qq13⟩ := p13; subst h13
  dsimp only [Option.toList, List.cons_append, List.nil_append]
  refine wa_iret hX dX10_closure_16 ?_
  exact ⟨rfl, i, t, hi, rfl, ht, rfl, rfl⟩
set_option maxHeartbeats 1000000 in
set_option maxRecDepth 100000 in
theorem c_X10_count (hW : WOK l D S0) (d : Nat) {h : AH} {a : Nat} {w : Nat → Nat} {c m : Nat} {E : Nat → Nat} {R : Nat → Nat → Nat} {br bf bs be : Int} {D2 D3 : Nat → Bool} {so : Nat} (hI : HI h a w c m E R br bf bs be D2 D3 so) {n : Int} (hn : inR n) {ch : Int} (hs : inR ch) : MA l D S0 yX10_count cX10_count 4 (some .int) (d + 1) [.ref a, I n, I ch] h 4 24 (fun r h' => h' = h ∧ ∃ i t : Nat, i < m ∧ n = (i : Int) ∧ sortOf ch = some t ∧ r = some (I (cnt (fun s => sortN (R i) (E i) s &&& t != 0) (2 ^ E i) : Nat))) (fun E' h' => h' = h ∧ ((noM n m ∧ E' = eIOO) ∨ ∃ i, i < m ∧ n = (i : Int) ∧ sortOf ch = none ∧ E' = eIAE)) := by
  obtain ⟨⟨hc60, hw, hm24, hso, hbr, hD, hMt⟩, row, kept, tb, cb, pr, inn, mn, pf, ps, pa, x1, x2, x3, x4, P, k1, kR, k3, kT, kC, kP, kL, kM, kI, kMat⟩ := hI
  refine MA.start hW (by decide) [.val (.ref a), .val (I n), .val (I ch), .unset] rfl ?_
  rintro X rfl rfl rfl hX
  refine wa_aload_n hX (i := 0) dX10_count_0 rfl rfl ?_
  refine wa_iload_n hX (i := 1) dX10_count_1 rfl rfl ?_
  refine wa_callV hX (c_X10_find hW d k1 k3 hm24 hn) (by assumption) (by rfl) (by rfl) (by omega) (nA := 1) (by rfl) (by decide +kernel) rfl (by exact Nat.le_of_ble_eq_true rfl) dX10_count_2 (fun r2 h2 p2 => ?_) (fun E' h' q => ⟨q.2.1, Or.inl ⟨q.2.2, q.1⟩⟩)
  obtain ⟨rfl, i, hi, rfl, rfl⟩ := p2
  obtain ⟨rq, hq, tq, sym, v2, v3, g1, g2, g3, g4, g5, g6, g7⟩ := kMat i hi
  have hMi := hMt i hi
  have he := hMi.1
  have hp := p2_le he
  have hp0 := p2_pos (E i)
  dsimp only [Option.toList, List.cons_append, List.nil_append]
  refine wa_astore_n hX (i := 3) dX10_count_5 rfl rfl ?_
  dsimp only [List.set]
  refine wa_aload_n hX (i := 3) dX10_count_6 rfl rfl ?_
  refine wa_iload_n hX (i := 2) dX10_count_7 rfl rfl ?_
  refine wa_callS hX (c_X10_sortNamed hW d hs) (by rfl) (by omega) (nA := 1) (by rfl) (by decide +kernel) rfl (by exact Nat.le_of_ble_eq_true rfl) dX10_count_8 (fun r8 h8 p8 => ?_) (fun E' h' q => ⟨q.2.1, Or.inr ⟨i, hi, rfl, q.2.2, q.1⟩⟩)
  obtain ⟨rfl, t, ht, rfl⟩ := p8
  dsimp only [Option.toList, List.cons_append, List.nil_append]
  refine wa_callV hX (c_X6_countOf hW d g1 g4 (so := t) he (fun j _ => sortN_lt (R i) (E i) j)) (by assumption) (by rfl) (by rfl) (by omega) (nA := 1) (by rfl) (by decide +kernel) rfl (by exact Nat.le_of_ble_eq_true rfl) dX10_count_11 (fun r11 h11 p11 => ?_) (fun _ _ q => q.elim)
  obtain ⟨rfl, qq11⟩ := p11; subst h11
  dsimp only [Option.toList, List.cons_append, List.nil_append]
  refine wa_iret hX dX10_count_14 ?_
  exact ⟨rfl, i, t, hi, rfl, ht, rfl⟩
set_option maxHeartbeats 1000000 in
set_option maxRecDepth 100000 in
theorem c_X10_setAt (hW : WOK l D S0) (d : Nat) {h : AH} {a : Nat} {w : Nat → Nat} {c m : Nat} {E : Nat → Nat} {R : Nat → Nat → Nat} {br bf bs be : Int} {D2 D3 : Nat → Bool} {so : Nat} (hI : HI h a w c m E R br bf bs be D2 D3 so) {n : Int} (hn : inR n) {ch k : Int} (hs : inR ch) (hk : inR k) : MA l D S0 yX10_setAt cX10_setAt 6 (some .int) (d + 1) [.ref a, I n, I ch, I k] h 4 24 (fun r h' => h' = h ∧ ∃ i t : Nat, i < m ∧ n = (i : Int) ∧ sortOf ch = some t ∧ 0 ≤ nth (fun s => sortN (R i) (E i) s &&& t != 0) (2 ^ E i) k ∧ r = some (I (nth (fun s => sortN (R i) (E i) s &&& t != 0) (2 ^ E i) k))) (fun E' h' => h' = h ∧ ((noM n m ∧ E' = eIOO) ∨ ∃ i, i < m ∧ n = (i : Int) ∧ ((sortOf ch = none ∧ E' = eIAE) ∨ ∃ t, sortOf ch = some t ∧ nth (fun s => sortN (R i) (E i) s &&& t != 0) (2 ^ E i) k < 0 ∧ E' = eNSE))) := by
  obtain ⟨⟨hc60, hw, hm24, hso, hbr, hD, hMt⟩, row, kept, tb, cb, pr, inn, mn, pf, ps, pa, x1, x2, x3, x4, P, k1, kR, k3, kT, kC, kP, kL, kM, kI, kMat⟩ := hI
  refine MA.start hW (by decide) [.val (.ref a), .val (I n), .val (I ch), .val (I k), .unset, .unset] rfl ?_
  rintro X rfl rfl rfl hX
  refine wa_aload_n hX (i := 0) dX10_setAt_0 rfl rfl ?_
  refine wa_iload_n hX (i := 1) dX10_setAt_1 rfl rfl ?_
  refine wa_callV hX (c_X10_find hW d k1 k3 hm24 hn) (by assumption) (by rfl) (by rfl) (by omega) (nA := 1) (by rfl) (by decide +kernel) rfl (by exact Nat.le_of_ble_eq_true rfl) dX10_setAt_2 (fun r2 h2 p2 => ?_) (fun E' h' q => ⟨q.2.1, Or.inl ⟨q.2.2, q.1⟩⟩)
  obtain ⟨rfl, i, hi, rfl, rfl⟩ := p2
  obtain ⟨rq, hq, tq, sym, v2, v3, g1, g2, g3, g4, g5, g6, g7⟩ := kMat i hi
  have hMi := hMt i hi
  have he := hMi.1
  have hp := p2_le he
  have hp0 := p2_pos (E i)
  dsimp only [Option.toList, List.cons_append, List.nil_append]
  refine wa_astore hX dX10_setAt_5 rfl ?_
  dsimp only [List.set]
  refine wa_aload hX dX10_setAt_7 rfl ?_
  refine wa_iload_n hX (i := 2) dX10_setAt_9 rfl rfl ?_
  refine wa_callS hX (c_X10_sortNamed hW d hs) (by rfl) (by omega) (nA := 1) (by rfl) (by decide +kernel) rfl (by exact Nat.le_of_ble_eq_true rfl) dX10_setAt_10 (fun r10 h10 p10 => ?_) (fun E' h' q => ⟨q.2.1, Or.inr ⟨i, hi, rfl, Or.inl ⟨q.2.2, q.1⟩⟩⟩)
  obtain ⟨rfl, t, ht, rfl⟩ := p10
  dsimp only [Option.toList, List.cons_append, List.nil_append]
  refine wa_iload_n hX (i := 3) dX10_setAt_13 rfl rfl ?_
  refine wa_callV hX (c_X6_setOf hW d g1 g4 (so := t) (i := k) he hk (fun j _ => sortN_lt (R i) (E i) j)) (by assumption) (by rfl) (by rfl) (by omega) (nA := 2) (by rfl) (by decide +kernel) rfl (by exact Nat.le_of_ble_eq_true rfl) dX10_setAt_14 (fun r14 h14 p14 => ?_) (fun _ _ q => q.elim)
  obtain ⟨rfl, qq14⟩ := p14; subst h14
  dsimp only [Option.toList, List.cons_append, List.nil_append]
  refine wa_istore hX dX10_setAt_17 rfl ?_
  dsimp only [List.set]
  refine wa_iload hX dX10_setAt_19 rfl ?_
  have hnr := nth_in (fun s => sortN (R i) (E i) s &&& t != 0) (2 ^ E i) k
  refine wi_if_ge hX (tgt := 34) dX10_setAt_21 (by decide) (by omega) (fun c21 => ?_) (fun c21 => ?_)
  · skip
    refine wa_iload hX dX10_setAt_34 rfl ?_
    refine wa_iret hX dX10_setAt_36 ?_
    exact ⟨rfl, i, t, hi, rfl, ht, by omega, rfl⟩
  · skip
    refine wa_throwS3 hX (ik := 157) (is := 250) (ic := 161) "java/util/NoSuchElementException" "there is no such set" ["java/lang/RuntimeException", "java/lang/Exception"] (thr_ok3 (by decide +kernel) wx_NSE) rfl (by exact Nat.le_of_ble_eq_true rfl) dX10_setAt_24 dX10_setAt_27 dX10_setAt_28 dX10_setAt_30 dX10_setAt_33 ?_
    exact ⟨rfl, Or.inr ⟨i, hi, rfl, Or.inr ⟨t, ht, by omega, rfl⟩⟩⟩
set_option maxHeartbeats 1000000 in
set_option maxRecDepth 100000 in
theorem c_X10_circuitWith (hW : WOK l D S0) (d : Nat) {h : AH} {a : Nat} {w : Nat → Nat} {c m : Nat} {E : Nat → Nat} {R : Nat → Nat → Nat} {br bf bs be : Int} {D2 D3 : Nat → Bool} {so : Nat} (hI : HI h a w c m E R br bf bs be D2 D3 so) {n : Int} (hn : inR n) {b el : Int} (hb : inR b) (hl : inR el) : MA l D S0 yX10_circuitWith cX10_circuitWith 5 (some .int) (d + 2) [.ref a, I n, I b, I el] h 4 24 (fun r h' => h' = h ∧ ∃ i t k : Nat, i < m ∧ n = (i : Int) ∧ t < 2 ^ E i ∧ b = (t : Int) ∧ k < E i ∧ el = (k : Int) ∧ (sortN (R i) (E i) t &&& 2 != 0) = true ∧ t.testBit k = false ∧ r = some (I (cirN (sortN (R i) (E i)) (E i) t k : Nat))) (fun E' h' => h' = h ∧ ((noM n m ∧ E' = eIOO) ∨ ∃ i, i < m ∧ n = (i : Int) ∧ ((¬ (0 ≤ el ∧ el < ((E i : Nat) : Int)) ∧ E' = eIOO) ∨ ∃ k : Nat, k < E i ∧ el = (k : Int) ∧ ((¬ (0 ≤ b ∧ b < ((2 ^ E i : Nat) : Int) ∧ sortN (R i) (E i) b.toNat &&& 2 ≠ 0) ∧ E' = eUOE) ∨ ∃ t : Nat, t < 2 ^ E i ∧ b = (t : Int) ∧ (sortN (R i) (E i) t &&& 2 != 0) = true ∧ t.testBit k = true ∧ E' = eNSE)))) := by
  obtain ⟨⟨hc60, hw, hm24, hso, hbr, hD, hMt⟩, row, kept, tb, cb, pr, inn, mn, pf, ps, pa, x1, x2, x3, x4, P, k1, kR, k3, kT, kC, kP, kL, kM, kI, kMat⟩ := hI
  refine MA.start hW (by decide) [.val (.ref a), .val (I n), .val (I b), .val (I el), .unset] rfl ?_
  rintro X rfl rfl rfl hX
  refine wa_aload_n hX (i := 0) dX10_circuitWith_0 rfl rfl ?_
  refine wa_iload_n hX (i := 1) dX10_circuitWith_1 rfl rfl ?_
  refine wa_callV hX (c_X10_find hW d k1 k3 hm24 hn) (by assumption) (by rfl) (by rfl) (by omega) (nA := 1) (by rfl) (by decide +kernel) rfl (by exact Nat.le_of_ble_eq_true rfl) dX10_circuitWith_2 (fun r2 h2 p2 => ?_) (fun E' h' q => ⟨q.2.1, Or.inl ⟨q.2.2, q.1⟩⟩)
  obtain ⟨rfl, i, hi, rfl, rfl⟩ := p2
  obtain ⟨rq, hq, tq, sym, v2, v3, g1, g2, g3, g4, g5, g6, g7⟩ := kMat i hi
  have hMi := hMt i hi
  have he := hMi.1
  have hp := p2_le he
  have hp0 := p2_pos (E i)
  dsimp only [Option.toList, List.cons_append, List.nil_append]
  refine wa_astore hX dX10_circuitWith_5 rfl ?_
  dsimp only [List.set]
  refine wa_aload hX dX10_circuitWith_7 rfl ?_
  refine wa_iload_n hX (i := 3) dX10_circuitWith_9 rfl rfl ?_
  refine wa_callS hX (c_X10_needElement hW d g1 he hl) (by rfl) (by omega) (nA := 2) (by rfl) (by decide +kernel) rfl (by exact Nat.le_of_ble_eq_true rfl) dX10_circuitWith_10 (fun r10 h10 p10 => ?_) (fun E' h' q => ⟨q.2.1, Or.inr ⟨i, hi, rfl, Or.inl ⟨q.2.2, q.1⟩⟩⟩)
  obtain ⟨rfl, rfl, hl0, hl1⟩ := p10
  obtain ⟨k, rfl⟩ := Int.eq_ofNat_of_zero_le hl0
  have hk : k < E i := by omega
  dsimp only [Option.toList, List.cons_append, List.nil_append]
  refine wa_aload hX dX10_circuitWith_13 rfl ?_
  refine wa_iload_n hX (i := 2) dX10_circuitWith_15 rfl rfl ?_
  refine wi_iconst hX dX10_circuitWith_16 ?_
  refine wa_callV hX (c_X6_isSort hW d g1 g4 (so := 2) he (i := b) hb (fun j _ => sortN_lt (R i) (E i) j)) (by assumption) (by rfl) (by rfl) (by omega) (nA := 2) (by rfl) (by decide +kernel) rfl (by exact Nat.le_of_ble_eq_true rfl) dX10_circuitWith_17 (fun r17 h17 p17 => ?_) (fun _ _ q => q.elim)
  obtain ⟨rfl, qq17⟩ := p17; subst h17
  dsimp only [Option.toList, List.cons_append, List.nil_append]
  refine wi_if_ne hX (tgt := 33) dX10_circuitWith_20 (by decide) (by split <;> omega) (fun c20 => ?_) (fun c20 => ?_)
  · skip
    have hq9 : 0 ≤ b ∧ b < ((2 ^ E i : Nat) : Int) ∧ sortN (R i) (E i) b.toNat &&& 2 ≠ 0 := by
      apply Classical.byContradiction
      intro q
      rw [if_neg q] at c20
      omega
    obtain ⟨t, rfl⟩ := Int.eq_ofNat_of_zero_le hq9.1
    have ht : t < 2 ^ E i := by omega
    have hts : (sortN (R i) (E i) t &&& 2 != 0) = true := bne_iff_ne.mpr (by have := hq9.2.2; rwa [Int.toNat_natCast] at this)
    refine wa_iload_n hX (i := 2) dX10_circuitWith_33 rfl rfl ?_
    refine wi_iconst hX dX10_circuitWith_34 ?_
    refine wa_iload_n hX (i := 3) dX10_circuitWith_35 rfl rfl ?_
    refine wn_shl1 hX dX10_circuitWith_36 (by rfl) (by omega) ?_
    refine wn_iand hX dX10_circuitWith_37 (by rfl) (by rfl) ?_
    refine wi_if_eq hX (tgt := 51) dX10_circuitWith_38 (by decide) (by exact inR_nat (and_ltl (by omega))) (fun c38 => ?_) (fun c38 => ?_)
    · skip
      refine wa_aload hX dX10_circuitWith_51 rfl ?_
      refine wa_iload_n hX (i := 2) dX10_circuitWith_53 rfl rfl ?_
      refine wa_iload_n hX (i := 3) dX10_circuitWith_54 rfl rfl ?_
      refine wa_callV hX (c_X6_circuitIn hW d g1 g4 he ht hk (fun j _ => sortN_lt (R i) (E i) j)) (by assumption) (by rfl) (by rfl) (by omega) (nA := 2) (by rfl) (by decide +kernel) rfl (by exact Nat.le_of_ble_eq_true rfl) dX10_circuitWith_55 (fun r55 h55 p55 => ?_) (fun _ _ q => q.elim)
      obtain ⟨rfl, qq55⟩ := p55; subst h55
      dsimp only [Option.toList, List.cons_append, List.nil_append]
      refine wa_iret hX dX10_circuitWith_58 ?_
      exact ⟨rfl, i, t, k, hi, rfl, ht, rfl, hk, rfl, hts, and_c0 c38, rfl⟩
    · skip
      refine wa_throwS3 hX (ik := 157) (is := 254) (ic := 161) "java/util/NoSuchElementException" "the element is in the basis" ["java/lang/RuntimeException", "java/lang/Exception"] (thr_ok3 (by decide +kernel) wx_NSE) rfl (by exact Nat.le_of_ble_eq_true rfl) dX10_circuitWith_41 dX10_circuitWith_44 dX10_circuitWith_45 dX10_circuitWith_47 dX10_circuitWith_50 ?_
      exact ⟨rfl, Or.inr ⟨i, hi, rfl, Or.inr ⟨k, hk, rfl, Or.inr ⟨t, ht, rfl, hts, and_c1 c38, rfl⟩⟩⟩⟩
  · skip
    refine wa_throwS2 hX (ik := 103) (is := 252) (ic := 107) "java/lang/UnsupportedOperationException" "the set is no basis" ["java/lang/RuntimeException", "java/lang/Exception"] (thr_ok (by decide +kernel) wx_UOE) rfl (by exact Nat.le_of_ble_eq_true rfl) dX10_circuitWith_23 dX10_circuitWith_26 dX10_circuitWith_27 dX10_circuitWith_29 dX10_circuitWith_32 ?_
    refine ⟨rfl, Or.inr ⟨i, hi, rfl, Or.inr ⟨k, hk, rfl, Or.inl ⟨fun q => ?_, rfl⟩⟩⟩⟩
    rw [if_pos q] at c20
    omega
set_option maxHeartbeats 1000000 in
set_option maxRecDepth 100000 in
theorem c_X10_component (hW : WOK l D S0) (d : Nat) {h : AH} {a : Nat} {w : Nat → Nat} {c m : Nat} {E : Nat → Nat} {R : Nat → Nat → Nat} {br bf bs be : Int} {D2 D3 : Nat → Bool} {so : Nat} (hI : HI h a w c m E R br bf bs be D2 D3 so) {n : Int} (hn : inR n) {el : Int} (hl : inR el) : MA l D S0 yX10_component cX10_component 4 (some .int) (d + 2) [.ref a, I n, I el] h 4 24 (fun r h' => h' = h ∧ ∃ i k : Nat, i < m ∧ n = (i : Int) ∧ k < E i ∧ el = (k : Int) ∧ r = some (I (lowN (sortN (R i) (E i)) (E i) k : Nat))) (fun E' h' => h' = h ∧ ((noM n m ∧ E' = eIOO) ∨ ∃ i, i < m ∧ n = (i : Int) ∧ ¬ (0 ≤ el ∧ el < ((E i : Nat) : Int)) ∧ E' = eIOO)) := by
  obtain ⟨⟨hc60, hw, hm24, hso, hbr, hD, hMt⟩, row, kept, tb, cb, pr, inn, mn, pf, ps, pa, x1, x2, x3, x4, P, k1, kR, k3, kT, kC, kP, kL, kM, kI, kMat⟩ := hI
  refine MA.start hW (by decide) [.val (.ref a), .val (I n), .val (I el), .unset] rfl ?_
  rintro X rfl rfl rfl hX
  refine wa_aload_n hX (i := 0) dX10_component_0 rfl rfl ?_
  refine wa_iload_n hX (i := 1) dX10_component_1 rfl rfl ?_
  refine wa_callV hX (c_X10_find hW d k1 k3 hm24 hn) (by assumption) (by rfl) (by rfl) (by omega) (nA := 1) (by rfl) (by decide +kernel) rfl (by exact Nat.le_of_ble_eq_true rfl) dX10_component_2 (fun r2 h2 p2 => ?_) (fun E' h' q => ⟨q.2.1, Or.inl ⟨q.2.2, q.1⟩⟩)
  obtain ⟨rfl, i, hi, rfl, rfl⟩ := p2
  obtain ⟨rq, hq, tq, sym, v2, v3, g1, g2, g3, g4, g5, g6, g7⟩ := kMat i hi
  have hMi := hMt i hi
  have he := hMi.1
  have hp := p2_le he
  have hp0 := p2_pos (E i)
  dsimp only [Option.toList, List.cons_append, List.nil_append]
  refine wa_astore_n hX (i := 3) dX10_component_5 rfl rfl ?_
  dsimp only [List.set]
  refine wa_aload_n hX (i := 3) dX10_component_6 rfl rfl ?_
  refine wa_iload_n hX (i := 2) dX10_component_7 rfl rfl ?_
  refine wa_callS hX (c_X10_needElement hW d g1 he hl) (by rfl) (by omega) (nA := 2) (by rfl) (by decide +kernel) rfl (by exact Nat.le_of_ble_eq_true rfl) dX10_component_8 (fun r8 h8 p8 => ?_) (fun E' h' q => ⟨q.2.1, Or.inr ⟨i, hi, rfl, q.2.2, q.1⟩⟩)
  obtain ⟨rfl, rfl, hl0, hl1⟩ := p8
  obtain ⟨k, rfl⟩ := Int.eq_ofNat_of_zero_le hl0
  have hk : k < E i := by omega
  dsimp only [Option.toList, List.cons_append, List.nil_append]
  refine wa_aload_n hX (i := 3) dX10_component_11 rfl rfl ?_
  refine wa_iload_n hX (i := 2) dX10_component_12 rfl rfl ?_
  refine wa_callV hX (c_X6_lowestWith hW d g1 g4 he hk (fun j _ => sortN_lt (R i) (E i) j)) (by assumption) (by rfl) (by rfl) (by omega) (nA := 1) (by rfl) (by decide +kernel) rfl (by exact Nat.le_of_ble_eq_true rfl) dX10_component_13 (fun r13 h13 p13 => ?_) (fun _ _ q => q.elim)
  obtain ⟨rfl, qq13⟩ := p13; subst h13
  dsimp only [Option.toList, List.cons_append, List.nil_append]
  refine wa_iret hX dX10_component_16 ?_
  exact ⟨rfl, i, k, hi, rfl, hk, rfl, rfl⟩
set_option maxHeartbeats 1000000 in
set_option maxRecDepth 100000 in
theorem c_X10_coefficient (hW : WOK l D S0) (d : Nat) {h : AH} {a : Nat} {w : Nat → Nat} {c m : Nat} {E : Nat → Nat} {R : Nat → Nat → Nat} {br bf bs be : Int} {D2 D3 : Nat → Bool} {so : Nat} (hI : HI h a w c m E R br bf bs be D2 D3 so) {n : Int} (hn : inR n) {x y : Int} (hx : inR x) (hy : inR y) : MA l D S0 yX10_coefficient cX10_coefficient 5 (some .int) (d + 3) [.ref a, I n, I x, I y] h 4 24 (fun r h' => h' = h ∧ ∃ i s t : Nat, i < m ∧ n = (i : Int) ∧ s ≤ 10 ∧ x = (s : Int) ∧ t ≤ 10 ∧ y = (t : Int) ∧ r = some (I (coefN (shpN (R i) (E i)) s t))) (fun E' h' => h' = h ∧ ((noM n m ∧ E' = eIOO) ∨ ∃ i, i < m ∧ n = (i : Int) ∧ ¬ (0 ≤ x ∧ x ≤ 10 ∧ 0 ≤ y ∧ y ≤ 10) ∧ E' = eIAE)) := by
  obtain ⟨⟨hc60, hw, hm24, hso, hbr, hD, hMt⟩, row, kept, tb, cb, pr, inn, mn, pf, ps, pa, x1, x2, x3, x4, P, k1, kR, k3, kT, kC, kP, kL, kM, kI, kMat⟩ := hI
  refine MA.start hW (by decide) [.val (.ref a), .val (I n), .val (I x), .val (I y), .unset] rfl ?_
  rintro X rfl rfl rfl hX
  refine wa_aload_n hX (i := 0) dX10_coefficient_0 rfl rfl ?_
  refine wa_iload_n hX (i := 1) dX10_coefficient_1 rfl rfl ?_
  refine wa_callV hX (c_X10_find hW d k1 k3 hm24 hn) (by assumption) (by rfl) (by rfl) (by omega) (nA := 1) (by rfl) (by decide +kernel) rfl (by exact Nat.le_of_ble_eq_true rfl) dX10_coefficient_2 (fun r2 h2 p2 => ?_) (fun E' h' q => ⟨q.2.1, Or.inl ⟨q.2.2, q.1⟩⟩)
  obtain ⟨rfl, i, hi, rfl, rfl⟩ := p2
  obtain ⟨rq, hq, tq, sym, v2, v3, g1, g2, g3, g4, g5, g6, g7⟩ := kMat i hi
  have hMi := hMt i hi
  have he := hMi.1
  have hp := p2_le he
  have hp0 := p2_pos (E i)
  dsimp only [Option.toList, List.cons_append, List.nil_append]
  refine wa_astore hX dX10_coefficient_5 rfl ?_
  dsimp only [List.set]
  refine wa_iload_n hX (i := 2) dX10_coefficient_7 rfl rfl ?_
  refine wa_callS hX (c_X10_needPower hW d hx) (by rfl) (by omega) (nA := 1) (by rfl) (by decide +kernel) rfl (by exact Nat.le_of_ble_eq_true rfl) dX10_coefficient_8 (fun r8 h8 p8 => ?_) (fun E' h' q => ⟨q.2.1, Or.inr ⟨i, hi, rfl, fun z => q.2.2 ⟨z.1, z.2.1⟩, q.1⟩⟩)
  obtain ⟨rfl, rfl, hx0, hx1⟩ := p8
  obtain ⟨s, rfl⟩ := Int.eq_ofNat_of_zero_le hx0
  dsimp only [Option.toList, List.cons_append, List.nil_append]
  refine wa_iload_n hX (i := 3) dX10_coefficient_11 rfl rfl ?_
  refine wa_callS hX (c_X10_needPower hW d hy) (by rfl) (by omega) (nA := 1) (by rfl) (by decide +kernel) rfl (by exact Nat.le_of_ble_eq_true rfl) dX10_coefficient_12 (fun r12 h12 p12 => ?_) (fun E' h' q => ⟨q.2.1, Or.inr ⟨i, hi, rfl, fun z => q.2.2 ⟨z.2.2.1, z.2.2.2⟩, q.1⟩⟩)
  obtain ⟨rfl, rfl, hy0, hy1⟩ := p12
  obtain ⟨t, rfl⟩ := Int.eq_ofNat_of_zero_le hy0
  dsimp only [Option.toList, List.cons_append, List.nil_append]
  refine wa_aload hX dX10_coefficient_15 rfl ?_
  refine wa_get hX 4 (by assumption) (by rfl) (by decide +kernel) dX10_coefficient_17 ?_
  refine wa_iload_n hX (i := 2) dX10_coefficient_20 rfl rfl ?_
  refine wa_iload_n hX (i := 3) dX10_coefficient_21 rfl rfl ?_
  refine wa_callS hX (c_X1_coefficientOf hW d g3 (x := s) (y := t) (by omega) (by omega) (fun _ => shpN_le he)) (by rfl) (by omega) (nA := 3) (by rfl) (by decide +kernel) rfl (by exact Nat.le_of_ble_eq_true rfl) dX10_coefficient_22 (fun r22 h22 p22 => ?_) (fun _ _ q => q.elim)
  obtain ⟨rfl, qq22⟩ := p22; subst h22
  dsimp only [Option.toList, List.cons_append, List.nil_append]
  refine wa_iret hX dX10_coefficient_25 ?_
  exact ⟨rfl, i, s, t, hi, rfl, by omega, rfl, by omega, rfl, rfl⟩
set_option maxHeartbeats 1000000 in
set_option maxRecDepth 100000 in
theorem c_X10_value (hW : WOK l D S0) (d : Nat) {h : AH} {a : Nat} {w : Nat → Nat} {c m : Nat} {E : Nat → Nat} {R : Nat → Nat → Nat} {br bf bs be : Int} {D2 D3 : Nat → Bool} {so : Nat} (hI : HI h a w c m E R br bf bs be D2 D3 so) {n : Int} (hn : inR n) {x y : Int} (hx : inR x) (hy : inR y) : MA l D S0 yX10_value cX10_value 5 (some .long) (d + 3) [.ref a, I n, I x, I y] h 4 24 (fun r h' => h' = h ∧ ∃ i : Nat, i < m ∧ n = (i : Int) ∧ (-9 ≤ x ∧ x ≤ 9) ∧ (-9 ≤ y ∧ y ≤ 9) ∧ r = some (Lg (valN (shpN (R i) (E i)) x y))) (fun E' h' => h' = h ∧ ((noM n m ∧ E' = eIOO) ∨ ∃ i, i < m ∧ n = (i : Int) ∧ ¬ ((-9 ≤ x ∧ x ≤ 9) ∧ (-9 ≤ y ∧ y ≤ 9)) ∧ E' = eIAE)) := by
  obtain ⟨⟨hc60, hw, hm24, hso, hbr, hD, hMt⟩, row, kept, tb, cb, pr, inn, mn, pf, ps, pa, x1, x2, x3, x4, P, k1, kR, k3, kT, kC, kP, kL, kM, kI, kMat⟩ := hI
  refine MA.start hW (by decide) [.val (.ref a), .val (I n), .val (I x), .val (I y), .unset] rfl ?_
  rintro X rfl rfl rfl hX
  refine wa_aload_n hX (i := 0) dX10_value_0 rfl rfl ?_
  refine wa_iload_n hX (i := 1) dX10_value_1 rfl rfl ?_
  refine wa_callV hX (c_X10_find hW d k1 k3 hm24 hn) (by assumption) (by rfl) (by rfl) (by omega) (nA := 1) (by rfl) (by decide +kernel) rfl (by exact Nat.le_of_ble_eq_true rfl) dX10_value_2 (fun r2 h2 p2 => ?_) (fun E' h' q => ⟨q.2.1, Or.inl ⟨q.2.2, q.1⟩⟩)
  obtain ⟨rfl, i, hi, rfl, rfl⟩ := p2
  obtain ⟨rq, hq, tq, sym, v2, v3, g1, g2, g3, g4, g5, g6, g7⟩ := kMat i hi
  have hMi := hMt i hi
  have he := hMi.1
  have hp := p2_le he
  have hp0 := p2_pos (E i)
  dsimp only [Option.toList, List.cons_append, List.nil_append]
  refine wa_astore hX dX10_value_5 rfl ?_
  dsimp only [List.set]
  refine wa_iload_n hX (i := 2) dX10_value_7 rfl rfl ?_
  refine wi_bipush hX dX10_value_8 (by decide) ?_
  refine wi_icmp_lt hX (tgt := 31) dX10_value_10 (by decide) (by omega) (by omega) (fun c10 => ?_) (fun c10 => ?_)
  · skip
    refine wa_throwSW2 hX (ik := 58) (is := 371) (ic := 62) "java/lang/IllegalArgumentException" "x and y are -9 to 9" ["java/lang/RuntimeException", "java/lang/Exception"] (thr_ok (by decide +kernel) wx_IAE) rfl (by exact Nat.le_of_ble_eq_true rfl) dX10_value_31 dX10_value_34 dX10_value_35 dX10_value_38 dX10_value_41 ?_
    exact ⟨rfl, Or.inr ⟨i, hi, rfl, by omega, rfl⟩⟩
  · skip
    refine wa_iload_n hX (i := 2) dX10_value_13 rfl rfl ?_
    refine wi_bipush hX dX10_value_14 (by decide) ?_
    refine wi_icmp_gt hX (tgt := 31) dX10_value_16 (by decide) (by omega) (by omega) (fun c16 => ?_) (fun c16 => ?_)
    · skip
      refine wa_throwSW2 hX (ik := 58) (is := 371) (ic := 62) "java/lang/IllegalArgumentException" "x and y are -9 to 9" ["java/lang/RuntimeException", "java/lang/Exception"] (thr_ok (by decide +kernel) wx_IAE) rfl (by exact Nat.le_of_ble_eq_true rfl) dX10_value_31 dX10_value_34 dX10_value_35 dX10_value_38 dX10_value_41 ?_
      exact ⟨rfl, Or.inr ⟨i, hi, rfl, by omega, rfl⟩⟩
    · skip
      refine wa_iload_n hX (i := 3) dX10_value_19 rfl rfl ?_
      refine wi_bipush hX dX10_value_20 (by decide) ?_
      refine wi_icmp_lt hX (tgt := 31) dX10_value_22 (by decide) (by omega) (by omega) (fun c22 => ?_) (fun c22 => ?_)
      · skip
        refine wa_throwSW2 hX (ik := 58) (is := 371) (ic := 62) "java/lang/IllegalArgumentException" "x and y are -9 to 9" ["java/lang/RuntimeException", "java/lang/Exception"] (thr_ok (by decide +kernel) wx_IAE) rfl (by exact Nat.le_of_ble_eq_true rfl) dX10_value_31 dX10_value_34 dX10_value_35 dX10_value_38 dX10_value_41 ?_
        exact ⟨rfl, Or.inr ⟨i, hi, rfl, by omega, rfl⟩⟩
      · skip
        refine wa_iload_n hX (i := 3) dX10_value_25 rfl rfl ?_
        refine wi_bipush hX dX10_value_26 (by decide) ?_
        refine wi_icmp_le hX (tgt := 42) dX10_value_28 (by decide) (by omega) (by omega) (fun c28 => ?_) (fun c28 => ?_)
        · skip
          refine wa_aload hX dX10_value_42 rfl ?_
          refine wa_get hX 4 (by assumption) (by rfl) (by decide +kernel) dX10_value_44 ?_
          refine wa_iload_n hX (i := 2) dX10_value_47 rfl rfl ?_
          refine wa_iload_n hX (i := 3) dX10_value_48 rfl rfl ?_
          refine wa_callS hX (c_X1_valueAt hW d g3 (x := x) (y := y) (by omega) (by omega) (fun _ => shpN_le he)) (by rfl) (by omega) (nA := 3) (by rfl) (by decide +kernel) rfl (by exact Nat.le_of_ble_eq_true rfl) dX10_value_49 (fun r49 h49 p49 => ?_) (fun _ _ q => q.elim)
          obtain ⟨rfl, qq49⟩ := p49; subst h49
          dsimp only [Option.toList, List.cons_append, List.nil_append]
          refine wa_lret hX dX10_value_52 ?_
          exact ⟨rfl, i, hi, rfl, by omega, by omega, rfl⟩
        · skip
          refine wa_throwSW2 hX (ik := 58) (is := 371) (ic := 62) "java/lang/IllegalArgumentException" "x and y are -9 to 9" ["java/lang/RuntimeException", "java/lang/Exception"] (thr_ok (by decide +kernel) wx_IAE) rfl (by exact Nat.le_of_ble_eq_true rfl) dX10_value_31 dX10_value_34 dX10_value_35 dX10_value_38 dX10_value_41 ?_
          exact ⟨rfl, Or.inr ⟨i, hi, rfl, by omega, rfl⟩⟩
set_option maxHeartbeats 1000000 in
set_option maxRecDepth 100000 in
theorem c_X10_other (hW : WOK l D S0) (d : Nat) {h : AH} {a : Nat} {w : Nat → Nat} {c m : Nat} {E : Nat → Nat} {R : Nat → Nat → Nat} {br bf bs be : Int} {D2 D3 : Nat → Bool} {so : Nat} (hI : HI h a w c m E R br bf bs be D2 D3 so) {n : Int} (hn : inR n) {x : Int} (hx : inR x) : MA l D S0 yX10_other cX10_other 4 (some .int) (d + 3) [.ref a, I n, I x] h 4 24 (fun r h' => h' = h ∧ ∃ i s : Nat, i < m ∧ n = (i : Int) ∧ s ≤ 10 ∧ x = (s : Int) ∧ r = some (I (othN (shpN (R i) (E i)) (R i (2 ^ E i - 1)) s))) (fun E' h' => h' = h ∧ ((noM n m ∧ E' = eIOO) ∨ ∃ i, i < m ∧ n = (i : Int) ∧ ¬ (0 ≤ x ∧ x ≤ 10) ∧ E' = eIAE)) := by
  obtain ⟨⟨hc60, hw, hm24, hso, hbr, hD, hMt⟩, row, kept, tb, cb, pr, inn, mn, pf, ps, pa, x1, x2, x3, x4, P, k1, kR, k3, kT, kC, kP, kL, kM, kI, kMat⟩ := hI
  refine MA.start hW (by decide) [.val (.ref a), .val (I n), .val (I x), .unset] rfl ?_
  rintro X rfl rfl rfl hX
  refine wa_aload_n hX (i := 0) dX10_other_0 rfl rfl ?_
  refine wa_iload_n hX (i := 1) dX10_other_1 rfl rfl ?_
  refine wa_callV hX (c_X10_find hW d k1 k3 hm24 hn) (by assumption) (by rfl) (by rfl) (by omega) (nA := 1) (by rfl) (by decide +kernel) rfl (by exact Nat.le_of_ble_eq_true rfl) dX10_other_2 (fun r2 h2 p2 => ?_) (fun E' h' q => ⟨q.2.1, Or.inl ⟨q.2.2, q.1⟩⟩)
  obtain ⟨rfl, i, hi, rfl, rfl⟩ := p2
  obtain ⟨rq, hq, tq, sym, v2, v3, g1, g2, g3, g4, g5, g6, g7⟩ := kMat i hi
  have hMi := hMt i hi
  have he := hMi.1
  have hp := p2_le he
  have hp0 := p2_pos (E i)
  dsimp only [Option.toList, List.cons_append, List.nil_append]
  refine wa_astore_n hX (i := 3) dX10_other_5 rfl rfl ?_
  dsimp only [List.set]
  refine wa_iload_n hX (i := 2) dX10_other_6 rfl rfl ?_
  refine wa_callS hX (c_X10_needPower hW d hx) (by rfl) (by omega) (nA := 1) (by rfl) (by decide +kernel) rfl (by exact Nat.le_of_ble_eq_true rfl) dX10_other_7 (fun r7 h7 p7 => ?_) (fun E' h' q => ⟨q.2.1, Or.inr ⟨i, hi, rfl, q.2.2, q.1⟩⟩)
  obtain ⟨rfl, rfl, hx0, hx1⟩ := p7
  obtain ⟨s, rfl⟩ := Int.eq_ofNat_of_zero_le hx0
  dsimp only [Option.toList, List.cons_append, List.nil_append]
  refine wa_aload_n hX (i := 3) dX10_other_10 rfl rfl ?_
  refine wa_get hX 4 (by assumption) (by rfl) (by decide +kernel) dX10_other_11 ?_
  refine wa_aload_n hX (i := 3) dX10_other_14 rfl rfl ?_
  refine wa_get hX 2 (by assumption) (by rfl) (by decide +kernel) dX10_other_15 ?_
  refine wa_iload_n hX (i := 2) dX10_other_18 rfl rfl ?_
  refine wa_callS hX (c_X1_signedCount hW d g3 (f := R i (2 ^ E i - 1)) (t := s) (hMi.le10 (by omega)) (by omega) (fun _ => shpN_le he)) (by rfl) (by omega) (nA := 3) (by rfl) (by decide +kernel) rfl (by exact Nat.le_of_ble_eq_true rfl) dX10_other_19 (fun r19 h19 p19 => ?_) (fun _ _ q => q.elim)
  obtain ⟨rfl, qq19⟩ := p19; subst h19
  dsimp only [Option.toList, List.cons_append, List.nil_append]
  refine wa_iret hX dX10_other_22 ?_
  exact ⟨rfl, i, s, hi, rfl, by omega, rfl, rfl⟩
set_option maxHeartbeats 1000000 in
set_option maxRecDepth 100000 in
theorem c_X10_matroids (hW : WOK l D S0) (d : Nat) {h : AH} {a : Nat} {w : Nat → Nat} {c m : Nat} {E : Nat → Nat} {R : Nat → Nat → Nat} {br bf bs be : Int} {D2 D3 : Nat → Bool} {so : Nat} (hI : HI h a w c m E R br bf bs be D2 D3 so)  : MA l D S0 yX10_matroids cX10_matroids 1 (some .int) d [.ref a] h 4 24 (fun r h' => h' = h ∧ r = some (I (m : Nat))) (fun _ _ => False) := by
  obtain ⟨⟨hc60, hw, hm24, hso, hbr, hD, hMt⟩, row, kept, tb, cb, pr, inn, mn, pf, ps, pa, x1, x2, x3, x4, P, k1, kR, k3, kT, kC, kP, kL, kM, kI, kMat⟩ := hI
  refine MA.start hW (by decide) [.val (.ref a)] rfl ?_
  rintro X rfl rfl rfl hX
  refine wa_aload_n hX (i := 0) dX10_matroids_0 rfl rfl ?_
  refine wa_get hX 2 (by assumption) (by rfl) (by decide +kernel) dX10_matroids_1 ?_
  refine wa_iret hX dX10_matroids_4 ?_
  exact ⟨rfl, rfl⟩
end C67
