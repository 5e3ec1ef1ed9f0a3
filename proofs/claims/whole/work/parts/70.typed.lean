/-! The house (X10): relax, graph, columns, meeting, bases -/
section C70
variable {l : Launch} {D : va_G} {S0 : State}
set_option maxHeartbeats 2000000 in
set_option maxRecDepth 100000 in
theorem c_X10_relax (hW : WOK l D S0) (d : Nat) {h : AH} {a : Nat} {w : Nat → Nat} {c m : Nat} {E : Nat → Nat} {R : Nat → Nat → Nat} {br bf bs be : Int} {D2 D3 : Nat → Bool} {so : Nat} (hI : HI h a w c m E R br bf bs be D2 D3 so) {n : Int} (hn : inR n) {s : Int} (hs : inR s) (hN : ∀ i t : Nat, i < m → t < 2 ^ E i → (sortN (R i) (E i) t &&& 4 != 0) = true → (sortN (R i) (E i) t &&& 16 != 0) = true → Mtr (E i) (fun s => if s = t then R i (2 ^ E i - 1) else R i s)) : MA l D S0 yX10_relax cX10_relax 4 (some .int) (d + 5) [.ref a, I n, I s] h 40 4200 (fun r h' => ∃ i t : Nat, (i < m ∧ n = (i : Int) ∧ t < 2 ^ E i ∧ s = (t : Int) ∧ (sortN (R i) (E i) t &&& 4 != 0) = true ∧ (sortN (R i) (E i) t &&& 16 != 0) = true) ∧ m < 24 ∧ r = some (I (m : Nat)) ∧ HI h' a w c (m + 1) (up E m (E i)) (up R m (fun s => if s = t then R i (2 ^ E i - 1) else R i s)) br bf bs be D2 D3 so ∧ Fr HF h h') (fun E' h' => h' = h ∧ ((noM n m ∧ E' = eIOO) ∨ ∃ i, i < m ∧ n = (i : Int) ∧ ((¬ (0 ≤ s ∧ s < ((2 ^ E i : Nat) : Int)) ∧ E' = eIAE) ∨ ∃ t : Nat, t < 2 ^ E i ∧ s = (t : Int) ∧ ((¬ ((sortN (R i) (E i) t &&& 4 != 0) = true ∧ (sortN (R i) (E i) t &&& 16 != 0) = true) ∧ E' = eUOE) ∨ ((sortN (R i) (E i) t &&& 4 != 0) = true ∧ (sortN (R i) (E i) t &&& 16 != 0) = true ∧ m = 24 ∧ E' = eISE))))) := by
  obtain ⟨⟨hc60, hw, hm24, hso, hbr, hD, hMt⟩, row, kept, tb, cb, pr, inn, mn, pf, ps, pa, x1, x2, x3, x4, P, k1, kR, k3, kT, kC, kP, kL, kM, kI, kMat⟩ := id hI
  have fr : Fr (fun _ => False) h h := Fr.rf
  refine MA.start hW (by decide) [.val (.ref a), .val (I n), .val (I s), .unset] rfl ?_
  rintro X rfl rfl rfl hX
  refine wa_aload_n hX (i := 0) dX10_relax_0 rfl rfl ?_
  refine wa_iload_n hX (i := 1) dX10_relax_1 rfl rfl ?_
  refine wa_callV hX (c_X10_find hW d k1 k3 hm24 hn) (by assumption) (by rfl) (by rfl) (by omega) (nA := 1) (by rfl) (by decide +kernel) rfl (by exact Nat.le_of_ble_eq_true rfl) dX10_relax_2 (fun r2 h2 p2 => ?_) (fun E' h' q => ⟨q.2.1, Or.inl ⟨q.2.2, q.1⟩⟩)
  obtain ⟨rfl, i, hi, rfl, rfl⟩ := p2
  obtain ⟨rq, hq, tq, sym, v2, v3, g1, g2, g3, g4, g5, g6, g7⟩ := kMat i hi
  have hMi := hMt i hi
  have he := hMi.1
  have hp := p2_le he
  have hp0 := p2_pos (E i)
  have hf10 := hMi.le10 (show 2 ^ E i - 1 < 2 ^ E i by omega)
  dsimp only [Option.toList, List.cons_append, List.nil_append]
  refine wa_astore_n hX (i := 3) dX10_relax_5 rfl rfl ?_
  dsimp only [List.set]
  refine wa_aload_n hX (i := 3) dX10_relax_6 rfl rfl ?_
  refine wa_iload_n hX (i := 2) dX10_relax_7 rfl rfl ?_
  refine wa_callS hX (c_X10_needSet hW d g1 he hs) (by rfl) (by omega) (nA := 2) (by rfl) (by decide +kernel) rfl (by exact Nat.le_of_ble_eq_true rfl) dX10_relax_8 (fun r8 h8 p8 => ?_) (fun E' h' q => ⟨q.2.1, Or.inr ⟨i, hi, rfl, Or.inl ⟨q.2.2, q.1⟩⟩⟩)
  obtain ⟨rfl, rfl, hs0, hs1⟩ := p8
  obtain ⟨t, rfl⟩ := Int.eq_ofNat_of_zero_le hs0
  have ht : t < 2 ^ E i := by omega
  dsimp only [Option.toList, List.cons_append, List.nil_append]
  refine wa_aload_n hX (i := 3) dX10_relax_11 rfl rfl ?_
  refine wa_iload_n hX (i := 2) dX10_relax_12 rfl rfl ?_
  refine wi_iconst hX dX10_relax_13 ?_
  refine wa_callV hX (c_X6_has hW d g1 g4 (so := 4) he ht (fun j _ => sortN_lt _ _ j)) (by assumption) (by rfl) (by rfl) (by omega) (nA := 2) (by rfl) (by decide +kernel) rfl (by exact Nat.le_of_ble_eq_true rfl) dX10_relax_14 (fun r14 h14 p14 => ?_) (fun _ _ q => q.elim)
  obtain ⟨rfl, qq14⟩ := p14; subst h14
  dsimp only [Option.toList, List.cons_append, List.nil_append]
  refine wi_if_eq hX (tgt := 30) dX10_relax_17 (by decide) (by exact b2n_inR _) (fun c17 => ?_) (fun c17 => ?_)
  · skip
    refine wa_throwS2 hX (ik := 103) (is := 222) (ic := 107) "java/lang/UnsupportedOperationException" "the set is not a circuit and a hyperplane" ["java/lang/RuntimeException", "java/lang/Exception"] (thr_ok (by decide +kernel) wx_UOE) rfl (by exact Nat.le_of_ble_eq_true rfl) dX10_relax_30 dX10_relax_33 dX10_relax_34 dX10_relax_36 dX10_relax_39 ?_
    first
      | (have z1 := b2n_f c17
         exact ⟨rfl, Or.inr ⟨i, hi, rfl, Or.inr ⟨t, ht, rfl, Or.inl ⟨fun z => Bool.false_ne_true (z1.symm.trans z.1), rfl⟩⟩⟩⟩)
      | (have z1 := b2n_f c27
         exact ⟨rfl, Or.inr ⟨i, hi, rfl, Or.inr ⟨t, ht, rfl, Or.inl ⟨fun z => Bool.false_ne_true (z1.symm.trans z.2), rfl⟩⟩⟩⟩)
  · skip
    refine wa_aload_n hX (i := 3) dX10_relax_20 rfl rfl ?_
    refine wa_iload_n hX (i := 2) dX10_relax_21 rfl rfl ?_
    refine wi_bipush hX dX10_relax_22 (by decide) ?_
    refine wa_callV hX (c_X6_has hW d g1 g4 (so := 16) he ht (fun j _ => sortN_lt _ _ j)) (by assumption) (by rfl) (by rfl) (by omega) (nA := 2) (by rfl) (by decide +kernel) rfl (by exact Nat.le_of_ble_eq_true rfl) dX10_relax_24 (fun r24 h24 p24 => ?_) (fun _ _ q => q.elim)
    obtain ⟨rfl, qq24⟩ := p24; subst h24
    dsimp only [Option.toList, List.cons_append, List.nil_append]
    refine wi_if_ne hX (tgt := 40) dX10_relax_27 (by decide) (by exact b2n_inR _) (fun c27 => ?_) (fun c27 => ?_)
    · skip
      have z1 := b2n_t c17
      have z2 := b2n_t c27
      refine wa_aload_n hX (i := 0) dX10_relax_40 rfl rfl ?_
      refine wa_callV hX (c_X10_needRoom hW d k1 hm24) (by assumption) (by rfl) (by rfl) (by omega) (nA := 0) (by rfl) (by decide +kernel) rfl (by exact Nat.le_of_ble_eq_true rfl) dX10_relax_41 (fun r41 h41 p41 => ?_) (fun E' h' q => ⟨q.2.1, Or.inr ⟨i, hi, rfl, Or.inr ⟨t, ht, rfl, Or.inr ⟨z1, z2, q.2.2, q.1⟩⟩⟩⟩)
      obtain ⟨rfl, rfl, hm9⟩ := p41
      dsimp only [Option.toList, List.cons_append, List.nil_append]
      refine wa_aload_n hX (i := 0) dX10_relax_44 rfl rfl ?_
      refine wa_aload_n hX (i := 3) dX10_relax_45 rfl rfl ?_
      refine wa_iload_n hX (i := 2) dX10_relax_46 rfl rfl ?_
      refine wa_callS hX (c_X9_ofRelaxation hW d g1 g2 he (fun s hs => hMi.le10 hs) hf10 ht) (by rfl) (by omega) (nA := 2) (by rfl) (by decide +kernel) rfl (by exact Nat.le_of_ble_eq_true rfl) dX10_relax_47 (fun r47 h47 p47 => ?_) (fun _ _ q => q.elim)
      obtain ⟨q, rfl, qn, rfl⟩ := p47
      refine WA.hnew qn (fun hh1 hN hK => ?_)
      replace fr := Fr.mk9 fr hK
      replace k1 := hK _ _ _ k1
      have Hq := hN
      clear hN hK
      dsimp only [Option.toList, List.cons_append, List.nil_append]
      have hI2 := hI.fr fr (fun x hx => hx.elim)
      refine wa_callV hX (c_X10_keep hW d hI2 Hq (hN i t hi ht z1 z2) hm9) (by assumption) (by rfl) (by rfl) (by omega) (nA := 1) (by rfl) (by decide +kernel) rfl (by exact Nat.le_of_ble_eq_true rfl) dX10_relax_50 (fun r50 h50 p50 => ?_) (fun _ _ q => q.elim)
      obtain ⟨rfl, hI3, f3⟩ := p50
      dsimp only [Option.toList, List.cons_append, List.nil_append]
      refine wa_iret hX dX10_relax_53 ?_
      exact ⟨i, t, ⟨hi, rfl, ht, rfl, z1, z2⟩, hm9, rfl, hI3, (fr.mono (fun x hx => hx.elim)).trans f3⟩
    · skip
      refine wa_throwS2 hX (ik := 103) (is := 222) (ic := 107) "java/lang/UnsupportedOperationException" "the set is not a circuit and a hyperplane" ["java/lang/RuntimeException", "java/lang/Exception"] (thr_ok (by decide +kernel) wx_UOE) rfl (by exact Nat.le_of_ble_eq_true rfl) dX10_relax_30 dX10_relax_33 dX10_relax_34 dX10_relax_36 dX10_relax_39 ?_
      first
        | (have z1 := b2n_f c17
           exact ⟨rfl, Or.inr ⟨i, hi, rfl, Or.inr ⟨t, ht, rfl, Or.inl ⟨fun z => Bool.false_ne_true (z1.symm.trans z.1), rfl⟩⟩⟩⟩)
        | (have z1 := b2n_f c27
           exact ⟨rfl, Or.inr ⟨i, hi, rfl, Or.inr ⟨t, ht, rfl, Or.inl ⟨fun z => Bool.false_ne_true (z1.symm.trans z.2), rfl⟩⟩⟩⟩)
set_option maxHeartbeats 2000000 in
set_option maxRecDepth 100000 in
theorem c_X10_graph (hW : WOK l D S0) (d : Nat) {h : AH} {a : Nat} {w : Nat → Nat} {c m : Nat} {E : Nat → Nat} {R : Nat → Nat → Nat} {br bf bs be : Int} {D2 D3 : Nat → Bool} {so : Nat} (hI : HI h a w c m E R br bf bs be D2 D3 so) (hN : ∀ k, c = 2 * k → k ≤ 10 → (∀ j, j < c → w j < 10) → Mtr k (rkE 2 10 (colG w k))) : MA l D S0 yX10_graph cX10_graph 2 (some .int) (d + 6) [.ref a] h 40 4200 (fun r h' => ∃ k, (c = 2 * k ∧ k ≤ 10 ∧ ∀ j, j < c → w j < 10) ∧ m < 24 ∧ r = some (I (m : Nat)) ∧ HI h' a w 0 (m + 1) (up E m (k)) (up R m (rkE 2 10 (colG w k))) br bf bs be D2 D3 so ∧ Fr HF h h') (fun E' h' => h' = h ∧ ((¬ (c % 2 = 0 ∧ c ≤ 20 ∧ ∀ j, j < c → w j < 10) ∧ E' = eUOE) ∨ ((c % 2 = 0 ∧ c ≤ 20 ∧ ∀ j, j < c → w j < 10) ∧ m = 24 ∧ E' = eISE))) := by
  obtain ⟨⟨hc60, hw, hm24, hso, hbr, hD, hMt⟩, row, kept, tb, cb, pr, inn, mn, pf, ps, pa, x1, x2, x3, x4, P, k1, kR, k3, kT, kC, kP, kL, kM, kI, kMat⟩ := id hI
  have fr : Fr (fun _ => False) h h := Fr.rf
  refine MA.start hW (by decide) [.val (.ref a), .unset] rfl ?_
  rintro X rfl rfl rfl hX
  obtain ⟨rq, r1, r2⟩ := kR
  have hgr := grt_lt hw c
  refine wa_aload_n hX (i := 0) dX10_graph_0 rfl rfl ?_
  refine wa_get hX 0 (by assumption) (by rfl) (by decide +kernel) dX10_graph_1 ?_
  refine wa_callV hX (c_X8_length hW d r1) (by assumption) (by rfl) (by rfl) (by omega) (nA := 0) (by rfl) (by decide +kernel) rfl (by exact Nat.le_of_ble_eq_true rfl) dX10_graph_4 (fun r4 h4 p4 => ?_) (fun _ _ q => q.elim)
  obtain ⟨rfl, qq4⟩ := p4; subst h4
  dsimp only [Option.toList, List.cons_append, List.nil_append]
  refine wa_istore_n hX (i := 1) dX10_graph_7 rfl rfl ?_
  dsimp only [List.set]
  refine wa_iload_n hX (i := 1) dX10_graph_8 rfl rfl ?_
  refine wi_iconst hX dX10_graph_9 ?_
  refine wn_irem hX (a := c) (b := 2) dX10_graph_10 rfl rfl (by omega) (by omega) (by omega) ?_
  refine wi_if_ne hX (tgt := 32) dX10_graph_11 (by decide) (by omega) (fun c11 => ?_) (fun c11 => ?_)
  · skip
    refine wa_throwS2 hX (ik := 103) (is := 105) (ic := 107) "java/lang/UnsupportedOperationException" "the row is no graph" ["java/lang/RuntimeException", "java/lang/Exception"] (thr_ok (by decide +kernel) wx_UOE) rfl (by exact Nat.le_of_ble_eq_true rfl) dX10_graph_32 dX10_graph_35 dX10_graph_36 dX10_graph_38 dX10_graph_41 ?_
    refine ⟨rfl, Or.inl ⟨fun z => ?_, rfl⟩⟩
    have := (grt_iff (g := w) (b := 10) (by omega) c).mpr (fun j hj => by have := z.2.2 j hj; omega)
    omega
  · skip
    refine wa_iload_n hX (i := 1) dX10_graph_14 rfl rfl ?_
    refine wi_bipush hX dX10_graph_15 (by decide) ?_
    refine wi_icmp_gt hX (tgt := 32) dX10_graph_17 (by decide) (by omega) (by omega) (fun c17 => ?_) (fun c17 => ?_)
    · skip
      refine wa_throwS2 hX (ik := 103) (is := 105) (ic := 107) "java/lang/UnsupportedOperationException" "the row is no graph" ["java/lang/RuntimeException", "java/lang/Exception"] (thr_ok (by decide +kernel) wx_UOE) rfl (by exact Nat.le_of_ble_eq_true rfl) dX10_graph_32 dX10_graph_35 dX10_graph_36 dX10_graph_38 dX10_graph_41 ?_
      refine ⟨rfl, Or.inl ⟨fun z => ?_, rfl⟩⟩
      have := (grt_iff (g := w) (b := 10) (by omega) c).mpr (fun j hj => by have := z.2.2 j hj; omega)
      omega
    · skip
      refine wa_aload_n hX (i := 0) dX10_graph_20 rfl rfl ?_
      refine wa_get hX 0 (by assumption) (by rfl) (by decide +kernel) dX10_graph_21 ?_
      refine wa_callV hX (c_X8_greatest hW d r1 r2 hc60 hw) (by assumption) (by rfl) (by rfl) (by omega) (nA := 0) (by rfl) (by decide +kernel) rfl (by exact Nat.le_of_ble_eq_true rfl) dX10_graph_24 (fun r24 h24 p24 => ?_) (fun _ _ q => q.elim)
      obtain ⟨rfl, qq24⟩ := p24; subst h24
      dsimp only [Option.toList, List.cons_append, List.nil_append]
      refine wi_bipush hX dX10_graph_27 (by decide) ?_
      refine wi_icmp_lt hX (tgt := 42) dX10_graph_29 (by decide) (by omega) (by omega) (fun c29 => ?_) (fun c29 => ?_)
      · skip
        have hg9 : ∀ j, j < c → w j < 10 := fun j hj => by
          have := (grt_iff (g := w) (b := 10) (by omega) c).mp c29 j hj
          omega
        obtain ⟨k, hk⟩ : ∃ k, c = 2 * k := ⟨c / 2, by omega⟩
        subst hk
        refine wa_aload_n hX (i := 0) dX10_graph_42 rfl rfl ?_
        refine wa_callV hX (c_X10_needRoom hW d k1 hm24) (by assumption) (by rfl) (by rfl) (by omega) (nA := 0) (by rfl) (by decide +kernel) rfl (by exact Nat.le_of_ble_eq_true rfl) dX10_graph_43 (fun r43 h43 p43 => ?_) (fun E' h' q => ⟨q.2.1, Or.inr ⟨⟨by omega, by omega, hg9⟩, q.2.2, q.1⟩⟩)
        obtain ⟨rfl, rfl, hm9⟩ := p43
        dsimp only [Option.toList, List.cons_append, List.nil_append]
        refine wa_aload_n hX (i := 0) dX10_graph_46 rfl rfl ?_
        refine wa_aload_n hX (i := 0) dX10_graph_47 rfl rfl ?_
        refine wa_get hX 0 (by assumption) (by rfl) (by decide +kernel) dX10_graph_48 ?_
        refine wa_callS hX (c_X9_ofGraph hW d r1 r2 (by decide) (by decide) (by omega) hg9) (by rfl) (by omega) (nA := 1) (by rfl) (by decide +kernel) rfl (by exact Nat.le_of_ble_eq_true rfl) dX10_graph_51 (fun r51 h51 p51 => ?_) (fun _ _ q => q.elim)
        obtain ⟨q, rfl, Hq, f9⟩ := p51
        have hI2 := hI.fr f9 (fun x hx => by omega)
        have k1' := f9 _ _ _ k1 (by omega)
        dsimp only [Option.toList, List.cons_append, List.nil_append]
        refine wa_callV hX (c_X10_keepTyped hW d hI2 Hq (hN k rfl (by omega) hg9) hm9) (by assumption) (by rfl) (by rfl) (by omega) (nA := 1) (by rfl) (by decide +kernel) rfl (by exact Nat.le_of_ble_eq_true rfl) dX10_graph_54 (fun r54 h54 p54 => ?_) (fun _ _ q => q.elim)
        obtain ⟨rfl, hI3, f3⟩ := p54
        dsimp only [Option.toList, List.cons_append, List.nil_append]
        refine wa_iret hX dX10_graph_57 ?_
        exact ⟨k, ⟨rfl, by omega, hg9⟩, hm9, rfl, hI3, (f9.mono (fun x hx => by omega)).trans f3⟩
      · skip
        refine wa_throwS2 hX (ik := 103) (is := 105) (ic := 107) "java/lang/UnsupportedOperationException" "the row is no graph" ["java/lang/RuntimeException", "java/lang/Exception"] (thr_ok (by decide +kernel) wx_UOE) rfl (by exact Nat.le_of_ble_eq_true rfl) dX10_graph_32 dX10_graph_35 dX10_graph_36 dX10_graph_38 dX10_graph_41 ?_
        refine ⟨rfl, Or.inl ⟨fun z => ?_, rfl⟩⟩
        have := (grt_iff (g := w) (b := 10) (by omega) c).mpr (fun j hj => by have := z.2.2 j hj; omega)
        omega
set_option maxHeartbeats 2000000 in
set_option maxRecDepth 100000 in
theorem c_X10_columns (hW : WOK l D S0) (d : Nat) {h : AH} {a : Nat} {w : Nat → Nat} {c m : Nat} {E : Nat → Nat} {R : Nat → Nat → Nat} {br bf bs be : Int} {D2 D3 : Nat → Bool} {so : Nat} (hI : HI h a w c m E R br bf bs be D2 D3 so) {x y : Int} (hx : inR x) (hy : inR y) (hN : ∀ f y0 : Nat, (f = 2 ∨ f = 3 ∨ f = 5) → 1 ≤ y0 → y0 ≤ 6 → (c % y0 = 0 ∧ c ≤ y0 * 10 ∧ ∀ j, j < c → w j < f) → Mtr (c / y0) (rkE f y0 (colC w y0 (c / y0)))) : MA l D S0 yX10_columns cX10_columns 4 (some .int) (d + 6) [.ref a, I x, I y] h 40 4200 (fun r h' => ∃ f y0 : Nat, ((f = 2 ∨ f = 3 ∨ f = 5) ∧ x = (f : Int) ∧ 1 ≤ y0 ∧ y0 ≤ 6 ∧ y = (y0 : Int) ∧ (c % y0 = 0 ∧ c ≤ y0 * 10 ∧ ∀ j, j < c → w j < f)) ∧ m < 24 ∧ r = some (I (m : Nat)) ∧ HI h' a w 0 (m + 1) (up E m (c / y0)) (up R m (rkE f y0 (colC w y0 (c / y0)))) br bf bs be D2 D3 so ∧ Fr HF h h') (fun E' h' => h' = h ∧ ((¬ ((x = 2 ∨ x = 3 ∨ x = 5) ∧ 1 ≤ y ∧ y ≤ 6) ∧ E' = eIAE) ∨ ∃ f y0 : Nat, (f = 2 ∨ f = 3 ∨ f = 5) ∧ x = (f : Int) ∧ 1 ≤ y0 ∧ y0 ≤ 6 ∧ y = (y0 : Int) ∧ ((¬ (c % y0 = 0 ∧ c ≤ y0 * 10 ∧ ∀ j, j < c → w j < f) ∧ E' = eUOE) ∨ ((c % y0 = 0 ∧ c ≤ y0 * 10 ∧ ∀ j, j < c → w j < f) ∧ m = 24 ∧ E' = eISE)))) := by
  obtain ⟨⟨hc60, hw, hm24, hso, hbr, hD, hMt⟩, row, kept, tb, cb, pr, inn, mn, pf, ps, pa, x1, x2, x3, x4, P, k1, kR, k3, kT, kC, kP, kL, kM, kI, kMat⟩ := id hI
  have fr : Fr (fun _ => False) h h := Fr.rf
  refine MA.start hW (by decide) [.val (.ref a), .val (I x), .val (I y), .unset] rfl ?_
  rintro X rfl rfl rfl hX
  obtain ⟨rq, r1, r2⟩ := kR
  have hgr := grt_lt hw c
  have t15 : (x = 2 ∨ x = 3 ∨ x = 5) → WA X h 40 4200 15 [.val (.ref a), .val (I x), .val (I y), .unset] [] := by
    intro hx5
    refine wa_iload_n hX (i := 2) dX10_columns_15 rfl rfl ?_
    refine wi_iconst hX dX10_columns_16 ?_
    refine wi_icmp_lt hX (tgt := 26) dX10_columns_17 (by decide) (by omega) (by omega) (fun c17 => ?_) (fun c17 => ?_)
    · skip
      refine wa_throwS2 hX (ik := 58) (is := 115) (ic := 62) "java/lang/IllegalArgumentException" "no such field or number of rows" ["java/lang/RuntimeException", "java/lang/Exception"] (thr_ok (by decide +kernel) wx_IAE) rfl (by exact Nat.le_of_ble_eq_true rfl) dX10_columns_26 dX10_columns_29 dX10_columns_30 dX10_columns_32 dX10_columns_35 ?_
      exact ⟨rfl, Or.inl ⟨by omega, rfl⟩⟩
    · skip
      refine wa_iload_n hX (i := 2) dX10_columns_20 rfl rfl ?_
      refine wi_bipush hX dX10_columns_21 (by decide) ?_
      refine wi_icmp_le hX (tgt := 36) dX10_columns_23 (by decide) (by omega) (by omega) (fun c23 => ?_) (fun c23 => ?_)
      · skip
        obtain ⟨f, rfl⟩ := Int.eq_ofNat_of_zero_le (show 0 ≤ x by omega)
        obtain ⟨y0, rfl⟩ := Int.eq_ofNat_of_zero_le (show 0 ≤ y by omega)
        have hf5 : f = 2 ∨ f = 3 ∨ f = 5 := by omega
        refine wa_aload_n hX (i := 0) dX10_columns_36 rfl rfl ?_
        refine wa_get hX 0 (by assumption) (by rfl) (by decide +kernel) dX10_columns_37 ?_
        refine wa_callV hX (c_X8_length hW d r1) (by assumption) (by rfl) (by rfl) (by omega) (nA := 0) (by rfl) (by decide +kernel) rfl (by exact Nat.le_of_ble_eq_true rfl) dX10_columns_40 (fun r40 h40 p40 => ?_) (fun _ _ q => q.elim)
        obtain ⟨rfl, qq40⟩ := p40; subst h40
        dsimp only [Option.toList, List.cons_append, List.nil_append]
        refine wa_istore_n hX (i := 3) dX10_columns_43 rfl rfl ?_
        dsimp only [List.set]
        refine wa_iload_n hX (i := 3) dX10_columns_44 rfl rfl ?_
        refine wa_iload_n hX (i := 2) dX10_columns_45 rfl rfl ?_
        refine wn_irem hX (a := c) (b := y0) dX10_columns_46 rfl rfl (by omega) (by omega) (by omega) ?_
        refine wi_if_ne hX (tgt := 69) dX10_columns_47 (by decide) (by have := Nat.mod_lt c (show 0 < y0 by omega); omega) (fun c47 => ?_) (fun c47 => ?_)
        · skip
          refine wa_throwS2 hX (ik := 103) (is := 117) (ic := 107) "java/lang/UnsupportedOperationException" "the row is no columns" ["java/lang/RuntimeException", "java/lang/Exception"] (thr_ok (by decide +kernel) wx_UOE) rfl (by exact Nat.le_of_ble_eq_true rfl) dX10_columns_69 dX10_columns_72 dX10_columns_73 dX10_columns_75 dX10_columns_78 ?_
          refine ⟨rfl, Or.inr ⟨f, y0, hf5, rfl, by omega, by omega, rfl, Or.inl ⟨fun z => ?_, rfl⟩⟩⟩
          have := (grt_iff (g := w) (b := (f : Int)) (by omega) c).mpr (fun j hj => by have := z.2.2 j hj; omega)
          have := z.1
          have := z.2.1
          omega
        · skip
          refine wa_iload_n hX (i := 3) dX10_columns_50 rfl rfl ?_
          refine wa_iload_n hX (i := 2) dX10_columns_51 rfl rfl ?_
          refine wi_bipush hX dX10_columns_52 (by decide) ?_
          refine wi_imul hX dX10_columns_54 ?_
          refine wi_icmp_gt hX (tgt := 69) dX10_columns_55 (by decide) (by omega) (by omega) (fun c55 => ?_) (fun c55 => ?_)
          · skip
            refine wa_throwS2 hX (ik := 103) (is := 117) (ic := 107) "java/lang/UnsupportedOperationException" "the row is no columns" ["java/lang/RuntimeException", "java/lang/Exception"] (thr_ok (by decide +kernel) wx_UOE) rfl (by exact Nat.le_of_ble_eq_true rfl) dX10_columns_69 dX10_columns_72 dX10_columns_73 dX10_columns_75 dX10_columns_78 ?_
            refine ⟨rfl, Or.inr ⟨f, y0, hf5, rfl, by omega, by omega, rfl, Or.inl ⟨fun z => ?_, rfl⟩⟩⟩
            have := (grt_iff (g := w) (b := (f : Int)) (by omega) c).mpr (fun j hj => by have := z.2.2 j hj; omega)
            have := z.1
            have := z.2.1
            omega
          · skip
            refine wa_aload_n hX (i := 0) dX10_columns_58 rfl rfl ?_
            refine wa_get hX 0 (by assumption) (by rfl) (by decide +kernel) dX10_columns_59 ?_
            refine wa_callV hX (c_X8_greatest hW d r1 r2 hc60 hw) (by assumption) (by rfl) (by rfl) (by omega) (nA := 0) (by rfl) (by decide +kernel) rfl (by exact Nat.le_of_ble_eq_true rfl) dX10_columns_62 (fun r62 h62 p62 => ?_) (fun _ _ q => q.elim)
            obtain ⟨rfl, qq62⟩ := p62; subst h62
            dsimp only [Option.toList, List.cons_append, List.nil_append]
            refine wa_iload_n hX (i := 1) dX10_columns_65 rfl rfl ?_
            refine wi_icmp_lt hX (tgt := 79) dX10_columns_66 (by decide) (by omega) (by omega) (fun c66 => ?_) (fun c66 => ?_)
            · skip
              have hco : (c % y0 = 0 ∧ c ≤ y0 * 10 ∧ ∀ j, j < c → w j < f) := ⟨by omega, by omega, fun j hj => by
                have := (grt_iff (g := w) (b := (f : Int)) (by omega) c).mp c66 j hj
                omega⟩
              refine wa_aload_n hX (i := 0) dX10_columns_79 rfl rfl ?_
              refine wa_callV hX (c_X10_needRoom hW d k1 hm24) (by assumption) (by rfl) (by rfl) (by omega) (nA := 0) (by rfl) (by decide +kernel) rfl (by exact Nat.le_of_ble_eq_true rfl) dX10_columns_80 (fun r80 h80 p80 => ?_) (fun E' h' q => ⟨q.2.1, Or.inr ⟨f, y0, hf5, rfl, by omega, by omega, rfl, Or.inr ⟨hco, q.2.2, q.1⟩⟩⟩)
              obtain ⟨rfl, rfl, hm9⟩ := p80
              dsimp only [Option.toList, List.cons_append, List.nil_append]
              refine wa_aload_n hX (i := 0) dX10_columns_83 rfl rfl ?_
              refine wa_aload_n hX (i := 0) dX10_columns_84 rfl rfl ?_
              refine wa_get hX 0 (by assumption) (by rfl) (by decide +kernel) dX10_columns_85 ?_
              refine wa_iload_n hX (i := 1) dX10_columns_88 rfl rfl ?_
              refine wa_iload_n hX (i := 2) dX10_columns_89 rfl rfl ?_
              refine wa_callS hX (c_X9_ofColumns hW d r1 r2 (by decide) (by decide) hc60 (by omega) (by omega) hco.1 (Nat.div_le_of_le_mul hco.2.1) (by omega) (by omega) hco.2.2) (by rfl) (by omega) (nA := 3) (by rfl) (by decide +kernel) rfl (by exact Nat.le_of_ble_eq_true rfl) dX10_columns_90 (fun r90 h90 p90 => ?_) (fun _ _ q => q.elim)
              obtain ⟨q, rfl, Hq, f9⟩ := p90
              have hI2 := hI.fr f9 (fun x hx => by omega)
              have k1' := f9 _ _ _ k1 (by omega)
              dsimp only [Option.toList, List.cons_append, List.nil_append]
              refine wa_callV hX (c_X10_keepTyped hW d hI2 Hq (hN f y0 hf5 (by omega) (by omega) hco) hm9) (by assumption) (by rfl) (by rfl) (by omega) (nA := 1) (by rfl) (by decide +kernel) rfl (by exact Nat.le_of_ble_eq_true rfl) dX10_columns_93 (fun r93 h93 p93 => ?_) (fun _ _ q => q.elim)
              obtain ⟨rfl, hI3, f3⟩ := p93
              dsimp only [Option.toList, List.cons_append, List.nil_append]
              refine wa_iret hX dX10_columns_96 ?_
              exact ⟨f, y0, ⟨hf5, rfl, by omega, by omega, rfl, hco⟩, hm9, rfl, hI3, (f9.mono (fun x hx => by omega)).trans f3⟩
            · skip
              refine wa_throwS2 hX (ik := 103) (is := 117) (ic := 107) "java/lang/UnsupportedOperationException" "the row is no columns" ["java/lang/RuntimeException", "java/lang/Exception"] (thr_ok (by decide +kernel) wx_UOE) rfl (by exact Nat.le_of_ble_eq_true rfl) dX10_columns_69 dX10_columns_72 dX10_columns_73 dX10_columns_75 dX10_columns_78 ?_
              refine ⟨rfl, Or.inr ⟨f, y0, hf5, rfl, by omega, by omega, rfl, Or.inl ⟨fun z => ?_, rfl⟩⟩⟩
              have := (grt_iff (g := w) (b := (f : Int)) (by omega) c).mpr (fun j hj => by have := z.2.2 j hj; omega)
              have := z.1
              have := z.2.1
              omega
      · skip
        refine wa_throwS2 hX (ik := 58) (is := 115) (ic := 62) "java/lang/IllegalArgumentException" "no such field or number of rows" ["java/lang/RuntimeException", "java/lang/Exception"] (thr_ok (by decide +kernel) wx_IAE) rfl (by exact Nat.le_of_ble_eq_true rfl) dX10_columns_26 dX10_columns_29 dX10_columns_30 dX10_columns_32 dX10_columns_35 ?_
        exact ⟨rfl, Or.inl ⟨by omega, rfl⟩⟩
  refine wa_iload_n hX (i := 1) dX10_columns_0 rfl rfl ?_
  refine wi_iconst hX dX10_columns_1 ?_
  refine wi_icmp_eq hX (tgt := 15) dX10_columns_2 (by decide) (by omega) (by omega) (fun c2 => ?_) (fun c2 => ?_)
  · skip
    exact t15 (by omega)
  · skip
    refine wa_iload_n hX (i := 1) dX10_columns_5 rfl rfl ?_
    refine wi_iconst hX dX10_columns_6 ?_
    refine wi_icmp_eq hX (tgt := 15) dX10_columns_7 (by decide) (by omega) (by omega) (fun c7 => ?_) (fun c7 => ?_)
    · skip
      exact t15 (by omega)
    · skip
      refine wa_iload_n hX (i := 1) dX10_columns_10 rfl rfl ?_
      refine wi_iconst hX dX10_columns_11 ?_
      refine wi_icmp_ne hX (tgt := 26) dX10_columns_12 (by decide) (by omega) (by omega) (fun c12 => ?_) (fun c12 => ?_)
      · skip
        refine wa_throwS2 hX (ik := 58) (is := 115) (ic := 62) "java/lang/IllegalArgumentException" "no such field or number of rows" ["java/lang/RuntimeException", "java/lang/Exception"] (thr_ok (by decide +kernel) wx_IAE) rfl (by exact Nat.le_of_ble_eq_true rfl) dX10_columns_26 dX10_columns_29 dX10_columns_30 dX10_columns_32 dX10_columns_35 ?_
        exact ⟨rfl, Or.inl ⟨by omega, rfl⟩⟩
      · skip
        exact t15 (by omega)
set_option maxHeartbeats 2000000 in
set_option maxRecDepth 100000 in
theorem c_X10_meeting (hW : WOK l D S0) (d : Nat) {h : AH} {a : Nat} {w : Nat → Nat} {c m : Nat} {E : Nat → Nat} {R : Nat → Nat → Nat} {br bf bs be : Int} {D2 D3 : Nat → Bool} {so : Nat} (hI : HI h a w c m E R br bf bs be D2 D3 so) {n : Int} (hn : inR n) (hN : ∀ e, e ≤ 10 → (c ≤ 10 ∧ ∀ j, j < c → w j < 2 ^ e) → Mtr e (rkT (fun s => b2n (plM w e c s)) e (2 ^ e))) : MA l D S0 yX10_meeting cX10_meeting 2 (some .int) (d + 6) [.ref a, I n] h 40 4200 (fun r h' => ∃ e : Nat, (e ≤ 10 ∧ n = (e : Int) ∧ (c ≤ 10 ∧ ∀ j, j < c → w j < 2 ^ e)) ∧ m < 24 ∧ r = some (I (m : Nat)) ∧ HI h' a w 0 (m + 1) (up E m (e)) (up R m (rkT (fun s => b2n (plM w e c s)) e (2 ^ e))) br bf bs be D2 D3 so ∧ Fr HF h h') (fun E' h' => h' = h ∧ ((¬ (0 ≤ n ∧ n ≤ 10) ∧ E' = eIAE) ∨ ∃ e : Nat, e ≤ 10 ∧ n = (e : Int) ∧ ((¬ (c ≤ 10 ∧ ∀ j, j < c → w j < 2 ^ e) ∧ E' = eUOE) ∨ ((c ≤ 10 ∧ ∀ j, j < c → w j < 2 ^ e) ∧ m = 24 ∧ E' = eISE)))) := by
  obtain ⟨⟨hc60, hw, hm24, hso, hbr, hD, hMt⟩, row, kept, tb, cb, pr, inn, mn, pf, ps, pa, x1, x2, x3, x4, P, k1, kR, k3, kT, kC, kP, kL, kM, kI, kMat⟩ := id hI
  have fr : Fr (fun _ => False) h h := Fr.rf
  refine MA.start hW (by decide) [.val (.ref a), .val (I n)] rfl ?_
  rintro X rfl rfl rfl hX
  obtain ⟨rq, r1, r2⟩ := kR
  have hgr := grt_lt hw c
  refine wa_iload_n hX (i := 1) dX10_meeting_0 rfl rfl ?_
  refine wa_callS hX (c_X10_needSize hW d hn) (by rfl) (by omega) (nA := 1) (by rfl) (by decide +kernel) rfl (by exact Nat.le_of_ble_eq_true rfl) dX10_meeting_1 (fun r1 h1 p1 => ?_) (fun E' h' q => ⟨q.2.1, Or.inl ⟨q.2.2, q.1⟩⟩)
  obtain ⟨rfl, rfl, hn0, hn1⟩ := p1
  obtain ⟨e, rfl⟩ := Int.eq_ofNat_of_zero_le hn0
  have hp := p2_le (show e ≤ 10 by omega)
  have hp0 := p2_pos e
  dsimp only [Option.toList, List.cons_append, List.nil_append]
  refine wa_aload_n hX (i := 0) dX10_meeting_4 rfl rfl ?_
  refine wa_get hX 0 (by assumption) (by rfl) (by decide +kernel) dX10_meeting_5 ?_
  refine wa_callV hX (c_X8_length hW d r1) (by assumption) (by rfl) (by rfl) (by omega) (nA := 0) (by rfl) (by decide +kernel) rfl (by exact Nat.le_of_ble_eq_true rfl) dX10_meeting_8 (fun r8 h8 p8 => ?_) (fun _ _ q => q.elim)
  obtain ⟨rfl, qq8⟩ := p8; subst h8
  dsimp only [Option.toList, List.cons_append, List.nil_append]
  refine wi_bipush hX dX10_meeting_11 (by decide) ?_
  refine wi_icmp_gt hX (tgt := 29) dX10_meeting_13 (by decide) (by omega) (by omega) (fun c13 => ?_) (fun c13 => ?_)
  · skip
    refine wa_throwS2 hX (ik := 103) (is := 126) (ic := 107) "java/lang/UnsupportedOperationException" "the row is no places" ["java/lang/RuntimeException", "java/lang/Exception"] (thr_ok (by decide +kernel) wx_UOE) rfl (by exact Nat.le_of_ble_eq_true rfl) dX10_meeting_29 dX10_meeting_32 dX10_meeting_33 dX10_meeting_35 dX10_meeting_38 ?_
    refine ⟨rfl, Or.inr ⟨e, by omega, rfl, Or.inl ⟨fun z => ?_, rfl⟩⟩⟩
    have := (grt_iff (g := w) (b := ((2 ^ e : Nat) : Int)) (by omega) c).mpr (fun j hj => by have := z.2 j hj; omega)
    omega
  · skip
    refine wa_aload_n hX (i := 0) dX10_meeting_16 rfl rfl ?_
    refine wa_get hX 0 (by assumption) (by rfl) (by decide +kernel) dX10_meeting_17 ?_
    refine wa_callV hX (c_X8_greatest hW d r1 r2 hc60 hw) (by assumption) (by rfl) (by rfl) (by omega) (nA := 0) (by rfl) (by decide +kernel) rfl (by exact Nat.le_of_ble_eq_true rfl) dX10_meeting_20 (fun r20 h20 p20 => ?_) (fun _ _ q => q.elim)
    obtain ⟨rfl, qq20⟩ := p20; subst h20
    dsimp only [Option.toList, List.cons_append, List.nil_append]
    refine wi_iconst hX dX10_meeting_23 ?_
    refine wa_iload_n hX (i := 1) dX10_meeting_24 rfl rfl ?_
    refine wn_shl1 hX dX10_meeting_25 (by rfl) (by omega) ?_
    refine wi_icmp_lt hX (tgt := 39) dX10_meeting_26 (by decide) (by omega) (by omega) (fun c26 => ?_) (fun c26 => ?_)
    · skip
      have hco : (c ≤ 10 ∧ ∀ j, j < c → w j < 2 ^ e) := ⟨by omega, fun j hj => by
        have := (grt_iff (g := w) (b := ((2 ^ e : Nat) : Int)) (by omega) c).mp c26 j hj
        omega⟩
      refine wa_aload_n hX (i := 0) dX10_meeting_39 rfl rfl ?_
      refine wa_callV hX (c_X10_needRoom hW d k1 hm24) (by assumption) (by rfl) (by rfl) (by omega) (nA := 0) (by rfl) (by decide +kernel) rfl (by exact Nat.le_of_ble_eq_true rfl) dX10_meeting_40 (fun r40 h40 p40 => ?_) (fun E' h' q => ⟨q.2.1, Or.inr ⟨e, by omega, rfl, Or.inr ⟨hco, q.2.2, q.1⟩⟩⟩)
      obtain ⟨rfl, rfl, hm9⟩ := p40
      dsimp only [Option.toList, List.cons_append, List.nil_append]
      refine wa_aload_n hX (i := 0) dX10_meeting_43 rfl rfl ?_
      refine wa_aload_n hX (i := 0) dX10_meeting_44 rfl rfl ?_
      refine wa_get hX 0 (by assumption) (by rfl) (by decide +kernel) dX10_meeting_45 ?_
      refine wa_iload_n hX (i := 1) dX10_meeting_48 rfl rfl ?_
      refine wa_callS hX (c_X9_ofPlaces hW d (e := e) r1 r2 hc60 (by omega)) (by rfl) (by omega) (nA := 2) (by rfl) (by decide +kernel) rfl (by exact Nat.le_of_ble_eq_true rfl) dX10_meeting_49 (fun r49 h49 p49 => ?_) (fun _ _ q => q.elim)
      obtain ⟨q, rfl, qn, rfl⟩ := p49
      refine WA.hnew qn (fun hh2 hN hK => ?_)
      replace fr := Fr.mk9 fr hK
      replace k1 := hK _ _ _ k1
      have Hq := hN
      clear hN hK
      dsimp only [Option.toList, List.cons_append, List.nil_append]
      have hI2 := hI.fr fr (fun x hx => hx.elim)
      refine wa_callV hX (c_X10_keepTyped hW d hI2 Hq (hN e (by omega) hco) hm9) (by assumption) (by rfl) (by rfl) (by omega) (nA := 1) (by rfl) (by decide +kernel) rfl (by exact Nat.le_of_ble_eq_true rfl) dX10_meeting_52 (fun r52 h52 p52 => ?_) (fun _ _ q => q.elim)
      obtain ⟨rfl, hI3, f3⟩ := p52
      dsimp only [Option.toList, List.cons_append, List.nil_append]
      refine wa_iret hX dX10_meeting_55 ?_
      exact ⟨e, ⟨by omega, rfl, hco⟩, hm9, rfl, hI3, (fr.mono (fun x hx => hx.elim)).trans f3⟩
    · skip
      refine wa_throwS2 hX (ik := 103) (is := 126) (ic := 107) "java/lang/UnsupportedOperationException" "the row is no places" ["java/lang/RuntimeException", "java/lang/Exception"] (thr_ok (by decide +kernel) wx_UOE) rfl (by exact Nat.le_of_ble_eq_true rfl) dX10_meeting_29 dX10_meeting_32 dX10_meeting_33 dX10_meeting_35 dX10_meeting_38 ?_
      refine ⟨rfl, Or.inr ⟨e, by omega, rfl, Or.inl ⟨fun z => ?_, rfl⟩⟩⟩
      have := (grt_iff (g := w) (b := ((2 ^ e : Nat) : Int)) (by omega) c).mpr (fun j hj => by have := z.2 j hj; omega)
      omega
end C70
