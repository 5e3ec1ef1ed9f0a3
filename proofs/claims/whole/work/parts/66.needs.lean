/-! The house (X10): what is asked before a call goes on -/
def sortOf (c : Int) : Option Nat := if c = 105 then some 1 else if c = 98 then some 2 else if c = 99 then some 4 else if c = 102 then some 8 else if c = 104 then some 16 else none
def loopB (rk : Nat → Nat) (e : Nat) : Bool := anyB (fun k => rk (2 ^ k) == 0) e
section C66
variable {l : Launch} {D : va_G} {S0 : State}
set_option maxRecDepth 100000 in
theorem c_X10_needRoom (hW : WOK l D S0) (d : Nat) {h : AH} {a la row kept tb cb pr inn mn m : Nat} {pf ps pa so : Int} (h1 : h a = some (la, oHou row kept (m : Int) tb cb pr inn mn pf ps pa so)) (hm : m ≤ 24) : MA l D S0 yX10_needRoom cX10_needRoom 1 none d [.ref a] h 1 6 (fun r h' => r = none ∧ h' = h ∧ m < 24) (fun E h' => E = eISE ∧ h' = h ∧ m = 24) := by
  refine MA.start hW (by decide) [.val (.ref a)] rfl ?_
  rintro X rfl rfl rfl hX
  refine wa_aload_n hX (i := 0) dX10_needRoom_0 rfl rfl ?_
  refine wa_get hX 2 (by assumption) (by rfl) (by decide +kernel) dX10_needRoom_1 ?_
  refine wi_bipush hX dX10_needRoom_4 (by decide) ?_
  refine wi_icmp_lt hX (tgt := 20) dX10_needRoom_6 (by decide) (by omega) (by omega) (fun c6 => ?_) (fun c6 => ?_)
  · skip
    refine wa_vret hX dX10_needRoom_20 ?_
    exact ⟨rfl, rfl, by omega⟩
  · skip
    refine wa_throwSW2 hX (ik := 69) (is := 406) (ic := 73) "java/lang/IllegalStateException" "there are 24 matroids" ["java/lang/RuntimeException", "java/lang/Exception"] (thr_ok (by decide +kernel) wx_ISE) rfl (by exact Nat.le_of_ble_eq_true rfl) dX10_needRoom_9 dX10_needRoom_12 dX10_needRoom_13 dX10_needRoom_16 dX10_needRoom_19 ?_
    exact ⟨rfl, rfl, by omega⟩
set_option maxRecDepth 100000 in
theorem c_X10_needSize (hW : WOK l D S0) (d : Nat) {h : AH} {n : Int} (hn : inR n) : MA l D S0 yX10_needSize cX10_needSize 1 none d [I n] h 1 6 (fun r h' => r = none ∧ h' = h ∧ 0 ≤ n ∧ n ≤ 10) (fun E h' => E = eIAE ∧ h' = h ∧ ¬ (0 ≤ n ∧ n ≤ 10)) := by
  refine MA.start hW (by decide) [.val (I n)] rfl ?_
  rintro X rfl rfl rfl hX
  refine wa_iload_n hX (i := 0) dX10_needSize_0 rfl rfl ?_
  refine wi_if_lt hX (tgt := 10) dX10_needSize_1 (by decide) (by omega) (fun c1 => ?_) (fun c1 => ?_)
  · skip
    refine wa_throwSW2 hX (ik := 58) (is := 408) (ic := 62) "java/lang/IllegalArgumentException" "a size is 0 to 10" ["java/lang/RuntimeException", "java/lang/Exception"] (thr_ok (by decide +kernel) wx_IAE) rfl (by exact Nat.le_of_ble_eq_true rfl) dX10_needSize_10 dX10_needSize_13 dX10_needSize_14 dX10_needSize_17 dX10_needSize_20 ?_
    exact ⟨rfl, rfl, by omega⟩
  · skip
    refine wa_iload_n hX (i := 0) dX10_needSize_4 rfl rfl ?_
    refine wi_bipush hX dX10_needSize_5 (by decide) ?_
    refine wi_icmp_le hX (tgt := 21) dX10_needSize_7 (by decide) (by omega) (by omega) (fun c7 => ?_) (fun c7 => ?_)
    · skip
      refine wa_vret hX dX10_needSize_21 ?_
      exact ⟨rfl, rfl, by omega, by omega⟩
    · skip
      refine wa_throwSW2 hX (ik := 58) (is := 408) (ic := 62) "java/lang/IllegalArgumentException" "a size is 0 to 10" ["java/lang/RuntimeException", "java/lang/Exception"] (thr_ok (by decide +kernel) wx_IAE) rfl (by exact Nat.le_of_ble_eq_true rfl) dX10_needSize_10 dX10_needSize_13 dX10_needSize_14 dX10_needSize_17 dX10_needSize_20 ?_
      exact ⟨rfl, rfl, by omega⟩
set_option maxRecDepth 100000 in
theorem c_X10_needPower (hW : WOK l D S0) (d : Nat) {h : AH} {n : Int} (hn : inR n) : MA l D S0 yX10_needPower cX10_needPower 1 none d [I n] h 1 6 (fun r h' => r = none ∧ h' = h ∧ 0 ≤ n ∧ n ≤ 10) (fun E h' => E = eIAE ∧ h' = h ∧ ¬ (0 ≤ n ∧ n ≤ 10)) := by
  refine MA.start hW (by decide) [.val (I n)] rfl ?_
  rintro X rfl rfl rfl hX
  refine wa_iload_n hX (i := 0) dX10_needPower_0 rfl rfl ?_
  refine wi_if_lt hX (tgt := 10) dX10_needPower_1 (by decide) (by omega) (fun c1 => ?_) (fun c1 => ?_)
  · skip
    refine wa_throwSW2 hX (ik := 58) (is := 423) (ic := 62) "java/lang/IllegalArgumentException" "a power is 0 to 10" ["java/lang/RuntimeException", "java/lang/Exception"] (thr_ok (by decide +kernel) wx_IAE) rfl (by exact Nat.le_of_ble_eq_true rfl) dX10_needPower_10 dX10_needPower_13 dX10_needPower_14 dX10_needPower_17 dX10_needPower_20 ?_
    exact ⟨rfl, rfl, by omega⟩
  · skip
    refine wa_iload_n hX (i := 0) dX10_needPower_4 rfl rfl ?_
    refine wi_bipush hX dX10_needPower_5 (by decide) ?_
    refine wi_icmp_le hX (tgt := 21) dX10_needPower_7 (by decide) (by omega) (by omega) (fun c7 => ?_) (fun c7 => ?_)
    · skip
      refine wa_vret hX dX10_needPower_21 ?_
      exact ⟨rfl, rfl, by omega, by omega⟩
    · skip
      refine wa_throwSW2 hX (ik := 58) (is := 423) (ic := 62) "java/lang/IllegalArgumentException" "a power is 0 to 10" ["java/lang/RuntimeException", "java/lang/Exception"] (thr_ok (by decide +kernel) wx_IAE) rfl (by exact Nat.le_of_ble_eq_true rfl) dX10_needPower_10 dX10_needPower_13 dX10_needPower_14 dX10_needPower_17 dX10_needPower_20 ?_
      exact ⟨rfl, rfl, by omega⟩
set_option maxRecDepth 100000 in
theorem c_X10_needElement (hW : WOK l D S0) (d : Nat) {h : AH} {p lp e full rq hq tq : Nat} {sym n : Int} {v2 v3 : Value} (h1 : h p = some (lp, oMat e full rq hq tq sym v2 v3)) (he : e ≤ 10) (hn : inR n) : MA l D S0 yX10_needElement cX10_needElement 2 none d [.ref p, I n] h 1 6 (fun r h' => r = none ∧ h' = h ∧ 0 ≤ n ∧ n < (e : Int)) (fun E h' => E = eIOO ∧ h' = h ∧ ¬ (0 ≤ n ∧ n < (e : Int))) := by
  refine MA.start hW (by decide) [.val (.ref p), .val (I n)] rfl ?_
  rintro X rfl rfl rfl hX
  refine wa_iload_n hX (i := 1) dX10_needElement_0 rfl rfl ?_
  refine wi_if_lt hX (tgt := 12) dX10_needElement_1 (by decide) (by omega) (fun c1 => ?_) (fun c1 => ?_)
  · skip
    refine wa_throwSW2 hX (ik := 401) (is := 410) (ic := 405) "java/lang/IndexOutOfBoundsException" "there is no such element" ["java/lang/RuntimeException", "java/lang/Exception"] (thr_ok (by decide +kernel) wx_IOO) rfl (by exact Nat.le_of_ble_eq_true rfl) dX10_needElement_12 dX10_needElement_15 dX10_needElement_16 dX10_needElement_19 dX10_needElement_22 ?_
    exact ⟨rfl, rfl, by omega⟩
  · skip
    refine wa_iload_n hX (i := 1) dX10_needElement_4 rfl rfl ?_
    refine wa_aload_n hX (i := 0) dX10_needElement_5 rfl rfl ?_
    refine wa_get hX 0 (by assumption) (by rfl) (by decide +kernel) dX10_needElement_6 ?_
    refine wi_icmp_lt hX (tgt := 23) dX10_needElement_9 (by decide) (by omega) (by omega) (fun c9 => ?_) (fun c9 => ?_)
    · skip
      refine wa_vret hX dX10_needElement_23 ?_
      exact ⟨rfl, rfl, by omega, by omega⟩
    · skip
      refine wa_throwSW2 hX (ik := 401) (is := 410) (ic := 405) "java/lang/IndexOutOfBoundsException" "there is no such element" ["java/lang/RuntimeException", "java/lang/Exception"] (thr_ok (by decide +kernel) wx_IOO) rfl (by exact Nat.le_of_ble_eq_true rfl) dX10_needElement_12 dX10_needElement_15 dX10_needElement_16 dX10_needElement_19 dX10_needElement_22 ?_
      exact ⟨rfl, rfl, by omega⟩
set_option maxRecDepth 100000 in
theorem c_X10_needSet (hW : WOK l D S0) (d : Nat) {h : AH} {p lp e full rq hq tq : Nat} {sym n : Int} {v2 v3 : Value} (h1 : h p = some (lp, oMat e full rq hq tq sym v2 v3)) (he : e ≤ 10) (hn : inR n) : MA l D S0 yX10_needSet cX10_needSet 2 none d [.ref p, I n] h 1 6 (fun r h' => r = none ∧ h' = h ∧ 0 ≤ n ∧ n < ((2 ^ e : Nat) : Int)) (fun E h' => E = eIAE ∧ h' = h ∧ ¬ (0 ≤ n ∧ n < ((2 ^ e : Nat) : Int))) := by
  have hp := p2_le he
  have hp0 := p2_pos e
  refine MA.start hW (by decide) [.val (.ref p), .val (I n)] rfl ?_
  rintro X rfl rfl rfl hX
  refine wa_iload_n hX (i := 1) dX10_needSet_0 rfl rfl ?_
  refine wi_if_lt hX (tgt := 12) dX10_needSet_1 (by decide) (by omega) (fun c1 => ?_) (fun c1 => ?_)
  · skip
    refine wa_throwSW2 hX (ik := 58) (is := 415) (ic := 62) "java/lang/IllegalArgumentException" "the set has other elements" ["java/lang/RuntimeException", "java/lang/Exception"] (thr_ok (by decide +kernel) wx_IAE) rfl (by exact Nat.le_of_ble_eq_true rfl) dX10_needSet_12 dX10_needSet_15 dX10_needSet_16 dX10_needSet_19 dX10_needSet_22 ?_
    exact ⟨rfl, rfl, by omega⟩
  · skip
    refine wa_iload_n hX (i := 1) dX10_needSet_4 rfl rfl ?_
    refine wa_aload_n hX (i := 0) dX10_needSet_5 rfl rfl ?_
    refine wa_get hX 1 (by assumption) (by rfl) (by decide +kernel) dX10_needSet_6 ?_
    refine wi_icmp_le hX (tgt := 23) dX10_needSet_9 (by decide) (by omega) (by omega) (fun c9 => ?_) (fun c9 => ?_)
    · skip
      refine wa_vret hX dX10_needSet_23 ?_
      exact ⟨rfl, rfl, by omega, by omega⟩
    · skip
      refine wa_throwSW2 hX (ik := 58) (is := 415) (ic := 62) "java/lang/IllegalArgumentException" "the set has other elements" ["java/lang/RuntimeException", "java/lang/Exception"] (thr_ok (by decide +kernel) wx_IAE) rfl (by exact Nat.le_of_ble_eq_true rfl) dX10_needSet_12 dX10_needSet_15 dX10_needSet_16 dX10_needSet_19 dX10_needSet_22 ?_
      exact ⟨rfl, rfl, by omega⟩
set_option maxRecDepth 100000 in
theorem c_X10_needSameSize (hW : WOK l D S0) (d : Nat) {h : AH} {p lp e full rq hq tq p' lp' e' full' rq' hq' tq' : Nat} {sym sym' : Int} {v2 v3 v2' v3' : Value} (h1 : h p = some (lp, oMat e full rq hq tq sym v2 v3)) (h2 : h p' = some (lp', oMat e' full' rq' hq' tq' sym' v2' v3')) (he : e ≤ 10) (he' : e' ≤ 10) : MA l D S0 yX10_needSameSize cX10_needSameSize 2 none d [.ref p, .ref p'] h 1 6 (fun r h' => r = none ∧ h' = h ∧ e = e') (fun E h' => E = eUOE ∧ h' = h ∧ e ≠ e') := by
  refine MA.start hW (by decide) [.val (.ref p), .val (.ref p')] rfl ?_
  rintro X rfl rfl rfl hX
  refine wa_aload_n hX (i := 0) dX10_needSameSize_0 rfl rfl ?_
  refine wa_get hX 0 (by assumption) (by rfl) (by decide +kernel) dX10_needSameSize_1 ?_
  refine wa_aload_n hX (i := 1) dX10_needSameSize_4 rfl rfl ?_
  refine wa_get hX 0 (by assumption) (by rfl) (by decide +kernel) dX10_needSameSize_5 ?_
  refine wi_icmp_eq hX (tgt := 22) dX10_needSameSize_8 (by decide) (by omega) (by omega) (fun c8 => ?_) (fun c8 => ?_)
  · skip
    refine wa_vret hX dX10_needSameSize_22 ?_
    exact ⟨rfl, rfl, by omega⟩
  · skip
    refine wa_throwSW2 hX (ik := 103) (is := 417) (ic := 107) "java/lang/UnsupportedOperationException" "they have not as many elements" ["java/lang/RuntimeException", "java/lang/Exception"] (thr_ok (by decide +kernel) wx_UOE) rfl (by exact Nat.le_of_ble_eq_true rfl) dX10_needSameSize_11 dX10_needSameSize_14 dX10_needSameSize_15 dX10_needSameSize_18 dX10_needSameSize_21 ?_
    exact ⟨rfl, rfl, by omega⟩
set_option maxRecDepth 100000 in
theorem c_X10_needRank (hW : WOK l D S0) (d : Nat) {h : AH} {p lp e full rq hq tq : Nat} {sym : Int} {v2 v3 : Value} (h1 : h p = some (lp, oMat e full rq hq tq sym v2 v3)) (hf : full ≤ 10) : MA l D S0 yX10_needRank cX10_needRank 1 none d [.ref p] h 1 6 (fun r h' => r = none ∧ h' = h ∧ full ≠ 0) (fun E h' => E = eUOE ∧ h' = h ∧ full = 0) := by
  refine MA.start hW (by decide) [.val (.ref p)] rfl ?_
  rintro X rfl rfl rfl hX
  refine wa_aload_n hX (i := 0) dX10_needRank_0 rfl rfl ?_
  refine wa_get hX 2 (by assumption) (by rfl) (by decide +kernel) dX10_needRank_1 ?_
  refine wi_if_ne hX (tgt := 18) dX10_needRank_4 (by decide) (by omega) (fun c4 => ?_) (fun c4 => ?_)
  · skip
    refine wa_vret hX dX10_needRank_18 ?_
    exact ⟨rfl, rfl, by omega⟩
  · skip
    refine wa_throwSW2 hX (ik := 103) (is := 419) (ic := 107) "java/lang/UnsupportedOperationException" "the rank is 0" ["java/lang/RuntimeException", "java/lang/Exception"] (thr_ok (by decide +kernel) wx_UOE) rfl (by exact Nat.le_of_ble_eq_true rfl) dX10_needRank_7 dX10_needRank_10 dX10_needRank_11 dX10_needRank_14 dX10_needRank_17 ?_
    exact ⟨rfl, rfl, by omega⟩
set_option maxRecDepth 100000 in
theorem c_X10_needNoLoop (hW : WOK l D S0) (d : Nat) {h : AH} {p lp e full rq hq tq lr : Nat} {sym : Int} {v2 v3 : Value} {rk : Nat → Nat} (h1 : h p = some (lp, oMat e full rq hq tq sym v2 v3)) (h2 : h rq = some (lr, aB e rk)) (he : e ≤ 10) (hrk : ∀ s, s < 2 ^ e → rk s ≤ 10) : MA l D S0 yX10_needNoLoop cX10_needNoLoop 2 none (d + 2) [.ref p] h 1 6 (fun r h' => r = none ∧ h' = h ∧ loopB rk e = false) (fun E h' => E = eUOE ∧ h' = h ∧ loopB rk e = true) := by
  refine MA.start hW (by decide) [.val (.ref p), .unset] rfl ?_
  rintro X rfl rfl rfl hX
  refine wi_iconst hX dX10_needNoLoop_0 ?_
  refine wa_istore_n hX (i := 1) dX10_needNoLoop_1 rfl rfl ?_
  dsimp only [List.set]
  refine WA.loop (σ := Nat) (fun z => e - z) (fun z => z ≤ e ∧ ∀ j, j < z → rk (2 ^ j) ≠ 0) (fun _ => h) (fun z => [.val (.ref p), .val (I (z : Nat))]) ?_ 0 ⟨Nat.zero_le _, fun j hj => absurd hj (Nat.not_lt_zero j)⟩
  intro i hi ih
  obtain ⟨hi, hbf⟩ := hi
  refine wa_iload_n hX (i := 1) dX10_needNoLoop_2 rfl rfl ?_
  refine wa_aload_n hX (i := 0) dX10_needNoLoop_3 rfl rfl ?_
  refine wa_get hX 0 (by assumption) (by rfl) (by decide +kernel) dX10_needNoLoop_4 ?_
  refine wi_icmp_ge hX (tgt := 37) dX10_needNoLoop_7 (by decide) (by omega) (by omega) (fun c7 => ?_) (fun c7 => ?_)
  · skip
    refine wa_vret hX dX10_needNoLoop_37 ?_
    refine ⟨rfl, rfl, ?_⟩
    unfold loopB
    rw [← Bool.not_eq_true, anyB_iff]
    rintro ⟨j, hj, hq⟩
    exact hbf j (by omega) (beq_iff_eq.mp hq)
  · skip
    refine wa_aload_n hX (i := 0) dX10_needNoLoop_10 rfl rfl ?_
    refine wi_iconst hX dX10_needNoLoop_11 ?_
    refine wa_iload_n hX (i := 1) dX10_needNoLoop_12 rfl rfl ?_
    have hb := bit_lt (el := i) (e := e) (by omega)
    have hbr := hrk _ hb
    refine wn_shl1 hX dX10_needNoLoop_13 (by rfl) (by omega) ?_
    refine wa_callV hX (c_X6_rank hW d h1 h2 he (s := 2 ^ i) hb) (by assumption) (by rfl) (by rfl) (by omega) (nA := 1) (by rfl) (by decide +kernel) rfl (by exact Nat.le_of_ble_eq_true rfl) dX10_needNoLoop_14 (fun r14 h14 p14 => ?_) (fun _ _ q => q.elim)
    obtain ⟨rfl, qq14⟩ := p14; subst h14
    dsimp only [Option.toList, List.cons_append, List.nil_append]
    refine wi_if_ne hX (tgt := 31) dX10_needNoLoop_17 (by decide) (by omega) (fun c17 => ?_) (fun c17 => ?_)
    · skip
      refine wi_iinc hX dX10_needNoLoop_31 rfl ?_
      dsimp only [List.set]
      refine wa_goto hX (tgt := 2) dX10_needNoLoop_34 (by decide) ?_
      exact ih (i + 1) ⟨by omega, fun j hj => by
        by_cases q : j = i
        · subst q; omega
        · exact hbf j (by omega)⟩ (by omega)
    · skip
      refine wa_throwSW2 hX (ik := 103) (is := 421) (ic := 107) "java/lang/UnsupportedOperationException" "there is a loop" ["java/lang/RuntimeException", "java/lang/Exception"] (thr_ok (by decide +kernel) wx_UOE) rfl (by exact Nat.le_of_ble_eq_true rfl) dX10_needNoLoop_20 dX10_needNoLoop_23 dX10_needNoLoop_24 dX10_needNoLoop_27 dX10_needNoLoop_30 ?_
      refine ⟨rfl, rfl, ?_⟩
      unfold loopB
      rw [anyB_iff]
      exact ⟨i, by omega, beq_iff_eq.mpr (by omega)⟩
set_option maxRecDepth 100000 in
theorem c_X10_sortNamed (hW : WOK l D S0) (d : Nat) {h : AH} {c : Int} (hc : inR c) : MA l D S0 yX10_sortNamed cX10_sortNamed 1 (some .int) d [I c] h 1 6 (fun r h' => h' = h ∧ ∃ so, sortOf c = some so ∧ r = some (I (so : Nat))) (fun E h' => E = eIAE ∧ h' = h ∧ sortOf c = none) := by
  refine MA.start hW (by decide) [.val (I c)] rfl ?_
  rintro X rfl rfl rfl hX
  have no : sortOf c = none → WA X h 1 6 60 [.val (I c)] [] := by
    intro q
    refine wa_throwSW2 hX (ik := 58) (is := 425) (ic := 62) "java/lang/IllegalArgumentException" "there is no such sort" ["java/lang/RuntimeException", "java/lang/Exception"] (thr_ok (by decide +kernel) wx_IAE) rfl (by exact Nat.le_of_ble_eq_true rfl) dX10_sortNamed_60 dX10_sortNamed_63 dX10_sortNamed_64 dX10_sortNamed_67 dX10_sortNamed_70 ?_
    exact ⟨rfl, rfl, q⟩
  refine wa_iload_n hX (i := 0) dX10_sortNamed_0 rfl rfl ?_
  by_cases q1 : c = 98
  · subst q1
    refine wa_tableIn hX (off := 49) (tgt := 50) dX10_sortNamed_1 hc (by omega) (by omega) (by rfl) (by decide) ?_
    refine wi_iconst hX dX10_sortNamed_50 ?_
    refine wa_iret hX dX10_sortNamed_51 ?_
    exact ⟨rfl, 2, rfl, rfl⟩
  by_cases q2 : c = 99
  · subst q2
    refine wa_tableIn hX (off := 51) (tgt := 52) dX10_sortNamed_1 hc (by omega) (by omega) (by rfl) (by decide) ?_
    refine wi_iconst hX dX10_sortNamed_52 ?_
    refine wa_iret hX dX10_sortNamed_53 ?_
    exact ⟨rfl, 4, rfl, rfl⟩
  by_cases q3 : c = 102
  · subst q3
    refine wa_tableIn hX (off := 53) (tgt := 54) dX10_sortNamed_1 hc (by omega) (by omega) (by rfl) (by decide) ?_
    refine wi_bipush hX dX10_sortNamed_54 (by decide) ?_
    refine wa_iret hX dX10_sortNamed_56 ?_
    exact ⟨rfl, 8, rfl, rfl⟩
  by_cases q4 : c = 104
  · subst q4
    refine wa_tableIn hX (off := 56) (tgt := 57) dX10_sortNamed_1 hc (by omega) (by omega) (by rfl) (by decide) ?_
    refine wi_bipush hX dX10_sortNamed_57 (by decide) ?_
    refine wa_iret hX dX10_sortNamed_59 ?_
    exact ⟨rfl, 16, rfl, rfl⟩
  by_cases q5 : c = 105
  · subst q5
    refine wa_tableIn hX (off := 47) (tgt := 48) dX10_sortNamed_1 hc (by omega) (by omega) (by rfl) (by decide) ?_
    refine wi_iconst hX dX10_sortNamed_48 ?_
    refine wa_iret hX dX10_sortNamed_49 ?_
    exact ⟨rfl, 1, rfl, rfl⟩
  have hn : sortOf c = none := by
    unfold sortOf
    rw [if_neg q5, if_neg q1, if_neg q2, if_neg q3, if_neg q4]
  by_cases q6 : c < 98 ∨ 105 < c
  · exact wa_tableOut hX (tgt := 60) dX10_sortNamed_1 hc q6 (by decide) (no hn)
  by_cases q7 : c = 100
  · subst q7
    exact wa_tableIn hX (off := 59) (tgt := 60) dX10_sortNamed_1 hc (by omega) (by omega) (by rfl) (by decide) (no hn)
  by_cases q8 : c = 101
  · subst q8
    exact wa_tableIn hX (off := 59) (tgt := 60) dX10_sortNamed_1 hc (by omega) (by omega) (by rfl) (by decide) (no hn)
  have q9 : c = 103 := by omega
  subst q9
  exact wa_tableIn hX (off := 59) (tgt := 60) dX10_sortNamed_1 hc (by omega) (by omega) (by rfl) (by decide) (no hn)
set_option maxRecDepth 100000 in
theorem c_X10_find (hW : WOK l D S0) (d : Nat) {h : AH} {a la lk row kept tb cb pr inn mn m : Nat} {pf ps pa so n : Int} {P : Nat → Nat} (h1 : h a = some (la, oHou row kept (m : Int) tb cb pr inn mn pf ps pa so)) (h2 : h kept = some (lk, aR (.object "Circuitfold$Matroid") 24 (fun j => if j < m then some (P j) else none))) (hm : m ≤ 24) (hn : inR n) : MA l D S0 yX10_find cX10_find 2 (some (.object "Circuitfold$Matroid")) d [.ref a, I n] h 1 6 (fun r h' => h' = h ∧ ∃ i, i < m ∧ n = (i : Int) ∧ r = some (.ref (P i))) (fun E h' => E = eIOO ∧ h' = h ∧ ¬ (0 ≤ n ∧ n < (m : Int))) := by
  refine MA.start hW (by decide) [.val (.ref a), .val (I n)] rfl ?_
  rintro X rfl rfl rfl hX
  refine wa_iload_n hX (i := 1) dX10_find_0 rfl rfl ?_
  refine wi_if_lt hX (tgt := 19) dX10_find_1 (by decide) (by omega) (fun c1 => ?_) (fun c1 => ?_)
  · skip
    refine wa_throwSW2 hX (ik := 401) (is := 403) (ic := 405) "java/lang/IndexOutOfBoundsException" "there is no such matroid" ["java/lang/RuntimeException", "java/lang/Exception"] (thr_ok (by decide +kernel) wx_IOO) rfl (by exact Nat.le_of_ble_eq_true rfl) dX10_find_19 dX10_find_22 dX10_find_23 dX10_find_26 dX10_find_29 ?_
    exact ⟨rfl, rfl, by omega⟩
  · skip
    refine wa_iload_n hX (i := 1) dX10_find_4 rfl rfl ?_
    refine wi_bipush hX dX10_find_5 (by decide) ?_
    refine wi_icmp_ge hX (tgt := 19) dX10_find_7 (by decide) (by omega) (by omega) (fun c7 => ?_) (fun c7 => ?_)
    · skip
      refine wa_throwSW2 hX (ik := 401) (is := 403) (ic := 405) "java/lang/IndexOutOfBoundsException" "there is no such matroid" ["java/lang/RuntimeException", "java/lang/Exception"] (thr_ok (by decide +kernel) wx_IOO) rfl (by exact Nat.le_of_ble_eq_true rfl) dX10_find_19 dX10_find_22 dX10_find_23 dX10_find_26 dX10_find_29 ?_
      exact ⟨rfl, rfl, by omega⟩
    · skip
      refine wa_aload_n hX (i := 0) dX10_find_10 rfl rfl ?_
      refine wa_get hX 1 (by assumption) (by rfl) (by decide +kernel) dX10_find_11 ?_
      refine wa_iload_n hX (i := 1) dX10_find_14 rfl rfl ?_
      refine wi_aaload hX (by assumption) (by omega) (by omega) (by omega) dX10_find_15 ?_
      by_cases hlt : n.toNat < m
      · refine WA.eq rfl rfl (by rw [if_pos hlt]; rfl) (wa_ifnonnull hX (x := P n.toNat) (tgt := 30) dX10_find_16 (by decide) ?_)
        refine wa_aload_n hX (i := 0) dX10_find_30 rfl rfl ?_
        refine wa_get hX 1 (by assumption) (by rfl) (by decide +kernel) dX10_find_31 ?_
        refine wa_iload_n hX (i := 1) dX10_find_34 rfl rfl ?_
        refine wi_aaload hX (by assumption) (by omega) (by omega) (by omega) dX10_find_35 ?_
        refine WA.eq (pc2 := 36) (st2 := [.ref (P n.toNat)]) rfl rfl (by rw [if_pos hlt]; rfl) ?_
        refine wa_aretR hX dX10_find_36 (by first | exact Or.inl ⟨_, rfl⟩ | exact Or.inr ⟨_, rfl⟩) ?_
        exact ⟨rfl, n.toNat, hlt, by omega, rfl⟩
      · refine WA.eq rfl rfl (by rw [if_neg hlt]; rfl) (wa_ifnonnullN hX dX10_find_16 ?_)
        refine wa_throwSW2 hX (ik := 401) (is := 403) (ic := 405) "java/lang/IndexOutOfBoundsException" "there is no such matroid" ["java/lang/RuntimeException", "java/lang/Exception"] (thr_ok (by decide +kernel) wx_IOO) rfl (by exact Nat.le_of_ble_eq_true rfl) dX10_find_19 dX10_find_22 dX10_find_23 dX10_find_26 dX10_find_29 ?_
        exact ⟨rfl, rfl, by omega⟩
end C66
