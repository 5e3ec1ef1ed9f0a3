/-! The house (X10): type, erase, broken, keep -/
/-- labels of the house and of what it makes -/
abbrev HF (x : Nat) : Prop := 3 ≤ x ∧ x < 100
theorem up_lt {w : Nat → Nat} {c t : Nat} (h : ∀ j, w j < 1024) (ht : t < 1024) : ∀ j, up w c t j < 1024 := fun j => by
  rw [up_is]
  split
  · exact ht
  · exact h j
theorem PairI.add {h : AH} {x m e : Nat} {pf ps pa : Int} {E : Nat → Nat} {R : Nat → Nat → Nat} {rk : Nat → Nat} (q : PairI h x pf ps pa m E R) : PairI h x pf ps pa (m + 1) (up E m e) (up R m rk) := by
  rcases q with q | ⟨i, j, v, r, e0, n, F, C, W, Im, P, Q, q1, q2, q3, q4, q5, q6, q7⟩
  · exact Or.inl q
  · refine Or.inr ⟨i, j, v, r, e0, n, F, C, W, Im, P, Q, by omega, by omega, q3, q4, q5, q6, ?_⟩
    rw [up_n (by omega), up_n (by omega), up_n (by omega), up_n (by omega)]
    exact q7
theorem MinI.add {h : AH} {x inn m p e : Nat} {P E : Nat → Nat} {R : Nat → Nat → Nat} {rk : Nat → Nat} (q : MinI h x inn m P E R) (hp : ∀ i, i < m → P i ≠ p) : MinI h x inn (m + 1) (up P m p) (up E m e) (up R m rk) := by
  obtain ⟨dq, li, lw, lp, fo, co, de, DD, q1, q2, q3, q4, q5, q6⟩ := q
  refine ⟨dq, li, lw, lp, fo, co, de, DD, q1, q2, q3, fun y hy => ?_, fun y hy => ?_, fun i j hi hj hw hl => ?_⟩
  · obtain ⟨i, hi, e1⟩ := q4 y hy
    exact ⟨i, by omega, by rw [up_n (by omega)]; exact e1⟩
  · obtain ⟨i, hi, e1⟩ := q5 y hy
    exact ⟨i, by omega, by rw [up_n (by omega)]; exact e1⟩
  · have hi2 : i ≠ m := fun z => by
      subst z
      rw [up_s] at hw
      obtain ⟨i', hi', e1⟩ := q4 _ hw
      exact hp i' hi' e1.symm
    have hj2 : j ≠ m := fun z => by
      subst z
      rw [up_s] at hl
      obtain ⟨i', hi', e1⟩ := q5 _ hl
      exact hp i' hi' e1.symm
    rw [up_n hi2] at hw
    rw [up_n hj2] at hl
    rw [up_n hi2, up_n hi2, up_n hj2, up_n hj2]
    exact q6 i j (by omega) (by omega) hw hl
theorem kept_add {m p : Nat} {P : Nat → Nat} : up (fun j => if j < m then some (P j) else none) m (some p) = fun j => if j < m + 1 then some (up P m p j) else none := by
  funext j
  rw [up_is, up_is]
  by_cases h1 : j = m
  · subst h1; rw [if_pos rfl, if_pos rfl, if_pos (by omega)]
  · rw [if_neg h1, if_neg h1]
    by_cases h2 : j < m
    · rw [if_pos h2, if_pos (by omega)]
    · rw [if_neg h2, if_neg (by omega)]
section C68
variable {l : Launch} {D : va_G} {S0 : State}
set_option maxHeartbeats 1000000 in
set_option maxRecDepth 100000 in
theorem c_X10_type (hW : WOK l D S0) (d : Nat) {h : AH} {a : Nat} {w : Nat → Nat} {c m : Nat} {E : Nat → Nat} {R : Nat → Nat → Nat} {br bf bs be : Int} {D2 D3 : Nat → Bool} {so : Nat} (hI : HI h a w c m E R br bf bs be D2 D3 so) {n : Int} (hn : inR n) : MA l D S0 yX10_type cX10_type 2 (some .int) (d + 1) [.ref a, I n] h 4 24 (fun r h' => ∃ t : Nat, t ≤ 1023 ∧ n = (t : Int) ∧ c < 60 ∧ r = some (I (c + 1 : Nat)) ∧ HI h' a (up w c t) (c + 1) m E R br bf bs be D2 D3 so ∧ Fr HF h h') (fun E' h' => h' = h ∧ ((¬ (0 ≤ n ∧ n ≤ 1023) ∧ E' = eIAE) ∨ (0 ≤ n ∧ n ≤ 1023 ∧ c = 60 ∧ E' = eISE))) := by
  obtain ⟨⟨hc60, hw, hm24, hso, hbr, hD, hMt⟩, row, kept, tb, cb, pr, inn, mn, pf, ps, pa, x1, x2, x3, x4, P, k1, kR, k3, kT, kC, kP, kL, kM, kI, kMat⟩ := hI
  obtain ⟨rq, r1, r2⟩ := kR
  refine MA.start hW (by decide) [.val (.ref a), .val (I n)] rfl ?_
  rintro X rfl rfl rfl hX
  refine wa_iload_n hX (i := 1) dX10_type_0 rfl rfl ?_
  refine wi_if_lt hX (tgt := 11) dX10_type_1 (by decide) (by omega) (fun c1 => ?_) (fun c1 => ?_)
  · skip
    refine wa_throwS2 hX (ik := 58) (is := 60) (ic := 62) "java/lang/IllegalArgumentException" "a typed number is 0 to 1023" ["java/lang/RuntimeException", "java/lang/Exception"] (thr_ok (by decide +kernel) wx_IAE) rfl (by exact Nat.le_of_ble_eq_true rfl) dX10_type_11 dX10_type_14 dX10_type_15 dX10_type_17 dX10_type_20 ?_
    exact ⟨rfl, Or.inl ⟨by omega, rfl⟩⟩
  · skip
    refine wa_iload_n hX (i := 1) dX10_type_4 rfl rfl ?_
    refine wi_sipush hX dX10_type_5 (by decide) ?_
    refine wi_icmp_le hX (tgt := 21) dX10_type_8 (by decide) (by omega) (by omega) (fun c8 => ?_) (fun c8 => ?_)
    · skip
      refine wa_aload_n hX (i := 0) dX10_type_21 rfl rfl ?_
      refine wa_get hX 0 (by assumption) (by rfl) (by decide +kernel) dX10_type_22 ?_
      refine wa_callV hX (c_X8_isFull hW d r1 r2 (by omega)) (by assumption) (by rfl) (by rfl) (by omega) (nA := 0) (by rfl) (by decide +kernel) rfl (by exact Nat.le_of_ble_eq_true rfl) dX10_type_25 (fun r25 h25 p25 => ?_) (fun _ _ q => q.elim)
      obtain ⟨rfl, qq25⟩ := p25; subst h25
      dsimp only [Option.toList, List.cons_append, List.nil_append]
      refine wi_if_eq hX (tgt := 41) dX10_type_28 (by decide) (by split <;> omega) (fun c28 => ?_) (fun c28 => ?_)
      · skip
        have hc9 : c < 60 := by
          apply Classical.byContradiction
          intro q
          rw [if_pos (by omega)] at c28
          omega
        obtain ⟨t, rfl⟩ := Int.eq_ofNat_of_zero_le (show 0 ≤ n by omega)
        refine wa_aload_n hX (i := 0) dX10_type_41 rfl rfl ?_
        refine wa_get hX 0 (by assumption) (by rfl) (by decide +kernel) dX10_type_42 ?_
        refine wa_iload_n hX (i := 1) dX10_type_45 rfl rfl ?_
        refine wa_callV hX (c_X8_put hW d r1 r2 (by decide) hc9) (by assumption) (by rfl) (by rfl) (by omega) (nA := 1) (by rfl) (by decide +kernel) rfl (by exact Nat.le_of_ble_eq_true rfl) dX10_type_46 (fun r46 h46 p46 => ?_) (fun _ _ q => q.elim)
        obtain ⟨rfl, hh⟩ := p46
        rw [up_castN] at hh
        have e1 : h46 row = some (11, oRow rq ((c + 1 : Nat) : Int)) := by rw [hh]; exact hset_eq
        have e2 : h46 rq = some (12, aI .int 60 (fun j => ((up w c t j : Nat) : Int))) := by rw [hh]; exact (hset_lab (hset_lab r2 r1 (by decide)) hset_eq (by decide))
        have f : Fr (fun x => x = 11 ∨ x = 12) h h46 := by
          rw [hh]
          exact Fr.hset (Fr.hset Fr.rf r2 (Or.inr rfl)) (hset_lab r2 r1 (by decide)) (Or.inl rfl)
        have k1' := f _ _ _ k1 (by omega)
        dsimp only [Option.toList, List.cons_append, List.nil_append]
        refine wa_aload_n hX (i := 0) dX10_type_49 rfl rfl ?_
        refine wa_get hX 0 (by assumption) (by rfl) (by decide +kernel) dX10_type_50 ?_
        refine wa_callV hX (c_X8_length hW d e1) (by assumption) (by rfl) (by rfl) (by omega) (nA := 0) (by rfl) (by decide +kernel) rfl (by exact Nat.le_of_ble_eq_true rfl) dX10_type_53 (fun r53 h53 p53 => ?_) (fun _ _ q => q.elim)
        obtain ⟨rfl, qq53⟩ := p53; subst h53
        dsimp only [Option.toList, List.cons_append, List.nil_append]
        refine wa_iret hX dX10_type_56 ?_
        refine ⟨t, by omega, rfl, hc9, rfl, ⟨⟨by omega, up_lt hw (by omega), hm24, hso, hbr, hD, hMt⟩, row, kept, tb, cb, pr, inn, mn, pf, ps, pa, x1, x2, x3, x4, P, k1', ⟨rq, e1, e2⟩, f _ _ _ k3 (by omega), kT.fr f (fun y hy => by omega), kC.fr f (fun y hy => by omega), kP.fr f (fun y hy => by omega), kL.fr f (fun y hy => by omega), kM.fr f (by omega) (by omega), kI, fun j hj => (kMat j hj).fr f (by omega) (by omega) (by omega)⟩, f.mono (fun x hx => by omega)⟩
      · skip
        refine wa_throwS2 hX (ik := 69) (is := 71) (ic := 73) "java/lang/IllegalStateException" "the row has 60 numbers" ["java/lang/RuntimeException", "java/lang/Exception"] (thr_ok (by decide +kernel) wx_ISE) rfl (by exact Nat.le_of_ble_eq_true rfl) dX10_type_31 dX10_type_34 dX10_type_35 dX10_type_37 dX10_type_40 ?_
        refine ⟨rfl, Or.inr ⟨by omega, by omega, ?_, rfl⟩⟩
        apply Classical.byContradiction
        intro q
        rw [if_neg (by omega)] at c28
        omega
    · skip
      refine wa_throwS2 hX (ik := 58) (is := 60) (ic := 62) "java/lang/IllegalArgumentException" "a typed number is 0 to 1023" ["java/lang/RuntimeException", "java/lang/Exception"] (thr_ok (by decide +kernel) wx_IAE) rfl (by exact Nat.le_of_ble_eq_true rfl) dX10_type_11 dX10_type_14 dX10_type_15 dX10_type_17 dX10_type_20 ?_
      exact ⟨rfl, Or.inl ⟨by omega, rfl⟩⟩
set_option maxHeartbeats 1000000 in
set_option maxRecDepth 100000 in
theorem c_X10_erase (hW : WOK l D S0) (d : Nat) {h : AH} {a : Nat} {w : Nat → Nat} {c m : Nat} {E : Nat → Nat} {R : Nat → Nat → Nat} {br bf bs be : Int} {D2 D3 : Nat → Bool} {so : Nat} (hI : HI h a w c m E R br bf bs be D2 D3 so) : MA l D S0 yX10_erase cX10_erase 2 (some .int) (d + 1) [.ref a] h 4 24 (fun r h' => r = some (I (c : Nat)) ∧ HI h' a w 0 m E R br bf bs be D2 D3 so ∧ Fr HF h h') (fun _ _ => False) := by
  obtain ⟨⟨hc60, hw, hm24, hso, hbr, hD, hMt⟩, row, kept, tb, cb, pr, inn, mn, pf, ps, pa, x1, x2, x3, x4, P, k1, kR, k3, kT, kC, kP, kL, kM, kI, kMat⟩ := hI
  obtain ⟨rq, r1, r2⟩ := kR
  refine MA.start hW (by decide) [.val (.ref a), .unset] rfl ?_
  rintro X rfl rfl rfl hX
  refine wa_aload_n hX (i := 0) dX10_erase_0 rfl rfl ?_
  refine wa_get hX 0 (by assumption) (by rfl) (by decide +kernel) dX10_erase_1 ?_
  refine wa_callV hX (c_X8_length hW d r1) (by assumption) (by rfl) (by rfl) (by omega) (nA := 0) (by rfl) (by decide +kernel) rfl (by exact Nat.le_of_ble_eq_true rfl) dX10_erase_4 (fun r4 h4 p4 => ?_) (fun _ _ q => q.elim)
  obtain ⟨rfl, qq4⟩ := p4; subst h4
  dsimp only [Option.toList, List.cons_append, List.nil_append]
  refine wa_istore_n hX (i := 1) dX10_erase_7 rfl rfl ?_
  dsimp only [List.set]
  refine wa_aload_n hX (i := 0) dX10_erase_8 rfl rfl ?_
  refine wa_get hX 0 (by assumption) (by rfl) (by decide +kernel) dX10_erase_9 ?_
  refine wa_callV hX (c_X8_empty hW d r1) (by assumption) (by rfl) (by rfl) (by omega) (nA := 0) (by rfl) (by decide +kernel) rfl (by exact Nat.le_of_ble_eq_true rfl) dX10_erase_12 (fun r12 h12 p12 => ?_) (fun _ _ q => q.elim)
  obtain ⟨rfl, hh⟩ := p12
  have e1 : h12 row = some (11, oRow rq ((0 : Nat) : Int)) := by rw [hh]; exact hset_eq
  have f : Fr (fun x => x = 11) h h12 := by
    rw [hh]
    exact Fr.hset Fr.rf r1 rfl
  dsimp only [Option.toList, List.cons_append, List.nil_append]
  refine wa_iload_n hX (i := 1) dX10_erase_15 rfl rfl ?_
  refine wa_iret hX dX10_erase_16 ?_
  exact ⟨rfl, ⟨⟨by omega, hw, hm24, hso, hbr, hD, hMt⟩, row, kept, tb, cb, pr, inn, mn, pf, ps, pa, x1, x2, x3, x4, P, f _ _ _ k1 (by omega), ⟨rq, e1, f _ _ _ r2 (by omega)⟩, f _ _ _ k3 (by omega), kT.fr f (fun y hy => by omega), kC.fr f (fun y hy => by omega), kP.fr f (fun y hy => by omega), kL.fr f (fun y hy => by omega), kM.fr f (by omega) (by omega), kI, fun j hj => (kMat j hj).fr f (by omega) (by omega) (by omega)⟩, f.mono (fun x hx => by omega)⟩
set_option maxHeartbeats 1000000 in
set_option maxRecDepth 100000 in
theorem c_X10_broken (hW : WOK l D S0) (d : Nat) {h : AH} {a : Nat} {w : Nat → Nat} {c m : Nat} {E : Nat → Nat} {R : Nat → Nat → Nat} {br bf bs be : Int} {D2 D3 : Nat → Bool} {so : Nat} (hI : HI h a w c m E R br bf bs be D2 D3 so) {ch : Int} (hn : inR ch) : MA l D S0 yX10_broken cX10_broken 2 (some .int) (d + 1) [.ref a, I ch] h 4 24 (fun r h' => h' = h ∧ (ch = 97 ∨ ch = 98 ∨ ch = 120) ∧ br = 1 ∧ r = some (I (if ch = 97 then bf else if ch = 98 then bs else be))) (fun E' h' => h' = h ∧ ((¬ (ch = 97 ∨ ch = 98 ∨ ch = 120) ∧ E' = eIAE) ∨ ((ch = 97 ∨ ch = 98 ∨ ch = 120) ∧ br = 0 ∧ E' = eNSE))) := by
  obtain ⟨⟨hc60, hw, hm24, hso, hbr, hD, hMt⟩, row, kept, tb, cb, pr, inn, mn, pf, ps, pa, x1, x2, x3, x4, P, k1, kR, k3, kT, kC, kP, kL, kM, kI, kMat⟩ := hI
  obtain ⟨mq, sq, wq, al, G, F, W, t1, t2, t3, t4⟩ := kT
  refine MA.start hW (by decide) [.val (.ref a), .val (I ch)] rfl ?_
  rintro X rfl rfl rfl hX
  have t28 : (ch = 97 ∨ ch = 98 ∨ ch = 120) → WA X h 4 24 28 [.val (.ref a), .val (I ch)] [] := by
    intro hch
    refine wa_aload_n hX (i := 0) dX10_broken_28 rfl rfl ?_
    refine wa_get hX 3 (by assumption) (by rfl) (by decide +kernel) dX10_broken_29 ?_
    refine wa_callV hX (c_X4_isBroken hW d t1 hbr) (by assumption) (by rfl) (by rfl) (by omega) (nA := 0) (by rfl) (by decide +kernel) rfl (by exact Nat.le_of_ble_eq_true rfl) dX10_broken_32 (fun r32 h32 p32 => ?_) (fun _ _ q => q.elim)
    obtain ⟨rfl, qq32⟩ := p32; subst h32
    dsimp only [Option.toList, List.cons_append, List.nil_append]
    refine wi_if_ne hX (tgt := 48) dX10_broken_35 (by decide) (by omega) (fun c35 => ?_) (fun c35 => ?_)
    · skip
      refine wa_iload_n hX (i := 1) dX10_broken_48 rfl rfl ?_
      refine wi_bipush hX dX10_broken_49 (by decide) ?_
      refine wi_icmp_ne hX (tgt := 62) dX10_broken_51 (by decide) (by omega) (by omega) (fun c51 => ?_) (fun c51 => ?_)
      · skip
        refine wa_iload_n hX (i := 1) dX10_broken_62 rfl rfl ?_
        refine wi_bipush hX dX10_broken_63 (by decide) ?_
        refine wi_icmp_ne hX (tgt := 78) dX10_broken_65 (by decide) (by omega) (by omega) (fun c65 => ?_) (fun c65 => ?_)
        · skip
          refine wa_aload_n hX (i := 0) dX10_broken_78 rfl rfl ?_
          refine wa_get hX 3 (by assumption) (by rfl) (by decide +kernel) dX10_broken_79 ?_
          refine wa_callV hX (c_X4_brokenElement hW d t1) (by assumption) (by rfl) (by rfl) (by omega) (nA := 0) (by rfl) (by decide +kernel) rfl (by exact Nat.le_of_ble_eq_true rfl) dX10_broken_82 (fun r82 h82 p82 => ?_) (fun _ _ q => q.elim)
          obtain ⟨rfl, qq82⟩ := p82; subst h82
          dsimp only [Option.toList, List.cons_append, List.nil_append]
          refine wa_iret hX dX10_broken_85 ?_
          first
            | exact ⟨rfl, hch, by omega, by rw [if_neg (by omega), if_pos (by omega)]⟩
            | exact ⟨rfl, hch, by omega, by rw [if_neg (by omega), if_neg (by omega)]⟩
        · skip
          refine wa_aload_n hX (i := 0) dX10_broken_68 rfl rfl ?_
          refine wa_get hX 3 (by assumption) (by rfl) (by decide +kernel) dX10_broken_69 ?_
          refine wa_callV hX (c_X4_brokenSecond hW d t1) (by assumption) (by rfl) (by rfl) (by omega) (nA := 0) (by rfl) (by decide +kernel) rfl (by exact Nat.le_of_ble_eq_true rfl) dX10_broken_72 (fun r72 h72 p72 => ?_) (fun _ _ q => q.elim)
          obtain ⟨rfl, qq72⟩ := p72; subst h72
          dsimp only [Option.toList, List.cons_append, List.nil_append]
          refine wa_goto hX (tgt := 85) dX10_broken_75 (by decide) ?_
          refine wa_iret hX dX10_broken_85 ?_
          first
            | exact ⟨rfl, hch, by omega, by rw [if_neg (by omega), if_pos (by omega)]⟩
            | exact ⟨rfl, hch, by omega, by rw [if_neg (by omega), if_neg (by omega)]⟩
      · skip
        refine wa_aload_n hX (i := 0) dX10_broken_54 rfl rfl ?_
        refine wa_get hX 3 (by assumption) (by rfl) (by decide +kernel) dX10_broken_55 ?_
        refine wa_callV hX (c_X4_brokenFirst hW d t1) (by assumption) (by rfl) (by rfl) (by omega) (nA := 0) (by rfl) (by decide +kernel) rfl (by exact Nat.le_of_ble_eq_true rfl) dX10_broken_58 (fun r58 h58 p58 => ?_) (fun _ _ q => q.elim)
        obtain ⟨rfl, qq58⟩ := p58; subst h58
        dsimp only [Option.toList, List.cons_append, List.nil_append]
        refine wa_iret hX dX10_broken_61 ?_
        exact ⟨rfl, hch, by omega, by rw [if_pos (by omega)]⟩
    · skip
      refine wa_throwS3 hX (ik := 157) (is := 159) (ic := 161) "java/util/NoSuchElementException" "nothing was broken" ["java/lang/RuntimeException", "java/lang/Exception"] (thr_ok3 (by decide +kernel) wx_NSE) rfl (by exact Nat.le_of_ble_eq_true rfl) dX10_broken_38 dX10_broken_41 dX10_broken_42 dX10_broken_44 dX10_broken_47 ?_
      exact ⟨rfl, Or.inr ⟨hch, by omega, rfl⟩⟩
  refine wa_iload_n hX (i := 1) dX10_broken_0 rfl rfl ?_
  refine wi_bipush hX dX10_broken_1 (by decide) ?_
  refine wi_icmp_eq hX (tgt := 28) dX10_broken_3 (by decide) (by omega) (by omega) (fun c3 => ?_) (fun c3 => ?_)
  · skip
    exact t28 (by omega)
  · skip
    refine wa_iload_n hX (i := 1) dX10_broken_6 rfl rfl ?_
    refine wi_bipush hX dX10_broken_7 (by decide) ?_
    refine wi_icmp_eq hX (tgt := 28) dX10_broken_9 (by decide) (by omega) (by omega) (fun c9 => ?_) (fun c9 => ?_)
    · skip
      exact t28 (by omega)
    · skip
      refine wa_iload_n hX (i := 1) dX10_broken_12 rfl rfl ?_
      refine wi_bipush hX dX10_broken_13 (by decide) ?_
      refine wi_icmp_eq hX (tgt := 28) dX10_broken_15 (by decide) (by omega) (by omega) (fun c15 => ?_) (fun c15 => ?_)
      · skip
        exact t28 (by omega)
      · skip
        refine wa_throwS2 hX (ik := 58) (is := 152) (ic := 62) "java/lang/IllegalArgumentException" "no such thing is told" ["java/lang/RuntimeException", "java/lang/Exception"] (thr_ok (by decide +kernel) wx_IAE) rfl (by exact Nat.le_of_ble_eq_true rfl) dX10_broken_18 dX10_broken_21 dX10_broken_22 dX10_broken_24 dX10_broken_27 ?_
        exact ⟨rfl, Or.inl ⟨by omega, rfl⟩⟩
set_option maxHeartbeats 2000000 in
set_option maxRecDepth 100000 in
theorem c_X10_keep (hW : WOK l D S0) (d : Nat) {h : AH} {a : Nat} {w : Nat → Nat} {c m : Nat} {E : Nat → Nat} {R : Nat → Nat → Nat} {br bf bs be : Int} {D2 D3 : Nat → Bool} {so : Nat} (hI : HI h a w c m E R br bf bs be D2 D3 so) {q e : Nat} {rk : Nat → Nat} (hq : h q = some (2, aB e rk)) (hM : Mtr e rk) (hm : m < 24) : MA l D S0 yX10_keep cX10_keep 3 (some .int) (d + 4) [.ref a, .ref q] h 3 2057 (fun r h' => r = some (I (m : Nat)) ∧ HI h' a w c (m + 1) (up E m e) (up R m rk) br bf bs be D2 D3 so ∧ Fr HF h h') (fun _ _ => False) := by
  obtain ⟨⟨hc60, hw, hm24, hso, hbr, hD, hMt⟩, row, kept, tb, cb, pr, inn, mn, pf, ps, pa, x1, x2, x3, x4, P, k1, kR, k3, kT, kC, kP, kL, kM, kI, kMat⟩ := hI
  have fr : Fr (fun x => x = 10 ∨ x = 13 ∨ x = 26) h h := Fr.rf
  refine MA.start hW (by decide) [.val (.ref a), .val (.ref q), .unset] rfl ?_
  rintro X rfl rfl rfl hX
  refine WA.room (k2 := 2 + 1) (sl2 := 2048 + 9) (by omega) (by omega) ?_
  refine wa_aload_n hX (i := 0) dX10_keep_0 rfl rfl ?_
  refine wa_get hX 2 (by assumption) (by rfl) (by decide +kernel) dX10_keep_1 ?_
  refine wa_istore_n hX (i := 2) dX10_keep_4 rfl rfl ?_
  dsimp only [List.set]
  refine wa_iload_n hX (i := 2) dX10_keep_5 rfl rfl ?_
  refine wi_if_lt hX (tgt := 39) dX10_keep_6 (by decide) (by omega) (fun c6 => ?_) (fun c6 => ?_)
  · skip
    first | (exfalso; omega) | skip
    all_goals
      refine WA.lab 24 g1 ?_
      refine WA.hgq (fun hC hhC => ?_)
      replace fr : Fr (fun x => x = 10 ∨ x = 13 ∨ x = 26) h hC := by rw [hhC]; exact Fr.hset fr g1 (by omega)
      replace hq : hC q = some (2, aB e rk) := by rw [hhC]; exact hset_lab g1 hq (by decide)
      replace g3 : hC t1 = some (2, aB e (sortN rk e)) := by rw [hhC]; exact hset_lab g1 g3 (by decide)
      replace g4 : hC t2 = some (2, aS (shpN rk e)) := by rw [hhC]; exact hset_lab g1 g4 (by decide)
      replace k3 : hC kept = some (13, aR (.object "Circuitfold$Matroid") 24 (fun j => if j < m + 1 then some (up P m p j) else none)) := by rw [hhC]; exact hset_lab g1 k3 (by decide)
      replace k1 : hC a = some (10, oHou row kept ((m + 1 : Nat) : Int) tb cb pr inn mn pf ps pa so) := by rw [hhC]; exact hset_lab g1 k1 (by decide)
      replace g1 : hC p = some (24, oMat e (rk (2 ^ e - 1)) q t2 t1 0 .null .null) := by rw [hhC]; exact hset_eq
      clear hhC
      refine wa_iload_n hX (i := 2) dX10_keep_39 rfl rfl ?_
      refine wa_iret hX dX10_keep_40 ?_
      have hne : ∀ i, i < m → P i ≠ p := fun i hi z => by
        obtain ⟨_, _, _, _, _, _, y1, -⟩ := kMat i hi
        rw [z, pn] at y1
        cases y1
      refine ⟨rfl, ⟨⟨hc60, hw, by omega, by omega, hbr, fun j hj => hD j (by omega), fun j hj => ?_⟩, row, kept, tb, cb, pr, inn, mn, pf, ps, pa, x1, x2, x3, x4, up P m p, k1, kR.fr fr (by omega) (by omega), k3, kT.fr fr (fun y hy => by omega), kC.fr fr (fun y hy => by omega), (kP.fr fr (fun y hy => by omega)).add, kL.fr fr (fun y hy => by omega), (kM.fr fr (by omega) (by omega)).add hne, fun i j hi hj => ?_, fun j hj => ?_⟩, fr.mono (fun x hx => by omega)⟩
      · by_cases z : j = m
        · subst z; rw [up_s, up_s]; exact hM
        · rw [up_n z, up_n z]; exact hMt j (by omega)
      · by_cases z1 : i = m <;> by_cases z2 : j = m
        · exact fun _ => by omega
        · subst z1
          rw [up_s, up_n z2]
          exact fun z => absurd z.symm (hne j (by omega))
        · subst z2
          rw [up_s, up_n z1]
          exact fun z => absurd z (hne i (by omega))
        · rw [up_n z1, up_n z2]
          exact kI i j (by omega) (by omega)
      · by_cases z : j = m
        · subst z
          rw [up_s, up_s, up_s]
          have hd9 := hD j (Nat.le_refl j)
          exact ⟨q, t2, t1, 0, .null, .null, g1, hq, g4, g3, Or.inl rfl, Or.inl ⟨hd9.1, rfl⟩, Or.inl ⟨hd9.2, rfl⟩⟩
        · rw [up_n z, up_n z, up_n z]
          exact (kMat j (by omega)).fr fr (by omega) (by omega) (by omega)
  · skip
    refine wa_iload_n hX (i := 2) dX10_keep_9 rfl rfl ?_
    refine wa_aload_n hX (i := 0) dX10_keep_10 rfl rfl ?_
    refine wa_get hX 1 (by assumption) (by rfl) (by decide +kernel) dX10_keep_11 ?_
    refine wa_len hX (by assumption) dX10_keep_14 ?_
    refine wi_icmp_ge hX (tgt := 39) dX10_keep_15 (by decide) (by omega) (by omega) (fun c15 => ?_) (fun c15 => ?_)
    · skip
      first | (exfalso; omega) | skip
      all_goals
        refine WA.lab 24 g1 ?_
        refine WA.hgq (fun hC hhC => ?_)
        replace fr : Fr (fun x => x = 10 ∨ x = 13 ∨ x = 26) h hC := by rw [hhC]; exact Fr.hset fr g1 (by omega)
        replace hq : hC q = some (2, aB e rk) := by rw [hhC]; exact hset_lab g1 hq (by decide)
        replace g3 : hC t1 = some (2, aB e (sortN rk e)) := by rw [hhC]; exact hset_lab g1 g3 (by decide)
        replace g4 : hC t2 = some (2, aS (shpN rk e)) := by rw [hhC]; exact hset_lab g1 g4 (by decide)
        replace k3 : hC kept = some (13, aR (.object "Circuitfold$Matroid") 24 (fun j => if j < m + 1 then some (up P m p j) else none)) := by rw [hhC]; exact hset_lab g1 k3 (by decide)
        replace k1 : hC a = some (10, oHou row kept ((m + 1 : Nat) : Int) tb cb pr inn mn pf ps pa so) := by rw [hhC]; exact hset_lab g1 k1 (by decide)
        replace g1 : hC p = some (24, oMat e (rk (2 ^ e - 1)) q t2 t1 0 .null .null) := by rw [hhC]; exact hset_eq
        clear hhC
        refine wa_iload_n hX (i := 2) dX10_keep_39 rfl rfl ?_
        refine wa_iret hX dX10_keep_40 ?_
        have hne : ∀ i, i < m → P i ≠ p := fun i hi z => by
          obtain ⟨_, _, _, _, _, _, y1, -⟩ := kMat i hi
          rw [z, pn] at y1
          cases y1
        refine ⟨rfl, ⟨⟨hc60, hw, by omega, by omega, hbr, fun j hj => hD j (by omega), fun j hj => ?_⟩, row, kept, tb, cb, pr, inn, mn, pf, ps, pa, x1, x2, x3, x4, up P m p, k1, kR.fr fr (by omega) (by omega), k3, kT.fr fr (fun y hy => by omega), kC.fr fr (fun y hy => by omega), (kP.fr fr (fun y hy => by omega)).add, kL.fr fr (fun y hy => by omega), (kM.fr fr (by omega) (by omega)).add hne, fun i j hi hj => ?_, fun j hj => ?_⟩, fr.mono (fun x hx => by omega)⟩
        · by_cases z : j = m
          · subst z; rw [up_s, up_s]; exact hM
          · rw [up_n z, up_n z]; exact hMt j (by omega)
        · by_cases z1 : i = m <;> by_cases z2 : j = m
          · exact fun _ => by omega
          · subst z1
            rw [up_s, up_n z2]
            exact fun z => absurd z.symm (hne j (by omega))
          · subst z2
            rw [up_s, up_n z1]
            exact fun z => absurd z (hne i (by omega))
          · rw [up_n z1, up_n z2]
            exact kI i j (by omega) (by omega)
        · by_cases z : j = m
          · subst z
            rw [up_s, up_s, up_s]
            have hd9 := hD j (Nat.le_refl j)
            exact ⟨q, t2, t1, 0, .null, .null, g1, hq, g4, g3, Or.inl rfl, Or.inl ⟨hd9.1, rfl⟩, Or.inl ⟨hd9.2, rfl⟩⟩
          · rw [up_n z, up_n z, up_n z]
            exact (kMat j (by omega)).fr fr (by omega) (by omega) (by omega)
    · skip
      refine wa_aload_n hX (i := 0) dX10_keep_18 rfl rfl ?_
      refine wa_get hX 1 (by assumption) (by rfl) (by decide +kernel) dX10_keep_19 ?_
      refine wa_iload_n hX (i := 2) dX10_keep_22 rfl rfl ?_
      refine wa_new hX 8 26 9 [I 0, I 0, I 0, .null, .null, .null, I 0, .null, .null] (by decide +kernel) (by decide +kernel) rfl dX10_keep_23 (fun p pn => ?_)
      refine WA.hnew pn (fun hh1 hN hK => ?_)
      replace fr := Fr.mk9 fr hK
      replace k1 := hK _ _ _ k1
      replace k3 := hK _ _ _ k3
      replace hq := hK _ _ _ hq
      have Hp := hN
      clear hN hK
      refine wa_dup hX dX10_keep_26 rfl ?_
      refine wa_aload_n hX (i := 1) dX10_keep_27 rfl rfl ?_
      refine wa_callI hX (c_X6_init hW d Hp hq (by decide) (by decide) hM.1 (fun s hs => ⟨hM.le_bc hs, hM.le_all hs⟩)) (by rfl) (by omega) (nA := 1) (by rfl) (by decide +kernel) rfl (by exact Nat.le_of_ble_eq_true rfl) dX10_keep_28 (fun r28 h28 p28 => ?_) (fun _ _ q => q.elim)
      obtain ⟨rfl, ⟨t1, t2, g1, g2, g3, g4⟩, f1⟩ := p28
      replace k1 := f1 _ _ _ k1 (by omega)
      replace k3 := f1 _ _ _ k3 (by omega)
      replace hq := g2
      replace fr := fr.trans (f1.mono (fun x hx => by omega))
      clear g2 f1 Hp
      have hkq := ne_oa g1 k3
      have hak := ne_oa k1 k3
      have hap := lab_ne g1 k1 (by decide)
      dsimp only [Option.toList, List.cons_append, List.nil_append]
      refine wi_aastore hX k3 g1 (by rfl) (by omega) (by omega) (by omega) dX10_keep_31 ?_
      rw [Int.toNat_natCast, kept_add]
      refine WA.hgq (fun hA hhA => ?_)
      replace fr : Fr (fun x => x = 10 ∨ x = 13 ∨ x = 26) h hA := by rw [hhA]; exact Fr.hset fr k3 (by omega)
      replace k1 : hA a = some (10, oHou row kept m tb cb pr inn mn pf ps pa so) := by rw [hhA]; exact hset_lab k3 k1 (by decide)
      replace g1 : hA p = some (26, oMat e (rk (2 ^ e - 1)) q t2 t1 0 .null .null) := by rw [hhA]; exact hset_lab k3 g1 (by decide)
      replace hq : hA q = some (2, aB e rk) := by rw [hhA]; exact hset_lab k3 hq (by decide)
      replace g3 : hA t1 = some (2, aB e (sortN rk e)) := by rw [hhA]; exact hset_lab k3 g3 (by decide)
      replace g4 : hA t2 = some (2, aS (shpN rk e)) := by rw [hhA]; exact hset_lab k3 g4 (by decide)
      replace k3 : hA kept = some (13, aR (.object "Circuitfold$Matroid") 24 (fun j => if j < m + 1 then some (up P m p j) else none)) := by rw [hhA]; exact hset_eq
      clear hhA hkq hak hap
      refine wa_aload_n hX (i := 0) dX10_keep_32 rfl rfl ?_
      refine wa_iload_n hX (i := 2) dX10_keep_33 rfl rfl ?_
      refine wi_iconst hX dX10_keep_34 ?_
      refine wi_iadd hX dX10_keep_35 ?_
      refine wa_put hX 2 k1 (Nat.le_of_ble_eq_true rfl) (by decide +kernel) (by rfl) (by rfl) (by rfl) dX10_keep_36 ?_
      refine WA.heap (h2 := hset hA a (10, oHou row kept ((m + 1 : Nat) : Int) tb cb pr inn mn pf ps pa so)) rfl ?_
      refine WA.hgq (fun hB hhB => ?_)
      replace fr : Fr (fun x => x = 10 ∨ x = 13 ∨ x = 26) h hB := by rw [hhB]; exact Fr.hset fr k1 (by omega)
      replace g1 : hB p = some (26, oMat e (rk (2 ^ e - 1)) q t2 t1 0 .null .null) := by rw [hhB]; exact hset_lab k1 g1 (by decide)
      replace hq : hB q = some (2, aB e rk) := by rw [hhB]; exact hset_lab k1 hq (by decide)
      replace g3 : hB t1 = some (2, aB e (sortN rk e)) := by rw [hhB]; exact hset_lab k1 g3 (by decide)
      replace g4 : hB t2 = some (2, aS (shpN rk e)) := by rw [hhB]; exact hset_lab k1 g4 (by decide)
      replace k3 : hB kept = some (13, aR (.object "Circuitfold$Matroid") 24 (fun j => if j < m + 1 then some (up P m p j) else none)) := by rw [hhB]; exact hset_lab k1 k3 (by decide)
      replace k1 : hB a = some (10, oHou row kept ((m + 1 : Nat) : Int) tb cb pr inn mn pf ps pa so) := by rw [hhB]; exact hset_eq
      clear hhB
      first | (exfalso; omega) | skip
      all_goals
        refine WA.lab 24 g1 ?_
        refine WA.hgq (fun hC hhC => ?_)
        replace fr : Fr (fun x => x = 10 ∨ x = 13 ∨ x = 26) h hC := by rw [hhC]; exact Fr.hset fr g1 (by omega)
        replace hq : hC q = some (2, aB e rk) := by rw [hhC]; exact hset_lab g1 hq (by decide)
        replace g3 : hC t1 = some (2, aB e (sortN rk e)) := by rw [hhC]; exact hset_lab g1 g3 (by decide)
        replace g4 : hC t2 = some (2, aS (shpN rk e)) := by rw [hhC]; exact hset_lab g1 g4 (by decide)
        replace k3 : hC kept = some (13, aR (.object "Circuitfold$Matroid") 24 (fun j => if j < m + 1 then some (up P m p j) else none)) := by rw [hhC]; exact hset_lab g1 k3 (by decide)
        replace k1 : hC a = some (10, oHou row kept ((m + 1 : Nat) : Int) tb cb pr inn mn pf ps pa so) := by rw [hhC]; exact hset_lab g1 k1 (by decide)
        replace g1 : hC p = some (24, oMat e (rk (2 ^ e - 1)) q t2 t1 0 .null .null) := by rw [hhC]; exact hset_eq
        clear hhC
        refine wa_iload_n hX (i := 2) dX10_keep_39 rfl rfl ?_
        refine wa_iret hX dX10_keep_40 ?_
        have hne : ∀ i, i < m → P i ≠ p := fun i hi z => by
          obtain ⟨_, _, _, _, _, _, y1, -⟩ := kMat i hi
          rw [z, pn] at y1
          cases y1
        refine ⟨rfl, ⟨⟨hc60, hw, by omega, by omega, hbr, fun j hj => hD j (by omega), fun j hj => ?_⟩, row, kept, tb, cb, pr, inn, mn, pf, ps, pa, x1, x2, x3, x4, up P m p, k1, kR.fr fr (by omega) (by omega), k3, kT.fr fr (fun y hy => by omega), kC.fr fr (fun y hy => by omega), (kP.fr fr (fun y hy => by omega)).add, kL.fr fr (fun y hy => by omega), (kM.fr fr (by omega) (by omega)).add hne, fun i j hi hj => ?_, fun j hj => ?_⟩, fr.mono (fun x hx => by omega)⟩
        · by_cases z : j = m
          · subst z; rw [up_s, up_s]; exact hM
          · rw [up_n z, up_n z]; exact hMt j (by omega)
        · by_cases z1 : i = m <;> by_cases z2 : j = m
          · exact fun _ => by omega
          · subst z1
            rw [up_s, up_n z2]
            exact fun z => absurd z.symm (hne j (by omega))
          · subst z2
            rw [up_s, up_n z1]
            exact fun z => absurd z (hne i (by omega))
          · rw [up_n z1, up_n z2]
            exact kI i j (by omega) (by omega)
        · by_cases z : j = m
          · subst z
            rw [up_s, up_s, up_s]
            have hd9 := hD j (Nat.le_refl j)
            exact ⟨q, t2, t1, 0, .null, .null, g1, hq, g4, g3, Or.inl rfl, Or.inl ⟨hd9.1, rfl⟩, Or.inl ⟨hd9.2, rfl⟩⟩
          · rw [up_n z, up_n z, up_n z]
            exact (kMat j (by omega)).fr fr (by omega) (by omega) (by omega)
set_option maxHeartbeats 1000000 in
set_option maxRecDepth 100000 in
theorem c_X10_keepTyped (hW : WOK l D S0) (d : Nat) {h : AH} {a : Nat} {w : Nat → Nat} {c m : Nat} {E : Nat → Nat} {R : Nat → Nat → Nat} {br bf bs be : Int} {D2 D3 : Nat → Bool} {so : Nat} (hI : HI h a w c m E R br bf bs be D2 D3 so) {q e : Nat} {rk : Nat → Nat} (hq : h q = some (2, aB e rk)) (hM : Mtr e rk) (hm : m < 24) : MA l D S0 yX10_keepTyped cX10_keepTyped 2 (some .int) (d + 5) [.ref a, .ref q] h 3 2057 (fun r h' => r = some (I (m : Nat)) ∧ HI h' a w 0 (m + 1) (up E m e) (up R m rk) br bf bs be D2 D3 so ∧ Fr HF h h') (fun _ _ => False) := by
  obtain ⟨⟨hc60, hw, hm24, hso, hbr, hD, hMt⟩, row, kept, tb, cb, pr, inn, mn, pf, ps, pa, x1, x2, x3, x4, P, k1, kR, k3, kT, kC, kP, kL, kM, kI, kMat⟩ := hI
  obtain ⟨rq, r1, r2⟩ := kR
  refine MA.start hW (by decide) [.val (.ref a), .val (.ref q)] rfl ?_
  rintro X rfl rfl rfl hX
  refine wa_aload_n hX (i := 0) dX10_keepTyped_0 rfl rfl ?_
  refine wa_get hX 0 (by assumption) (by rfl) (by decide +kernel) dX10_keepTyped_1 ?_
  refine wa_callV hX (c_X8_empty hW d r1) (by assumption) (by rfl) (by rfl) (by omega) (nA := 0) (by rfl) (by decide +kernel) rfl (by exact Nat.le_of_ble_eq_true rfl) dX10_keepTyped_4 (fun r4 h4 p4 => ?_) (fun _ _ q => q.elim)
  obtain ⟨rfl, hh⟩ := p4
  have e1 : h4 row = some (11, oRow rq ((0 : Nat) : Int)) := by rw [hh]; exact hset_eq
  have f : Fr (fun x => x = 11) h h4 := by
    rw [hh]
    exact Fr.hset Fr.rf r1 rfl
  have hI2 : HI h4 a w 0 m E R br bf bs be D2 D3 so := ⟨⟨by omega, hw, hm24, hso, hbr, hD, hMt⟩, row, kept, tb, cb, pr, inn, mn, pf, ps, pa, x1, x2, x3, x4, P, f _ _ _ k1 (by omega), ⟨rq, e1, f _ _ _ r2 (by omega)⟩, f _ _ _ k3 (by omega), kT.fr f (fun y hy => by omega), kC.fr f (fun y hy => by omega), kP.fr f (fun y hy => by omega), kL.fr f (fun y hy => by omega), kM.fr f (by omega) (by omega), kI, fun j hj => (kMat j hj).fr f (by omega) (by omega) (by omega)⟩
  have k1' := f _ _ _ k1 (by omega)
  dsimp only [Option.toList, List.cons_append, List.nil_append]
  refine wa_aload_n hX (i := 0) dX10_keepTyped_7 rfl rfl ?_
  refine wa_aload_n hX (i := 1) dX10_keepTyped_8 rfl rfl ?_
  refine wa_callV hX (c_X10_keep hW d hI2 (f _ _ _ hq (by omega)) hM hm) (by assumption) (by rfl) (by rfl) (by omega) (nA := 1) (by rfl) (by decide +kernel) rfl (by exact Nat.le_of_ble_eq_true rfl) dX10_keepTyped_9 (fun r9 h9 p9 => ?_) (fun _ _ q => q.elim)
  obtain ⟨rfl, hI3, f3⟩ := p9
  dsimp only [Option.toList, List.cons_append, List.nil_append]
  refine wa_iret hX dX10_keepTyped_12 ?_
  exact ⟨rfl, hI3, (f.mono (fun x hx => by omega)).trans f3⟩
end C68
