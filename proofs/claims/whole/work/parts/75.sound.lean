/-! The house (X10): isSound -/
/-- the bases, marked -/
def bsM (rk : Nat → Nat) (e z s : Nat) : Bool := decide (s < z) && (sortN rk e s &&& 2 != 0)
/-- what is checked of a matroid -/
def sndP (rk : Nat → Nat) (e : Nat) : Prop := Mtr e (dualR rk e) ∧ (∀ s, s < 2 ^ e → dualR (dualR rk e) e s = rk s) ∧ (valN (shpN rk e) 1 1 = ((cnt (fun s => sortN rk e s &&& 2 != 0) (2 ^ e) : Nat) : Int) ∧ valN (shpN rk e) 2 2 = ((2 ^ e : Nat) : Int) ∧ valN (shpN rk e) 2 1 = ((cnt (fun s => sortN rk e s &&& 1 != 0) (2 ^ e) : Nat) : Int)) ∧ oneN (bsM rk e (2 ^ e)) e ∧ ∀ f g el, f < 2 ^ e → bsM rk e (2 ^ e) f = true → g < 2 ^ e → el < 10 → brk (bsM rk e (2 ^ e)) e f g el = false
theorem i2l_of {x : Int} (h : inR x) : (Int32.ofInt x).toInt64 = Int64.ofInt x := by
  rw [← Int64.toInt_inj, Int32.toInt_toInt64, tI h, Int64.toInt_ofInt_of_le (by omega) (by omega)]
section C75
variable {l : Launch} {D : va_G} {S0 : State}
set_option maxHeartbeats 1000000 in
set_option maxRecDepth 100000 in
theorem c_X10_agrees (hW : WOK l D S0) (d : Nat) {h : AH} {p e : Nat} {rk : Nat → Nat} {b2 b3 : Bool} (hM : MatI h p e rk b2 b3) (hMt : Mtr e rk) (hs : sndP rk e) : MA l D S0 yX10_agreesWithPolynomial cX10_agreesWithPolynomial 1 (some .boolean) (d + 3) [.ref p] h 0 0 (fun r h' => r = some (I 1) ∧ h' = h) (fun _ _ => False) := by
  obtain ⟨rq, hq, tq, sym, v2, v3, g1, g2, g3, g4, g5, g6, g7⟩ := hM
  obtain ⟨-, -, ⟨s1, s2, s3⟩, -⟩ := hs
  have he := hMt.1
  have hp := p2_le he
  have hp0 := p2_pos e
  have hc1 := cnt_le (fun s => sortN rk e s &&& 2 != 0) (2 ^ e)
  have hc2 := cnt_le (fun s => sortN rk e s &&& 1 != 0) (2 ^ e)
  refine MA.start hW (by decide) [.val (.ref p)] rfl ?_
  rintro X rfl rfl rfl hX
  refine wa_aload_n hX (i := 0) dX10_agreesWithPolynomial_0 rfl rfl ?_
  refine wa_get hX 4 (by assumption) (by rfl) (by decide +kernel) dX10_agreesWithPolynomial_1 ?_
  refine wi_iconst hX dX10_agreesWithPolynomial_4 ?_
  refine wi_iconst hX dX10_agreesWithPolynomial_5 ?_
  refine wa_callS hX (c_X1_valueAt hW d g3 (x := 1) (y := 1) (by omega) (by omega) (fun _ => shpN_le he)) (by rfl) (by omega) (nA := 3) (by rfl) (by decide +kernel) rfl (by exact Nat.le_of_ble_eq_true rfl) dX10_agreesWithPolynomial_6 (fun r6 h6 p6 => ?_) (fun _ _ q => q.elim)
  obtain ⟨rfl, qq6⟩ := p6; subst h6
  rw [s1]
  dsimp only [Option.toList, List.cons_append, List.nil_append]
  refine wa_aload_n hX (i := 0) dX10_agreesWithPolynomial_9 rfl rfl ?_
  refine wi_iconst hX dX10_agreesWithPolynomial_10 ?_
  refine wa_callV hX (c_X6_countOf hW d g1 g4 (so := 2) he (fun j _ => sortN_lt rk e j)) (by assumption) (by rfl) (by rfl) (by omega) (nA := 1) (by rfl) (by decide +kernel) rfl (by exact Nat.le_of_ble_eq_true rfl) dX10_agreesWithPolynomial_11 (fun r11 h11 p11 => ?_) (fun _ _ q => q.elim)
  obtain ⟨rfl, qq11⟩ := p11; subst h11
  dsimp only [Option.toList, List.cons_append, List.nil_append]
  refine wa_i2l hX dX10_agreesWithPolynomial_14 ?_
  refine wa_lcmp hX dX10_agreesWithPolynomial_15 (fun z hz hzr => ?_)
  rw [i2l_of (by omega)] at hz
  have hz0 := hz.mpr rfl
  subst hz0
  refine wi_if_ne hX (tgt := 62) dX10_agreesWithPolynomial_16 (by decide) (by omega) (fun c16 => ?_) (fun c16 => ?_)
  · skip
    exfalso; omega
  · skip
    refine wa_aload_n hX (i := 0) dX10_agreesWithPolynomial_19 rfl rfl ?_
    refine wa_get hX 4 (by assumption) (by rfl) (by decide +kernel) dX10_agreesWithPolynomial_20 ?_
    refine wi_iconst hX dX10_agreesWithPolynomial_23 ?_
    refine wi_iconst hX dX10_agreesWithPolynomial_24 ?_
    refine wa_callS hX (c_X1_valueAt hW d g3 (x := 2) (y := 2) (by omega) (by omega) (fun _ => shpN_le he)) (by rfl) (by omega) (nA := 3) (by rfl) (by decide +kernel) rfl (by exact Nat.le_of_ble_eq_true rfl) dX10_agreesWithPolynomial_25 (fun r25 h25 p25 => ?_) (fun _ _ q => q.elim)
    obtain ⟨rfl, qq25⟩ := p25; subst h25
    rw [s2]
    dsimp only [Option.toList, List.cons_append, List.nil_append]
    refine wa_aload_n hX (i := 0) dX10_agreesWithPolynomial_28 rfl rfl ?_
    refine wa_get hX 1 (by assumption) (by rfl) (by decide +kernel) dX10_agreesWithPolynomial_29 ?_
    refine wi_iconst hX dX10_agreesWithPolynomial_32 ?_
    refine wi_iadd hX dX10_agreesWithPolynomial_33 ?_
    refine wa_i2l hX dX10_agreesWithPolynomial_34 ?_
    refine wa_lcmp hX dX10_agreesWithPolynomial_35 (fun z hz hzr => ?_)
    rw [i2l_of (by omega), show (((2 ^ e - 1 : Nat) : Int) + 1) = ((2 ^ e : Nat) : Int) by omega] at hz
    have hz0 := hz.mpr rfl
    subst hz0
    refine wi_if_ne hX (tgt := 62) dX10_agreesWithPolynomial_36 (by decide) (by omega) (fun c36 => ?_) (fun c36 => ?_)
    · skip
      exfalso; omega
    · skip
      refine wa_aload_n hX (i := 0) dX10_agreesWithPolynomial_39 rfl rfl ?_
      refine wa_get hX 4 (by assumption) (by rfl) (by decide +kernel) dX10_agreesWithPolynomial_40 ?_
      refine wi_iconst hX dX10_agreesWithPolynomial_43 ?_
      refine wi_iconst hX dX10_agreesWithPolynomial_44 ?_
      refine wa_callS hX (c_X1_valueAt hW d g3 (x := 2) (y := 1) (by omega) (by omega) (fun _ => shpN_le he)) (by rfl) (by omega) (nA := 3) (by rfl) (by decide +kernel) rfl (by exact Nat.le_of_ble_eq_true rfl) dX10_agreesWithPolynomial_45 (fun r45 h45 p45 => ?_) (fun _ _ q => q.elim)
      obtain ⟨rfl, qq45⟩ := p45; subst h45
      rw [s3]
      dsimp only [Option.toList, List.cons_append, List.nil_append]
      refine wa_aload_n hX (i := 0) dX10_agreesWithPolynomial_48 rfl rfl ?_
      refine wi_iconst hX dX10_agreesWithPolynomial_49 ?_
      refine wa_callV hX (c_X6_countOf hW d g1 g4 (so := 1) he (fun j _ => sortN_lt rk e j)) (by assumption) (by rfl) (by rfl) (by omega) (nA := 1) (by rfl) (by decide +kernel) rfl (by exact Nat.le_of_ble_eq_true rfl) dX10_agreesWithPolynomial_50 (fun r50 h50 p50 => ?_) (fun _ _ q => q.elim)
      obtain ⟨rfl, qq50⟩ := p50; subst h50
      dsimp only [Option.toList, List.cons_append, List.nil_append]
      refine wa_i2l hX dX10_agreesWithPolynomial_53 ?_
      refine wa_lcmp hX dX10_agreesWithPolynomial_54 (fun z hz hzr => ?_)
      rw [i2l_of (by omega)] at hz
      have hz0 := hz.mpr rfl
      subst hz0
      refine wi_if_ne hX (tgt := 62) dX10_agreesWithPolynomial_55 (by decide) (by omega) (fun c55 => ?_) (fun c55 => ?_)
      · skip
        exfalso; omega
      · skip
        refine wi_iconst hX dX10_agreesWithPolynomial_58 ?_
        refine wa_goto hX (tgt := 63) dX10_agreesWithPolynomial_59 (by decide) ?_
        refine wa_zret hX dX10_agreesWithPolynomial_63 (by rfl) ?_
        exact ⟨rfl, rfl⟩
set_option maxHeartbeats 1000000 in
set_option maxRecDepth 100000 in
theorem c_X10_isDualOfDual (hW : WOK l D S0) (d : Nat) {h : AH} {p e : Nat} {rk : Nat → Nat} {b2 b3 : Bool} (hM : MatI h p e rk b2 b3) (hMt : Mtr e rk) (hs : sndP rk e) : MA l D S0 yX10_isDualOfDual cX10_isDualOfDual 1 (some .boolean) (d + 3) [.ref p] h 2 2048 (fun r h' => r = some (I 1) ∧ Fr (fun _ => False) h h') (fun _ _ => False) := by
  obtain ⟨rq, hq, tq, sym, v2, v3, g1, g2, g3, g4, g5, g6, g7⟩ := hM
  obtain ⟨s1, s2, -⟩ := hs
  have he := hMt.1
  have hp := p2_le he
  have hp0 := p2_pos e
  have fr : Fr (fun _ => False) h h := Fr.rf
  refine MA.start hW (by decide) [.val (.ref p)] rfl ?_
  rintro X rfl rfl rfl hX
  refine WA.room (k2 := 0 + 1 + 1) (sl2 := 0 + 1024 + 1024) (by omega) (by omega) ?_
  refine wa_aload_n hX (i := 0) dX10_isDualOfDual_0 rfl rfl ?_
  refine wa_get hX 3 (by assumption) (by rfl) (by decide +kernel) dX10_isDualOfDual_1 ?_
  refine wa_aload_n hX (i := 0) dX10_isDualOfDual_4 rfl rfl ?_
  refine wa_get hX 3 (by assumption) (by rfl) (by decide +kernel) dX10_isDualOfDual_5 ?_
  refine wa_callS hX (c_X9_ofDual hW d g2 he (fun s hs => hMt.le10 hs) (fun s hs => hMt.dual hs)) (by rfl) (by omega) (nA := 1) (by rfl) (by decide +kernel) rfl (by exact Nat.le_of_ble_eq_true rfl) dX10_isDualOfDual_8 (fun r8 h8 p8 => ?_) (fun _ _ q => q.elim)
  obtain ⟨q1, rfl, q1n, rfl⟩ := p8
  refine WA.hnew q1n (fun hh1 hN hK => ?_)
  replace fr := Fr.mk9 fr hK
  replace g1 := hK _ _ _ g1
  replace g2 := hK _ _ _ g2
  have Hq1 := hN
  clear hN hK
  dsimp only [Option.toList, List.cons_append, List.nil_append]
  refine wa_callS hX (c_X9_ofDual hW d Hq1 he (fun s hs => s1.le10 hs) (fun s hs => s1.dual hs)) (by rfl) (by omega) (nA := 1) (by rfl) (by decide +kernel) rfl (by exact Nat.le_of_ble_eq_true rfl) dX10_isDualOfDual_11 (fun r11 h11 p11 => ?_) (fun _ _ q => q.elim)
  obtain ⟨q2, rfl, q2n, rfl⟩ := p11
  refine WA.hnew q2n (fun hh2 hN hK => ?_)
  replace fr := Fr.mk9 fr hK
  replace g1 := hK _ _ _ g1
  replace g2 := hK _ _ _ g2
  replace Hq1 := hK _ _ _ Hq1
  have Hq2 := hN
  clear hN hK
  dsimp only [Option.toList, List.cons_append, List.nil_append]
  refine wa_callS hX (c_X9_areSame hW d g2 Hq2 (by omega) (by omega) (fun j hj => by have := hMt.le10 hj; omega) (fun j hj => by have := s2 j hj; have := hMt.le10 hj; omega)) (by rfl) (by omega) (nA := 2) (by rfl) (by decide +kernel) rfl (by exact Nat.le_of_ble_eq_true rfl) dX10_isDualOfDual_14 (fun r14 h14 p14 => ?_) (fun _ _ q => q.elim)
  obtain ⟨b, rfl, hb, hbb, qq14⟩ := p14
  subst h14
  have hb1 : b = 1 := hbb.mpr ⟨rfl, fun j hj => by rw [s2 j hj]⟩
  subst hb1
  dsimp only [Option.toList, List.cons_append, List.nil_append]
  refine wa_zret hX dX10_isDualOfDual_17 (by rfl) ?_
  exact ⟨rfl, fr⟩
set_option maxHeartbeats 2000000 in
set_option maxRecDepth 100000 in
theorem c_X10_keepsRule (hW : WOK l D S0) (d : Nat) {h : AH} {a : Nat} {w : Nat → Nat} {c m : Nat} {E : Nat → Nat} {R : Nat → Nat → Nat} {br bf bs be : Int} {D2 D3 : Nat → Bool} {so : Nat} (hI : HI h a w c m E R br bf bs be D2 D3 so) {p e : Nat} {rk : Nat → Nat} {b2 b3 : Bool} (hMp : MatI h p e rk b2 b3) (hMtp : Mtr e rk) (hs : sndP rk e) : MA l D S0 yX10_keepsRuleOfBases cX10_keepsRuleOfBases 3 (some .boolean) (d + 4) [.ref a, .ref p] h 0 0 (fun r h' => r = some (I 1) ∧ HI h' a w c m E R br bf bs be D2 D3 so ∧ Fr (fun x => 18 ≤ x ∧ x ≤ 21) h h') (fun _ _ => False) := by
  obtain ⟨⟨hc60, hw, hm24, hso, hbr, hD, hMt⟩, row, kept, tb, cb, pr, inn, mn, pf, ps, pa, x1, x2, x3, x4, P, k1, kR, k3, kT, kC, kP, kL, kM, kI, kMat⟩ := id hI
  obtain ⟨rq, hq, tq, sym, v2, v3, g1, g2, g3, g4, g5, g6, g7⟩ := hMp
  obtain ⟨-, -, -, s1, s2⟩ := hs
  have he := hMtp.1
  have hp := p2_le he
  have hp0 := p2_pos e
  obtain ⟨mq, sq, wq, al, G, F, W, t1, t2, t3, t4⟩ := kC
  refine MA.start hW (by decide) [.val (.ref a), .val (.ref p), .unset] rfl ?_
  rintro X rfl rfl rfl hX
  refine wa_aload_n hX (i := 0) dX10_keepsRuleOfBases_0 rfl rfl ?_
  refine wa_get hX 4 (by assumption) (by rfl) (by decide +kernel) dX10_keepsRuleOfBases_1 ?_
  refine wa_aload_n hX (i := 1) dX10_keepsRuleOfBases_4 rfl rfl ?_
  refine wa_get hX 0 (by assumption) (by rfl) (by decide +kernel) dX10_keepsRuleOfBases_5 ?_
  refine wa_callV hX (c_X4_begin hW d (e := e) t1 t2 (by decide) he) (by assumption) (by rfl) (by rfl) (by omega) (nA := 1) (by rfl) (by decide +kernel) rfl (by exact Nat.le_of_ble_eq_true rfl) dX10_keepsRuleOfBases_8 (fun r8 h8 p8 => ?_) (fun _ _ q => q.elim)
  obtain ⟨rfl, u1, u2, u9⟩ := p8
  have f9 : Fr (fun x => 18 ≤ x ∧ x ≤ 21) h h8 := fun y ly oy hy hn => by
    rw [u9 y (fun z => by subst z; rw [hy] at t1; cases t1; exact hn (by decide)) (fun z => by subst z; rw [hy] at t2; cases t2; exact hn (by decide))]
    exact hy
  have u3 : h8 sq = some (20, aI .byte 1024 F) := by rw [u9 sq (lab_ne t1 t3 (by decide)) (lab_ne t2 t3 (by decide))]; exact t3
  have u4 : h8 wq = some (21, aI .int 10 W) := by rw [u9 wq (lab_ne t1 t4 (by decide)) (lab_ne t2 t4 (by decide))]; exact t4
  have v1 := f9 _ _ _ k1 (by omega)
  have vg1 := f9 _ _ _ g1 (by omega)
  have vg4 := f9 _ _ _ g4 (by omega)
  dsimp only [Option.toList, List.cons_append, List.nil_append]
  refine wi_iconst hX dX10_keepsRuleOfBases_11 ?_
  refine wa_istore_n hX (i := 2) dX10_keepsRuleOfBases_12 rfl rfl ?_
  dsimp only [List.set]
  refine WA.heap (h2 := hset h8 mq (19, aM 1024 (bsM rk e 0))) ?_ ?_
  · rw [show bsM rk e 0 = (fun _ => false) from funext (fun s => rfl)]
    exact (hset_self u2).symm
  refine WA.loop (σ := Nat) (fun z => 2 ^ e - z) (fun z => z ≤ 2 ^ e) (fun z => hset h8 mq (19, aM 1024 (bsM rk e z))) (fun z => [.val (.ref a), .val (.ref p), .val (I (z : Nat))]) ?_ 0 (Nat.zero_le _)
  intro z hz ih
  have w1 : hset h8 mq (19, aM 1024 (bsM rk e z)) cb = some (18, oExc mq sq wq ((2 ^ e - 1 : Nat) : Int) 0 x2 x3 x4) := hset_lab u2 u1 (by decide)
  have w2 : hset h8 mq (19, aM 1024 (bsM rk e z)) mq = some (19, aM 1024 (bsM rk e z)) := hset_eq
  have w3 : hset h8 mq (19, aM 1024 (bsM rk e z)) sq = some (20, aI .byte 1024 F) := hset_lab u2 u3 (by decide)
  have w4 : hset h8 mq (19, aM 1024 (bsM rk e z)) wq = some (21, aI .int 10 W) := hset_lab u2 u4 (by decide)
  have wa : hset h8 mq (19, aM 1024 (bsM rk e z)) a = some (10, oHou row kept m tb cb pr inn mn pf ps pa so) := hset_lab u2 v1 (by decide)
  have wg1 : hset h8 mq (19, aM 1024 (bsM rk e z)) p = some (24, oMat e (rk (2 ^ e - 1)) rq hq tq (sym : Int) v2 v3) := hset_lab u2 vg1 (by decide)
  have wg4 : hset h8 mq (19, aM 1024 (bsM rk e z)) tq = some (2, aB e (sortN rk e)) := hset_lab u2 vg4 (by decide)
  have fz : Fr (fun x => 18 ≤ x ∧ x ≤ 21) h (hset h8 mq (19, aM 1024 (bsM rk e z))) := Fr.hset f9 u2 (by decide)
  have hst : ∀ s, bsM rk e (z + 1) s = (bsM rk e z s || ((sortN rk e z &&& 2 != 0) && z == s)) := fun s => by
    unfold bsM
    by_cases q : z = s
    · subst q
      rw [decide_eq_true (Nat.lt_succ_self z), decide_eq_false (Nat.lt_irrefl z), beq_self_eq_true]
      simp
    · rw [show (z == s) = false from beq_eq_false_iff_ne.mpr q, Bool.and_false, Bool.or_false]
      by_cases q2 : s < z
      · rw [decide_eq_true q2, decide_eq_true (show s < z + 1 by omega)]
      · rw [decide_eq_false q2, decide_eq_false (show ¬ s < z + 1 by omega)]
  generalize hHz : hset h8 mq (19, aM 1024 (bsM rk e z)) = Hz at w1 w2 w3 w4 wa wg1 wg4 fz ⊢
  refine wa_iload_n hX (i := 2) dX10_keepsRuleOfBases_13 rfl rfl ?_
  refine wa_aload_n hX (i := 1) dX10_keepsRuleOfBases_14 rfl rfl ?_
  refine wa_get hX 1 (by assumption) (by rfl) (by decide +kernel) dX10_keepsRuleOfBases_15 ?_
  refine wi_icmp_gt hX (tgt := 44) dX10_keepsRuleOfBases_18 (by decide) (by omega) (by omega) (fun c18 => ?_) (fun c18 => ?_)
  · skip
    have hze : z = 2 ^ e := by omega
    rw [hze] at w2
    refine wa_aload_n hX (i := 0) dX10_keepsRuleOfBases_44 rfl rfl ?_
    refine wa_get hX 4 (by assumption) (by rfl) (by decide +kernel) dX10_keepsRuleOfBases_45 ?_
    refine wa_callV hX (c_X4_holds hW d w1 w2 w3 w4 (by decide) (by decide) (by decide) (by decide) (by decide) (by decide) he) (by assumption) (by rfl) (by rfl) (by omega) (nA := 0) (by rfl) (by decide +kernel) rfl (by exact Nat.le_of_ble_eq_true rfl) dX10_keepsRuleOfBases_48 (fun r48 h48 p48 => ?_) (fun _ _ q => q.elim)
    obtain ⟨f73, ⟨F', e3⟩, ⟨W', e4⟩, hcase⟩ := p48
    have e2 := f73 _ _ _ w2 (by omega)
    have f : Fr (fun x => 18 ≤ x ∧ x ≤ 21) h h48 := fz.trans (f73.mono (fun x hx => by omega))
    obtain ⟨rfl, e1⟩ : r48 = some (I 1) ∧ h48 cb = some (18, oExc mq sq wq ((2 ^ e - 1 : Nat) : Int) 0 x2 x3 x4) := by
      rcases hcase with ⟨q1, q2, q3, q4⟩ | ⟨q1, q2, q4⟩ | ⟨q1, q2, f, g, el, q5, q6, q7, q8, q4⟩
      · exact ⟨q1, q4⟩
      · exact absurd s1 q2
      · exfalso
        have := s2 f g el q5 q6 q7.1 q7.2.1
        rw [q7.2.2.1] at this
        cases this
    clear hcase
    dsimp only [Option.toList, List.cons_append, List.nil_append]
    refine wa_zret hX dX10_keepsRuleOfBases_51 (by rfl) ?_
    exact ⟨rfl, ⟨⟨hc60, hw, hm24, hso, hbr, hD, hMt⟩, row, kept, tb, cb, pr, inn, mn, pf, ps, pa, 0, x2, x3, x4, P, f _ _ _ k1 (by omega), kR.fr f (by omega) (by omega), f _ _ _ k3 (by omega), kT.fr f (fun y hy => by omega), ⟨mq, sq, wq, _, _, F', W', e1, e2, e3, e4⟩, kP.fr f (fun y hy => by omega), kL.fr f (fun y hy => by omega), kM.fr f (by omega) (by omega), kI, fun j hj => (kMat j hj).fr f (by omega) (by omega) (by omega)⟩, f⟩
  · skip
    refine wa_aload_n hX (i := 1) dX10_keepsRuleOfBases_21 rfl rfl ?_
    refine wa_iload_n hX (i := 2) dX10_keepsRuleOfBases_22 rfl rfl ?_
    refine wi_iconst hX dX10_keepsRuleOfBases_23 ?_
    refine wa_callV hX (c_X6_has hW d wg1 wg4 (so := 2) he (s := z) (by omega) (fun j _ => sortN_lt rk e j)) (by assumption) (by rfl) (by rfl) (by omega) (nA := 2) (by rfl) (by decide +kernel) rfl (by exact Nat.le_of_ble_eq_true rfl) dX10_keepsRuleOfBases_24 (fun r24 h24 p24 => ?_) (fun _ _ q => q.elim)
    obtain ⟨rfl, qq24⟩ := p24; subst h24
    dsimp only [Option.toList, List.cons_append, List.nil_append]
    refine wi_if_eq hX (tgt := 38) dX10_keepsRuleOfBases_27 (by decide) (by exact b2n_inR _) (fun c27 => ?_) (fun c27 => ?_)
    · skip
      refine wi_iinc hX dX10_keepsRuleOfBases_38 rfl ?_
      dsimp only [List.set]
      refine wa_goto hX (tgt := 13) dX10_keepsRuleOfBases_41 (by decide) ?_
      first
        | exact ih (z + 1) (by omega) (by omega)
        | (have hb := b2n_f c27
           have e9 : bsM rk e z = bsM rk e (z + 1) := funext (fun s => by rw [hst s, hb, Bool.false_and, Bool.or_false])
           rw [← hHz, e9]
           exact ih (z + 1) (by omega) (by omega))
    · skip
      refine wa_aload_n hX (i := 0) dX10_keepsRuleOfBases_30 rfl rfl ?_
      refine wa_get hX 4 (by assumption) (by rfl) (by decide +kernel) dX10_keepsRuleOfBases_31 ?_
      refine wa_iload_n hX (i := 2) dX10_keepsRuleOfBases_34 rfl rfl ?_
      refine wa_callV hX (c_X4_mark hW d w1 w2 he (s := z) (by omega)) (by assumption) (by rfl) (by rfl) (by omega) (nA := 1) (by rfl) (by decide +kernel) rfl (by exact Nat.le_of_ble_eq_true rfl) dX10_keepsRuleOfBases_35 (fun r35 h35 p35 => ?_) (fun _ _ q => q.elim)
      obtain ⟨rfl, rfl⟩ := p35
      have hb := b2n_t c27
      have e9 : (fun j => bsM rk e z j || z == j) = bsM rk e (z + 1) := funext (fun s => by rw [hst s, hb, Bool.true_and])
      rw [e9, ← hHz, hset_hset]
      dsimp only [Option.toList, List.cons_append, List.nil_append]
      refine wi_iinc hX dX10_keepsRuleOfBases_38 rfl ?_
      dsimp only [List.set]
      refine wa_goto hX (tgt := 13) dX10_keepsRuleOfBases_41 (by decide) ?_
      first
        | exact ih (z + 1) (by omega) (by omega)
        | (have hb := b2n_f c27
           have e9 : bsM rk e z = bsM rk e (z + 1) := funext (fun s => by rw [hst s, hb, Bool.false_and, Bool.or_false])
           rw [← hHz, e9]
           exact ih (z + 1) (by omega) (by omega))
set_option maxHeartbeats 2000000 in
set_option maxRecDepth 100000 in
theorem c_X10_isSound (hW : WOK l D S0) (d : Nat) {h : AH} {a : Nat} {w : Nat → Nat} {c m : Nat} {E : Nat → Nat} {R : Nat → Nat → Nat} {br bf bs be : Int} {D2 D3 : Nat → Bool} {so : Nat} (hI : HI h a w c m E R br bf bs be D2 D3 so) (hS : ∀ j, j < m → sndP (R j) (E j)) : MA l D S0 yX10_isSound cX10_isSound 3 (some .boolean) (d + 5) [.ref a] h (3 * (m - so)) (2054 * (m - so)) (fun r h' => r = some (I 1) ∧ HI h' a w c m E R br bf bs be D2 D3 m ∧ Fr HF h h') (fun _ _ => False) := by
  have hso9 := hI.1.2.2.2.1
  have hm9 := hI.1.2.2.1
  obtain ⟨k9, row9, kept9, tb9, cb9, pr9, inn9, mn9, pf9, ps9, pa9, y1, y2, y3, y4, P9, k19, -⟩ := id hI
  refine MA.start hW (by decide) [.val (.ref a), .unset, .unset] rfl ?_
  rintro X rfl rfl rfl hX
  refine wa_aload_n hX (i := 0) dX10_isSound_0 rfl rfl ?_
  refine wa_get hX 11 (by assumption) (by rfl) (by decide +kernel) dX10_isSound_1 ?_
  refine wa_istore_n hX (i := 1) dX10_isSound_4 rfl (by first | rfl | assumption) ?_
  dsimp only [List.set]
  refine WA.loopR (σ := Nat × AH × Slot) (fun z => m - z.1) (fun z => z.1 ≤ m ∧ HI z.2.1 a w c m E R br bf bs be D2 D3 z.1 ∧ Fr HF h z.2.1 ∧ okS [z.2.2] 0 = true) (fun z => z.2.1) (fun z => 3 * (m - z.1)) (fun z => 2054 * (m - z.1)) (fun z => [.val (.ref a), .val (I (z.1 : Nat)), z.2.2]) ?_ (so, h, .unset) ⟨hso9, hI, Fr.rf, rfl⟩
  rintro ⟨z, hz, u2⟩ ⟨hzm, hIz, fz, hu2⟩ ih
  dsimp only at hzm hIz fz hu2 ⊢
  obtain ⟨⟨hc60, hw, hm24, hso, hbr, hD, hMt⟩, row, kept, tb, cb, pr, inn, mn, pf, ps, pa, x1, x2, x3, x4, P, k1, kR, k3, kT, kC, kP, kL, kM, kI, kMat⟩ := id hIz
  by_cases hzl : z < m
  · refine WA.room (k2 := 3 * (m - (z + 1)) + 2 + 1) (sl2 := 2054 * (m - (z + 1)) + 2048 + 6) (by omega) (by omega) ?_
    refine wa_iload_n hX (i := 1) dX10_isSound_5 rfl rfl ?_
    refine wa_aload_n hX (i := 0) dX10_isSound_6 rfl rfl ?_
    refine wa_get hX 2 (by assumption) (by rfl) (by decide +kernel) dX10_isSound_7 ?_
    refine wi_icmp_ge hX (tgt := 56) dX10_isSound_10 (by decide) (by omega) (by omega) (fun c10 => ?_) (fun c10 => ?_)
    · skip
      exfalso; omega
    · skip
      refine wa_aload_n hX (i := 0) dX10_isSound_13 rfl rfl ?_
      refine wa_iload_n hX (i := 1) dX10_isSound_14 rfl rfl ?_
      refine wa_callV hX (c_X10_find hW d k1 k3 hm24 (by omega)) (by assumption) (by rfl) (by rfl) (by omega) (nA := 1) (by rfl) (by decide +kernel) rfl (by exact Nat.le_of_ble_eq_true rfl) dX10_isSound_15 (fun r15 h15 p15 => ?_) (fun E' h' q => absurd (show 0 ≤ (z : Int) ∧ (z : Int) < (m : Int) by omega) q.2.2)
      obtain ⟨hq15, i, hi, hzi, rfl⟩ := p15
      subst h15
      have e1 : i = z := by omega
      subst e1
      dsimp only [Option.toList, List.cons_append, List.nil_append]
      refine wa_astore_n hX (i := 2) dX10_isSound_18 rfl (by first | rfl | assumption) ?_
      dsimp only [List.set]
      refine wa_aload_n hX (i := 0) dX10_isSound_19 rfl rfl ?_
      refine wa_aload_n hX (i := 2) dX10_isSound_20 rfl rfl ?_
      refine WA.room (k2 := 3 * (m - (i + 1)) + 2 + 0) (sl2 := 2054 * (m - (i + 1)) + 2048 + 0) (by omega) (by omega) ?_
      refine wa_callV hX (c_X10_keepsRule hW d hIz (kMat i hi) (hMt i hi) (hS i hi)) (by assumption) (by rfl) (by rfl) (by omega) (nA := 1) (by rfl) (by decide +kernel) rfl (by exact Nat.le_of_ble_eq_true rfl) dX10_isSound_21 (fun r21 h21 p21 => ?_) (fun _ _ q => q.elim)
      obtain ⟨rfl, hI21, f21⟩ := p21
      have hM21 := (kMat i hi).fr f21 (by omega) (by omega) (by omega)
      dsimp only [Option.toList, List.cons_append, List.nil_append]
      refine wi_if_eq hX (tgt := 41) dX10_isSound_24 (by decide) (by omega) (fun c24 => ?_) (fun c24 => ?_)
      · skip
        exfalso; omega
      · skip
        refine wa_aload_n hX (i := 2) dX10_isSound_27 rfl rfl ?_
        refine wa_callS hX (c_X10_isDualOfDual hW d hM21 (hMt i hi) (hS i hi)) (by rfl) (by omega) (nA := 1) (by rfl) (by decide +kernel) rfl (by exact Nat.le_of_ble_eq_true rfl) dX10_isSound_28 (fun r28 h28 p28 => ?_) (fun _ _ q => q.elim)
        obtain ⟨rfl, f28⟩ := p28
        have hM28 := hM21.fr f28 (fun x => x) (fun x => x) (fun x => x)
        have hI28 := hI21.fr f28 (fun x hx => hx.elim)
        dsimp only [Option.toList, List.cons_append, List.nil_append]
        refine wi_if_eq hX (tgt := 41) dX10_isSound_31 (by decide) (by omega) (fun c31 => ?_) (fun c31 => ?_)
        · skip
          exfalso; omega
        · skip
          refine wa_aload_n hX (i := 2) dX10_isSound_34 rfl rfl ?_
          refine WA.room (k2 := 3 * (m - (i + 1)) + 0) (sl2 := 2054 * (m - (i + 1)) + 0) (by omega) (by omega) ?_
          refine wa_callS hX (c_X10_agrees hW d hM28 (hMt i hi) (hS i hi)) (by rfl) (by omega) (nA := 1) (by rfl) (by decide +kernel) rfl (by exact Nat.le_of_ble_eq_true rfl) dX10_isSound_35 (fun r35 h35 p35 => ?_) (fun _ _ q => q.elim)
          obtain ⟨rfl, qq35⟩ := p35; subst h35
          dsimp only [Option.toList, List.cons_append, List.nil_append]
          refine wi_if_ne hX (tgt := 43) dX10_isSound_38 (by decide) (by omega) (fun c38 => ?_) (fun c38 => ?_)
          · skip
            have f28' : Fr HF h h28 := (fz.trans (f21.mono (fun x hx => by omega))).trans (f28.mono (fun x hx => hx.elim))
            obtain ⟨⟨hc60, hw, hm24, hso, hbr, hD, hMt⟩, row, kept, tb, cb, pr, inn, mn, pf, ps, pa, x1, x2, x3, x4, P, k1, kR, k3, kT, kC, kP, kL, kM, kI, kMat⟩ := id hI28
            refine wa_aload_n hX (i := 0) dX10_isSound_43 rfl rfl ?_
            refine wa_iload_n hX (i := 1) dX10_isSound_44 rfl rfl ?_
            refine wi_iconst hX dX10_isSound_45 ?_
            refine wi_iadd hX dX10_isSound_46 ?_
            refine wa_put hX 11 k1 (Nat.le_of_ble_eq_true rfl) (by decide +kernel) (by rfl) (by rfl) (by rfl) dX10_isSound_47 ?_
            refine WA.heap (h2 := hset h28 a (10, oHou row kept m tb cb pr inn mn pf ps pa ((i + 1 : Nat) : Int))) rfl ?_
            refine WA.hgq (fun hA hhA => ?_)
            have b1 : hA a = some (10, oHou row kept m tb cb pr inn mn pf ps pa ((i + 1 : Nat) : Int)) := by rw [hhA]; exact hset_eq
            have f : Fr (fun x => x = 10) h28 hA := by rw [hhA]; exact Fr.hset Fr.rf k1 rfl
            have hIA : HI hA a w c m E R br bf bs be D2 D3 (i + 1) := ⟨⟨hc60, hw, hm24, by omega, hbr, hD, hMt⟩, row, kept, tb, cb, pr, inn, mn, pf, ps, pa, x1, x2, x3, x4, P, b1, kR.fr f (by omega) (by omega), f _ _ _ k3 (by omega), kT.fr f (fun y hy => by omega), kC.fr f (fun y hy => by omega), kP.fr f (fun y hy => by omega), kL.fr f (fun y hy => by omega), kM.fr f (by omega) (by omega), kI, fun j hj => (kMat j hj).fr f (by omega) (by omega) (by omega)⟩
            refine wi_iinc hX dX10_isSound_50 rfl ?_
            dsimp only [List.set]
            refine wa_goto hX (tgt := 5) dX10_isSound_53 (by decide) ?_
            exact ih (i + 1, hA, _) ⟨hi, hIA, f28'.trans (f.mono (fun x hx => by omega)), rfl⟩ (by show m - (i + 1) < m - i; omega)
          · skip
            exfalso; omega
  · have hze : z = m := by omega
    subst hze
    refine wa_iload_n hX (i := 1) dX10_isSound_5 rfl rfl ?_
    refine wa_aload_n hX (i := 0) dX10_isSound_6 rfl rfl ?_
    refine wa_get hX 2 (by assumption) (by rfl) (by decide +kernel) dX10_isSound_7 ?_
    refine wi_icmp_ge hX (tgt := 56) dX10_isSound_10 (by decide) (by omega) (by omega) (fun c10 => ?_) (fun c10 => ?_)
    · skip
      refine wi_iconst hX dX10_isSound_56 ?_
      refine wa_zret hX dX10_isSound_57 (by rfl) ?_
      exact ⟨rfl, hIz, fz⟩
    · skip
      exfalso; omega
end C75
