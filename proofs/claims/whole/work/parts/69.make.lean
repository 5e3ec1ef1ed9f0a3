/-! The house (X10): matroids that are made -/
theorem grt_iff {g : Nat → Nat} {b : Int} (hb : 0 ≤ b) : ∀ n, grt g n < b ↔ ∀ j, j < n → ((g j : Nat) : Int) < b := by
  intro n
  induction n with
  | zero => exact ⟨fun _ j hj => absurd hj (Nat.not_lt_zero j), fun _ => by show (-1 : Int) < b; omega⟩
  | succ n ih =>
    have e : grt g (n + 1) = max (grt g n) ((g n : Nat) : Int) := rfl
    rw [e]
    constructor
    · intro h j hj
      by_cases q : j = n
      · subst q; omega
      · exact ih.mp (by omega) j (by omega)
    · intro h
      have h1 := ih.mpr (fun j hj => h j (by omega))
      have h2 := h n (Nat.lt_succ_self n)
      omega
theorem Mtr.dual {e : Nat} {rk : Nat → Nat} (hM : Mtr e rk) {s : Nat} (hs : s < 2 ^ e) : rk (2 ^ e - 1) ≤ bc s + rk (sdf (2 ^ e - 1) s) := by
  have hp := p2_pos e
  have h1 := (hM.add (s := sdf (2 ^ e - 1) s) (sdf_lt (by omega)) hs).2
  have h2 : sdf (2 ^ e - 1) s ||| s = 2 ^ e - 1 := by
    apply Nat.eq_of_testBit_eq
    intro i
    rw [Nat.testBit_or, sdf_bit]
    have h3 := sbs_all hs i
    cases q1 : s.testBit i
    · simp
    · rw [h3 q1]; rfl
  rw [h2] at h1
  omega
section C69
variable {l : Launch} {D : va_G} {S0 : State}
set_option maxHeartbeats 2000000 in
set_option maxRecDepth 100000 in
theorem c_X10_uniform (hW : WOK l D S0) (d : Nat) {h : AH} {a : Nat} {w : Nat → Nat} {c m : Nat} {E : Nat → Nat} {R : Nat → Nat → Nat} {br bf bs be : Int} {D2 D3 : Nat → Bool} {so : Nat} (hI : HI h a w c m E R br bf bs be D2 D3 so) {x y : Int} (hx : inR x) (hy : inR y) (hN : ∀ r e : Nat, r ≤ e → e ≤ 10 → Mtr e (fun s => min r (bc s))) : MA l D S0 yX10_uniform cX10_uniform 3 (some .int) (d + 5) [.ref a, I x, I y] h 40 4200 (fun r h' => ∃ r0 e : Nat, (x = (r0 : Int) ∧ y = (e : Int) ∧ r0 ≤ e ∧ e ≤ 10) ∧ m < 24 ∧ r = some (I (m : Nat)) ∧ HI h' a w c (m + 1) (up E m (e)) (up R m (fun s => min r0 (bc s))) br bf bs be D2 D3 so ∧ Fr HF h h') (fun E' h' => h' = h ∧ ((¬ (0 ≤ x ∧ x ≤ y ∧ y ≤ 10) ∧ E' = eIAE) ∨ (0 ≤ x ∧ x ≤ y ∧ y ≤ 10 ∧ m = 24 ∧ E' = eISE))) := by
  obtain ⟨⟨hc60, hw, hm24, hso, hbr, hD, hMt⟩, row, kept, tb, cb, pr, inn, mn, pf, ps, pa, x1, x2, x3, x4, P, k1, kR, k3, kT, kC, kP, kL, kM, kI, kMat⟩ := id hI
  have fr : Fr (fun _ => False) h h := Fr.rf
  refine MA.start hW (by decide) [.val (.ref a), .val (I x), .val (I y)] rfl ?_
  rintro X rfl rfl rfl hX
  refine wa_iload_n hX (i := 1) dX10_uniform_0 rfl rfl ?_
  refine wi_if_lt hX (tgt := 21) dX10_uniform_1 (by decide) (by omega) (fun c1 => ?_) (fun c1 => ?_)
  · skip
    refine wa_throwS2 hX (ik := 58) (is := 85) (ic := 62) "java/lang/IllegalArgumentException" "no such rank or size" ["java/lang/RuntimeException", "java/lang/Exception"] (thr_ok (by decide +kernel) wx_IAE) rfl (by exact Nat.le_of_ble_eq_true rfl) dX10_uniform_21 dX10_uniform_24 dX10_uniform_25 dX10_uniform_27 dX10_uniform_30 ?_
    exact ⟨rfl, Or.inl ⟨by omega, rfl⟩⟩
  · skip
    refine wa_iload_n hX (i := 1) dX10_uniform_4 rfl rfl ?_
    refine wi_bipush hX dX10_uniform_5 (by decide) ?_
    refine wi_icmp_gt hX (tgt := 21) dX10_uniform_7 (by decide) (by omega) (by omega) (fun c7 => ?_) (fun c7 => ?_)
    · skip
      refine wa_throwS2 hX (ik := 58) (is := 85) (ic := 62) "java/lang/IllegalArgumentException" "no such rank or size" ["java/lang/RuntimeException", "java/lang/Exception"] (thr_ok (by decide +kernel) wx_IAE) rfl (by exact Nat.le_of_ble_eq_true rfl) dX10_uniform_21 dX10_uniform_24 dX10_uniform_25 dX10_uniform_27 dX10_uniform_30 ?_
      exact ⟨rfl, Or.inl ⟨by omega, rfl⟩⟩
    · skip
      refine wa_iload_n hX (i := 2) dX10_uniform_10 rfl rfl ?_
      refine wa_iload_n hX (i := 1) dX10_uniform_11 rfl rfl ?_
      refine wi_icmp_lt hX (tgt := 21) dX10_uniform_12 (by decide) (by omega) (by omega) (fun c12 => ?_) (fun c12 => ?_)
      · skip
        refine wa_throwS2 hX (ik := 58) (is := 85) (ic := 62) "java/lang/IllegalArgumentException" "no such rank or size" ["java/lang/RuntimeException", "java/lang/Exception"] (thr_ok (by decide +kernel) wx_IAE) rfl (by exact Nat.le_of_ble_eq_true rfl) dX10_uniform_21 dX10_uniform_24 dX10_uniform_25 dX10_uniform_27 dX10_uniform_30 ?_
        exact ⟨rfl, Or.inl ⟨by omega, rfl⟩⟩
      · skip
        refine wa_iload_n hX (i := 2) dX10_uniform_15 rfl rfl ?_
        refine wi_bipush hX dX10_uniform_16 (by decide) ?_
        refine wi_icmp_le hX (tgt := 31) dX10_uniform_18 (by decide) (by omega) (by omega) (fun c18 => ?_) (fun c18 => ?_)
        · skip
          refine wa_aload_n hX (i := 0) dX10_uniform_31 rfl rfl ?_
          obtain ⟨r0, rfl⟩ := Int.eq_ofNat_of_zero_le (show 0 ≤ x by omega)
          obtain ⟨e, rfl⟩ := Int.eq_ofNat_of_zero_le (show 0 ≤ y by omega)
          refine wa_callV hX (c_X10_needRoom hW d k1 hm24) (by assumption) (by rfl) (by rfl) (by omega) (nA := 0) (by rfl) (by decide +kernel) rfl (by exact Nat.le_of_ble_eq_true rfl) dX10_uniform_32 (fun r32 h32 p32 => ?_) (fun E' h' q => ⟨q.2.1, Or.inr ⟨by omega, by omega, by omega, q.2.2, q.1⟩⟩)
          obtain ⟨rfl, rfl, hm9⟩ := p32
          dsimp only [Option.toList, List.cons_append, List.nil_append]
          refine wa_aload_n hX (i := 0) dX10_uniform_35 rfl rfl ?_
          refine wa_iload_n hX (i := 1) dX10_uniform_36 rfl rfl ?_
          refine wa_iload_n hX (i := 2) dX10_uniform_37 rfl rfl ?_
          refine wa_callS hX (c_X9_ofUniform hW d (e := e) (r := r0) (by omega) (by omega)) (by rfl) (by omega) (nA := 2) (by rfl) (by decide +kernel) rfl (by exact Nat.le_of_ble_eq_true rfl) dX10_uniform_38 (fun r38 h38 p38 => ?_) (fun _ _ q => q.elim)
          obtain ⟨q, rfl, qn, rfl⟩ := p38
          refine WA.hnew qn (fun hh1 hN hK => ?_)
          replace fr := Fr.mk9 fr hK
          replace k1 := hK _ _ _ k1
          have Hq := hN
          clear hN hK
          dsimp only [Option.toList, List.cons_append, List.nil_append]
          have hI2 := hI.fr fr (fun x hx => hx.elim)
          refine wa_callV hX (c_X10_keep hW d hI2 Hq (hN r0 e (by omega) (by omega)) hm9) (by assumption) (by rfl) (by rfl) (by omega) (nA := 1) (by rfl) (by decide +kernel) rfl (by exact Nat.le_of_ble_eq_true rfl) dX10_uniform_41 (fun r41 h41 p41 => ?_) (fun _ _ q => q.elim)
          obtain ⟨rfl, hI3, f3⟩ := p41
          dsimp only [Option.toList, List.cons_append, List.nil_append]
          refine wa_iret hX dX10_uniform_44 ?_
          exact ⟨r0, e, ⟨rfl, rfl, by omega, by omega⟩, hm9, rfl, hI3, (fr.mono (fun x hx => hx.elim)).trans f3⟩
        · skip
          refine wa_throwS2 hX (ik := 58) (is := 85) (ic := 62) "java/lang/IllegalArgumentException" "no such rank or size" ["java/lang/RuntimeException", "java/lang/Exception"] (thr_ok (by decide +kernel) wx_IAE) rfl (by exact Nat.le_of_ble_eq_true rfl) dX10_uniform_21 dX10_uniform_24 dX10_uniform_25 dX10_uniform_27 dX10_uniform_30 ?_
          exact ⟨rfl, Or.inl ⟨by omega, rfl⟩⟩
set_option maxHeartbeats 2000000 in
set_option maxRecDepth 100000 in
theorem c_X10_dual (hW : WOK l D S0) (d : Nat) {h : AH} {a : Nat} {w : Nat → Nat} {c m : Nat} {E : Nat → Nat} {R : Nat → Nat → Nat} {br bf bs be : Int} {D2 D3 : Nat → Bool} {so : Nat} (hI : HI h a w c m E R br bf bs be D2 D3 so) {n : Int} (hn : inR n) (hN : ∀ i, i < m → Mtr (E i) (dualR (R i) (E i))) : MA l D S0 yX10_dual cX10_dual 3 (some .int) (d + 5) [.ref a, I n] h 40 4200 (fun r h' => ∃ i, (i < m ∧ n = (i : Int)) ∧ m < 24 ∧ r = some (I (m : Nat)) ∧ HI h' a w c (m + 1) (up E m (E i)) (up R m (dualR (R i) (E i))) br bf bs be D2 D3 so ∧ Fr HF h h') (fun E' h' => h' = h ∧ ((noM n m ∧ E' = eIOO) ∨ ∃ i, i < m ∧ n = (i : Int) ∧ m = 24 ∧ E' = eISE)) := by
  obtain ⟨⟨hc60, hw, hm24, hso, hbr, hD, hMt⟩, row, kept, tb, cb, pr, inn, mn, pf, ps, pa, x1, x2, x3, x4, P, k1, kR, k3, kT, kC, kP, kL, kM, kI, kMat⟩ := id hI
  have fr : Fr (fun _ => False) h h := Fr.rf
  refine MA.start hW (by decide) [.val (.ref a), .val (I n), .unset] rfl ?_
  rintro X rfl rfl rfl hX
  refine wa_aload_n hX (i := 0) dX10_dual_0 rfl rfl ?_
  refine wa_iload_n hX (i := 1) dX10_dual_1 rfl rfl ?_
  refine wa_callV hX (c_X10_find hW d k1 k3 hm24 hn) (by assumption) (by rfl) (by rfl) (by omega) (nA := 1) (by rfl) (by decide +kernel) rfl (by exact Nat.le_of_ble_eq_true rfl) dX10_dual_2 (fun r2 h2 p2 => ?_) (fun E' h' q => ⟨q.2.1, Or.inl ⟨q.2.2, q.1⟩⟩)
  obtain ⟨rfl, i, hi, rfl, rfl⟩ := p2
  obtain ⟨rq, hq, tq, sym, v2, v3, g1, g2, g3, g4, g5, g6, g7⟩ := kMat i hi
  have hMi := hMt i hi
  have he := hMi.1
  have hp := p2_le he
  have hp0 := p2_pos (E i)
  dsimp only [Option.toList, List.cons_append, List.nil_append]
  refine wa_astore_n hX (i := 2) dX10_dual_5 rfl rfl ?_
  dsimp only [List.set]
  refine wa_aload_n hX (i := 0) dX10_dual_6 rfl rfl ?_
  refine wa_callV hX (c_X10_needRoom hW d k1 hm24) (by assumption) (by rfl) (by rfl) (by omega) (nA := 0) (by rfl) (by decide +kernel) rfl (by exact Nat.le_of_ble_eq_true rfl) dX10_dual_7 (fun r7 h7 p7 => ?_) (fun E' h' q => ⟨q.2.1, Or.inr ⟨i, hi, rfl, q.2.2, q.1⟩⟩)
  obtain ⟨rfl, rfl, hm9⟩ := p7
  dsimp only [Option.toList, List.cons_append, List.nil_append]
  refine wa_aload_n hX (i := 0) dX10_dual_10 rfl rfl ?_
  refine wa_aload_n hX (i := 2) dX10_dual_11 rfl rfl ?_
  refine wa_get hX 3 (by assumption) (by rfl) (by decide +kernel) dX10_dual_12 ?_
  refine wa_callS hX (c_X9_ofDual hW d g2 he (fun s hs => hMi.le10 hs) (fun s hs => hMi.dual hs)) (by rfl) (by omega) (nA := 1) (by rfl) (by decide +kernel) rfl (by exact Nat.le_of_ble_eq_true rfl) dX10_dual_15 (fun r15 h15 p15 => ?_) (fun _ _ q => q.elim)
  obtain ⟨q, rfl, qn, rfl⟩ := p15
  refine WA.hnew qn (fun hh2 hN hK => ?_)
  replace fr := Fr.mk9 fr hK
  replace k1 := hK _ _ _ k1
  replace g2 := hK _ _ _ g2
  have Hq := hN
  clear hN hK
  dsimp only [Option.toList, List.cons_append, List.nil_append]
  have hI2 := hI.fr fr (fun x hx => hx.elim)
  refine wa_callV hX (c_X10_keep hW d hI2 Hq (hN i hi) hm9) (by assumption) (by rfl) (by rfl) (by omega) (nA := 1) (by rfl) (by decide +kernel) rfl (by exact Nat.le_of_ble_eq_true rfl) dX10_dual_18 (fun r18 h18 p18 => ?_) (fun _ _ q => q.elim)
  obtain ⟨rfl, hI3, f3⟩ := p18
  dsimp only [Option.toList, List.cons_append, List.nil_append]
  refine wa_iret hX dX10_dual_21 ?_
  exact ⟨i, ⟨hi, rfl⟩, hm9, rfl, hI3, (fr.mono (fun x hx => hx.elim)).trans f3⟩
set_option maxHeartbeats 2000000 in
set_option maxRecDepth 100000 in
theorem c_X10_delete (hW : WOK l D S0) (d : Nat) {h : AH} {a : Nat} {w : Nat → Nat} {c m : Nat} {E : Nat → Nat} {R : Nat → Nat → Nat} {br bf bs be : Int} {D2 D3 : Nat → Bool} {so : Nat} (hI : HI h a w c m E R br bf bs be D2 D3 so) {n : Int} (hn : inR n) {el : Int} (hl : inR el) (hN : ∀ i k, i < m → k < E i → Mtr (E i - 1) (partR (R i) k (0))) : MA l D S0 yX10_delete cX10_delete 4 (some .int) (d + 5) [.ref a, I n, I el] h 40 4200 (fun r h' => ∃ i k, (i < m ∧ n = (i : Int) ∧ k < E i ∧ el = (k : Int)) ∧ m < 24 ∧ r = some (I (m : Nat)) ∧ HI h' a w c (m + 1) (up E m (E i - 1)) (up R m (partR (R i) k (0))) br bf bs be D2 D3 so ∧ Fr HF h h') (fun E' h' => h' = h ∧ ((noM n m ∧ E' = eIOO) ∨ ∃ i, i < m ∧ n = (i : Int) ∧ ((¬ (0 ≤ el ∧ el < ((E i : Nat) : Int)) ∧ E' = eIOO) ∨ (0 ≤ el ∧ el < ((E i : Nat) : Int) ∧ m = 24 ∧ E' = eISE)))) := by
  obtain ⟨⟨hc60, hw, hm24, hso, hbr, hD, hMt⟩, row, kept, tb, cb, pr, inn, mn, pf, ps, pa, x1, x2, x3, x4, P, k1, kR, k3, kT, kC, kP, kL, kM, kI, kMat⟩ := id hI
  have fr : Fr (fun _ => False) h h := Fr.rf
  refine MA.start hW (by decide) [.val (.ref a), .val (I n), .val (I el), .unset] rfl ?_
  rintro X rfl rfl rfl hX
  refine wa_aload_n hX (i := 0) dX10_delete_0 rfl rfl ?_
  refine wa_iload_n hX (i := 1) dX10_delete_1 rfl rfl ?_
  refine wa_callV hX (c_X10_find hW d k1 k3 hm24 hn) (by assumption) (by rfl) (by rfl) (by omega) (nA := 1) (by rfl) (by decide +kernel) rfl (by exact Nat.le_of_ble_eq_true rfl) dX10_delete_2 (fun r2 h2 p2 => ?_) (fun E' h' q => ⟨q.2.1, Or.inl ⟨q.2.2, q.1⟩⟩)
  obtain ⟨rfl, i, hi, rfl, rfl⟩ := p2
  obtain ⟨rq, hq, tq, sym, v2, v3, g1, g2, g3, g4, g5, g6, g7⟩ := kMat i hi
  have hMi := hMt i hi
  have he := hMi.1
  have hp := p2_le he
  have hp0 := p2_pos (E i)
  dsimp only [Option.toList, List.cons_append, List.nil_append]
  refine wa_astore_n hX (i := 3) dX10_delete_5 rfl rfl ?_
  dsimp only [List.set]
  refine wa_aload_n hX (i := 3) dX10_delete_6 rfl rfl ?_
  refine wa_iload_n hX (i := 2) dX10_delete_7 rfl rfl ?_
  refine wa_callS hX (c_X10_needElement hW d g1 he hl) (by rfl) (by omega) (nA := 2) (by rfl) (by decide +kernel) rfl (by exact Nat.le_of_ble_eq_true rfl) dX10_delete_8 (fun r8 h8 p8 => ?_) (fun E' h' q => ⟨q.2.1, Or.inr ⟨i, hi, rfl, Or.inl ⟨q.2.2, q.1⟩⟩⟩)
  obtain ⟨rfl, rfl, hl0, hl1⟩ := p8
  obtain ⟨k, rfl⟩ := Int.eq_ofNat_of_zero_le hl0
  have hk : k < E i := by omega
  dsimp only [Option.toList, List.cons_append, List.nil_append]
  refine wa_aload_n hX (i := 0) dX10_delete_11 rfl rfl ?_
  refine wa_callV hX (c_X10_needRoom hW d k1 hm24) (by assumption) (by rfl) (by rfl) (by omega) (nA := 0) (by rfl) (by decide +kernel) rfl (by exact Nat.le_of_ble_eq_true rfl) dX10_delete_12 (fun r12 h12 p12 => ?_) (fun E' h' q => ⟨q.2.1, Or.inr ⟨i, hi, rfl, Or.inr ⟨by omega, by omega, q.2.2, q.1⟩⟩⟩)
  obtain ⟨rfl, rfl, hm9⟩ := p12
  dsimp only [Option.toList, List.cons_append, List.nil_append]
  refine wa_aload_n hX (i := 0) dX10_delete_15 rfl rfl ?_
  refine wa_aload_n hX (i := 3) dX10_delete_16 rfl rfl ?_
  refine wa_iload_n hX (i := 2) dX10_delete_17 rfl rfl ?_
  refine wi_iconst hX dX10_delete_18 ?_
  refine wa_callS hX (c_X9_ofPart hW d (ct := 0) g1 g2 he hk (fun s hs => hMi.le10 hs) (Or.inl ⟨rfl, rfl⟩) (fun s hs => hMi.mono (or_lt hs (by omega)) (fun i hi => by rw [Nat.testBit_or, hi, Bool.or_true]))) (by rfl) (by omega) (nA := 3) (by rfl) (by decide +kernel) rfl (by exact Nat.le_of_ble_eq_true rfl) dX10_delete_19 (fun r19 h19 p19 => ?_) (fun _ _ q => q.elim)
  obtain ⟨q, rfl, qn, rfl⟩ := p19
  refine WA.hnew qn (fun hh3 hN hK => ?_)
  replace fr := Fr.mk9 fr hK
  replace k1 := hK _ _ _ k1
  replace g1 := hK _ _ _ g1
  replace g2 := hK _ _ _ g2
  have Hq := hN
  clear hN hK
  dsimp only [Option.toList, List.cons_append, List.nil_append]
  have hI2 := hI.fr fr (fun x hx => hx.elim)
  refine wa_callV hX (c_X10_keep hW d hI2 Hq (hN i k hi hk) hm9) (by assumption) (by rfl) (by rfl) (by omega) (nA := 1) (by rfl) (by decide +kernel) rfl (by exact Nat.le_of_ble_eq_true rfl) dX10_delete_22 (fun r22 h22 p22 => ?_) (fun _ _ q => q.elim)
  obtain ⟨rfl, hI3, f3⟩ := p22
  dsimp only [Option.toList, List.cons_append, List.nil_append]
  refine wa_iret hX dX10_delete_25 ?_
  exact ⟨i, k, ⟨hi, rfl, hk, rfl⟩, hm9, rfl, hI3, (fr.mono (fun x hx => hx.elim)).trans f3⟩
set_option maxHeartbeats 2000000 in
set_option maxRecDepth 100000 in
theorem c_X10_contract (hW : WOK l D S0) (d : Nat) {h : AH} {a : Nat} {w : Nat → Nat} {c m : Nat} {E : Nat → Nat} {R : Nat → Nat → Nat} {br bf bs be : Int} {D2 D3 : Nat → Bool} {so : Nat} (hI : HI h a w c m E R br bf bs be D2 D3 so) {n : Int} (hn : inR n) {el : Int} (hl : inR el) (hN : ∀ i k, i < m → k < E i → Mtr (E i - 1) (partR (R i) k (2 ^ k))) : MA l D S0 yX10_contract cX10_contract 4 (some .int) (d + 5) [.ref a, I n, I el] h 40 4200 (fun r h' => ∃ i k, (i < m ∧ n = (i : Int) ∧ k < E i ∧ el = (k : Int)) ∧ m < 24 ∧ r = some (I (m : Nat)) ∧ HI h' a w c (m + 1) (up E m (E i - 1)) (up R m (partR (R i) k (2 ^ k))) br bf bs be D2 D3 so ∧ Fr HF h h') (fun E' h' => h' = h ∧ ((noM n m ∧ E' = eIOO) ∨ ∃ i, i < m ∧ n = (i : Int) ∧ ((¬ (0 ≤ el ∧ el < ((E i : Nat) : Int)) ∧ E' = eIOO) ∨ (0 ≤ el ∧ el < ((E i : Nat) : Int) ∧ m = 24 ∧ E' = eISE)))) := by
  obtain ⟨⟨hc60, hw, hm24, hso, hbr, hD, hMt⟩, row, kept, tb, cb, pr, inn, mn, pf, ps, pa, x1, x2, x3, x4, P, k1, kR, k3, kT, kC, kP, kL, kM, kI, kMat⟩ := id hI
  have fr : Fr (fun _ => False) h h := Fr.rf
  refine MA.start hW (by decide) [.val (.ref a), .val (I n), .val (I el), .unset] rfl ?_
  rintro X rfl rfl rfl hX
  refine wa_aload_n hX (i := 0) dX10_contract_0 rfl rfl ?_
  refine wa_iload_n hX (i := 1) dX10_contract_1 rfl rfl ?_
  refine wa_callV hX (c_X10_find hW d k1 k3 hm24 hn) (by assumption) (by rfl) (by rfl) (by omega) (nA := 1) (by rfl) (by decide +kernel) rfl (by exact Nat.le_of_ble_eq_true rfl) dX10_contract_2 (fun r2 h2 p2 => ?_) (fun E' h' q => ⟨q.2.1, Or.inl ⟨q.2.2, q.1⟩⟩)
  obtain ⟨rfl, i, hi, rfl, rfl⟩ := p2
  obtain ⟨rq, hq, tq, sym, v2, v3, g1, g2, g3, g4, g5, g6, g7⟩ := kMat i hi
  have hMi := hMt i hi
  have he := hMi.1
  have hp := p2_le he
  have hp0 := p2_pos (E i)
  dsimp only [Option.toList, List.cons_append, List.nil_append]
  refine wa_astore_n hX (i := 3) dX10_contract_5 rfl rfl ?_
  dsimp only [List.set]
  refine wa_aload_n hX (i := 3) dX10_contract_6 rfl rfl ?_
  refine wa_iload_n hX (i := 2) dX10_contract_7 rfl rfl ?_
  refine wa_callS hX (c_X10_needElement hW d g1 he hl) (by rfl) (by omega) (nA := 2) (by rfl) (by decide +kernel) rfl (by exact Nat.le_of_ble_eq_true rfl) dX10_contract_8 (fun r8 h8 p8 => ?_) (fun E' h' q => ⟨q.2.1, Or.inr ⟨i, hi, rfl, Or.inl ⟨q.2.2, q.1⟩⟩⟩)
  obtain ⟨rfl, rfl, hl0, hl1⟩ := p8
  obtain ⟨k, rfl⟩ := Int.eq_ofNat_of_zero_le hl0
  have hk : k < E i := by omega
  dsimp only [Option.toList, List.cons_append, List.nil_append]
  refine wa_aload_n hX (i := 0) dX10_contract_11 rfl rfl ?_
  refine wa_callV hX (c_X10_needRoom hW d k1 hm24) (by assumption) (by rfl) (by rfl) (by omega) (nA := 0) (by rfl) (by decide +kernel) rfl (by exact Nat.le_of_ble_eq_true rfl) dX10_contract_12 (fun r12 h12 p12 => ?_) (fun E' h' q => ⟨q.2.1, Or.inr ⟨i, hi, rfl, Or.inr ⟨by omega, by omega, q.2.2, q.1⟩⟩⟩)
  obtain ⟨rfl, rfl, hm9⟩ := p12
  dsimp only [Option.toList, List.cons_append, List.nil_append]
  refine wa_aload_n hX (i := 0) dX10_contract_15 rfl rfl ?_
  refine wa_aload_n hX (i := 3) dX10_contract_16 rfl rfl ?_
  refine wa_iload_n hX (i := 2) dX10_contract_17 rfl rfl ?_
  refine wi_iconst hX dX10_contract_18 ?_
  refine wa_callS hX (c_X9_ofPart hW d (ct := 2 ^ k) g1 g2 he hk (fun s hs => hMi.le10 hs) (Or.inr ⟨rfl, rfl⟩) (fun s hs => hMi.mono (or_lt hs (bit_lt hk)) (fun i hi => by rw [Nat.testBit_or, hi, Bool.or_true]))) (by rfl) (by omega) (nA := 3) (by rfl) (by decide +kernel) rfl (by exact Nat.le_of_ble_eq_true rfl) dX10_contract_19 (fun r19 h19 p19 => ?_) (fun _ _ q => q.elim)
  obtain ⟨q, rfl, qn, rfl⟩ := p19
  refine WA.hnew qn (fun hh4 hN hK => ?_)
  replace fr := Fr.mk9 fr hK
  replace k1 := hK _ _ _ k1
  replace g1 := hK _ _ _ g1
  replace g2 := hK _ _ _ g2
  have Hq := hN
  clear hN hK
  dsimp only [Option.toList, List.cons_append, List.nil_append]
  have hI2 := hI.fr fr (fun x hx => hx.elim)
  refine wa_callV hX (c_X10_keep hW d hI2 Hq (hN i k hi hk) hm9) (by assumption) (by rfl) (by rfl) (by omega) (nA := 1) (by rfl) (by decide +kernel) rfl (by exact Nat.le_of_ble_eq_true rfl) dX10_contract_22 (fun r22 h22 p22 => ?_) (fun _ _ q => q.elim)
  obtain ⟨rfl, hI3, f3⟩ := p22
  dsimp only [Option.toList, List.cons_append, List.nil_append]
  refine wa_iret hX dX10_contract_25 ?_
  exact ⟨i, k, ⟨hi, rfl, hk, rfl⟩, hm9, rfl, hI3, (fr.mono (fun x hx => hx.elim)).trans f3⟩
set_option maxHeartbeats 2000000 in
set_option maxRecDepth 100000 in
theorem c_X10_sum (hW : WOK l D S0) (d : Nat) {h : AH} {a : Nat} {w : Nat → Nat} {c m : Nat} {E : Nat → Nat} {R : Nat → Nat → Nat} {br bf bs be : Int} {D2 D3 : Nat → Bool} {so : Nat} (hI : HI h a w c m E R br bf bs be D2 D3 so) {n n2 : Int} (hn : inR n) (hn2 : inR n2) (hN : ∀ i j, i < m → j < m → E i + E j ≤ 10 → Mtr (E i + E j) (sumR (R i) (R j) (E i))) : MA l D S0 yX10_sum cX10_sum 5 (some .int) (d + 5) [.ref a, I n, I n2] h 40 4200 (fun r h' => ∃ i j, (i < m ∧ n = (i : Int) ∧ j < m ∧ n2 = (j : Int) ∧ E i + E j ≤ 10) ∧ m < 24 ∧ r = some (I (m : Nat)) ∧ HI h' a w c (m + 1) (up E m (E i + E j)) (up R m (sumR (R i) (R j) (E i))) br bf bs be D2 D3 so ∧ Fr HF h h') (fun E' h' => h' = h ∧ (((noM n m ∨ noM n2 m) ∧ E' = eIOO) ∨ ∃ i j, i < m ∧ n = (i : Int) ∧ j < m ∧ n2 = (j : Int) ∧ ((10 < E i + E j ∧ E' = eUOE) ∨ (E i + E j ≤ 10 ∧ m = 24 ∧ E' = eISE)))) := by
  obtain ⟨⟨hc60, hw, hm24, hso, hbr, hD, hMt⟩, row, kept, tb, cb, pr, inn, mn, pf, ps, pa, x1, x2, x3, x4, P, k1, kR, k3, kT, kC, kP, kL, kM, kI, kMat⟩ := id hI
  have fr : Fr (fun _ => False) h h := Fr.rf
  refine MA.start hW (by decide) [.val (.ref a), .val (I n), .val (I n2), .unset, .unset] rfl ?_
  rintro X rfl rfl rfl hX
  refine wa_aload_n hX (i := 0) dX10_sum_0 rfl rfl ?_
  refine wa_iload_n hX (i := 1) dX10_sum_1 rfl rfl ?_
  refine wa_callV hX (c_X10_find hW d k1 k3 hm24 hn) (by assumption) (by rfl) (by rfl) (by omega) (nA := 1) (by rfl) (by decide +kernel) rfl (by exact Nat.le_of_ble_eq_true rfl) dX10_sum_2 (fun r2 h2 p2 => ?_) (fun E' h' q => ⟨q.2.1, Or.inl ⟨Or.inl q.2.2, q.1⟩⟩)
  obtain ⟨rfl, i, hi, rfl, rfl⟩ := p2
  obtain ⟨rq, hq, tq, sym, v2, v3, g1, g2, g3, g4, g5, g6, g7⟩ := kMat i hi
  have hMi := hMt i hi
  have he := hMi.1
  have hp := p2_le he
  have hp0 := p2_pos (E i)
  dsimp only [Option.toList, List.cons_append, List.nil_append]
  refine wa_astore_n hX (i := 3) dX10_sum_5 rfl rfl ?_
  dsimp only [List.set]
  refine wa_aload_n hX (i := 0) dX10_sum_6 rfl rfl ?_
  refine wa_iload_n hX (i := 2) dX10_sum_7 rfl rfl ?_
  refine wa_callV hX (c_X10_find hW d k1 k3 hm24 hn2) (by assumption) (by rfl) (by rfl) (by omega) (nA := 1) (by rfl) (by decide +kernel) rfl (by exact Nat.le_of_ble_eq_true rfl) dX10_sum_8 (fun r8 h8 p8 => ?_) (fun E' h' q => ⟨q.2.1, Or.inl ⟨Or.inr q.2.2, q.1⟩⟩)
  obtain ⟨rfl, j, hj, rfl, rfl⟩ := p8
  obtain ⟨rq', hq', tq', sym', v2', v3', y1, y2, y3, y4, y5, y6, y7⟩ := kMat j hj
  have hMj := hMt j hj
  have hej := hMj.1
  dsimp only [Option.toList, List.cons_append, List.nil_append]
  refine wa_astore hX dX10_sum_11 rfl ?_
  dsimp only [List.set]
  refine wa_aload_n hX (i := 3) dX10_sum_13 rfl rfl ?_
  refine wa_get hX 0 (by assumption) (by rfl) (by decide +kernel) dX10_sum_14 ?_
  refine wa_aload hX dX10_sum_17 rfl ?_
  refine wa_get hX 0 (by assumption) (by rfl) (by decide +kernel) dX10_sum_19 ?_
  refine wi_iadd hX dX10_sum_22 ?_
  refine wi_bipush hX dX10_sum_23 (by decide) ?_
  refine wi_icmp_le hX (tgt := 38) dX10_sum_25 (by decide) (by omega) (by omega) (fun c25 => ?_) (fun c25 => ?_)
  · skip
    refine wa_aload_n hX (i := 0) dX10_sum_38 rfl rfl ?_
    refine wa_callV hX (c_X10_needRoom hW d k1 hm24) (by assumption) (by rfl) (by rfl) (by omega) (nA := 0) (by rfl) (by decide +kernel) rfl (by exact Nat.le_of_ble_eq_true rfl) dX10_sum_39 (fun r39 h39 p39 => ?_) (fun E' h' q => ⟨q.2.1, Or.inr ⟨i, j, hi, rfl, hj, rfl, Or.inr ⟨by omega, q.2.2, q.1⟩⟩⟩)
    obtain ⟨rfl, rfl, hm9⟩ := p39
    dsimp only [Option.toList, List.cons_append, List.nil_append]
    refine wa_aload_n hX (i := 0) dX10_sum_42 rfl rfl ?_
    refine wa_aload_n hX (i := 3) dX10_sum_43 rfl rfl ?_
    refine wa_aload hX dX10_sum_44 rfl ?_
    refine wa_callS hX (c_X9_ofSum hW d g1 g2 y1 y2 (by omega) (fun s hs => hMi.le10 hs) (fun s hs => hMj.le10 hs)) (by rfl) (by omega) (nA := 2) (by rfl) (by decide +kernel) rfl (by exact Nat.le_of_ble_eq_true rfl) dX10_sum_46 (fun r46 h46 p46 => ?_) (fun _ _ q => q.elim)
    obtain ⟨q, rfl, qn, rfl⟩ := p46
    refine WA.hnew qn (fun hh5 hN hK => ?_)
    replace fr := Fr.mk9 fr hK
    replace k1 := hK _ _ _ k1
    have Hq := hN
    clear hN hK
    dsimp only [Option.toList, List.cons_append, List.nil_append]
    have hI2 := hI.fr fr (fun x hx => hx.elim)
    refine wa_callV hX (c_X10_keep hW d hI2 Hq (hN i j hi hj (by omega)) hm9) (by assumption) (by rfl) (by rfl) (by omega) (nA := 1) (by rfl) (by decide +kernel) rfl (by exact Nat.le_of_ble_eq_true rfl) dX10_sum_49 (fun r49 h49 p49 => ?_) (fun _ _ q => q.elim)
    obtain ⟨rfl, hI3, f3⟩ := p49
    dsimp only [Option.toList, List.cons_append, List.nil_append]
    refine wa_iret hX dX10_sum_52 ?_
    exact ⟨i, j, ⟨hi, rfl, hj, rfl, by omega⟩, hm9, rfl, hI3, (fr.mono (fun x hx => hx.elim)).trans f3⟩
  · skip
    refine wa_throwS2 hX (ik := 103) (is := 194) (ic := 107) "java/lang/UnsupportedOperationException" "the sum would have more than 10 elements" ["java/lang/RuntimeException", "java/lang/Exception"] (thr_ok (by decide +kernel) wx_UOE) rfl (by exact Nat.le_of_ble_eq_true rfl) dX10_sum_28 dX10_sum_31 dX10_sum_32 dX10_sum_34 dX10_sum_37 ?_
    exact ⟨rfl, Or.inr ⟨i, j, hi, rfl, hj, rfl, Or.inl ⟨by omega, rfl⟩⟩⟩
set_option maxHeartbeats 2000000 in
set_option maxRecDepth 100000 in
theorem c_X10_union (hW : WOK l D S0) (d : Nat) {h : AH} {a : Nat} {w : Nat → Nat} {c m : Nat} {E : Nat → Nat} {R : Nat → Nat → Nat} {br bf bs be : Int} {D2 D3 : Nat → Bool} {so : Nat} (hI : HI h a w c m E R br bf bs be D2 D3 so) {n n2 : Int} (hn : inR n) (hn2 : inR n2) (hN : ∀ i j, i < m → j < m → E i = E j → Mtr (E i) (rkT (fun s => b2n (parted (sortN (R i) (E i)) (sortN (R j) (E i)) s)) (E i) (2 ^ E i))) : MA l D S0 yX10_union cX10_union 5 (some .int) (d + 5) [.ref a, I n, I n2] h 40 4200 (fun r h' => ∃ i j, (i < m ∧ n = (i : Int) ∧ j < m ∧ n2 = (j : Int) ∧ E i = E j) ∧ m < 24 ∧ r = some (I (m : Nat)) ∧ HI h' a w c (m + 1) (up E m (E i)) (up R m (rkT (fun s => b2n (parted (sortN (R i) (E i)) (sortN (R j) (E i)) s)) (E i) (2 ^ E i))) br bf bs be D2 D3 so ∧ Fr HF h h') (fun E' h' => h' = h ∧ (((noM n m ∨ noM n2 m) ∧ E' = eIOO) ∨ ∃ i j, i < m ∧ n = (i : Int) ∧ j < m ∧ n2 = (j : Int) ∧ ((E i ≠ E j ∧ E' = eUOE) ∨ (E i = E j ∧ m = 24 ∧ E' = eISE)))) := by
  obtain ⟨⟨hc60, hw, hm24, hso, hbr, hD, hMt⟩, row, kept, tb, cb, pr, inn, mn, pf, ps, pa, x1, x2, x3, x4, P, k1, kR, k3, kT, kC, kP, kL, kM, kI, kMat⟩ := id hI
  have fr : Fr (fun _ => False) h h := Fr.rf
  refine MA.start hW (by decide) [.val (.ref a), .val (I n), .val (I n2), .unset, .unset] rfl ?_
  rintro X rfl rfl rfl hX
  refine wa_aload_n hX (i := 0) dX10_union_0 rfl rfl ?_
  refine wa_iload_n hX (i := 1) dX10_union_1 rfl rfl ?_
  refine wa_callV hX (c_X10_find hW d k1 k3 hm24 hn) (by assumption) (by rfl) (by rfl) (by omega) (nA := 1) (by rfl) (by decide +kernel) rfl (by exact Nat.le_of_ble_eq_true rfl) dX10_union_2 (fun r2 h2 p2 => ?_) (fun E' h' q => ⟨q.2.1, Or.inl ⟨Or.inl q.2.2, q.1⟩⟩)
  obtain ⟨rfl, i, hi, rfl, rfl⟩ := p2
  obtain ⟨rq, hq, tq, sym, v2, v3, g1, g2, g3, g4, g5, g6, g7⟩ := kMat i hi
  have hMi := hMt i hi
  have he := hMi.1
  have hp := p2_le he
  have hp0 := p2_pos (E i)
  dsimp only [Option.toList, List.cons_append, List.nil_append]
  refine wa_astore_n hX (i := 3) dX10_union_5 rfl rfl ?_
  dsimp only [List.set]
  refine wa_aload_n hX (i := 0) dX10_union_6 rfl rfl ?_
  refine wa_iload_n hX (i := 2) dX10_union_7 rfl rfl ?_
  refine wa_callV hX (c_X10_find hW d k1 k3 hm24 hn2) (by assumption) (by rfl) (by rfl) (by omega) (nA := 1) (by rfl) (by decide +kernel) rfl (by exact Nat.le_of_ble_eq_true rfl) dX10_union_8 (fun r8 h8 p8 => ?_) (fun E' h' q => ⟨q.2.1, Or.inl ⟨Or.inr q.2.2, q.1⟩⟩)
  obtain ⟨rfl, j, hj, rfl, rfl⟩ := p8
  obtain ⟨rq', hq', tq', sym', v2', v3', y1, y2, y3, y4, y5, y6, y7⟩ := kMat j hj
  have hMj := hMt j hj
  have hej := hMj.1
  dsimp only [Option.toList, List.cons_append, List.nil_append]
  refine wa_astore hX dX10_union_11 rfl ?_
  dsimp only [List.set]
  refine wa_aload_n hX (i := 3) dX10_union_13 rfl rfl ?_
  refine wa_aload hX dX10_union_14 rfl ?_
  refine wa_callS hX (c_X10_needSameSize hW d g1 y1 he hej) (by rfl) (by omega) (nA := 2) (by rfl) (by decide +kernel) rfl (by exact Nat.le_of_ble_eq_true rfl) dX10_union_16 (fun r16 h16 p16 => ?_) (fun E' h' q => ⟨q.2.1, Or.inr ⟨i, j, hi, rfl, hj, rfl, Or.inl ⟨q.2.2, q.1⟩⟩⟩)
  obtain ⟨rfl, rfl, hE⟩ := p16
  rw [← hE] at y1 y2 y3 y4
  dsimp only [Option.toList, List.cons_append, List.nil_append]
  refine wa_aload_n hX (i := 0) dX10_union_19 rfl rfl ?_
  refine wa_callV hX (c_X10_needRoom hW d k1 hm24) (by assumption) (by rfl) (by rfl) (by omega) (nA := 0) (by rfl) (by decide +kernel) rfl (by exact Nat.le_of_ble_eq_true rfl) dX10_union_20 (fun r20 h20 p20 => ?_) (fun E' h' q => ⟨q.2.1, Or.inr ⟨i, j, hi, rfl, hj, rfl, Or.inr ⟨hE, q.2.2, q.1⟩⟩⟩)
  obtain ⟨rfl, rfl, hm9⟩ := p20
  dsimp only [Option.toList, List.cons_append, List.nil_append]
  refine wa_aload_n hX (i := 0) dX10_union_23 rfl rfl ?_
  refine wa_aload_n hX (i := 3) dX10_union_24 rfl rfl ?_
  refine wa_aload hX dX10_union_25 rfl ?_
  refine wa_callS hX (c_X9_ofUnion hW d g1 g4 y1 y4 he (fun j _ => sortN_lt _ _ j) (fun j _ => sortN_lt _ _ j) (srt_ind.mpr hMi.2.1)) (by rfl) (by omega) (nA := 2) (by rfl) (by decide +kernel) rfl (by exact Nat.le_of_ble_eq_true rfl) dX10_union_27 (fun r27 h27 p27 => ?_) (fun _ _ q => q.elim)
  obtain ⟨q, rfl, qn, rfl⟩ := p27
  refine WA.hnew qn (fun hh6 hN hK => ?_)
  replace fr := Fr.mk9 fr hK
  replace k1 := hK _ _ _ k1
  have Hq := hN
  clear hN hK
  dsimp only [Option.toList, List.cons_append, List.nil_append]
  have hI2 := hI.fr fr (fun x hx => hx.elim)
  refine wa_callV hX (c_X10_keep hW d hI2 Hq (hN i j hi hj hE) hm9) (by assumption) (by rfl) (by rfl) (by omega) (nA := 1) (by rfl) (by decide +kernel) rfl (by exact Nat.le_of_ble_eq_true rfl) dX10_union_30 (fun r30 h30 p30 => ?_) (fun _ _ q => q.elim)
  obtain ⟨rfl, hI3, f3⟩ := p30
  dsimp only [Option.toList, List.cons_append, List.nil_append]
  refine wa_iret hX dX10_union_33 ?_
  exact ⟨i, j, ⟨hi, rfl, hj, rfl, hE⟩, hm9, rfl, hI3, (fr.mono (fun x hx => hx.elim)).trans f3⟩
set_option maxHeartbeats 2000000 in
set_option maxRecDepth 100000 in
theorem c_X10_truncate (hW : WOK l D S0) (d : Nat) {h : AH} {a : Nat} {w : Nat → Nat} {c m : Nat} {E : Nat → Nat} {R : Nat → Nat → Nat} {br bf bs be : Int} {D2 D3 : Nat → Bool} {so : Nat} (hI : HI h a w c m E R br bf bs be D2 D3 so) {n : Int} (hn : inR n) (hN : ∀ i, i < m → R i (2 ^ E i - 1) ≠ 0 → Mtr (E i) (fun s => min (R i s) (R i (2 ^ E i - 1) - 1))) : MA l D S0 yX10_truncate cX10_truncate 3 (some .int) (d + 5) [.ref a, I n] h 40 4200 (fun r h' => ∃ i, (i < m ∧ n = (i : Int) ∧ R i (2 ^ E i - 1) ≠ 0) ∧ m < 24 ∧ r = some (I (m : Nat)) ∧ HI h' a w c (m + 1) (up E m (E i)) (up R m (fun s => min (R i s) (R i (2 ^ E i - 1) - 1))) br bf bs be D2 D3 so ∧ Fr HF h h') (fun E' h' => h' = h ∧ ((noM n m ∧ E' = eIOO) ∨ ∃ i, i < m ∧ n = (i : Int) ∧ ((R i (2 ^ E i - 1) = 0 ∧ E' = eUOE) ∨ (R i (2 ^ E i - 1) ≠ 0 ∧ m = 24 ∧ E' = eISE)))) := by
  obtain ⟨⟨hc60, hw, hm24, hso, hbr, hD, hMt⟩, row, kept, tb, cb, pr, inn, mn, pf, ps, pa, x1, x2, x3, x4, P, k1, kR, k3, kT, kC, kP, kL, kM, kI, kMat⟩ := id hI
  have fr : Fr (fun _ => False) h h := Fr.rf
  refine MA.start hW (by decide) [.val (.ref a), .val (I n), .unset] rfl ?_
  rintro X rfl rfl rfl hX
  refine wa_aload_n hX (i := 0) dX10_truncate_0 rfl rfl ?_
  refine wa_iload_n hX (i := 1) dX10_truncate_1 rfl rfl ?_
  refine wa_callV hX (c_X10_find hW d k1 k3 hm24 hn) (by assumption) (by rfl) (by rfl) (by omega) (nA := 1) (by rfl) (by decide +kernel) rfl (by exact Nat.le_of_ble_eq_true rfl) dX10_truncate_2 (fun r2 h2 p2 => ?_) (fun E' h' q => ⟨q.2.1, Or.inl ⟨q.2.2, q.1⟩⟩)
  obtain ⟨rfl, i, hi, rfl, rfl⟩ := p2
  obtain ⟨rq, hq, tq, sym, v2, v3, g1, g2, g3, g4, g5, g6, g7⟩ := kMat i hi
  have hMi := hMt i hi
  have he := hMi.1
  have hp := p2_le he
  have hp0 := p2_pos (E i)
  have hf10 := hMi.le10 (show 2 ^ E i - 1 < 2 ^ E i by omega)
  dsimp only [Option.toList, List.cons_append, List.nil_append]
  refine wa_astore_n hX (i := 2) dX10_truncate_5 rfl rfl ?_
  dsimp only [List.set]
  refine wa_aload_n hX (i := 2) dX10_truncate_6 rfl rfl ?_
  refine wa_callS hX (c_X10_needRank hW d g1 hf10) (by rfl) (by omega) (nA := 1) (by rfl) (by decide +kernel) rfl (by exact Nat.le_of_ble_eq_true rfl) dX10_truncate_7 (fun r7 h7 p7 => ?_) (fun E' h' q => ⟨q.2.1, Or.inr ⟨i, hi, rfl, Or.inl ⟨q.2.2, q.1⟩⟩⟩)
  obtain ⟨rfl, rfl, hf0⟩ := p7
  dsimp only [Option.toList, List.cons_append, List.nil_append]
  refine wa_aload_n hX (i := 0) dX10_truncate_10 rfl rfl ?_
  refine wa_callV hX (c_X10_needRoom hW d k1 hm24) (by assumption) (by rfl) (by rfl) (by omega) (nA := 0) (by rfl) (by decide +kernel) rfl (by exact Nat.le_of_ble_eq_true rfl) dX10_truncate_11 (fun r11 h11 p11 => ?_) (fun E' h' q => ⟨q.2.1, Or.inr ⟨i, hi, rfl, Or.inr ⟨hf0, q.2.2, q.1⟩⟩⟩)
  obtain ⟨rfl, rfl, hm9⟩ := p11
  dsimp only [Option.toList, List.cons_append, List.nil_append]
  refine wa_aload_n hX (i := 0) dX10_truncate_14 rfl rfl ?_
  refine wa_aload_n hX (i := 2) dX10_truncate_15 rfl rfl ?_
  refine wa_callS hX (c_X9_ofTruncation hW d g1 g2 he (fun s hs => hMi.le10 hs) (by omega) hf10) (by rfl) (by omega) (nA := 1) (by rfl) (by decide +kernel) rfl (by exact Nat.le_of_ble_eq_true rfl) dX10_truncate_16 (fun r16 h16 p16 => ?_) (fun _ _ q => q.elim)
  obtain ⟨q, rfl, qn, rfl⟩ := p16
  refine WA.hnew qn (fun hh7 hN hK => ?_)
  replace fr := Fr.mk9 fr hK
  replace k1 := hK _ _ _ k1
  have Hq := hN
  clear hN hK
  dsimp only [Option.toList, List.cons_append, List.nil_append]
  have hI2 := hI.fr fr (fun x hx => hx.elim)
  refine wa_callV hX (c_X10_keep hW d hI2 Hq (hN i hi hf0) hm9) (by assumption) (by rfl) (by rfl) (by omega) (nA := 1) (by rfl) (by decide +kernel) rfl (by exact Nat.le_of_ble_eq_true rfl) dX10_truncate_19 (fun r19 h19 p19 => ?_) (fun _ _ q => q.elim)
  obtain ⟨rfl, hI3, f3⟩ := p19
  dsimp only [Option.toList, List.cons_append, List.nil_append]
  refine wa_iret hX dX10_truncate_22 ?_
  exact ⟨i, ⟨hi, rfl, hf0⟩, hm9, rfl, hI3, (fr.mono (fun x hx => hx.elim)).trans f3⟩
set_option maxHeartbeats 2000000 in
set_option maxRecDepth 100000 in
theorem c_X10_extend (hW : WOK l D S0) (d : Nat) {h : AH} {a : Nat} {w : Nat → Nat} {c m : Nat} {E : Nat → Nat} {R : Nat → Nat → Nat} {br bf bs be : Int} {D2 D3 : Nat → Bool} {so : Nat} (hI : HI h a w c m E R br bf bs be D2 D3 so) {n : Int} (hn : inR n) {s : Int} (hs : inR s) (hN : ∀ i t : Nat, i < m → t < 2 ^ E i → E i ≤ 9 → Mtr (E i + 1) (extR (R i) (E i) t)) : MA l D S0 yX10_extend cX10_extend 4 (some .int) (d + 5) [.ref a, I n, I s] h 40 4200 (fun r h' => ∃ i t : Nat, (i < m ∧ n = (i : Int) ∧ t < 2 ^ E i ∧ s = (t : Int) ∧ E i ≤ 9) ∧ m < 24 ∧ r = some (I (m : Nat)) ∧ HI h' a w c (m + 1) (up E m (E i + 1)) (up R m (extR (R i) (E i) t)) br bf bs be D2 D3 so ∧ Fr HF h h') (fun E' h' => h' = h ∧ ((noM n m ∧ E' = eIOO) ∨ ∃ i, i < m ∧ n = (i : Int) ∧ ((¬ (0 ≤ s ∧ s < ((2 ^ E i : Nat) : Int)) ∧ E' = eIAE) ∨ (0 ≤ s ∧ s < ((2 ^ E i : Nat) : Int) ∧ ((E i = 10 ∧ E' = eUOE) ∨ (E i ≤ 9 ∧ m = 24 ∧ E' = eISE)))))) := by
  obtain ⟨⟨hc60, hw, hm24, hso, hbr, hD, hMt⟩, row, kept, tb, cb, pr, inn, mn, pf, ps, pa, x1, x2, x3, x4, P, k1, kR, k3, kT, kC, kP, kL, kM, kI, kMat⟩ := id hI
  have fr : Fr (fun _ => False) h h := Fr.rf
  refine MA.start hW (by decide) [.val (.ref a), .val (I n), .val (I s), .unset] rfl ?_
  rintro X rfl rfl rfl hX
  refine wa_aload_n hX (i := 0) dX10_extend_0 rfl rfl ?_
  refine wa_iload_n hX (i := 1) dX10_extend_1 rfl rfl ?_
  refine wa_callV hX (c_X10_find hW d k1 k3 hm24 hn) (by assumption) (by rfl) (by rfl) (by omega) (nA := 1) (by rfl) (by decide +kernel) rfl (by exact Nat.le_of_ble_eq_true rfl) dX10_extend_2 (fun r2 h2 p2 => ?_) (fun E' h' q => ⟨q.2.1, Or.inl ⟨q.2.2, q.1⟩⟩)
  obtain ⟨rfl, i, hi, rfl, rfl⟩ := p2
  obtain ⟨rq, hq, tq, sym, v2, v3, g1, g2, g3, g4, g5, g6, g7⟩ := kMat i hi
  have hMi := hMt i hi
  have he := hMi.1
  have hp := p2_le he
  have hp0 := p2_pos (E i)
  dsimp only [Option.toList, List.cons_append, List.nil_append]
  refine wa_astore_n hX (i := 3) dX10_extend_5 rfl rfl ?_
  dsimp only [List.set]
  refine wa_aload_n hX (i := 3) dX10_extend_6 rfl rfl ?_
  refine wa_iload_n hX (i := 2) dX10_extend_7 rfl rfl ?_
  refine wa_callS hX (c_X10_needSet hW d g1 he hs) (by rfl) (by omega) (nA := 2) (by rfl) (by decide +kernel) rfl (by exact Nat.le_of_ble_eq_true rfl) dX10_extend_8 (fun r8 h8 p8 => ?_) (fun E' h' q => ⟨q.2.1, Or.inr ⟨i, hi, rfl, Or.inl ⟨q.2.2, q.1⟩⟩⟩)
  obtain ⟨rfl, rfl, hs0, hs1⟩ := p8
  obtain ⟨t, rfl⟩ := Int.eq_ofNat_of_zero_le hs0
  have ht : t < 2 ^ E i := by omega
  dsimp only [Option.toList, List.cons_append, List.nil_append]
  refine wa_aload_n hX (i := 3) dX10_extend_11 rfl rfl ?_
  refine wa_get hX 0 (by assumption) (by rfl) (by decide +kernel) dX10_extend_12 ?_
  refine wi_bipush hX dX10_extend_15 (by decide) ?_
  refine wi_icmp_lt hX (tgt := 30) dX10_extend_17 (by decide) (by omega) (by omega) (fun c17 => ?_) (fun c17 => ?_)
  · skip
    refine wa_aload_n hX (i := 0) dX10_extend_30 rfl rfl ?_
    refine wa_callV hX (c_X10_needRoom hW d k1 hm24) (by assumption) (by rfl) (by rfl) (by omega) (nA := 0) (by rfl) (by decide +kernel) rfl (by exact Nat.le_of_ble_eq_true rfl) dX10_extend_31 (fun r31 h31 p31 => ?_) (fun E' h' q => ⟨q.2.1, Or.inr ⟨i, hi, rfl, Or.inr ⟨by omega, by omega, Or.inr ⟨by omega, q.2.2, q.1⟩⟩⟩⟩)
    obtain ⟨rfl, rfl, hm9⟩ := p31
    dsimp only [Option.toList, List.cons_append, List.nil_append]
    refine wa_aload_n hX (i := 0) dX10_extend_34 rfl rfl ?_
    refine wa_aload_n hX (i := 3) dX10_extend_35 rfl rfl ?_
    refine wa_iload_n hX (i := 2) dX10_extend_36 rfl rfl ?_
    refine wa_callS hX (c_X9_ofExtension hW d g1 g2 (by omega) (fun s hs => hMi.le10 hs) ht) (by rfl) (by omega) (nA := 2) (by rfl) (by decide +kernel) rfl (by exact Nat.le_of_ble_eq_true rfl) dX10_extend_37 (fun r37 h37 p37 => ?_) (fun _ _ q => q.elim)
    obtain ⟨q, rfl, qn, rfl⟩ := p37
    refine WA.hnew qn (fun hh8 hN hK => ?_)
    replace fr := Fr.mk9 fr hK
    replace k1 := hK _ _ _ k1
    have Hq := hN
    clear hN hK
    dsimp only [Option.toList, List.cons_append, List.nil_append]
    have hI2 := hI.fr fr (fun x hx => hx.elim)
    refine wa_callV hX (c_X10_keep hW d hI2 Hq (hN i t hi ht (by omega)) hm9) (by assumption) (by rfl) (by rfl) (by omega) (nA := 1) (by rfl) (by decide +kernel) rfl (by exact Nat.le_of_ble_eq_true rfl) dX10_extend_40 (fun r40 h40 p40 => ?_) (fun _ _ q => q.elim)
    obtain ⟨rfl, hI3, f3⟩ := p40
    dsimp only [Option.toList, List.cons_append, List.nil_append]
    refine wa_iret hX dX10_extend_43 ?_
    exact ⟨i, t, ⟨hi, rfl, ht, rfl, by omega⟩, hm9, rfl, hI3, (fr.mono (fun x hx => hx.elim)).trans f3⟩
  · skip
    refine wa_throwS2 hX (ik := 103) (is := 228) (ic := 107) "java/lang/UnsupportedOperationException" "the matroid has 10 elements" ["java/lang/RuntimeException", "java/lang/Exception"] (thr_ok (by decide +kernel) wx_UOE) rfl (by exact Nat.le_of_ble_eq_true rfl) dX10_extend_20 dX10_extend_23 dX10_extend_24 dX10_extend_26 dX10_extend_29 ?_
    exact ⟨rfl, Or.inr ⟨i, hi, rfl, Or.inr ⟨by omega, by omega, Or.inl ⟨by omega, rfl⟩⟩⟩⟩
end C69
