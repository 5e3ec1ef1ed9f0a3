/-! The house (X10): binaryShare, meanBases -/
theorem vf64 {r : UInt64} (h : Jvm.FP.Core.dIsNaN r = false) : vf_n64 r := by
  have h1 : ¬ 9218868437227405312 < r.toNat % 2 ^ 63 := fun q => by
    rw [(Jvm.FP.Core.isNaN_bits r).mpr q] at h
    cases h
  unfold vf_n64
  rw [UInt64.le_iff_toNat_le, UInt64.toNat_and]
  have e : (0x7fffffffffffffff : UInt64).toNat = 2 ^ 63 - 1 := by decide
  have e2 : (0x7ff0000000000000 : UInt64).toNat = 9218868437227405312 := by decide
  rw [e, e2, Nat.and_two_pow_sub_one_eq_mod]
  omega
theorem vf32 {r : UInt32} (h : Jvm.FP.Core.fIsNaN r = false) : vf_n32 r := by
  have h1 : ¬ 2139095040 < r.toNat % 2 ^ 31 := fun q => by
    rw [(Jvm.FP.Core.isNaN_bits32 r).mpr q] at h
    cases h
  unfold vf_n32
  rw [UInt32.le_iff_toNat_le, UInt32.toNat_and]
  have e : (0x7fffffff : UInt32).toNat = 2 ^ 31 - 1 := by decide
  have e2 : (0x7f800000 : UInt32).toNat = 2139095040 := by decide
  rw [e, e2, Nat.and_two_pow_sub_one_eq_mod]
  omega
theorem ddiv_ok (x y : Int32) (hy : y ≠ 0) : vf_n64 (FP.ddiv (FP.i2d x) (FP.i2d y)) := vf64 (Jvm.FP.Core.ddiv_out ((Jvm.FP.Core.notNaN_iff _).mpr (Jvm.FP.Core.i2d_fin x).ne_nan) (Jvm.FP.Core.i2d_fin y) (fun z => Jvm.FP.Core.i2d_ne_zero hy ((Jvm.FP.Core.zero_bits2 _).mp z)))
theorem fdiv_ok (x y : Int32) (hy : y ≠ 0) : vf_n32 (FP.fdiv (FP.i2f x) (FP.i2f y)) := vf32 (Jvm.FP.Core.fdiv_out ((Jvm.FP.Core.notNaN_iff32 _).mpr (Jvm.FP.Core.i2f_fin x).ne_nan) (Jvm.FP.Core.i2f_fin y) (fun z => Jvm.FP.Core.i2f_ne_zero hy ((Jvm.FP.Core.zero_bits232 _).mp z)))
theorem ofI_ne {z : Int} (h : inR z) (h0 : z ≠ 0) : Int32.ofInt z ≠ 0 := fun q => h0 ((eqI h (by decide)).mp (q.trans zI))
/-- whether it is drawn over a field -/
def isDr (rk : Nat → Nat) (e f : Nat) : Bool := allB (fun s => rkE f (rk (2 ^ e - 1)) (drG (sortN rk e) e (bsN rk e) f) s == rk s) (2 ^ e)
theorem draP_is {rk : Nat → Nat} {e f : Nat} {tr : Int} (h1 : tr = 0 ∨ tr = 1) (h2 : tr = 1 ↔ ∀ s, s < 2 ^ e → rkE f (rk (2 ^ e - 1)) (drG (sortN rk e) e (bsN rk e) f) s = rk s) : tr = ((b2n (isDr rk e f) : Nat) : Int) := by
  cases q : isDr rk e f
  · rcases h1 with h | h
    · exact h
    · exfalso
      have := h2.mp h
      unfold isDr at q
      rw [← Bool.not_eq_true, allB_iff] at q
      exact q (fun s hs => beq_iff_eq.mpr (this s hs))
  · unfold isDr at q
    rw [allB_iff] at q
    exact h2.mpr (fun s hs => beq_iff_eq.mp (q s hs))
/-- the room that drawing the first n takes -/
def smC (D2 : Nat → Bool) : Nat → Nat
  | 0 => 0
  | n + 1 => smC D2 n + rmC (D2 n) + 1
def smS (D2 : Nat → Bool) : Nat → Nat
  | 0 => 0
  | n + 1 => smS D2 n + rmS (D2 n) + 6
theorem smC_le {D2 : Nat → Bool} {a b : Nat} (h : a ≤ b) : smC D2 a ≤ smC D2 b ∧ smS D2 a ≤ smS D2 b := by
  induction b with
  | zero => rw [show a = 0 by omega]; exact ⟨Nat.le_refl _, Nat.le_refl _⟩
  | succ b ih =>
    by_cases q : a = b + 1
    · subst q; exact ⟨Nat.le_refl _, Nat.le_refl _⟩
    · obtain ⟨i1, i2⟩ := ih (by omega)
      constructor
      · show smC D2 a ≤ smC D2 b + rmC (D2 b) + 1
        omega
      · show smS D2 a ≤ smS D2 b + rmS (D2 b) + 6
        omega
/-- the first n are drawn -/
def drwn (D2 : Nat → Bool) (n : Nat) : Nat → Bool := fun j => if j < n then true else D2 j
theorem drwn_s {D2 : Nat → Bool} {n : Nat} : up (drwn D2 n) n true = drwn D2 (n + 1) := by
  funext j
  rw [up_is]
  unfold drwn
  by_cases h : j = n
  · subst h; rw [if_pos rfl, if_pos (by omega)]
  · rw [if_neg h]
    by_cases h2 : j < n
    · rw [if_pos h2, if_pos (by omega)]
    · rw [if_neg h2, if_neg (by omega)]
def basC (E : Nat → Nat) (R : Nat → Nat → Nat) : Nat → Nat
  | 0 => 0
  | n + 1 => basC E R n + cnt (fun s => sortN (R n) (E n) s &&& 2 != 0) (2 ^ E n)
theorem basC_le {E : Nat → Nat} {R : Nat → Nat → Nat} : ∀ n, (∀ j, j < n → E j ≤ 10) → basC E R n ≤ 1024 * n := by
  intro n
  induction n with
  | zero => intro _; exact Nat.le_refl 0
  | succ n ih =>
    intro h
    have h1 := ih (fun j hj => h j (by omega))
    have h2 := cnt_le (fun s => sortN (R n) (E n) s &&& 2 != 0) (2 ^ E n)
    have h3 := p2_le (h n (by omega))
    show basC E R n + cnt (fun s => sortN (R n) (E n) s &&& 2 != 0) (2 ^ E n) ≤ 1024 * (n + 1)
    omega
section C76
variable {l : Launch} {D : va_G} {S0 : State}
set_option maxHeartbeats 2000000 in
set_option maxRecDepth 100000 in
theorem c_X10_meanBases (hW : WOK l D S0) (d : Nat) {h : AH} {a : Nat} {w : Nat → Nat} {c m : Nat} {E : Nat → Nat} {R : Nat → Nat → Nat} {br bf bs be : Int} {D2 D3 : Nat → Bool} {so : Nat} (hI : HI h a w c m E R br bf bs be D2 D3 so) : MA l D S0 yX10_meanBases cX10_meanBases 3 (some .double) (d + 1) [.ref a] h 40 200 (fun r h' => h' = h ∧ m ≠ 0 ∧ r = some (.double (FP.ddiv (FP.i2d (Int32.ofInt (basC E R m : Nat))) (FP.i2d (Int32.ofInt (m : Nat)))))) (fun E' h' => h' = h ∧ m = 0 ∧ E' = eARI) := by
  obtain ⟨⟨hc60, hw, hm24, hso, hbr, hD, hMt⟩, row, kept, tb, cb, pr, inn, mn, pf, ps, pa, x1, x2, x3, x4, P, k1, kR, k3, kT, kC, kP, kL, kM, kI, kMat⟩ := id hI
  refine MA.start hW (by decide) [.val (.ref a), .unset, .unset] rfl ?_
  rintro X rfl rfl rfl hX
  refine wa_aload_n hX (i := 0) dX10_meanBases_0 rfl rfl ?_
  refine wa_get hX 2 (by assumption) (by rfl) (by decide +kernel) dX10_meanBases_1 ?_
  refine wi_if_gt hX (tgt := 18) dX10_meanBases_4 (by decide) (by omega) (fun c4 => ?_) (fun c4 => ?_)
  · skip
    refine wi_iconst hX dX10_meanBases_18 ?_
    refine wa_istore_n hX (i := 1) dX10_meanBases_19 rfl rfl ?_
    dsimp only [List.set]
    refine wi_iconst hX dX10_meanBases_20 ?_
    refine wa_istore_n hX (i := 2) dX10_meanBases_21 rfl rfl ?_
    dsimp only [List.set]
    refine WA.heap rfl ?_
    refine WA.room (k2 := m - 0) (sl2 := 6 * (m - 0)) (by omega) (by omega) ?_
    refine WA.loopR (σ := Nat) (fun z => m - z) (fun z => z ≤ m) (fun _ => h) (fun z => m - z) (fun z => 6 * (m - z)) (fun z => [.val (.ref a), .val (I (basC E R z : Nat)), .val (I (z : Nat))]) ?_ 0 (Nat.zero_le _)
    intro z hz ih
    have hbc := basC_le (E := E) (R := R) z (fun j hj => (hMt j (by omega)).1)
    by_cases hzl : z < m
    · refine WA.room (k2 := (m - (z + 1) + 0) + 1) (sl2 := (6 * (m - (z + 1)) + 0) + 6) (by omega) (by omega) ?_
      refine wa_iload_n hX (i := 2) dX10_meanBases_22 rfl rfl ?_
      refine wa_aload_n hX (i := 0) dX10_meanBases_23 rfl rfl ?_
      refine wa_get hX 2 (by assumption) (by rfl) (by decide +kernel) dX10_meanBases_24 ?_
      refine wi_icmp_ge hX (tgt := 48) dX10_meanBases_27 (by decide) (by omega) (by omega) (fun c27 => ?_) (fun c27 => ?_)
      · skip
        exfalso; omega
      · skip
        refine wa_iload_n hX (i := 1) dX10_meanBases_30 rfl rfl ?_
        refine wa_aload_n hX (i := 0) dX10_meanBases_31 rfl rfl ?_
        refine wa_iload_n hX (i := 2) dX10_meanBases_32 rfl rfl ?_
        refine wa_callV hX (c_X10_find hW d k1 k3 hm24 (by omega)) (by assumption) (by rfl) (by rfl) (by omega) (nA := 1) (by rfl) (by decide +kernel) rfl (by exact Nat.le_of_ble_eq_true rfl) dX10_meanBases_33 (fun r33 h33 p33 => ?_) (fun E' h' q => absurd (show 0 ≤ (z : Int) ∧ (z : Int) < (m : Int) by omega) q.2.2)
        obtain ⟨hq33, i, hi, hzi, rfl⟩ := p33
        subst h33
        have e1 : i = z := by omega
        subst e1
        obtain ⟨rq, hq, tq, sym, v2, v3, g1, g2, g3, g4, g5, g6, g7⟩ := id (kMat i hi)
        have hMi := hMt i hi
        have hct := cnt_le (fun s => sortN (R i) (E i) s &&& 2 != 0) (2 ^ E i)
        have hp := p2_le hMi.1
        dsimp only [Option.toList, List.cons_append, List.nil_append]
        refine wi_iconst hX dX10_meanBases_36 ?_
        refine wa_callV hX (c_X6_countOf hW d g1 g4 (so := 2) hMi.1 (fun j _ => sortN_lt (R i) (E i) j)) (by assumption) (by rfl) (by rfl) (by omega) (nA := 1) (by rfl) (by decide +kernel) rfl (by exact Nat.le_of_ble_eq_true rfl) dX10_meanBases_37 (fun r37 h37 p37 => ?_) (fun _ _ q => q.elim)
        obtain ⟨rfl, qq37⟩ := p37; subst h37
        dsimp only [Option.toList, List.cons_append, List.nil_append]
        refine wi_iadd hX dX10_meanBases_40 ?_
        refine wa_istore_n hX (i := 1) dX10_meanBases_41 rfl rfl ?_
        dsimp only [List.set]
        refine wi_iinc hX dX10_meanBases_42 rfl ?_
        dsimp only [List.set]
        refine wa_goto hX (tgt := 22) dX10_meanBases_45 (by decide) ?_
        exact WA.room (by omega) (by omega) (ih (i + 1) (by omega) (by omega))
    · have hze : z = m := by omega
      subst hze
      refine wa_iload_n hX (i := 2) dX10_meanBases_22 rfl rfl ?_
      refine wa_aload_n hX (i := 0) dX10_meanBases_23 rfl rfl ?_
      refine wa_get hX 2 (by assumption) (by rfl) (by decide +kernel) dX10_meanBases_24 ?_
      refine wi_icmp_ge hX (tgt := 48) dX10_meanBases_27 (by decide) (by omega) (by omega) (fun c27 => ?_) (fun c27 => ?_)
      · skip
        refine wa_iload_n hX (i := 1) dX10_meanBases_48 rfl rfl ?_
        refine wa_i2d hX dX10_meanBases_49 ?_
        refine wa_aload_n hX (i := 0) dX10_meanBases_50 rfl rfl ?_
        refine wa_get hX 2 (by assumption) (by rfl) (by decide +kernel) dX10_meanBases_51 ?_
        refine wa_i2d hX dX10_meanBases_54 ?_
        refine wa_ddiv hX dX10_meanBases_55 (ddiv_ok _ _ (ofI_ne (by omega) (by omega))) ?_
        refine wa_dret hX dX10_meanBases_56 ?_
        exact ⟨rfl, by omega, rfl⟩
      · skip
        exfalso; omega
  · skip
    refine wa_throwSW2 hX (ik := 383) (is := 385) (ic := 387) "java/lang/ArithmeticException" "there are no matroids" ["java/lang/RuntimeException", "java/lang/Exception"] (thr_ok (by decide +kernel) wx_ARI) rfl (by exact Nat.le_of_ble_eq_true rfl) dX10_meanBases_7 dX10_meanBases_10 dX10_meanBases_11 dX10_meanBases_14 dX10_meanBases_17 ?_
    exact ⟨rfl, by omega, rfl⟩
set_option maxHeartbeats 2000000 in
set_option maxRecDepth 100000 in
theorem c_X10_binaryShare (hW : WOK l D S0) (d : Nat) {h : AH} {a : Nat} {w : Nat → Nat} {c m : Nat} {E : Nat → Nat} {R : Nat → Nat → Nat} {br bf bs be : Int} {D2 D3 : Nat → Bool} {so : Nat} (hI : HI h a w c m E R br bf bs be D2 D3 so) : MA l D S0 yX10_binaryShare cX10_binaryShare 3 (some .float) (d + 6) [.ref a] h (1 + smC D2 m) (6 + smS D2 m) (fun r h' => m ≠ 0 ∧ r = some (.float (FP.fdiv (FP.i2f (Int32.ofInt (cnt (fun j => isDr (R j) (E j) 2) m : Nat))) (FP.i2f (Int32.ofInt (m : Nat))))) ∧ HI h' a w c m E R br bf bs be (drwn D2 m) D3 so ∧ Fr HF h h') (fun E' h' => h' = h ∧ m = 0 ∧ E' = eARI) := by
  have hm9 := hI.1.2.2.1
  obtain ⟨k9, row9, kept9, tb9, cb9, pr9, inn9, mn9, pf9, ps9, pa9, y1, y2, y3, y4, P9, k19, -⟩ := id hI
  refine MA.start hW (by decide) [.val (.ref a), .unset, .unset] rfl ?_
  rintro X rfl rfl rfl hX
  by_cases hm0 : m = 0
  · refine WA.room (k2 := 0 + 1) (sl2 := 0 + 6) (by omega) (by omega) ?_
    refine wa_aload_n hX (i := 0) dX10_binaryShare_0 rfl rfl ?_
    refine wa_get hX 2 (by assumption) (by rfl) (by decide +kernel) dX10_binaryShare_1 ?_
    refine wi_if_gt hX (tgt := 18) dX10_binaryShare_4 (by decide) (by omega) (fun c4 => ?_) (fun c4 => ?_)
    · skip
      exfalso; omega
    · skip
      refine wa_throwSW2 hX (ik := 383) (is := 385) (ic := 387) "java/lang/ArithmeticException" "there are no matroids" ["java/lang/RuntimeException", "java/lang/Exception"] (thr_ok (by decide +kernel) wx_ARI) rfl (by exact Nat.le_of_ble_eq_true rfl) dX10_binaryShare_7 dX10_binaryShare_10 dX10_binaryShare_11 dX10_binaryShare_14 dX10_binaryShare_17 ?_
      exact ⟨rfl, hm0, rfl⟩
  refine WA.room (k2 := smC D2 m - smC D2 0) (sl2 := smS D2 m - smS D2 0) (by omega) (by omega) ?_
  refine wa_aload_n hX (i := 0) dX10_binaryShare_0 rfl rfl ?_
  refine wa_get hX 2 (by assumption) (by rfl) (by decide +kernel) dX10_binaryShare_1 ?_
  refine wi_if_gt hX (tgt := 18) dX10_binaryShare_4 (by decide) (by omega) (fun c4 => ?_) (fun c4 => ?_)
  · skip
    refine wi_iconst hX dX10_binaryShare_18 ?_
    refine wa_istore_n hX (i := 1) dX10_binaryShare_19 rfl rfl ?_
    dsimp only [List.set]
    refine wi_iconst hX dX10_binaryShare_20 ?_
    refine wa_istore_n hX (i := 2) dX10_binaryShare_21 rfl rfl ?_
    dsimp only [List.set]
    refine WA.loopR (σ := Nat × AH) (fun z => m - z.1) (fun z => z.1 ≤ m ∧ HI z.2 a w c m E R br bf bs be (drwn D2 z.1) D3 so ∧ Fr HF h z.2) (fun z => z.2) (fun z => smC D2 m - smC D2 z.1) (fun z => smS D2 m - smS D2 z.1) (fun z => [.val (.ref a), .val (I (cnt (fun j => isDr (R j) (E j) 2) z.1 : Nat)), .val (I (z.1 : Nat))]) ?_ (0, h) ⟨Nat.zero_le _, hI, Fr.rf⟩
    rintro ⟨z, hz⟩ ⟨hzm, hIz, fz⟩ ih
    dsimp only at hzm hIz fz ⊢
    have hcz := cnt_le (fun j => isDr (R j) (E j) 2) z
    obtain ⟨⟨hc60, hw, hm24, hso, hbr, hD, hMt⟩, row, kept, tb, cb, pr, inn, mn, pf, ps, pa, x1, x2, x3, x4, P, k1, kR, k3, kT, kC, kP, kL, kM, kI, kMat⟩ := id hIz
    by_cases hzl : z < m
    · have hd2 : drwn D2 z z = D2 z := if_neg (Nat.lt_irrefl z)
      have hs1 : smC D2 (z + 1) = smC D2 z + rmC (D2 z) + 1 := rfl
      have hs2 : smS D2 (z + 1) = smS D2 z + rmS (D2 z) + 6 := rfl
      obtain ⟨hs3, hs4⟩ := smC_le (D2 := D2) (show z + 1 ≤ m by omega)
      refine WA.room (k2 := (smC D2 m - smC D2 (z + 1)) + rmC (drwn D2 z z) + 1) (sl2 := (smS D2 m - smS D2 (z + 1)) + rmS (drwn D2 z z) + 6) (by rw [hd2]; omega) (by rw [hd2]; omega) ?_
      refine wa_iload_n hX (i := 2) dX10_binaryShare_22 rfl rfl ?_
      refine wa_aload_n hX (i := 0) dX10_binaryShare_23 rfl rfl ?_
      refine wa_get hX 2 (by assumption) (by rfl) (by decide +kernel) dX10_binaryShare_24 ?_
      refine wi_icmp_ge hX (tgt := 54) dX10_binaryShare_27 (by decide) (by omega) (by omega) (fun c27 => ?_) (fun c27 => ?_)
      · skip
        exfalso; omega
      · skip
        refine wa_aload_n hX (i := 0) dX10_binaryShare_30 rfl rfl ?_
        refine wa_iload_n hX (i := 2) dX10_binaryShare_31 rfl rfl ?_
        refine wa_callV hX (c_X10_find hW d k1 k3 hm24 (by omega)) (by assumption) (by rfl) (by rfl) (by omega) (nA := 1) (by rfl) (by decide +kernel) rfl (by exact Nat.le_of_ble_eq_true rfl) dX10_binaryShare_32 (fun r32 h32 p32 => ?_) (fun E' h' q => absurd (show 0 ≤ (z : Int) ∧ (z : Int) < (m : Int) by omega) q.2.2)
        obtain ⟨hq32, i, hi, hzi, rfl⟩ := p32
        subst h32
        have e1 : i = z := by omega
        subst e1
        dsimp only [Option.toList, List.cons_append, List.nil_append]
        refine wi_iconst hX dX10_binaryShare_35 ?_
        refine wa_callS hX (c_X10_drawingOf2 hW d (f := 2) (kMat i hi) (hMt i hi) rfl) (by rfl) (by omega) (nA := 2) (by rfl) (by decide +kernel) rfl (by exact Nat.le_of_ble_eq_true rfl) dX10_binaryShare_36 (fun r36 h36 p36 => ?_) (fun _ _ q => q.elim)
        obtain ⟨q, rfl, hdr, hM', fD, ho⟩ := p36
        have hI2 := HI.setMat ⟨hc60, hw, hm24, hso, hbr, hD, hMt⟩ k1 kR k3 kT kC kP kL kM kI kMat hi hM' fD ho
        rw [up_self, drwn_s] at hI2
        have ka := fD _ _ _ k1 (by omega)
        rcases hdr with ⟨z, -⟩ | ⟨-, qd, jq, kq, bq, nq, cq, c2, r2, p2, rc, tr, z1, z2, z3, z4, z5, z6, z7⟩
        · cases z
        cases z1
        have htr := draP_is z6 z7
        refine WA.room (k2 := (smC D2 m - smC D2 (i + 1)) + 0) (sl2 := (smS D2 m - smS D2 (i + 1)) + 0) (by omega) (by omega) ?_
        dsimp only [Option.toList, List.cons_append, List.nil_append]
        refine wa_callV hX (c_X2_isTrue hW d z2 z6) (by assumption) (by rfl) (by rfl) (by omega) (nA := 0) (by rfl) (by decide +kernel) rfl (by exact Nat.le_of_ble_eq_true rfl) dX10_binaryShare_39 (fun r39 h39 p39 => ?_) (fun _ _ q => q.elim)
        obtain ⟨rfl, qq39⟩ := p39; subst h39
        rw [htr]
        dsimp only [Option.toList, List.cons_append, List.nil_append]
        refine wi_if_eq hX (tgt := 48) dX10_binaryShare_42 (by decide) (by exact b2n_inR _) (fun c42 => ?_) (fun c42 => ?_)
        · skip
          refine wi_iinc hX dX10_binaryShare_48 rfl ?_
          dsimp only [List.set]
          refine wa_goto hX (tgt := 22) dX10_binaryShare_51 (by decide) ?_
          refine WA.eq rfl ?_ rfl (ih (i + 1, h36) ⟨by show i + 1 ≤ m; omega, hI2, fz.trans (fD.mono (fun x hx => by omega))⟩ (by show m - (i + 1) < m - i; omega))
          first
            | (have hb := b2n_t c42
               rw [show cnt (fun j => isDr (R j) (E j) 2) (i + 1) = cnt (fun j => isDr (R j) (E j) 2) i + 1 from cnt_y (p := fun j => isDr (R j) (E j) 2) hb]
               rfl)
            | (have hb := b2n_f c42
               rw [show cnt (fun j => isDr (R j) (E j) 2) (i + 1) = cnt (fun j => isDr (R j) (E j) 2) i from cnt_n (p := fun j => isDr (R j) (E j) 2) (by rw [hb]; exact Bool.false_ne_true)]
               rfl)
        · skip
          refine wi_iinc hX dX10_binaryShare_45 rfl ?_
          dsimp only [List.set]
          refine wi_iinc hX dX10_binaryShare_48 rfl ?_
          dsimp only [List.set]
          refine wa_goto hX (tgt := 22) dX10_binaryShare_51 (by decide) ?_
          refine WA.eq rfl ?_ rfl (ih (i + 1, h36) ⟨by show i + 1 ≤ m; omega, hI2, fz.trans (fD.mono (fun x hx => by omega))⟩ (by show m - (i + 1) < m - i; omega))
          first
            | (have hb := b2n_t c42
               rw [show cnt (fun j => isDr (R j) (E j) 2) (i + 1) = cnt (fun j => isDr (R j) (E j) 2) i + 1 from cnt_y (p := fun j => isDr (R j) (E j) 2) hb]
               rfl)
            | (have hb := b2n_f c42
               rw [show cnt (fun j => isDr (R j) (E j) 2) (i + 1) = cnt (fun j => isDr (R j) (E j) 2) i from cnt_n (p := fun j => isDr (R j) (E j) 2) (by rw [hb]; exact Bool.false_ne_true)]
               rfl)
    · have hze : z = m := by omega
      subst hze
      refine wa_iload_n hX (i := 2) dX10_binaryShare_22 rfl rfl ?_
      refine wa_aload_n hX (i := 0) dX10_binaryShare_23 rfl rfl ?_
      refine wa_get hX 2 (by assumption) (by rfl) (by decide +kernel) dX10_binaryShare_24 ?_
      refine wi_icmp_ge hX (tgt := 54) dX10_binaryShare_27 (by decide) (by omega) (by omega) (fun c27 => ?_) (fun c27 => ?_)
      · skip
        refine wa_iload_n hX (i := 1) dX10_binaryShare_54 rfl rfl ?_
        refine wa_i2f hX dX10_binaryShare_55 ?_
        refine wa_aload_n hX (i := 0) dX10_binaryShare_56 rfl rfl ?_
        refine wa_get hX 2 (by assumption) (by rfl) (by decide +kernel) dX10_binaryShare_57 ?_
        refine wa_i2f hX dX10_binaryShare_60 ?_
        refine wa_fdiv hX dX10_binaryShare_61 (fdiv_ok _ _ (ofI_ne (by omega) (by omega))) ?_
        refine wa_fret hX dX10_binaryShare_62 ?_
        exact ⟨hm0, rfl, hIz, fz⟩
      · skip
        exfalso; omega
  · skip
    exfalso; omega
end C76
