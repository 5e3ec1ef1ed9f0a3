/-! The house (X10): bases -/
/-- the sets that were typed -/
def mkB (w : Nat → Nat) (c s : Nat) : Bool := anyB (fun j => w j == s) c
def noBrk (w : Nat → Nat) (c e : Nat) : Prop := ∀ f g el, f < 2 ^ e → mkB w c f = true → g < 2 ^ e → el < 10 → brk (mkB w c) e f g el = false
section C72
variable {l : Launch} {D : va_G} {S0 : State}
set_option maxHeartbeats 4000000 in
set_option maxRecDepth 100000 in
theorem c_X10_bases (hW : WOK l D S0) (d : Nat) {h : AH} {a : Nat} {w : Nat → Nat} {c m : Nat} {E : Nat → Nat} {R : Nat → Nat → Nat} {br bf bs be : Int} {D2 D3 : Nat → Bool} {so : Nat} (hI : HI h a w c m E R br bf bs be D2 D3 so) {n : Int} (hn : inR n) (hN : ∀ e, e ≤ 10 → (∀ j, j < c → w j < 2 ^ e) → oneN (mkB w c) e → noBrk w c e → Mtr e (rkT (fun s => b2n (inB w c s)) e (2 ^ e))) : MA l D S0 yX10_bases cX10_bases 3 (some .int) (d + 6) [.ref a, I n] h 40 4200 (fun r h' => ∃ e : Nat, (e ≤ 10 ∧ n = (e : Int) ∧ (∀ j, j < c → w j < 2 ^ e) ∧ oneN (mkB w c) e ∧ noBrk w c e) ∧ m < 24 ∧ r = some (I (m : Nat)) ∧ HI h' a w 0 (m + 1) (up E m e) (up R m (rkT (fun s => b2n (inB w c s)) e (2 ^ e))) 0 bf bs be D2 D3 so ∧ Fr HF h h') (fun E' h' => (h' = h ∧ ¬ (0 ≤ n ∧ n ≤ 10) ∧ E' = eIAE) ∨ (Fr HF h h' ∧ ∃ e : Nat, e ≤ 10 ∧ n = (e : Int) ∧ ((¬ (∀ j, j < c → w j < 2 ^ e) ∧ E' = eUOE ∧ HI h' a w c m E R 0 bf bs be D2 D3 so) ∨ ((∀ j, j < c → w j < 2 ^ e) ∧ ((¬ oneN (mkB w c) e ∧ E' = eUOE ∧ HI h' a w c m E R 0 bf bs be D2 D3 so) ∨ (oneN (mkB w c) e ∧ ∃ f g el : Nat, f < 2 ^ e ∧ mkB w c f = true ∧ brkMin (mkB w c) e f g el ∧ (∀ f' g' el', f' < f → mkB w c f' = true → g' < 2 ^ e → el' < 10 → brk (mkB w c) e f' g' el' = false) ∧ E' = eUOE ∧ HI h' a w c m E R 1 f g el D2 D3 so) ∨ (oneN (mkB w c) e ∧ noBrk w c e ∧ m = 24 ∧ E' = eISE ∧ HI h' a w c m E R 0 bf bs be D2 D3 so)))))) := by
  obtain ⟨⟨hc60, hw, hm24, hso, hbr, hD, hMt⟩, row, kept, tb, cb, pr, inn, mn, pf, ps, pa, x1, x2, x3, x4, P, k1, kR, k3, kT, kC, kP, kL, kM, kI, kMat⟩ := id hI
  obtain ⟨rq, r1, r2⟩ := id kR
  obtain ⟨mq, sq, wq, al, G, F, W, t1, t2, t3, t4⟩ := kT
  have hgr := grt_lt hw c
  have mk : ∀ (h' : AH) (br' bf' bs' be' : Int), Fr (fun x => 14 ≤ x ∧ x ≤ 17) h h' → (br' = 0 ∨ br' = 1) → ExcI h' tb 14 br' bf' bs' be' → HI h' a w c m E R br' bf' bs' be' D2 D3 so := fun h' br' bf' bs' be' f hb x => ⟨⟨hc60, hw, hm24, hso, hb, hD, hMt⟩, row, kept, tb, cb, pr, inn, mn, pf, ps, pa, x1, x2, x3, x4, P, f _ _ _ k1 (by omega), kR.fr f (by omega) (by omega), f _ _ _ k3 (by omega), x, kC.fr f (fun y hy => by omega), kP.fr f (fun y hy => by omega), kL.fr f (fun y hy => by omega), kM.fr f (by omega) (by omega), kI, fun j hj => (kMat j hj).fr f (by omega) (by omega) (by omega)⟩
  refine MA.start hW (by decide) [.val (.ref a), .val (I n), .unset] rfl ?_
  rintro X rfl rfl rfl hX
  refine wa_iload_n hX (i := 1) dX10_bases_0 rfl rfl ?_
  refine wa_callS hX (c_X10_needSize hW d hn) (by rfl) (by omega) (nA := 1) (by rfl) (by decide +kernel) rfl (by exact Nat.le_of_ble_eq_true rfl) dX10_bases_1 (fun r1 h1 p1 => ?_) (fun E' h' q => Or.inl ⟨q.2.1, q.2.2, q.1⟩)
  obtain ⟨rfl, hq1, hn0, hn1⟩ := p1
  subst h1
  obtain ⟨e, rfl⟩ := Int.eq_ofNat_of_zero_le hn0
  have he : e ≤ 10 := by omega
  have hp := p2_le he
  have hp0 := p2_pos e
  dsimp only [Option.toList, List.cons_append, List.nil_append]
  refine wa_aload_n hX (i := 0) dX10_bases_4 rfl rfl ?_
  refine wa_get hX 3 (by assumption) (by rfl) (by decide +kernel) dX10_bases_5 ?_
  refine wa_iload_n hX (i := 1) dX10_bases_8 rfl rfl ?_
  refine wa_callV hX (c_X4_begin hW d (e := e) t1 t2 (by decide) he) (by assumption) (by rfl) (by rfl) (by omega) (nA := 1) (by rfl) (by decide +kernel) rfl (by exact Nat.le_of_ble_eq_true rfl) dX10_bases_9 (fun r9 h9 p9 => ?_) (fun _ _ q => q.elim)
  obtain ⟨rfl, u1, u2, u9⟩ := p9
  have f9 : Fr (fun x => 14 ≤ x ∧ x ≤ 17) h h9 := fun y ly oy hy hn => by
    rw [u9 y (fun z => by subst z; rw [hy] at t1; cases t1; exact hn (by decide)) (fun z => by subst z; rw [hy] at t2; cases t2; exact hn (by decide))]
    exact hy
  have u3 : h9 sq = some (16, aI .byte 1024 F) := by rw [u9 sq (lab_ne t1 t3 (by decide)) (lab_ne t2 t3 (by decide))]; exact t3
  have u4 : h9 wq = some (17, aI .int 10 W) := by rw [u9 wq (lab_ne t1 t4 (by decide)) (lab_ne t2 t4 (by decide))]; exact t4
  have v1 := f9 _ _ _ k1 (by omega)
  have vr1 := f9 _ _ _ r1 (by omega)
  have vr2 := f9 _ _ _ r2 (by omega)
  have hI9 : HI h9 a w c m E R 0 bf bs be D2 D3 so := mk h9 0 bf bs be f9 (Or.inl rfl) ⟨mq, sq, wq, _, _, F, W, u1, u2, u3, u4⟩
  dsimp only [Option.toList, List.cons_append, List.nil_append]
  refine wa_aload_n hX (i := 0) dX10_bases_12 rfl rfl ?_
  refine wa_get hX 0 (by assumption) (by rfl) (by decide +kernel) dX10_bases_13 ?_
  refine wa_callV hX (c_X8_greatest hW d vr1 vr2 hc60 hw) (by assumption) (by rfl) (by rfl) (by omega) (nA := 0) (by rfl) (by decide +kernel) rfl (by exact Nat.le_of_ble_eq_true rfl) dX10_bases_16 (fun r16 h16 p16 => ?_) (fun _ _ q => q.elim)
  obtain ⟨rfl, qq16⟩ := p16; subst h16
  dsimp only [Option.toList, List.cons_append, List.nil_append]
  refine wi_iconst hX dX10_bases_19 ?_
  refine wa_iload_n hX (i := 1) dX10_bases_20 rfl rfl ?_
  refine wn_shl1 hX dX10_bases_21 (by rfl) (by omega) ?_
  refine wi_icmp_lt hX (tgt := 35) dX10_bases_22 (by decide) (by omega) (by omega) (fun c22 => ?_) (fun c22 => ?_)
  · skip
    refine wi_iconst hX dX10_bases_35 ?_
    refine wa_istore_n hX (i := 2) dX10_bases_36 rfl rfl ?_
    dsimp only [List.set]
    have hg9 : ∀ j, j < c → w j < 2 ^ e := fun j hj => by
      have := (grt_iff (g := w) (b := ((2 ^ e : Nat) : Int)) (by omega) c).mp c22 j hj
      omega
    refine WA.heap (hset_self u2).symm ?_
    refine WA.loop (σ := Nat) (fun z => c - z) (fun z => z ≤ c) (fun z => hset h9 mq (15, aM 1024 (mkB w z))) (fun z => [.val (.ref a), .val (I (e : Int)), .val (I (z : Nat))]) ?_ 0 (Nat.zero_le _)
    intro z hz ih
    have w1 : hset h9 mq (15, aM 1024 (mkB w z)) tb = some (14, oExc mq sq wq ((2 ^ e - 1 : Nat) : Int) 0 bf bs be) := hset_lab u2 u1 (by decide)
    have w2 : hset h9 mq (15, aM 1024 (mkB w z)) mq = some (15, aM 1024 (mkB w z)) := hset_eq
    have w3 : hset h9 mq (15, aM 1024 (mkB w z)) sq = some (16, aI .byte 1024 F) := hset_lab u2 u3 (by decide)
    have w4 : hset h9 mq (15, aM 1024 (mkB w z)) wq = some (17, aI .int 10 W) := hset_lab u2 u4 (by decide)
    have wa : hset h9 mq (15, aM 1024 (mkB w z)) a = some (10, oHou row kept m tb cb pr inn mn pf ps pa so) := hset_lab u2 v1 (by decide)
    have wr1 : hset h9 mq (15, aM 1024 (mkB w z)) row = some (11, oRow rq (c : Int)) := hset_lab u2 vr1 (by decide)
    have wr2 : hset h9 mq (15, aM 1024 (mkB w z)) rq = some (12, aI .int 60 (fun j => ((w j : Nat) : Int))) := hset_lab u2 vr2 (by decide)
    have fz : Fr (fun x => 14 ≤ x ∧ x ≤ 17) h (hset h9 mq (15, aM 1024 (mkB w z))) := Fr.hset f9 u2 (by decide)
    generalize hHz : hset h9 mq (15, aM 1024 (mkB w z)) = Hz at w1 w2 w3 w4 wa wr1 wr2 fz ⊢
    refine wa_iload_n hX (i := 2) dX10_bases_37 rfl rfl ?_
    refine wa_aload_n hX (i := 0) dX10_bases_38 rfl rfl ?_
    refine wa_get hX 0 (by assumption) (by rfl) (by decide +kernel) dX10_bases_39 ?_
    refine wa_callV hX (c_X8_length hW d wr1) (by assumption) (by rfl) (by rfl) (by omega) (nA := 0) (by rfl) (by decide +kernel) rfl (by exact Nat.le_of_ble_eq_true rfl) dX10_bases_42 (fun r42 h42 p42 => ?_) (fun _ _ q => q.elim)
    obtain ⟨rfl, qq42⟩ := p42; subst h42
    dsimp only [Option.toList, List.cons_append, List.nil_append]
    refine wi_icmp_ge hX (tgt := 69) dX10_bases_45 (by decide) (by omega) (by omega) (fun c45 => ?_) (fun c45 => ?_)
    · skip
      have hzc : z = c := by omega
      subst hzc
      refine wa_aload_n hX (i := 0) dX10_bases_69 rfl rfl ?_
      refine wa_get hX 3 (by assumption) (by rfl) (by decide +kernel) dX10_bases_70 ?_
      refine wa_callV hX (c_X4_holds hW d w1 w2 w3 w4 (by decide) (by decide) (by decide) (by decide) (by decide) (by decide) he) (by assumption) (by rfl) (by rfl) (by omega) (nA := 0) (by rfl) (by decide +kernel) rfl (by exact Nat.le_of_ble_eq_true rfl) dX10_bases_73 (fun r73 h73 p73 => ?_) (fun _ _ q => q.elim)
      obtain ⟨f73, ⟨F', e3⟩, ⟨W', e4⟩, hcase⟩ := p73
      have e2 := f73 _ _ _ w2 (by omega)
      have f9' : Fr (fun x => 14 ≤ x ∧ x ≤ 17) h h73 := fz.trans (f73.mono (fun x hx => by omega))
      have ea := f73 _ _ _ wa (by omega)
      have er1 := f73 _ _ _ wr1 (by omega)
      have er2 := f73 _ _ _ wr2 (by omega)
      obtain ⟨v, rfl, hv, hsay⟩ : ∃ v : Int, r73 = some (I v) ∧ (v = 0 ∨ v = 1) ∧ ((v = 1 ∧ oneN (mkB w z) e ∧ noBrk w z e ∧ HI h73 a w z m E R 0 bf bs be D2 D3 so) ∨ (v = 0 ∧ ¬ oneN (mkB w z) e ∧ HI h73 a w z m E R 0 bf bs be D2 D3 so) ∨ (v = 0 ∧ oneN (mkB w z) e ∧ ∃ f g el : Nat, f < 2 ^ e ∧ mkB w z f = true ∧ brkMin (mkB w z) e f g el ∧ (∀ f' g' el', f' < f → mkB w z f' = true → g' < 2 ^ e → el' < 10 → brk (mkB w z) e f' g' el' = false) ∧ HI h73 a w z m E R 1 f g el D2 D3 so)) := by
        rcases hcase with ⟨q1, q2, q3, q4⟩ | ⟨q1, q2, q4⟩ | ⟨q1, q2, f, g, el, q5, q6, q7, q8, q4⟩
        · exact ⟨1, q1, Or.inr rfl, Or.inl ⟨rfl, q2, q3, mk h73 0 bf bs be f9' (Or.inl rfl) ⟨mq, sq, wq, _, _, F', W', q4, e2, e3, e4⟩⟩⟩
        · exact ⟨0, q1, Or.inl rfl, Or.inr (Or.inl ⟨rfl, q2, mk h73 0 bf bs be f9' (Or.inl rfl) ⟨mq, sq, wq, _, _, F', W', q4, e2, e3, e4⟩⟩)⟩
        · exact ⟨0, q1, Or.inl rfl, Or.inr (Or.inr ⟨rfl, q2, f, g, el, q5, q6, q7, q8, mk h73 1 f g el f9' (Or.inr rfl) ⟨mq, sq, wq, _, _, F', W', q4, e2, e3, e4⟩⟩)⟩
      clear hcase
      dsimp only [Option.toList, List.cons_append, List.nil_append]
      refine wi_if_ne hX (tgt := 89) dX10_bases_76 (by decide) (by rcases hv with q | q <;> subst q <;> decide) (fun c76 => ?_) (fun c76 => ?_)
      · skip
        have hyes : oneN (mkB w z) e ∧ noBrk w z e ∧ HI h73 a w z m E R 0 bf bs be D2 D3 so := by
          rcases hsay with ⟨-, q2, q3, q4⟩ | ⟨q, -⟩ | ⟨q, -⟩
          · exact ⟨q2, q3, q4⟩
          · exact absurd q c76
          · exact absurd q c76
        obtain ⟨ho, hnb, hI73⟩ := hyes
        clear hsay
        refine wa_aload_n hX (i := 0) dX10_bases_89 rfl rfl ?_
        refine wa_callV hX (c_X10_needRoom hW d ea hm24) (by assumption) (by rfl) (by rfl) (by omega) (nA := 0) (by rfl) (by decide +kernel) rfl (by exact Nat.le_of_ble_eq_true rfl) dX10_bases_90 (fun r90 h90 p90 => ?_) (fun E' h' q => Or.inr ⟨by rw [q.2.1]; exact f9'.mono (fun x hx => by omega), e, he, rfl, Or.inr ⟨hg9, Or.inr (Or.inr ⟨ho, hnb, q.2.2, q.1, by rw [q.2.1]; exact hI73⟩)⟩⟩)
        obtain ⟨rfl, hq90, hm9⟩ := p90
        subst h90
        dsimp only [Option.toList, List.cons_append, List.nil_append]
        refine wa_aload_n hX (i := 0) dX10_bases_93 rfl rfl ?_
        refine wa_aload_n hX (i := 0) dX10_bases_94 rfl rfl ?_
        refine wa_get hX 0 (by assumption) (by rfl) (by decide +kernel) dX10_bases_95 ?_
        refine wa_iload_n hX (i := 1) dX10_bases_98 rfl rfl ?_
        refine wa_callS hX (c_X9_ofBases hW d (e := e) er1 er2 hc60 he hg9) (by rfl) (by omega) (nA := 2) (by rfl) (by decide +kernel) rfl (by exact Nat.le_of_ble_eq_true rfl) dX10_bases_99 (fun r99 h99 p99 => ?_) (fun _ _ q => q.elim)
        obtain ⟨q, rfl, qn, hh⟩ := p99
        have Hq : h99 q = some (2, aB e (rkT (fun s => b2n (inB w z s)) e (2 ^ e))) := by rw [hh]; exact hset_eq
        have fq : ∀ {S : Nat → Prop}, Fr S h73 h99 := fun {S} y ly oy hy _ => by rw [hh]; exact hset_new qn hy
        have hI99 := hI73.fr (fq (S := fun _ => False)) (fun x hx => hx.elim)
        have ea2 := fq (S := fun _ => False) _ _ _ ea (fun x => x)
        dsimp only [Option.toList, List.cons_append, List.nil_append]
        refine wa_callV hX (c_X10_keepTyped hW d hI99 Hq (hN e he hg9 ho hnb) hm9) (by assumption) (by rfl) (by rfl) (by omega) (nA := 1) (by rfl) (by decide +kernel) rfl (by exact Nat.le_of_ble_eq_true rfl) dX10_bases_102 (fun r102 h102 p102 => ?_) (fun _ _ q => q.elim)
        obtain ⟨rfl, hI3, f3⟩ := p102
        dsimp only [Option.toList, List.cons_append, List.nil_append]
        refine wa_iret hX dX10_bases_105 ?_
        exact ⟨e, ⟨he, rfl, hg9, ho, hnb⟩, hm9, rfl, hI3, ((f9'.mono (fun x hx => by omega)).trans fq).trans f3⟩
      · skip
        refine wa_throwS2 hX (ik := 103) (is := 147) (ic := 107) "java/lang/UnsupportedOperationException" "the sets are no bases" ["java/lang/RuntimeException", "java/lang/Exception"] (thr_ok (by decide +kernel) wx_UOE) rfl (by exact Nat.le_of_ble_eq_true rfl) dX10_bases_79 dX10_bases_82 dX10_bases_83 dX10_bases_85 dX10_bases_88 ?_
        refine Or.inr ⟨f9'.mono (fun x hx => by omega), e, he, rfl, Or.inr ⟨hg9, ?_⟩⟩
        rcases hsay with ⟨q, -⟩ | ⟨-, q2, q3⟩ | ⟨-, q2, f, g, el, q5, q6, q7, q8, q9⟩
        · exfalso; clear hW hX ih; omega
        · exact Or.inl ⟨q2, rfl, q3⟩
        · exact Or.inr (Or.inl ⟨q2, f, g, el, q5, q6, q7, q8, rfl, q9⟩)
    · skip
      refine wa_aload_n hX (i := 0) dX10_bases_48 rfl rfl ?_
      refine wa_get hX 3 (by assumption) (by rfl) (by decide +kernel) dX10_bases_49 ?_
      refine wa_aload_n hX (i := 0) dX10_bases_52 rfl rfl ?_
      refine wa_get hX 0 (by assumption) (by rfl) (by decide +kernel) dX10_bases_53 ?_
      refine wa_iload_n hX (i := 2) dX10_bases_56 rfl rfl ?_
      refine wa_callV hX (c_X8_at hW d wr1 wr2 (i := (z : Int)) (by omega)) (by assumption) (by rfl) (by rfl) (by omega) (nA := 1) (by rfl) (by decide +kernel) rfl (by exact Nat.le_of_ble_eq_true rfl) dX10_bases_57 (fun r57 h57 p57 => ?_) (fun _ _ q => q.elim)
      obtain ⟨rfl, qq57⟩ := p57; subst h57
      rw [if_pos (by omega), Int.toNat_natCast]
      dsimp only [Option.toList, List.cons_append, List.nil_append]
      refine wa_callV hX (c_X4_mark hW d w1 w2 he (hg9 z (by omega))) (by assumption) (by rfl) (by rfl) (by omega) (nA := 1) (by rfl) (by decide +kernel) rfl (by exact Nat.le_of_ble_eq_true rfl) dX10_bases_60 (fun r60 h60 p60 => ?_) (fun _ _ q => q.elim)
      obtain ⟨rfl, rfl⟩ := p60
      dsimp only [Option.toList, List.cons_append, List.nil_append]
      refine wi_iinc hX dX10_bases_63 rfl ?_
      dsimp only [List.set]
      refine wa_goto hX (tgt := 37) dX10_bases_66 (by decide) ?_
      refine WA.heap ?_ (ih (z + 1) (by omega) (by omega))
      rw [← hHz, hset_hset]
      rfl
  · skip
    refine wa_throwS2 hX (ik := 103) (is := 135) (ic := 107) "java/lang/UnsupportedOperationException" "a set has other elements" ["java/lang/RuntimeException", "java/lang/Exception"] (thr_ok (by decide +kernel) wx_UOE) rfl (by exact Nat.le_of_ble_eq_true rfl) dX10_bases_25 dX10_bases_28 dX10_bases_29 dX10_bases_31 dX10_bases_34 ?_
    refine Or.inr ⟨f9.mono (fun x hx => by omega), e, he, rfl, Or.inl ⟨fun z => ?_, rfl, hI9⟩⟩
    have := (grt_iff (g := w) (b := ((2 ^ e : Nat) : Int)) (by omega) c).mpr (fun j hj => by have := z j hj; omega)
    omega
end C72
