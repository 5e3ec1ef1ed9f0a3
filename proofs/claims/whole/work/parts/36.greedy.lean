/-! Circuitfold$Bounds (X0): greedyBasis -/
theorem bitOf_lt {e : Nat} {z : Int} (hz : -1 ≤ z ∧ z < e ∨ z = -1) : (if z < 0 then 0 else 2 ^ z.toNat) < 2 ^ e := by
  split
  · exact p2_pos e
  · exact bit_lt (by omega)
theorem grdN_lt {sf w : Nat → Nat} {e : Nat} (k : Nat) : (grdN sf w e k).1 < 2 ^ e ∧ (grdN sf w e k).2 < 2 ^ e := by
  induction k with
  | zero => exact ⟨p2_pos e, p2_pos e⟩
  | succ k ih =>
    have h1 := bitOf_lt (hvN_rng w (grdN sf w e k).2 e)
    unfold grdN
    dsimp only
    generalize (if hvN w (grdN sf w e k).2 e < 0 then 0 else 2 ^ (hvN w (grdN sf w e k).2 e).toNat) = bt at h1 ⊢
    refine ⟨?_, or_lt ih.2 h1⟩
    split
    · exact or_lt ih.1 h1
    · exact ih.1
section C36
variable {l : Launch} {D : va_G} {S0 : State}
set_option maxRecDepth 100000 in
theorem c_X0_greedyBasis (hW : WOK l D S0) (d : Nat) {h : AH} {a la e full rq hq tq lt r lr q lq : Nat} {c sym : Int} {v2 v3 : Value} {sf w : Nat → Nat} (h1 : h a = some (la, oMat e full rq hq tq sym v2 v3)) (h2 : h tq = some (lt, aB e sf)) (h3 : h r = some (lr, oRow q c)) (h4 : h q = some (lq, aI .int 60 (fun j => ((w j : Nat) : Int)))) (he : e ≤ 10) (hsf : ∀ j, j < 2 ^ e → sf j < 32) (hw : ∀ j, w j < 1024) : MA l D S0 yX0_greedyBasis cX0_greedyBasis 8 (some .int) (d + 1) [.ref a, .ref r] h 0 0 (fun r h' => r = some (I ((grdN sf w e e).1 : Nat)) ∧ h' = h) (fun _ _ => False) := by
  have hp := p2_le he
  refine MA.start hW (by decide) [.val (.ref a), .val (.ref r), .unset, .unset, .unset, .unset, .unset, .unset] rfl ?_
  rintro X rfl rfl rfl hX
  refine wi_iconst hX dX0_greedyBasis_0 ?_
  refine wa_istore_n hX (i := 2) dX0_greedyBasis_1 rfl (by first | rfl | exact hu1 | exact hu2 | exact hu3 | exact hu4) ?_
  dsimp only [List.set]
  refine wi_iconst hX dX0_greedyBasis_2 ?_
  refine wa_istore_n hX (i := 3) dX0_greedyBasis_3 rfl (by first | rfl | exact hu1 | exact hu2 | exact hu3 | exact hu4) ?_
  dsimp only [List.set]
  refine wi_iconst hX dX0_greedyBasis_4 ?_
  refine wa_istore hX dX0_greedyBasis_5 (by first | rfl | exact hu1 | exact hu2 | exact hu3 | exact hu4) ?_
  dsimp only [List.set]
  refine WA.loop (σ := Nat × Slot × Slot × Slot) (fun z => e - z.1) (fun z => z.1 ≤ e ∧ okS [z.2.1] 0 = true ∧ okS [z.2.2.1] 0 = true ∧ okS [z.2.2.2] 0 = true) (fun _ => h) (fun z => [.val (.ref a), .val (.ref r), .val (I ((grdN sf w e z.1).1 : Nat)), .val (I ((grdN sf w e z.1).2 : Nat)), .val (I (z.1 : Nat)), z.2.1, z.2.2.1, z.2.2.2]) ?_ (0, .unset, .unset, .unset) ⟨Nat.zero_le _, rfl, rfl, rfl⟩
  rintro ⟨i, u1, u2, u3⟩ ⟨hi, hu1, hu2, hu3⟩ ih
  dsimp only at hi hu1 hu2 hu3 ⊢
  have hgl := grdN_lt (sf := sf) (w := w) (e := e) i
  have hstep : grdN sf w e (i + 1) = (if (sf ((grdN sf w e i).1 ||| (if hvN w (grdN sf w e i).2 e < 0 then 0 else 2 ^ (hvN w (grdN sf w e i).2 e).toNat)) &&& 1 != 0) = true then (grdN sf w e i).1 ||| (if hvN w (grdN sf w e i).2 e < 0 then 0 else 2 ^ (hvN w (grdN sf w e i).2 e).toNat) else (grdN sf w e i).1, (grdN sf w e i).2 ||| (if hvN w (grdN sf w e i).2 e < 0 then 0 else 2 ^ (hvN w (grdN sf w e i).2 e).toNat)) := rfl
  generalize hB : (grdN sf w e i).1 = B at hstep hgl ⊢
  generalize hS : (grdN sf w e i).2 = sn at hstep hgl ⊢
  refine wa_iload hX dX0_greedyBasis_7 rfl ?_
  refine wa_aload_n hX (i := 0) dX0_greedyBasis_9 rfl rfl ?_
  refine wa_get hX 0 (by assumption) (by rfl) (by decide +kernel) dX0_greedyBasis_10 ?_
  refine wi_icmp_ge hX (tgt := 125) dX0_greedyBasis_13 (by decide) (by omega) (by omega) (fun c13 => ?_) (fun c13 => ?_)
  · skip
    refine wa_iload_n hX (i := 2) dX0_greedyBasis_125 rfl rfl ?_
    refine wa_iret hX dX0_greedyBasis_126 ?_
    refine ⟨?_, rfl⟩
    rw [← hB, show i = e by omega]
  · skip
    refine wi_iconst hX dX0_greedyBasis_16 ?_
    refine wa_istore hX dX0_greedyBasis_17 (by first | rfl | exact hu1 | exact hu2 | exact hu3 | exact hu4) ?_
    dsimp only [List.set]
    refine wi_iconst hX dX0_greedyBasis_19 ?_
    refine wa_istore hX dX0_greedyBasis_20 (by first | rfl | exact hu1 | exact hu2 | exact hu3 | exact hu4) ?_
    dsimp only [List.set]
    refine WA.loop (σ := Nat × Slot) (fun z => e - z.1) (fun z => z.1 ≤ e ∧ okS [z.2] 0 = true) (fun _ => h) (fun z => [.val (.ref a), .val (.ref r), .val (I (B : Nat)), .val (I (sn : Nat)), .val (I (i : Nat)), .val (I (hvN w sn z.1)), .val (I (z.1 : Nat)), z.2]) ?_ (0, u3) ⟨Nat.zero_le _, hu3⟩
    rintro ⟨j, u1⟩ ⟨hj, hu1⟩ ih2
    dsimp only at hj hu1 ⊢
    have hrng := hvN_rng w sn j
    have hst2 : hvN w sn (j + 1) = (if sn.testBit j = false ∧ (hvN w sn j < 0 ∨ w (hvN w sn j).toNat < w j) then (j : Int) else hvN w sn j) := rfl
    have hwj := hw j
    have hwh := hw (hvN w sn j).toNat
    refine wa_iload hX dX0_greedyBasis_22 rfl ?_
    refine wa_aload_n hX (i := 0) dX0_greedyBasis_24 rfl rfl ?_
    refine wa_get hX 0 (by assumption) (by rfl) (by decide +kernel) dX0_greedyBasis_25 ?_
    refine wi_icmp_ge hX (tgt := 82) dX0_greedyBasis_28 (by decide) (by omega) (by omega) (fun c28 => ?_) (fun c28 => ?_)
    · skip
      have hje : j = e := by omega
      subst hje
      clear hst2 ih2
      generalize hH : hvN w sn j = hv at hstep hrng ⊢
      refine wa_iload hX dX0_greedyBasis_82 rfl ?_
      refine wi_if_ge hX (tgt := 91) dX0_greedyBasis_84 (by decide) (by omega) (fun c84 => ?_) (fun c84 => ?_)
      · skip
        refine wi_iconst hX dX0_greedyBasis_91 ?_
        refine wa_iload hX dX0_greedyBasis_92 rfl ?_
        refine wn_shl1 hX (b := hv.toNat) dX0_greedyBasis_94 (by omega) (by omega) ?_
        have hbt : ∃ bt : Nat, bt = (if hv < 0 then 0 else 2 ^ hv.toNat) ∧ bt < 2 ^ j := ⟨_, rfl, bitOf_lt hrng⟩
        obtain ⟨bt, hbt1, hbt2⟩ := hbt
        rw [← hbt1] at hstep
        refine WA.eq rfl rfl (show _ = [I (bt : Int)] by
          first
            | (rw [if_pos (by omega)] at hbt1; rw [hbt1]; rfl)
            | (rw [if_neg (by omega)] at hbt1; rw [hbt1])) ?_
        refine wa_istore hX dX0_greedyBasis_95 (by first | rfl | exact hu1 | exact hu2 | exact hu3 | exact hu4) ?_
        dsimp only [List.set]
        refine wa_iload_n hX (i := 3) dX0_greedyBasis_97 rfl rfl ?_
        refine wa_iload hX dX0_greedyBasis_98 rfl ?_
        refine wn_ior hX dX0_greedyBasis_100 (by rfl) (by rfl) ?_
        refine wa_istore_n hX (i := 3) dX0_greedyBasis_101 rfl (by first | rfl | exact hu1 | exact hu2 | exact hu3 | exact hu4) ?_
        dsimp only [List.set]
        refine wa_aload_n hX (i := 0) dX0_greedyBasis_102 rfl rfl ?_
        refine wa_iload_n hX (i := 2) dX0_greedyBasis_103 rfl rfl ?_
        refine wa_iload hX dX0_greedyBasis_104 rfl ?_
        refine wn_ior hX dX0_greedyBasis_106 (by rfl) (by rfl) ?_
        refine wi_iconst hX dX0_greedyBasis_107 ?_
        refine wa_callV hX (c_X6_has hW d h1 h2 he (s := B ||| bt) (or_lt hgl.1 hbt2) hsf) (by assumption) (by rfl) (by rfl) (by omega) (nA := 2) (by rfl) (by decide +kernel) rfl (by exact Nat.le_of_ble_eq_true rfl) dX0_greedyBasis_108 (fun r108 h108 p108 => ?_) (fun _ _ q => q.elim)
        obtain ⟨rfl, qq108⟩ := p108; subst h108
        dsimp only [Option.toList, List.cons_append, List.nil_append]
        refine wi_if_eq hX (tgt := 119) dX0_greedyBasis_111 (by decide) (by exact b2n_inR _) (fun c111 => ?_) (fun c111 => ?_)
        · skip
          refine wi_iinc hX dX0_greedyBasis_119 rfl ?_
          dsimp only [List.set]
          refine wa_goto hX (tgt := 7) dX0_greedyBasis_122 (by decide) ?_
          first
            | (rw [if_pos (b2n_t c111)] at hstep
               refine WA.eq rfl ?_ rfl (ih (i + 1, .val (I hv), .val (I (bt : Int)), u1) ⟨by show i + 1 ≤ j; omega, rfl, rfl, hu1⟩ (by show j - (i + 1) < j - i; omega))
               dsimp only
               rw [hstep]; rfl)
            | (rw [if_neg (fun z => by rw [b2n_f c111] at z; cases z)] at hstep
               refine WA.eq rfl ?_ rfl (ih (i + 1, .val (I hv), .val (I (bt : Int)), u1) ⟨by show i + 1 ≤ j; omega, rfl, rfl, hu1⟩ (by show j - (i + 1) < j - i; omega))
               dsimp only
               rw [hstep]; rfl)
        · skip
          refine wa_iload_n hX (i := 2) dX0_greedyBasis_114 rfl rfl ?_
          refine wa_iload hX dX0_greedyBasis_115 rfl ?_
          refine wn_ior hX dX0_greedyBasis_117 (by rfl) (by rfl) ?_
          refine wa_istore_n hX (i := 2) dX0_greedyBasis_118 rfl (by first | rfl | exact hu1 | exact hu2 | exact hu3 | exact hu4) ?_
          dsimp only [List.set]
          refine wi_iinc hX dX0_greedyBasis_119 rfl ?_
          dsimp only [List.set]
          refine wa_goto hX (tgt := 7) dX0_greedyBasis_122 (by decide) ?_
          first
            | (rw [if_pos (b2n_t c111)] at hstep
               refine WA.eq rfl ?_ rfl (ih (i + 1, .val (I hv), .val (I (bt : Int)), u1) ⟨by show i + 1 ≤ j; omega, rfl, rfl, hu1⟩ (by show j - (i + 1) < j - i; omega))
               dsimp only
               rw [hstep]; rfl)
            | (rw [if_neg (fun z => by rw [b2n_f c111] at z; cases z)] at hstep
               refine WA.eq rfl ?_ rfl (ih (i + 1, .val (I hv), .val (I (bt : Int)), u1) ⟨by show i + 1 ≤ j; omega, rfl, rfl, hu1⟩ (by show j - (i + 1) < j - i; omega))
               dsimp only
               rw [hstep]; rfl)
      · skip
        refine wi_iconst hX dX0_greedyBasis_87 ?_
        refine wa_goto hX (tgt := 95) dX0_greedyBasis_88 (by decide) ?_
        have hbt : ∃ bt : Nat, bt = (if hv < 0 then 0 else 2 ^ hv.toNat) ∧ bt < 2 ^ j := ⟨_, rfl, bitOf_lt hrng⟩
        obtain ⟨bt, hbt1, hbt2⟩ := hbt
        rw [← hbt1] at hstep
        refine WA.eq rfl rfl (show _ = [I (bt : Int)] by
          first
            | (rw [if_pos (by omega)] at hbt1; rw [hbt1]; rfl)
            | (rw [if_neg (by omega)] at hbt1; rw [hbt1])) ?_
        refine wa_istore hX dX0_greedyBasis_95 (by first | rfl | exact hu1 | exact hu2 | exact hu3 | exact hu4) ?_
        dsimp only [List.set]
        refine wa_iload_n hX (i := 3) dX0_greedyBasis_97 rfl rfl ?_
        refine wa_iload hX dX0_greedyBasis_98 rfl ?_
        refine wn_ior hX dX0_greedyBasis_100 (by rfl) (by rfl) ?_
        refine wa_istore_n hX (i := 3) dX0_greedyBasis_101 rfl (by first | rfl | exact hu1 | exact hu2 | exact hu3 | exact hu4) ?_
        dsimp only [List.set]
        refine wa_aload_n hX (i := 0) dX0_greedyBasis_102 rfl rfl ?_
        refine wa_iload_n hX (i := 2) dX0_greedyBasis_103 rfl rfl ?_
        refine wa_iload hX dX0_greedyBasis_104 rfl ?_
        refine wn_ior hX dX0_greedyBasis_106 (by rfl) (by rfl) ?_
        refine wi_iconst hX dX0_greedyBasis_107 ?_
        refine wa_callV hX (c_X6_has hW d h1 h2 he (s := B ||| bt) (or_lt hgl.1 hbt2) hsf) (by assumption) (by rfl) (by rfl) (by omega) (nA := 2) (by rfl) (by decide +kernel) rfl (by exact Nat.le_of_ble_eq_true rfl) dX0_greedyBasis_108 (fun r108 h108 p108 => ?_) (fun _ _ q => q.elim)
        obtain ⟨rfl, qq108⟩ := p108; subst h108
        dsimp only [Option.toList, List.cons_append, List.nil_append]
        refine wi_if_eq hX (tgt := 119) dX0_greedyBasis_111 (by decide) (by exact b2n_inR _) (fun c111 => ?_) (fun c111 => ?_)
        · skip
          refine wi_iinc hX dX0_greedyBasis_119 rfl ?_
          dsimp only [List.set]
          refine wa_goto hX (tgt := 7) dX0_greedyBasis_122 (by decide) ?_
          first
            | (rw [if_pos (b2n_t c111)] at hstep
               refine WA.eq rfl ?_ rfl (ih (i + 1, .val (I hv), .val (I (bt : Int)), u1) ⟨by show i + 1 ≤ j; omega, rfl, rfl, hu1⟩ (by show j - (i + 1) < j - i; omega))
               dsimp only
               rw [hstep]; rfl)
            | (rw [if_neg (fun z => by rw [b2n_f c111] at z; cases z)] at hstep
               refine WA.eq rfl ?_ rfl (ih (i + 1, .val (I hv), .val (I (bt : Int)), u1) ⟨by show i + 1 ≤ j; omega, rfl, rfl, hu1⟩ (by show j - (i + 1) < j - i; omega))
               dsimp only
               rw [hstep]; rfl)
        · skip
          refine wa_iload_n hX (i := 2) dX0_greedyBasis_114 rfl rfl ?_
          refine wa_iload hX dX0_greedyBasis_115 rfl ?_
          refine wn_ior hX dX0_greedyBasis_117 (by rfl) (by rfl) ?_
          refine wa_istore_n hX (i := 2) dX0_greedyBasis_118 rfl (by first | rfl | exact hu1 | exact hu2 | exact hu3 | exact hu4) ?_
          dsimp only [List.set]
          refine wi_iinc hX dX0_greedyBasis_119 rfl ?_
          dsimp only [List.set]
          refine wa_goto hX (tgt := 7) dX0_greedyBasis_122 (by decide) ?_
          first
            | (rw [if_pos (b2n_t c111)] at hstep
               refine WA.eq rfl ?_ rfl (ih (i + 1, .val (I hv), .val (I (bt : Int)), u1) ⟨by show i + 1 ≤ j; omega, rfl, rfl, hu1⟩ (by show j - (i + 1) < j - i; omega))
               dsimp only
               rw [hstep]; rfl)
            | (rw [if_neg (fun z => by rw [b2n_f c111] at z; cases z)] at hstep
               refine WA.eq rfl ?_ rfl (ih (i + 1, .val (I hv), .val (I (bt : Int)), u1) ⟨by show i + 1 ≤ j; omega, rfl, rfl, hu1⟩ (by show j - (i + 1) < j - i; omega))
               dsimp only
               rw [hstep]; rfl)
    · skip
      refine wa_iload_n hX (i := 3) dX0_greedyBasis_31 rfl rfl ?_
      refine wi_iconst hX dX0_greedyBasis_32 ?_
      refine wa_iload hX dX0_greedyBasis_33 rfl ?_
      refine wn_shl1 hX dX0_greedyBasis_35 (by rfl) (by omega) ?_
      refine wn_iand hX dX0_greedyBasis_36 (by rfl) (by rfl) ?_
      refine wi_if_ne hX (tgt := 44) dX0_greedyBasis_37 (by decide) (by first | omega | exact inR_nat (and_ltl (by omega)) | exact inR_nat (and_ltr (by omega))) (fun c37 => ?_) (fun c37 => ?_)
      · skip
        refine wi_iconst hX dX0_greedyBasis_44 ?_
        refine wa_istore hX dX0_greedyBasis_45 (by first | rfl | exact hu1 | exact hu2 | exact hu3 | exact hu4) ?_
        dsimp only [List.set]
        refine wa_iload hX dX0_greedyBasis_47 rfl ?_
        refine wi_if_eq hX (tgt := 76) dX0_greedyBasis_49 (by decide) (by omega) (fun c49 => ?_) (fun c49 => ?_)
        · skip
          refine wi_iinc hX dX0_greedyBasis_76 rfl ?_
          dsimp only [List.set]
          refine wa_goto hX (tgt := 22) dX0_greedyBasis_79 (by decide) ?_
          first
            | (exfalso; omega)
            | (have ht := and_c1 c37
               rw [if_neg (fun z => by rw [ht] at z; cases z.1)] at hst2
               refine WA.eq rfl ?_ rfl (ih2 (j + 1, .val (I 0)) ⟨by show j + 1 ≤ e; omega, rfl⟩ (by show e - (j + 1) < e - j; omega))
               dsimp only
               rw [hst2]; rfl)
            | (have ht := and_c0 c37
               rw [if_pos ⟨ht, by omega⟩] at hst2
               refine WA.eq rfl ?_ rfl (ih2 (j + 1, .val (I 1)) ⟨by show j + 1 ≤ e; omega, rfl⟩ (by show e - (j + 1) < e - j; omega))
               dsimp only
               rw [hst2]; rfl)
            | (rw [if_neg (fun z => by have := z.2; omega)] at hst2
               refine WA.eq rfl ?_ rfl (ih2 (j + 1, .val (I 1)) ⟨by show j + 1 ≤ e; omega, rfl⟩ (by show e - (j + 1) < e - j; omega))
               dsimp only
               rw [hst2]; rfl)
        · skip
          refine wa_iload hX dX0_greedyBasis_52 rfl ?_
          refine wi_if_lt hX (tgt := 72) dX0_greedyBasis_54 (by decide) (by omega) (fun c54 => ?_) (fun c54 => ?_)
          · skip
            refine wa_iload hX dX0_greedyBasis_72 rfl ?_
            refine wa_istore hX dX0_greedyBasis_74 (by first | rfl | exact hu1 | exact hu2 | exact hu3 | exact hu4) ?_
            dsimp only [List.set]
            refine wi_iinc hX dX0_greedyBasis_76 rfl ?_
            dsimp only [List.set]
            refine wa_goto hX (tgt := 22) dX0_greedyBasis_79 (by decide) ?_
            first
              | (exfalso; omega)
              | (have ht := and_c1 c37
                 rw [if_neg (fun z => by rw [ht] at z; cases z.1)] at hst2
                 refine WA.eq rfl ?_ rfl (ih2 (j + 1, .val (I 0)) ⟨by show j + 1 ≤ e; omega, rfl⟩ (by show e - (j + 1) < e - j; omega))
                 dsimp only
                 rw [hst2]; rfl)
              | (have ht := and_c0 c37
                 rw [if_pos ⟨ht, by omega⟩] at hst2
                 refine WA.eq rfl ?_ rfl (ih2 (j + 1, .val (I 1)) ⟨by show j + 1 ≤ e; omega, rfl⟩ (by show e - (j + 1) < e - j; omega))
                 dsimp only
                 rw [hst2]; rfl)
              | (rw [if_neg (fun z => by have := z.2; omega)] at hst2
                 refine WA.eq rfl ?_ rfl (ih2 (j + 1, .val (I 1)) ⟨by show j + 1 ≤ e; omega, rfl⟩ (by show e - (j + 1) < e - j; omega))
                 dsimp only
                 rw [hst2]; rfl)
          · skip
            refine wa_aload_n hX (i := 1) dX0_greedyBasis_57 rfl rfl ?_
            refine wa_iload hX dX0_greedyBasis_58 rfl ?_
            refine wa_callV hX (c_X8_at hW d h3 h4 (i := (j : Int)) (by omega)) (by assumption) (by rfl) (by rfl) (by omega) (nA := 1) (by rfl) (by decide +kernel) rfl (by exact Nat.le_of_ble_eq_true rfl) dX0_greedyBasis_60 (fun r60 h60 p60 => ?_) (fun _ _ q => q.elim)
            obtain ⟨rfl, qq60⟩ := p60; subst h60
            rw [if_pos (⟨by omega, by omega⟩ : 0 ≤ (j : Int) ∧ (j : Int) < 60), Int.toNat_natCast]
            dsimp only [Option.toList, List.cons_append, List.nil_append]
            refine wa_aload_n hX (i := 1) dX0_greedyBasis_63 rfl rfl ?_
            refine wa_iload hX dX0_greedyBasis_64 rfl ?_
            refine wa_callV hX (c_X8_at hW d h3 h4 (i := hvN w sn j) (by omega)) (by assumption) (by rfl) (by rfl) (by omega) (nA := 1) (by rfl) (by decide +kernel) rfl (by exact Nat.le_of_ble_eq_true rfl) dX0_greedyBasis_66 (fun r66 h66 p66 => ?_) (fun _ _ q => q.elim)
            obtain ⟨rfl, qq66⟩ := p66; subst h66
            rw [if_pos (⟨by omega, by omega⟩ : 0 ≤ hvN w sn j ∧ hvN w sn j < 60)]
            dsimp only [Option.toList, List.cons_append, List.nil_append]
            refine wi_icmp_le hX (tgt := 76) dX0_greedyBasis_69 (by decide) (by omega) (by omega) (fun c69 => ?_) (fun c69 => ?_)
            · skip
              refine wi_iinc hX dX0_greedyBasis_76 rfl ?_
              dsimp only [List.set]
              refine wa_goto hX (tgt := 22) dX0_greedyBasis_79 (by decide) ?_
              first
                | (exfalso; omega)
                | (have ht := and_c1 c37
                   rw [if_neg (fun z => by rw [ht] at z; cases z.1)] at hst2
                   refine WA.eq rfl ?_ rfl (ih2 (j + 1, .val (I 0)) ⟨by show j + 1 ≤ e; omega, rfl⟩ (by show e - (j + 1) < e - j; omega))
                   dsimp only
                   rw [hst2]; rfl)
                | (have ht := and_c0 c37
                   rw [if_pos ⟨ht, by omega⟩] at hst2
                   refine WA.eq rfl ?_ rfl (ih2 (j + 1, .val (I 1)) ⟨by show j + 1 ≤ e; omega, rfl⟩ (by show e - (j + 1) < e - j; omega))
                   dsimp only
                   rw [hst2]; rfl)
                | (rw [if_neg (fun z => by have := z.2; omega)] at hst2
                   refine WA.eq rfl ?_ rfl (ih2 (j + 1, .val (I 1)) ⟨by show j + 1 ≤ e; omega, rfl⟩ (by show e - (j + 1) < e - j; omega))
                   dsimp only
                   rw [hst2]; rfl)
            · skip
              refine wa_iload hX dX0_greedyBasis_72 rfl ?_
              refine wa_istore hX dX0_greedyBasis_74 (by first | rfl | exact hu1 | exact hu2 | exact hu3 | exact hu4) ?_
              dsimp only [List.set]
              refine wi_iinc hX dX0_greedyBasis_76 rfl ?_
              dsimp only [List.set]
              refine wa_goto hX (tgt := 22) dX0_greedyBasis_79 (by decide) ?_
              first
                | (exfalso; omega)
                | (have ht := and_c1 c37
                   rw [if_neg (fun z => by rw [ht] at z; cases z.1)] at hst2
                   refine WA.eq rfl ?_ rfl (ih2 (j + 1, .val (I 0)) ⟨by show j + 1 ≤ e; omega, rfl⟩ (by show e - (j + 1) < e - j; omega))
                   dsimp only
                   rw [hst2]; rfl)
                | (have ht := and_c0 c37
                   rw [if_pos ⟨ht, by omega⟩] at hst2
                   refine WA.eq rfl ?_ rfl (ih2 (j + 1, .val (I 1)) ⟨by show j + 1 ≤ e; omega, rfl⟩ (by show e - (j + 1) < e - j; omega))
                   dsimp only
                   rw [hst2]; rfl)
                | (rw [if_neg (fun z => by have := z.2; omega)] at hst2
                   refine WA.eq rfl ?_ rfl (ih2 (j + 1, .val (I 1)) ⟨by show j + 1 ≤ e; omega, rfl⟩ (by show e - (j + 1) < e - j; omega))
                   dsimp only
                   rw [hst2]; rfl)
      · skip
        refine wi_iconst hX dX0_greedyBasis_40 ?_
        refine wa_goto hX (tgt := 45) dX0_greedyBasis_41 (by decide) ?_
        refine wa_istore hX dX0_greedyBasis_45 (by first | rfl | exact hu1 | exact hu2 | exact hu3 | exact hu4) ?_
        dsimp only [List.set]
        refine wa_iload hX dX0_greedyBasis_47 rfl ?_
        refine wi_if_eq hX (tgt := 76) dX0_greedyBasis_49 (by decide) (by omega) (fun c49 => ?_) (fun c49 => ?_)
        · skip
          refine wi_iinc hX dX0_greedyBasis_76 rfl ?_
          dsimp only [List.set]
          refine wa_goto hX (tgt := 22) dX0_greedyBasis_79 (by decide) ?_
          first
            | (exfalso; omega)
            | (have ht := and_c1 c37
               rw [if_neg (fun z => by rw [ht] at z; cases z.1)] at hst2
               refine WA.eq rfl ?_ rfl (ih2 (j + 1, .val (I 0)) ⟨by show j + 1 ≤ e; omega, rfl⟩ (by show e - (j + 1) < e - j; omega))
               dsimp only
               rw [hst2]; rfl)
            | (have ht := and_c0 c37
               rw [if_pos ⟨ht, by omega⟩] at hst2
               refine WA.eq rfl ?_ rfl (ih2 (j + 1, .val (I 1)) ⟨by show j + 1 ≤ e; omega, rfl⟩ (by show e - (j + 1) < e - j; omega))
               dsimp only
               rw [hst2]; rfl)
            | (rw [if_neg (fun z => by have := z.2; omega)] at hst2
               refine WA.eq rfl ?_ rfl (ih2 (j + 1, .val (I 1)) ⟨by show j + 1 ≤ e; omega, rfl⟩ (by show e - (j + 1) < e - j; omega))
               dsimp only
               rw [hst2]; rfl)
        · skip
          refine wa_iload hX dX0_greedyBasis_52 rfl ?_
          refine wi_if_lt hX (tgt := 72) dX0_greedyBasis_54 (by decide) (by omega) (fun c54 => ?_) (fun c54 => ?_)
          · skip
            refine wa_iload hX dX0_greedyBasis_72 rfl ?_
            refine wa_istore hX dX0_greedyBasis_74 (by first | rfl | exact hu1 | exact hu2 | exact hu3 | exact hu4) ?_
            dsimp only [List.set]
            refine wi_iinc hX dX0_greedyBasis_76 rfl ?_
            dsimp only [List.set]
            refine wa_goto hX (tgt := 22) dX0_greedyBasis_79 (by decide) ?_
            first
              | (exfalso; omega)
              | (have ht := and_c1 c37
                 rw [if_neg (fun z => by rw [ht] at z; cases z.1)] at hst2
                 refine WA.eq rfl ?_ rfl (ih2 (j + 1, .val (I 0)) ⟨by show j + 1 ≤ e; omega, rfl⟩ (by show e - (j + 1) < e - j; omega))
                 dsimp only
                 rw [hst2]; rfl)
              | (have ht := and_c0 c37
                 rw [if_pos ⟨ht, by omega⟩] at hst2
                 refine WA.eq rfl ?_ rfl (ih2 (j + 1, .val (I 1)) ⟨by show j + 1 ≤ e; omega, rfl⟩ (by show e - (j + 1) < e - j; omega))
                 dsimp only
                 rw [hst2]; rfl)
              | (rw [if_neg (fun z => by have := z.2; omega)] at hst2
                 refine WA.eq rfl ?_ rfl (ih2 (j + 1, .val (I 1)) ⟨by show j + 1 ≤ e; omega, rfl⟩ (by show e - (j + 1) < e - j; omega))
                 dsimp only
                 rw [hst2]; rfl)
          · skip
            refine wa_aload_n hX (i := 1) dX0_greedyBasis_57 rfl rfl ?_
            refine wa_iload hX dX0_greedyBasis_58 rfl ?_
            refine wa_callV hX (c_X8_at hW d h3 h4 (i := (j : Int)) (by omega)) (by assumption) (by rfl) (by rfl) (by omega) (nA := 1) (by rfl) (by decide +kernel) rfl (by exact Nat.le_of_ble_eq_true rfl) dX0_greedyBasis_60 (fun r60 h60 p60 => ?_) (fun _ _ q => q.elim)
            obtain ⟨rfl, qq60⟩ := p60; subst h60
            rw [if_pos (⟨by omega, by omega⟩ : 0 ≤ (j : Int) ∧ (j : Int) < 60), Int.toNat_natCast]
            dsimp only [Option.toList, List.cons_append, List.nil_append]
            refine wa_aload_n hX (i := 1) dX0_greedyBasis_63 rfl rfl ?_
            refine wa_iload hX dX0_greedyBasis_64 rfl ?_
            refine wa_callV hX (c_X8_at hW d h3 h4 (i := hvN w sn j) (by omega)) (by assumption) (by rfl) (by rfl) (by omega) (nA := 1) (by rfl) (by decide +kernel) rfl (by exact Nat.le_of_ble_eq_true rfl) dX0_greedyBasis_66 (fun r66 h66 p66 => ?_) (fun _ _ q => q.elim)
            obtain ⟨rfl, qq66⟩ := p66; subst h66
            rw [if_pos (⟨by omega, by omega⟩ : 0 ≤ hvN w sn j ∧ hvN w sn j < 60)]
            dsimp only [Option.toList, List.cons_append, List.nil_append]
            refine wi_icmp_le hX (tgt := 76) dX0_greedyBasis_69 (by decide) (by omega) (by omega) (fun c69 => ?_) (fun c69 => ?_)
            · skip
              refine wi_iinc hX dX0_greedyBasis_76 rfl ?_
              dsimp only [List.set]
              refine wa_goto hX (tgt := 22) dX0_greedyBasis_79 (by decide) ?_
              first
                | (exfalso; omega)
                | (have ht := and_c1 c37
                   rw [if_neg (fun z => by rw [ht] at z; cases z.1)] at hst2
                   refine WA.eq rfl ?_ rfl (ih2 (j + 1, .val (I 0)) ⟨by show j + 1 ≤ e; omega, rfl⟩ (by show e - (j + 1) < e - j; omega))
                   dsimp only
                   rw [hst2]; rfl)
                | (have ht := and_c0 c37
                   rw [if_pos ⟨ht, by omega⟩] at hst2
                   refine WA.eq rfl ?_ rfl (ih2 (j + 1, .val (I 1)) ⟨by show j + 1 ≤ e; omega, rfl⟩ (by show e - (j + 1) < e - j; omega))
                   dsimp only
                   rw [hst2]; rfl)
                | (rw [if_neg (fun z => by have := z.2; omega)] at hst2
                   refine WA.eq rfl ?_ rfl (ih2 (j + 1, .val (I 1)) ⟨by show j + 1 ≤ e; omega, rfl⟩ (by show e - (j + 1) < e - j; omega))
                   dsimp only
                   rw [hst2]; rfl)
            · skip
              refine wa_iload hX dX0_greedyBasis_72 rfl ?_
              refine wa_istore hX dX0_greedyBasis_74 (by first | rfl | exact hu1 | exact hu2 | exact hu3 | exact hu4) ?_
              dsimp only [List.set]
              refine wi_iinc hX dX0_greedyBasis_76 rfl ?_
              dsimp only [List.set]
              refine wa_goto hX (tgt := 22) dX0_greedyBasis_79 (by decide) ?_
              first
                | (exfalso; omega)
                | (have ht := and_c1 c37
                   rw [if_neg (fun z => by rw [ht] at z; cases z.1)] at hst2
                   refine WA.eq rfl ?_ rfl (ih2 (j + 1, .val (I 0)) ⟨by show j + 1 ≤ e; omega, rfl⟩ (by show e - (j + 1) < e - j; omega))
                   dsimp only
                   rw [hst2]; rfl)
                | (have ht := and_c0 c37
                   rw [if_pos ⟨ht, by omega⟩] at hst2
                   refine WA.eq rfl ?_ rfl (ih2 (j + 1, .val (I 1)) ⟨by show j + 1 ≤ e; omega, rfl⟩ (by show e - (j + 1) < e - j; omega))
                   dsimp only
                   rw [hst2]; rfl)
                | (rw [if_neg (fun z => by have := z.2; omega)] at hst2
                   refine WA.eq rfl ?_ rfl (ih2 (j + 1, .val (I 1)) ⟨by show j + 1 ≤ e; omega, rfl⟩ (by show e - (j + 1) < e - j; omega))
                   dsimp only
                   rw [hst2]; rfl)
end C36
