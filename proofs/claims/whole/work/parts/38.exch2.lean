/-! Circuitfold$Exchange (X4): spanning sets, swaps -/
section C38
variable {l : Launch} {D : va_G} {S0 : State}
set_option maxRecDepth 100000 in
theorem c_X4_findSpanning (hW : WOK l D S0) (d : Nat) {h : AH} {a la mq sq wq lm ls e : Nat} {br bf bs be : Int} {M : Nat → Bool} {F0 : Nat → Int} (h1 : h a = some (la, oExc mq sq wq ((2 ^ e - 1 : Nat) : Int) br bf bs be)) (h2 : h mq = some (lm, aM 1024 M)) (h3 : h sq = some (ls, aI .byte 1024 F0)) (hl : lm ≠ ls) (he : e ≤ 10) : MA l D S0 yX4_findSpanning cX4_findSpanning 3 none (d + 1) [.ref a] h 0 0 (fun r h' => r = none ∧ ∃ F, h' = hset h sq (ls, aI .byte 1024 F) ∧ ∀ j, j < 2 ^ e → F j = ((b2n (spn M j) : Nat) : Int)) (fun _ _ => False) := by
  have hp := p2_le he
  have hp0 := p2_pos e
  have has := ne_oa h1 h3
  have hms : mq ≠ sq := lab_ne h3 h2 hl
  refine MA.start hW (by decide) [.val (.ref a), .unset, .unset] rfl ?_
  rintro X rfl rfl rfl hX
  refine wi_iconst hX dX4_findSpanning_0 ?_
  refine wa_istore_n hX (i := 1) dX4_findSpanning_1 rfl (by first | rfl | exact hu1 | exact hu2 | exact hu3 | exact hu4) ?_
  dsimp only [List.set]
  refine WA.heap (hset_self h3).symm ?_
  refine WA.loop (σ := Nat × (Nat → Int) × Slot) (fun z => 2 ^ e - z.1) (fun z => z.1 ≤ 2 ^ e ∧ okS [z.2.2] 0 = true ∧ ∀ j, j < z.1 → z.2.1 j = ((b2n (spn M j) : Nat) : Int)) (fun z => hset h sq (ls, aI .byte 1024 z.2.1)) (fun z => [.val (.ref a), .val (I (z.1 : Nat)), z.2.2]) ?_ (0, F0, .unset) ⟨Nat.zero_le _, rfl, fun j hj => absurd hj (Nat.not_lt_zero j)⟩
  rintro ⟨i, F, u1⟩ ⟨hi, hu1, hF⟩ ih
  dsimp only at hi hu1 hF ⊢
  have g1 : hset h sq (ls, aI .byte 1024 F) a = some (la, oExc mq sq wq ((2 ^ e - 1 : Nat) : Int) br bf bs be) := (hset_ne has).trans h1
  have g2 : hset h sq (ls, aI .byte 1024 F) mq = some (lm, aM 1024 M) := (hset_ne hms).trans h2
  have g3 : hset h sq (ls, aI .byte 1024 F) sq = some (ls, aI .byte 1024 F) := hset_eq
  refine wa_iload_n hX (i := 1) dX4_findSpanning_2 rfl rfl ?_
  refine wa_aload_n hX (i := 0) dX4_findSpanning_3 rfl rfl ?_
  refine wa_get hX 3 (by assumption) (by rfl) (by decide +kernel) dX4_findSpanning_4 ?_
  refine wi_icmp_gt hX (tgt := 77) dX4_findSpanning_7 (by decide) (by omega) (by omega) (fun c7 => ?_) (fun c7 => ?_)
  · skip
    refine wa_vret hX dX4_findSpanning_77 ?_
    first | (exfalso; omega) | exact ⟨rfl, F, rfl, fun j hj => hF j (by omega)⟩
  · skip
    refine wa_iload_n hX (i := 1) dX4_findSpanning_10 rfl rfl ?_
    refine wa_aload_n hX (i := 0) dX4_findSpanning_11 rfl rfl ?_
    refine wa_get hX 1 (by assumption) (by rfl) (by decide +kernel) dX4_findSpanning_12 ?_
    refine wa_len hX (by assumption) dX4_findSpanning_15 ?_
    refine wi_icmp_ge hX (tgt := 77) dX4_findSpanning_16 (by decide) (by omega) (by omega) (fun c16 => ?_) (fun c16 => ?_)
    · skip
      refine wa_vret hX dX4_findSpanning_77 ?_
      first | (exfalso; omega) | exact ⟨rfl, F, rfl, fun j hj => hF j (by omega)⟩
    · skip
      refine wa_aload_n hX (i := 0) dX4_findSpanning_19 rfl rfl ?_
      refine wa_get hX 1 (by assumption) (by rfl) (by decide +kernel) dX4_findSpanning_20 ?_
      refine wa_iload_n hX (i := 1) dX4_findSpanning_23 rfl rfl ?_
      refine wa_aload_n hX (i := 0) dX4_findSpanning_24 rfl rfl ?_
      refine wa_get hX 0 (by assumption) (by rfl) (by decide +kernel) dX4_findSpanning_25 ?_
      refine wa_iload_n hX (i := 1) dX4_findSpanning_28 rfl rfl ?_
      refine wi_baload hX g2 (by omega) (by omega) (by omega) dX4_findSpanning_29 ?_
      rw [Int.toNat_natCast]
      refine wi_bastore hX g3 (by omega) (by omega) (by omega) (nar8 _ (by have := b2n_le (M i); omega)) dX4_findSpanning_30 ?_
      rw [hset_hset]
      refine wi_iconst hX dX4_findSpanning_31 ?_
      refine wa_istore_n hX (i := 2) dX4_findSpanning_32 rfl (by first | rfl | exact hu1 | exact hu2 | exact hu3 | exact hu4) ?_
      dsimp only [List.set]
      clear g1 g2 g3
      refine WA.loop (σ := Nat × (Nat → Int)) (fun z => e - z.1) (fun z => z.1 ≤ e ∧ (∀ j, j < i → z.2 j = ((b2n (spn M j) : Nat) : Int)) ∧ z.2 i = ((b2n (M i || anyB (fun k => i.testBit k && spn M (i ^^^ 2 ^ k)) z.1) : Nat) : Int)) (fun z => hset h sq (ls, aI .byte 1024 z.2)) (fun z => [.val (.ref a), .val (I (i : Nat)), .val (I ((2 ^ z.1 : Nat) : Int))]) ?_ (0, up F (i : Int).toNat ((b2n (M i) : Nat) : Int)) ⟨Nat.zero_le _, fun j hj => by dsimp only; rw [up_is, Int.toNat_natCast, if_neg (by omega)]; exact hF j hj, by dsimp only; rw [up_is, Int.toNat_natCast, if_pos rfl]; show _ = ((b2n (M i || false) : Nat) : Int); rw [Bool.or_false]⟩
      rintro ⟨k, G⟩ ⟨hk, hG1, hG2⟩ ih2
      dsimp only at hk hG1 hG2 ⊢
      have g1 : hset h sq (ls, aI .byte 1024 G) a = some (la, oExc mq sq wq ((2 ^ e - 1 : Nat) : Int) br bf bs be) := (hset_ne has).trans h1
      have g3 : hset h sq (ls, aI .byte 1024 G) sq = some (ls, aI .byte 1024 G) := hset_eq
      have hpk := p2_mono hk
      have hpk0 := p2_pos k
      refine wa_iload_n hX (i := 2) dX4_findSpanning_33 rfl rfl ?_
      refine wa_iload_n hX (i := 1) dX4_findSpanning_34 rfl rfl ?_
      refine wi_icmp_gt hX (tgt := 71) dX4_findSpanning_35 (by decide) (by omega) (by omega) (fun c35 => ?_) (fun c35 => ?_)
      · skip
        have hst : spn M i = (M i || anyB (fun t => i.testBit t && spn M (i ^^^ 2 ^ t)) k) := by
          rw [spn_step (e := e) (by omega), anyB_stop (k := k) (fun j hj => by
            have h9 := p2_mono hj
            rw [testBit_hi (show i < 2 ^ j by omega), Bool.false_and]) hk]
        refine wi_iinc hX dX4_findSpanning_71 rfl ?_
        dsimp only [List.set]
        refine wa_goto hX (tgt := 2) dX4_findSpanning_74 (by decide) ?_
        refine ih (i + 1, G, .val (I ((2 ^ k : Nat) : Int))) ⟨by show i + 1 ≤ 2 ^ e; omega, rfl, fun j hj => ?_⟩ (by show 2 ^ e - (i + 1) < 2 ^ e - i; omega)
        dsimp only at hj ⊢
        rcases Nat.lt_succ_iff_lt_or_eq.mp hj with q | q
        · exact hG1 j q
        · subst q; rw [hG2, hst]
      · skip
        have hke : k < e := p2_inv (by omega)
        refine wa_iload_n hX (i := 1) dX4_findSpanning_38 rfl rfl ?_
        refine wa_iload_n hX (i := 2) dX4_findSpanning_39 rfl rfl ?_
        refine wn_iand hX dX4_findSpanning_40 (by rfl) (by rfl) ?_
        refine wi_if_eq hX (tgt := 64) dX4_findSpanning_41 (by decide) (by first | omega | exact inR_nat (and_ltl (by omega)) | exact inR_nat (and_ltr (by omega))) (fun c41 => ?_) (fun c41 => ?_)
        · skip
          refine wa_iload_n hX (i := 2) dX4_findSpanning_64 rfl rfl ?_
          refine wi_iconst hX dX4_findSpanning_65 ?_
          refine wn_ishl hX (b := 1) dX4_findSpanning_66 (by rfl) (by rfl) (by omega) ?_
          refine wa_istore_n hX (i := 2) dX4_findSpanning_67 rfl (by first | rfl | exact hu1 | exact hu2 | exact hu3 | exact hu4) ?_
          dsimp only [List.set]
          refine wa_goto hX (tgt := 33) dX4_findSpanning_68 (by decide) ?_
          rw [p2_shl]
          first
            | (have ht := and_c0 c41
               refine ih2 (k + 1, G) ⟨by show k + 1 ≤ e; omega, hG1, ?_⟩ (by show e - (k + 1) < e - k; omega)
               dsimp only
               rw [hG2, anyB_succ, ht, Bool.false_and, Bool.or_false])
            | (have hv := b2n_f c54
               refine ih2 (k + 1, G) ⟨by show k + 1 ≤ e; omega, hG1, ?_⟩ (by show e - (k + 1) < e - k; omega)
               dsimp only
               rw [hG2, anyB_succ, hv, Bool.and_false, Bool.or_false])
            | (have hv := b2n_t c54
               refine ih2 (k + 1, up G (i : Int).toNat 1) ⟨by show k + 1 ≤ e; omega, fun j hj => ?_, ?_⟩ (by show e - (k + 1) < e - k; omega)
               · dsimp only
                 rw [up_is, Int.toNat_natCast, if_neg (by omega)]
                 exact hG1 j hj
               · dsimp only
                 rw [up_is, Int.toNat_natCast, if_pos rfl, anyB_succ, hv, ht, Bool.and_true, Bool.or_true, Bool.or_true]
                 rfl)
        · skip
          have ht := and_c1 c41
          have hx1 := xor_lt ht
          refine wa_aload_n hX (i := 0) dX4_findSpanning_44 rfl rfl ?_
          refine wa_get hX 1 (by assumption) (by rfl) (by decide +kernel) dX4_findSpanning_45 ?_
          refine wa_iload_n hX (i := 1) dX4_findSpanning_48 rfl rfl ?_
          refine wa_iload_n hX (i := 2) dX4_findSpanning_49 rfl rfl ?_
          refine wn_ixor hX dX4_findSpanning_50 (by rfl) (by rfl) ?_
          refine wa_callS hX (c_X9_at hW d g3 (by decide) (i := ((i ^^^ 2 ^ k : Nat) : Int)) (by omega)) (by rfl) (by omega) (nA := 2) (by rfl) (by decide +kernel) rfl (by exact Nat.le_of_ble_eq_true rfl) dX4_findSpanning_51 (fun r51 h51 p51 => ?_) (fun _ _ q => q.elim)
          obtain ⟨rfl, qq51⟩ := p51; subst h51
          rw [atv_in (by omega), hG1 _ hx1]
          dsimp only [Option.toList, List.cons_append, List.nil_append]
          refine wi_if_eq hX (tgt := 64) dX4_findSpanning_54 (by decide) (by exact b2n_inR _) (fun c54 => ?_) (fun c54 => ?_)
          · skip
            refine wa_iload_n hX (i := 2) dX4_findSpanning_64 rfl rfl ?_
            refine wi_iconst hX dX4_findSpanning_65 ?_
            refine wn_ishl hX (b := 1) dX4_findSpanning_66 (by rfl) (by rfl) (by omega) ?_
            refine wa_istore_n hX (i := 2) dX4_findSpanning_67 rfl (by first | rfl | exact hu1 | exact hu2 | exact hu3 | exact hu4) ?_
            dsimp only [List.set]
            refine wa_goto hX (tgt := 33) dX4_findSpanning_68 (by decide) ?_
            rw [p2_shl]
            first
              | (have ht := and_c0 c41
                 refine ih2 (k + 1, G) ⟨by show k + 1 ≤ e; omega, hG1, ?_⟩ (by show e - (k + 1) < e - k; omega)
                 dsimp only
                 rw [hG2, anyB_succ, ht, Bool.false_and, Bool.or_false])
              | (have hv := b2n_f c54
                 refine ih2 (k + 1, G) ⟨by show k + 1 ≤ e; omega, hG1, ?_⟩ (by show e - (k + 1) < e - k; omega)
                 dsimp only
                 rw [hG2, anyB_succ, hv, Bool.and_false, Bool.or_false])
              | (have hv := b2n_t c54
                 refine ih2 (k + 1, up G (i : Int).toNat 1) ⟨by show k + 1 ≤ e; omega, fun j hj => ?_, ?_⟩ (by show e - (k + 1) < e - k; omega)
                 · dsimp only
                   rw [up_is, Int.toNat_natCast, if_neg (by omega)]
                   exact hG1 j hj
                 · dsimp only
                   rw [up_is, Int.toNat_natCast, if_pos rfl, anyB_succ, hv, ht, Bool.and_true, Bool.or_true, Bool.or_true]
                   rfl)
          · skip
            refine wa_aload_n hX (i := 0) dX4_findSpanning_57 rfl rfl ?_
            refine wa_get hX 1 (by assumption) (by rfl) (by decide +kernel) dX4_findSpanning_58 ?_
            refine wa_iload_n hX (i := 1) dX4_findSpanning_61 rfl rfl ?_
            refine wi_iconst hX dX4_findSpanning_62 ?_
            refine wi_bastore hX g3 (by omega) (by omega) (by omega) (by rfl) dX4_findSpanning_63 ?_
            rw [hset_hset]
            refine wa_iload_n hX (i := 2) dX4_findSpanning_64 rfl rfl ?_
            refine wi_iconst hX dX4_findSpanning_65 ?_
            refine wn_ishl hX (b := 1) dX4_findSpanning_66 (by rfl) (by rfl) (by omega) ?_
            refine wa_istore_n hX (i := 2) dX4_findSpanning_67 rfl (by first | rfl | exact hu1 | exact hu2 | exact hu3 | exact hu4) ?_
            dsimp only [List.set]
            refine wa_goto hX (tgt := 33) dX4_findSpanning_68 (by decide) ?_
            rw [p2_shl]
            first
              | (have ht := and_c0 c41
                 refine ih2 (k + 1, G) ⟨by show k + 1 ≤ e; omega, hG1, ?_⟩ (by show e - (k + 1) < e - k; omega)
                 dsimp only
                 rw [hG2, anyB_succ, ht, Bool.false_and, Bool.or_false])
              | (have hv := b2n_f c54
                 refine ih2 (k + 1, G) ⟨by show k + 1 ≤ e; omega, hG1, ?_⟩ (by show e - (k + 1) < e - k; omega)
                 dsimp only
                 rw [hG2, anyB_succ, hv, Bool.and_false, Bool.or_false])
              | (have hv := b2n_t c54
                 refine ih2 (k + 1, up G (i : Int).toNat 1) ⟨by show k + 1 ≤ e; omega, fun j hj => ?_, ?_⟩ (by show e - (k + 1) < e - k; omega)
                 · dsimp only
                   rw [up_is, Int.toNat_natCast, if_neg (by omega)]
                   exact hG1 j hj
                 · dsimp only
                   rw [up_is, Int.toNat_natCast, if_pos rfl, anyB_succ, hv, ht, Bool.and_true, Bool.or_true, Bool.or_true]
                   rfl)
set_option maxRecDepth 100000 in
theorem c_X4_findSwaps (hW : WOK l D S0) (d : Nat) {h : AH} {a la mq sq wq lm lw e s : Nat} {br bf bs be : Int} {M : Nat → Bool} {W0 : Nat → Int} (h1 : h a = some (la, oExc mq sq wq ((2 ^ e - 1 : Nat) : Int) br bf bs be)) (h2 : h mq = some (lm, aM 1024 M)) (h3 : h wq = some (lw, aI .int 10 W0)) (hl : lm ≠ lw) (he : e ≤ 10) (hs : s < 2 ^ e) : MA l D S0 yX4_findSwaps cX4_findSwaps 6 none (d + 2) [.ref a, I (s : Int)] h 0 0 (fun r h' => r = none ∧ ∃ F, h' = hset h wq (lw, aI .int 10 F) ∧ ∀ j, j < 10 → F j = ((swpN M e s j : Nat) : Int)) (fun _ _ => False) := by
  have hp := p2_le he
  have hp0 := p2_pos e
  have has := ne_oa h1 h3
  have hms : mq ≠ wq := lab_ne h3 h2 hl
  refine MA.start hW (by decide) [.val (.ref a), .val (I (s : Int)), .unset, .unset, .unset, .unset] rfl ?_
  rintro X rfl rfl rfl hX
  refine wi_iconst hX dX4_findSwaps_0 ?_
  refine wa_istore_n hX (i := 2) dX4_findSwaps_1 rfl (by first | rfl | exact hu1 | exact hu2 | exact hu3 | exact hu4) ?_
  dsimp only [List.set]
  refine WA.heap (hset_self h3).symm ?_
  refine WA.loop (σ := Nat × (Nat → Int) × Slot × Slot × Slot) (fun z => 10 - z.1) (fun z => z.1 ≤ 10 ∧ okS [z.2.2.1] 0 = true ∧ okS [z.2.2.2.1] 0 = true ∧ okS [z.2.2.2.2] 0 = true ∧ ∀ j, j < z.1 → z.2.1 j = ((swpN M e s j : Nat) : Int)) (fun z => hset h wq (lw, aI .int 10 z.2.1)) (fun z => [.val (.ref a), .val (I (s : Int)), .val (I (z.1 : Nat)), z.2.2.1, z.2.2.2.1, z.2.2.2.2]) ?_ (0, W0, .unset, .unset, .unset) ⟨Nat.zero_le _, rfl, rfl, rfl, fun j hj => absurd hj (Nat.not_lt_zero j)⟩
  rintro ⟨i, F, u1, u2, u3⟩ ⟨hi, hu1, hu2, hu3, hF⟩ ih
  dsimp only at hi hu1 hu2 hu3 hF ⊢
  have g1 : hset h wq (lw, aI .int 10 F) a = some (la, oExc mq sq wq ((2 ^ e - 1 : Nat) : Int) br bf bs be) := (hset_ne has).trans h1
  have g2 : hset h wq (lw, aI .int 10 F) mq = some (lm, aM 1024 M) := (hset_ne hms).trans h2
  have g3 : hset h wq (lw, aI .int 10 F) wq = some (lw, aI .int 10 F) := hset_eq
  have hwl := sdf_lt (b := 2 ^ i) hs
  refine wa_iload_n hX (i := 2) dX4_findSwaps_2 rfl rfl ?_
  refine wa_aload_n hX (i := 0) dX4_findSwaps_3 rfl rfl ?_
  refine wa_get hX 2 (by assumption) (by rfl) (by decide +kernel) dX4_findSwaps_4 ?_
  refine wa_len hX (by assumption) dX4_findSwaps_7 ?_
  refine wi_icmp_ge hX (tgt := 87) dX4_findSwaps_8 (by decide) (by omega) (by omega) (fun c8 => ?_) (fun c8 => ?_)
  · skip
    refine wa_vret hX dX4_findSwaps_87 ?_
    exact ⟨rfl, F, rfl, fun j hj => hF j (by omega)⟩
  · skip
    refine wa_iload_n hX (i := 1) dX4_findSwaps_11 rfl rfl ?_
    refine wi_iconst hX dX4_findSwaps_12 ?_
    refine wa_iload_n hX (i := 2) dX4_findSwaps_13 rfl rfl ?_
    refine wn_shl1 hX dX4_findSwaps_14 (by rfl) (by omega) ?_
    refine wi_iconst hX dX4_findSwaps_15 ?_
    refine wa_ixor hX dX4_findSwaps_16 ?_
    refine wn_andn hX dX4_findSwaps_17 (by rfl) (by rfl) ?_
    refine wa_istore_n hX (i := 3) dX4_findSwaps_18 rfl (by first | rfl | exact hu1 | exact hu2 | exact hu3 | exact hu4) ?_
    dsimp only [List.set]
    refine wi_iconst hX dX4_findSwaps_19 ?_
    refine wa_istore hX dX4_findSwaps_20 (by first | rfl | exact hu1 | exact hu2 | exact hu3 | exact hu4) ?_
    dsimp only [List.set]
    refine wi_iconst hX dX4_findSwaps_22 ?_
    refine wa_istore hX dX4_findSwaps_23 (by first | rfl | exact hu1 | exact hu2 | exact hu3 | exact hu4) ?_
    dsimp only [List.set]
    refine WA.eq rfl (by simp [orB]) rfl (WA.loop (σ := Nat) (fun z => e - z) (fun z => z ≤ e ∧ (s.testBit i = false → z = 0)) (fun _ => hset h wq (lw, aI .int 10 F)) (fun z => [.val (.ref a), .val (I (s : Int)), .val (I (i : Nat)), .val (I (sdf s (2 ^ i) : Nat)), .val (I (orB (fun k => !(sdf s (2 ^ i)).testBit k && M (sdf s (2 ^ i) ||| 2 ^ k)) z : Nat)), .val (I ((2 ^ z : Nat) : Int))]) ?_ 0 ⟨Nat.zero_le _, fun _ => rfl⟩)
    intro k hk0 ih2
    obtain ⟨hk, hk1⟩ := hk0
    have hpk := p2_mono hk
    have hpk0 := p2_pos k
    refine wa_iload hX dX4_findSwaps_25 rfl ?_
    refine wa_aload_n hX (i := 0) dX4_findSwaps_27 rfl rfl ?_
    refine wa_get hX 3 (by assumption) (by rfl) (by decide +kernel) dX4_findSwaps_28 ?_
    refine wi_icmp_gt hX (tgt := 73) dX4_findSwaps_31 (by decide) (by omega) (by omega) (fun c31 => ?_) (fun c31 => ?_)
    · skip
      have hval : orB (fun k => !(sdf s (2 ^ i)).testBit k && M (sdf s (2 ^ i) ||| 2 ^ k)) k = swpN M e s i := by
        unfold swpN
        cases hti : s.testBit i with
        | true =>
          have hke : k = e := by
            first
              | (by_cases q : k < e
                 · exact absurd (bit_lt q) (by omega)
                 · omega)
              | (exfalso
                 have q1 : sdf s (2 ^ i) = s := by omega
                 rw [sdf_self, and_bit0, hti] at q1
                 cases q1)
          rw [hke]; rfl
        | false =>
          rw [hk1 hti]; rfl
      rw [hval]
      refine wa_aload_n hX (i := 0) dX4_findSwaps_73 rfl rfl ?_
      refine wa_get hX 2 (by assumption) (by rfl) (by decide +kernel) dX4_findSwaps_74 ?_
      refine wa_iload_n hX (i := 2) dX4_findSwaps_77 rfl rfl ?_
      refine wa_iload hX dX4_findSwaps_78 rfl ?_
      refine wi_iastore hX g3 (by omega) (by omega) (by omega) dX4_findSwaps_80 ?_
      rw [hset_hset]
      refine wi_iinc hX dX4_findSwaps_81 rfl ?_
      dsimp only [List.set]
      refine wa_goto hX (tgt := 2) dX4_findSwaps_84 (by decide) ?_
      refine ih (i + 1, up F (i : Int).toNat ((swpN M e s i : Nat) : Int), .val (I (sdf s (2 ^ i) : Nat)), .val (I (swpN M e s i : Nat)), .val (I ((2 ^ k : Nat) : Int))) ⟨by show i + 1 ≤ 10; omega, rfl, rfl, rfl, fun j hj => ?_⟩ (by show 10 - (i + 1) < 10 - i; omega)
      dsimp only at hj ⊢
      rw [up_is, Int.toNat_natCast]
      rcases Nat.lt_succ_iff_lt_or_eq.mp hj with q | q
      · rw [if_neg (by omega)]; exact hF j q
      · subst q; rw [if_pos rfl]
    · skip
      refine wa_iload_n hX (i := 3) dX4_findSwaps_34 rfl rfl ?_
      refine wa_iload_n hX (i := 1) dX4_findSwaps_35 rfl rfl ?_
      refine wi_icmp_eq hX (tgt := 73) dX4_findSwaps_36 (by decide) (by omega) (by omega) (fun c36 => ?_) (fun c36 => ?_)
      · skip
        have hval : orB (fun k => !(sdf s (2 ^ i)).testBit k && M (sdf s (2 ^ i) ||| 2 ^ k)) k = swpN M e s i := by
          unfold swpN
          cases hti : s.testBit i with
          | true =>
            have hke : k = e := by
              first
                | (by_cases q : k < e
                   · exact absurd (bit_lt q) (by omega)
                   · omega)
                | (exfalso
                   have q1 : sdf s (2 ^ i) = s := by omega
                   rw [sdf_self, and_bit0, hti] at q1
                   cases q1)
            rw [hke]; rfl
          | false =>
            rw [hk1 hti]; rfl
        rw [hval]
        refine wa_aload_n hX (i := 0) dX4_findSwaps_73 rfl rfl ?_
        refine wa_get hX 2 (by assumption) (by rfl) (by decide +kernel) dX4_findSwaps_74 ?_
        refine wa_iload_n hX (i := 2) dX4_findSwaps_77 rfl rfl ?_
        refine wa_iload hX dX4_findSwaps_78 rfl ?_
        refine wi_iastore hX g3 (by omega) (by omega) (by omega) dX4_findSwaps_80 ?_
        rw [hset_hset]
        refine wi_iinc hX dX4_findSwaps_81 rfl ?_
        dsimp only [List.set]
        refine wa_goto hX (tgt := 2) dX4_findSwaps_84 (by decide) ?_
        refine ih (i + 1, up F (i : Int).toNat ((swpN M e s i : Nat) : Int), .val (I (sdf s (2 ^ i) : Nat)), .val (I (swpN M e s i : Nat)), .val (I ((2 ^ k : Nat) : Int))) ⟨by show i + 1 ≤ 10; omega, rfl, rfl, rfl, fun j hj => ?_⟩ (by show 10 - (i + 1) < 10 - i; omega)
        dsimp only at hj ⊢
        rw [up_is, Int.toNat_natCast]
        rcases Nat.lt_succ_iff_lt_or_eq.mp hj with q | q
        · rw [if_neg (by omega)]; exact hF j q
        · subst q; rw [if_pos rfl]
      · skip
        have hke : k < e := p2_inv (by omega)
        have hti : s.testBit i = true := by
          rw [← and_bit1]
          intro q
          rw [← sdf_self] at q
          omega
        refine wa_iload_n hX (i := 3) dX4_findSwaps_39 rfl rfl ?_
        refine wa_iload hX dX4_findSwaps_40 rfl ?_
        refine wn_iand hX dX4_findSwaps_42 (by rfl) (by rfl) ?_
        refine wi_if_ne hX (tgt := 64) dX4_findSwaps_43 (by decide) (by first | omega | exact inR_nat (and_ltl (by omega)) | exact inR_nat (and_ltr (by omega))) (fun c43 => ?_) (fun c43 => ?_)
        · skip
          refine wa_iload hX dX4_findSwaps_64 rfl ?_
          refine wi_iconst hX dX4_findSwaps_66 ?_
          refine wn_ishl hX (b := 1) dX4_findSwaps_67 (by rfl) (by rfl) (by omega) ?_
          refine wa_istore hX dX4_findSwaps_68 (by first | rfl | exact hu1 | exact hu2 | exact hu3 | exact hu4) ?_
          dsimp only [List.set]
          refine wa_goto hX (tgt := 25) dX4_findSwaps_70 (by decide) ?_
          rw [p2_shl]
          refine WA.eq rfl ?_ rfl (ih2 (k + 1) ⟨by omega, fun q => by rw [hti] at q; cases q⟩ (by omega))
          first
            | (have q5 := and_c1 c43; rw [orB_n (by simp [q5])] <;> rfl)
            | (have q5 := b2n_f c54; rw [orB_n (by simp [q5])] <;> rfl)
            | (have q5 := and_c0 c43; have q6 := b2n_t c54; rw [orB_y (by simp [q5, q6])] <;> rfl)
        · skip
          refine wa_aload_n hX (i := 0) dX4_findSwaps_46 rfl rfl ?_
          refine wa_iload_n hX (i := 3) dX4_findSwaps_47 rfl rfl ?_
          refine wa_iload hX dX4_findSwaps_48 rfl ?_
          refine wn_ior hX dX4_findSwaps_50 (by rfl) (by rfl) ?_
          refine wa_callV hX (c_X4_isMarked hW d g1 g2 (s := sdf s (2 ^ i) ||| 2 ^ k) (Nat.lt_of_lt_of_le (or_lt hwl (bit_lt hke)) hp)) (by assumption) (by rfl) (by rfl) (by omega) (nA := 1) (by rfl) (by decide +kernel) rfl (by exact Nat.le_of_ble_eq_true rfl) dX4_findSwaps_51 (fun r51 h51 p51 => ?_) (fun _ _ q => q.elim)
          obtain ⟨rfl, qq51⟩ := p51; subst h51
          dsimp only [Option.toList, List.cons_append, List.nil_append]
          refine wi_if_eq hX (tgt := 64) dX4_findSwaps_54 (by decide) (by exact b2n_inR _) (fun c54 => ?_) (fun c54 => ?_)
          · skip
            refine wa_iload hX dX4_findSwaps_64 rfl ?_
            refine wi_iconst hX dX4_findSwaps_66 ?_
            refine wn_ishl hX (b := 1) dX4_findSwaps_67 (by rfl) (by rfl) (by omega) ?_
            refine wa_istore hX dX4_findSwaps_68 (by first | rfl | exact hu1 | exact hu2 | exact hu3 | exact hu4) ?_
            dsimp only [List.set]
            refine wa_goto hX (tgt := 25) dX4_findSwaps_70 (by decide) ?_
            rw [p2_shl]
            refine WA.eq rfl ?_ rfl (ih2 (k + 1) ⟨by omega, fun q => by rw [hti] at q; cases q⟩ (by omega))
            first
              | (have q5 := and_c1 c43; rw [orB_n (by simp [q5])] <;> rfl)
              | (have q5 := b2n_f c54; rw [orB_n (by simp [q5])] <;> rfl)
              | (have q5 := and_c0 c43; have q6 := b2n_t c54; rw [orB_y (by simp [q5, q6])] <;> rfl)
          · skip
            refine wa_iload hX dX4_findSwaps_57 rfl ?_
            refine wa_iload hX dX4_findSwaps_59 rfl ?_
            refine wn_ior hX dX4_findSwaps_61 (by rfl) (by rfl) ?_
            refine wa_istore hX dX4_findSwaps_62 (by first | rfl | exact hu1 | exact hu2 | exact hu3 | exact hu4) ?_
            dsimp only [List.set]
            refine wa_iload hX dX4_findSwaps_64 rfl ?_
            refine wi_iconst hX dX4_findSwaps_66 ?_
            refine wn_ishl hX (b := 1) dX4_findSwaps_67 (by rfl) (by rfl) (by omega) ?_
            refine wa_istore hX dX4_findSwaps_68 (by first | rfl | exact hu1 | exact hu2 | exact hu3 | exact hu4) ?_
            dsimp only [List.set]
            refine wa_goto hX (tgt := 25) dX4_findSwaps_70 (by decide) ?_
            rw [p2_shl]
            refine WA.eq rfl ?_ rfl (ih2 (k + 1) ⟨by omega, fun q => by rw [hti] at q; cases q⟩ (by omega))
            first
              | (have q5 := and_c1 c43; rw [orB_n (by simp [q5])] <;> rfl)
              | (have q5 := b2n_f c54; rw [orB_n (by simp [q5])] <;> rfl)
              | (have q5 := and_c0 c43; have q6 := b2n_t c54; rw [orB_y (by simp [q5, q6])] <;> rfl)
set_option maxRecDepth 100000 in
theorem c_X4_swapsMeet (hW : WOK l D S0) (d : Nat) {h : AH} {a la mq sq wq ls lw e s : Nat} {br bf bs be : Int} {M : Nat → Bool} {F W0 : Nat → Int} (h1 : h a = some (la, oExc mq sq wq ((2 ^ e - 1 : Nat) : Int) br bf bs be)) (h2 : h sq = some (ls, aI .byte 1024 F)) (h3 : h wq = some (lw, aI .int 10 W0)) (hF : ∀ j, j < 2 ^ e → F j = ((b2n (spn M j) : Nat) : Int)) (hW0 : ∀ j, j < 10 → W0 j = ((swpN M e s j : Nat) : Int)) (he : e ≤ 10) (hs : s < 2 ^ e) : MA l D S0 yX4_swapsMeetAllBases cX4_swapsMeetAllBases 3 (some .boolean) (d + 1) [.ref a, I (s : Int)] h 0 0 (fun r h' => r = some (I ((b2n (allB (fun el => !s.testBit el || !spn M (sdf (2 ^ e - 1) (swpN M e s el))) 10) : Nat) : Int)) ∧ h' = h) (fun _ _ => False) := by
  have hp := p2_le he
  have hp0 := p2_pos e
  refine MA.start hW (by decide) [.val (.ref a), .val (I (s : Int)), .unset] rfl ?_
  rintro X rfl rfl rfl hX
  refine wi_iconst hX dX4_swapsMeetAllBases_0 ?_
  refine wa_istore_n hX (i := 2) dX4_swapsMeetAllBases_1 rfl rfl ?_
  dsimp only [List.set]
  refine WA.loop (σ := Nat) (fun z => 10 - z) (fun z => z ≤ 10 ∧ ∀ t, t < z → (!s.testBit t || !spn M (sdf (2 ^ e - 1) (swpN M e s t))) = true) (fun _ => h) (fun z => [.val (.ref a), .val (I (s : Int)), .val (I (z : Nat))]) ?_ 0 ⟨Nat.zero_le _, fun t ht => absurd ht (Nat.not_lt_zero t)⟩
  rintro i ⟨hi, hf⟩ ih
  have hx := sdf_lt (a := 2 ^ e - 1) (b := swpN M e s i) (show 2 ^ e - 1 < 2 ^ e by omega)
  refine wa_iload_n hX (i := 2) dX4_swapsMeetAllBases_2 rfl rfl ?_
  refine wa_aload_n hX (i := 0) dX4_swapsMeetAllBases_3 rfl rfl ?_
  refine wa_get hX 2 (by assumption) (by rfl) (by decide +kernel) dX4_swapsMeetAllBases_4 ?_
  refine wa_len hX (by assumption) dX4_swapsMeetAllBases_7 ?_
  refine wi_icmp_ge hX (tgt := 50) dX4_swapsMeetAllBases_8 (by decide) (by omega) (by omega) (fun c8 => ?_) (fun c8 => ?_)
  · skip
    refine wi_iconst hX dX4_swapsMeetAllBases_50 ?_
    refine wa_zret hX dX4_swapsMeetAllBases_51 (by rfl) ?_
    refine ⟨?_, rfl⟩
    have hq : allB (fun el => !s.testBit el || !spn M (sdf (2 ^ e - 1) (swpN M e s el))) 10 = true := allB_iff.mpr (fun t ht => hf t (by omega))
    rw [hq]
    rfl
  · skip
    refine wa_iload_n hX (i := 1) dX4_swapsMeetAllBases_11 rfl rfl ?_
    refine wi_iconst hX dX4_swapsMeetAllBases_12 ?_
    refine wa_iload_n hX (i := 2) dX4_swapsMeetAllBases_13 rfl rfl ?_
    refine wn_shl1 hX dX4_swapsMeetAllBases_14 (by rfl) (by omega) ?_
    refine wn_iand hX dX4_swapsMeetAllBases_15 (by rfl) (by rfl) ?_
    refine wi_if_eq hX (tgt := 44) dX4_swapsMeetAllBases_16 (by decide) (by first | omega | exact inR_nat (and_ltl (by omega)) | exact inR_nat (and_ltr (by omega))) (fun c16 => ?_) (fun c16 => ?_)
    · skip
      refine wi_iinc hX dX4_swapsMeetAllBases_44 rfl ?_
      dsimp only [List.set]
      refine wa_goto hX (tgt := 2) dX4_swapsMeetAllBases_47 (by decide) ?_
      refine ih (i + 1) ⟨by omega, fun t ht => ?_⟩ (by omega)
      rcases Nat.lt_succ_iff_lt_or_eq.mp ht with e9 | e9
      · exact hf t e9
      · subst e9
        first
          | (rw [and_c0 c16]; rfl)
          | (rw [b2n_f c39, Bool.not_false, Bool.or_true])
    · skip
      refine wa_aload_n hX (i := 0) dX4_swapsMeetAllBases_19 rfl rfl ?_
      refine wa_get hX 1 (by assumption) (by rfl) (by decide +kernel) dX4_swapsMeetAllBases_20 ?_
      refine wa_aload_n hX (i := 0) dX4_swapsMeetAllBases_23 rfl rfl ?_
      refine wa_get hX 3 (by assumption) (by rfl) (by decide +kernel) dX4_swapsMeetAllBases_24 ?_
      refine wa_aload_n hX (i := 0) dX4_swapsMeetAllBases_27 rfl rfl ?_
      refine wa_get hX 2 (by assumption) (by rfl) (by decide +kernel) dX4_swapsMeetAllBases_28 ?_
      refine wa_iload_n hX (i := 2) dX4_swapsMeetAllBases_31 rfl rfl ?_
      refine wi_iaload hX h3 (by omega) (by omega) (by omega) dX4_swapsMeetAllBases_32 ?_
      rw [Int.toNat_natCast, hW0 i (by omega)]
      refine wi_iconst hX dX4_swapsMeetAllBases_33 ?_
      refine wa_ixor hX dX4_swapsMeetAllBases_34 ?_
      refine wn_andn hX dX4_swapsMeetAllBases_35 (by rfl) (by rfl) ?_
      refine wa_callS hX (c_X9_at hW d h2 (by decide) (i := ((sdf (2 ^ e - 1) (swpN M e s i) : Nat) : Int)) (by omega)) (by rfl) (by omega) (nA := 2) (by rfl) (by decide +kernel) rfl (by exact Nat.le_of_ble_eq_true rfl) dX4_swapsMeetAllBases_36 (fun r36 h36 p36 => ?_) (fun _ _ q => q.elim)
      obtain ⟨rfl, qq36⟩ := p36; subst h36
      rw [atv_in (by omega), hF _ hx]
      dsimp only [Option.toList, List.cons_append, List.nil_append]
      refine wi_if_eq hX (tgt := 44) dX4_swapsMeetAllBases_39 (by decide) (by exact b2n_inR _) (fun c39 => ?_) (fun c39 => ?_)
      · skip
        refine wi_iinc hX dX4_swapsMeetAllBases_44 rfl ?_
        dsimp only [List.set]
        refine wa_goto hX (tgt := 2) dX4_swapsMeetAllBases_47 (by decide) ?_
        refine ih (i + 1) ⟨by omega, fun t ht => ?_⟩ (by omega)
        rcases Nat.lt_succ_iff_lt_or_eq.mp ht with e9 | e9
        · exact hf t e9
        · subst e9
          first
            | (rw [and_c0 c16]; rfl)
            | (rw [b2n_f c39, Bool.not_false, Bool.or_true])
      · skip
        refine wi_iconst hX dX4_swapsMeetAllBases_42 ?_
        refine wa_zret hX dX4_swapsMeetAllBases_43 (by rfl) ?_
        refine ⟨?_, rfl⟩
        have hq : allB (fun el => !s.testBit el || !spn M (sdf (2 ^ e - 1) (swpN M e s el))) 10 = false := by
          rw [Bool.eq_false_iff]
          intro q
          have q1 := allB_iff.mp q i (by omega)
          rw [and_c1 c16, b2n_t c39] at q1
          cases q1
        rw [hq]
        rfl
end C38
