/-! Circuitfold$Exchange (X4): the break that is told, the whole test, constructor -/
/-- whether the rule is broken by the bases f and g at el -/
def brk (M : Nat → Bool) (e f g el : Nat) : Bool := M g && f.testBit el && !g.testBit el && (swpN M e f el &&& g == 0)
def brkMin (M : Nat → Bool) (e f g el : Nat) : Prop := g < 2 ^ e ∧ el < 10 ∧ brk M e f g el = true ∧ (∀ g' el', g' < g → el' < 10 → brk M e f g' el' = false) ∧ ∀ el', el' < el → brk M e f g el' = false
def oneN (M : Nat → Bool) (e : Nat) : Prop := (∃ s, s < 2 ^ e ∧ M s = true) ∧ ∀ s t, s < 2 ^ e → t < 2 ^ e → M s = true → M t = true → bc s = bc t
theorem sub_all {e g : Nat} (hg : g < 2 ^ e) : g &&& (2 ^ e - 1) = g := by
  rw [Nat.and_two_pow_sub_one_eq_mod, Nat.mod_eq_of_lt hg]
theorem sub_sdf {e g w : Nat} (hg : g < 2 ^ e) : g &&& sdf (2 ^ e - 1) w = g ↔ w &&& g = 0 := by
  constructor
  · intro h
    apply Nat.eq_of_testBit_eq
    intro j
    rw [Nat.testBit_and, Nat.zero_testBit]
    cases e1 : g.testBit j with
    | false => rw [Bool.and_false]
    | true =>
      have h2 := and_testBit h e1
      rw [sdf_bit, Bool.and_eq_true] at h2
      have h3 := h2.2
      rw [Bool.not_eq_true'] at h3
      rw [h3]; rfl
  · intro h
    apply Nat.eq_of_testBit_eq
    intro j
    rw [Nat.testBit_and, sdf_bit]
    cases e1 : g.testBit j with
    | false => rfl
    | true =>
      have h2 := and_testBit (sub_all hg) e1
      have h3 := congrArg (fun z => z.testBit j) h
      simp only [Nat.testBit_and, e1, Bool.and_true, Nat.zero_testBit] at h3
      rw [h2, h3]; rfl
theorem swap_yes {M : Nat → Bool} {e f : Nat} (h : allB (fun el => !f.testBit el || !spn M (sdf (2 ^ e - 1) (swpN M e f el))) 10 = true) : ∀ g el, g < 2 ^ e → el < 10 → brk M e f g el = false := by
  intro g el hg hel
  cases hb : brk M e f g el with
  | false => rfl
  | true =>
    exfalso
    unfold brk at hb
    simp only [Bool.and_eq_true, beq_iff_eq] at hb
    obtain ⟨⟨⟨b1, b2⟩, -⟩, b4⟩ := hb
    have h1 := allB_iff.mp h el hel
    rw [b2, show spn M (sdf (2 ^ e - 1) (swpN M e f el)) = true from spn_iff.mpr ⟨g, b1, (sub_sdf hg).mpr b4⟩] at h1
    cases h1
theorem swap_no {M : Nat → Bool} {e f : Nat} (hM : M f = true) (hf : f < 2 ^ e) (h : allB (fun el => !f.testBit el || !spn M (sdf (2 ^ e - 1) (swpN M e f el))) 10 = false) : ∃ g el, g < 2 ^ e ∧ el < 10 ∧ brk M e f g el = true := by
  by_cases q : ∃ el, el < 10 ∧ (!f.testBit el || !spn M (sdf (2 ^ e - 1) (swpN M e f el))) = false
  · obtain ⟨el, hel, h1⟩ := q
    rw [Bool.or_eq_false_iff, Bool.not_eq_false', Bool.not_eq_false', spn_iff] at h1
    obtain ⟨h2, g, h3, h4⟩ := h1
    have hgl : g < 2 ^ e := by
      have : g ≤ sdf (2 ^ e - 1) (swpN M e f el) := by rw [← h4]; exact Nat.and_le_right
      have h5 := sdf_lt (a := 2 ^ e - 1) (b := swpN M e f el) (show 2 ^ e - 1 < 2 ^ e by have := p2_pos e; omega)
      omega
    refine ⟨g, el, hgl, hel, ?_⟩
    have h6 := (sub_sdf hgl).mp h4
    have hle : el < e := by
      by_cases q : el < e
      · exact q
      · have := testBit_hi (Nat.lt_of_lt_of_le hf (p2_mono (show e ≤ el by omega)))
        rw [this] at h2
        cases h2
    have h7 : (swpN M e f el).testBit el = true := by
      unfold swpN
      rw [if_pos h2, orB_bit, decide_eq_true hle, Bool.true_and, sdf_bit, bit_two]
      have h8 : sdf f (2 ^ el) ||| 2 ^ el = f := by
        apply Nat.eq_of_testBit_eq
        intro j
        rw [Nat.testBit_or, sdf_bit, bit_two]
        by_cases e9 : el = j
        · subst e9; simp [h2]
        · simp [e9]
      rw [h8, hM]
      simp
    have h9 : g.testBit el = false := by
      have h3 := congrArg (fun z => z.testBit el) h6
      simp only [Nat.testBit_and, h7, Bool.true_and, Nat.zero_testBit] at h3
      exact h3
    unfold brk
    rw [h3, h2, h9, h6]
    rfl
  · exfalso
    have h1 : allB (fun el => !f.testBit el || !spn M (sdf (2 ^ e - 1) (swpN M e f el))) 10 = true := allB_iff.mpr (fun el hel => by
      cases e1 : (!f.testBit el || !spn M (sdf (2 ^ e - 1) (swpN M e f el))) with
      | true => rfl
      | false => exact absurd ⟨el, hel, e1⟩ q)
    rw [h1] at h
    cases h
section C39
variable {l : Launch} {D : va_G} {S0 : State}
set_option maxRecDepth 100000 in
theorem c_X4_tellBreak (hW : WOK l D S0) (d : Nat) {h : AH} {a la mq sq wq lm lw e f : Nat} {br bf bs be : Int} {M : Nat → Bool} {W0 : Nat → Int} (h1 : h a = some (la, oExc mq sq wq ((2 ^ e - 1 : Nat) : Int) br bf bs be)) (h2 : h mq = some (lm, aM 1024 M)) (h3 : h wq = some (lw, aI .int 10 W0)) (hW0 : ∀ j, j < 10 → W0 j = ((swpN M e f j : Nat) : Int)) (he : e ≤ 10) (hf : f < 2 ^ e) : MA l D S0 yX4_tellBreak cX4_tellBreak 4 none (d + 2) [.ref a, I (f : Int)] h 0 0 (fun r h' => r = none ∧ ((∃ g el : Nat, brkMin M e f g el ∧ h' = hset h a (la, oExc mq sq wq ((2 ^ e - 1 : Nat) : Int) 1 f g el)) ∨ ((∀ g el, g < 2 ^ e → el < 10 → brk M e f g el = false) ∧ h' = h))) (fun _ _ => False) := by
  have hp := p2_le he
  have hp0 := p2_pos e
  refine MA.start hW (by decide) [.val (.ref a), .val (I (f : Int)), .unset, .unset] rfl ?_
  rintro X rfl rfl rfl hX
  refine wi_iconst hX dX4_tellBreak_0 ?_
  refine wa_istore_n hX (i := 2) dX4_tellBreak_1 rfl (by first | rfl | exact hu1 | exact hu2 | exact hu3 | exact hu4) ?_
  dsimp only [List.set]
  refine WA.loop (σ := Nat × Slot) (fun z => 2 ^ e - z.1) (fun z => z.1 ≤ 2 ^ e ∧ okS [z.2] 0 = true ∧ ∀ g el, g < z.1 → el < 10 → brk M e f g el = false) (fun _ => h) (fun z => [.val (.ref a), .val (I (f : Int)), .val (I (z.1 : Nat)), z.2]) ?_ (0, .unset) ⟨Nat.zero_le _, rfl, fun g el hg => absurd hg (Nat.not_lt_zero g)⟩
  rintro ⟨i, u1⟩ ⟨hi, hu1, hN⟩ ih
  dsimp only at hi hu1 hN ⊢
  refine wa_iload_n hX (i := 2) dX4_tellBreak_2 rfl rfl ?_
  refine wa_aload_n hX (i := 0) dX4_tellBreak_3 rfl rfl ?_
  refine wa_get hX 3 (by assumption) (by rfl) (by decide +kernel) dX4_tellBreak_4 ?_
  refine wi_icmp_gt hX (tgt := 85) dX4_tellBreak_7 (by decide) (by omega) (by omega) (fun c7 => ?_) (fun c7 => ?_)
  · skip
    refine wa_vret hX dX4_tellBreak_85 ?_
    exact ⟨rfl, Or.inr ⟨fun g el hg hel => hN g el (by omega) hel, rfl⟩⟩
  · skip
    refine wi_iconst hX dX4_tellBreak_10 ?_
    refine wa_istore_n hX (i := 3) dX4_tellBreak_11 rfl (by first | rfl | exact hu1 | exact hu2 | exact hu3 | exact hu4) ?_
    dsimp only [List.set]
    refine WA.loop (σ := Nat) (fun z => 10 - z) (fun z => z ≤ 10 ∧ ∀ el, el < z → brk M e f i el = false) (fun _ => h) (fun z => [.val (.ref a), .val (I (f : Int)), .val (I (i : Nat)), .val (I (z : Nat))]) ?_ 0 ⟨Nat.zero_le _, fun el hel => absurd hel (Nat.not_lt_zero el)⟩
    rintro j ⟨hj, hE⟩ ih2
    have hbr : brk M e f i j = (M i && f.testBit j && !i.testBit j && (swpN M e f j &&& i == 0)) := rfl
    have hsw := swpN_lt M e f j
    have hnext : brk M e f i j = false → ∀ el, el < j + 1 → brk M e f i el = false := fun q el hel => by
      rcases Nat.lt_succ_iff_lt_or_eq.mp hel with e9 | e9
      · exact hE el e9
      · subst e9; exact q
    refine wa_iload_n hX (i := 3) dX4_tellBreak_12 rfl rfl ?_
    refine wa_aload_n hX (i := 0) dX4_tellBreak_13 rfl rfl ?_
    refine wa_get hX 2 (by assumption) (by rfl) (by decide +kernel) dX4_tellBreak_14 ?_
    refine wa_len hX (by assumption) dX4_tellBreak_17 ?_
    refine wi_icmp_ge hX (tgt := 79) dX4_tellBreak_18 (by decide) (by omega) (by omega) (fun c18 => ?_) (fun c18 => ?_)
    · skip
      refine wi_iinc hX dX4_tellBreak_79 rfl ?_
      dsimp only [List.set]
      refine wa_goto hX (tgt := 2) dX4_tellBreak_82 (by decide) ?_
      refine ih (i + 1, .val (I (j : Nat))) ⟨by show i + 1 ≤ 2 ^ e; omega, rfl, fun g el hg hel => ?_⟩ (by show 2 ^ e - (i + 1) < 2 ^ e - i; omega)
      dsimp only at hg
      rcases Nat.lt_succ_iff_lt_or_eq.mp hg with e9 | e9
      · exact hN g el e9 hel
      · subst e9
        first
          | (have q5 := b2n_f c26
             unfold brk
             rw [q5, Bool.false_and, Bool.false_and, Bool.false_and])
          | exact hE el (by omega)
    · skip
      refine wa_aload_n hX (i := 0) dX4_tellBreak_21 rfl rfl ?_
      refine wa_iload_n hX (i := 2) dX4_tellBreak_22 rfl rfl ?_
      refine wa_callV hX (c_X4_isMarked hW d h1 h2 (s := i) (by omega)) (by assumption) (by rfl) (by rfl) (by omega) (nA := 1) (by rfl) (by decide +kernel) rfl (by exact Nat.le_of_ble_eq_true rfl) dX4_tellBreak_23 (fun r23 h23 p23 => ?_) (fun _ _ q => q.elim)
      obtain ⟨rfl, qq23⟩ := p23; subst h23
      dsimp only [Option.toList, List.cons_append, List.nil_append]
      refine wi_if_eq hX (tgt := 79) dX4_tellBreak_26 (by decide) (by exact b2n_inR _) (fun c26 => ?_) (fun c26 => ?_)
      · skip
        refine wi_iinc hX dX4_tellBreak_79 rfl ?_
        dsimp only [List.set]
        refine wa_goto hX (tgt := 2) dX4_tellBreak_82 (by decide) ?_
        refine ih (i + 1, .val (I (j : Nat))) ⟨by show i + 1 ≤ 2 ^ e; omega, rfl, fun g el hg hel => ?_⟩ (by show 2 ^ e - (i + 1) < 2 ^ e - i; omega)
        dsimp only at hg
        rcases Nat.lt_succ_iff_lt_or_eq.mp hg with e9 | e9
        · exact hN g el e9 hel
        · subst e9
          first
            | (have q5 := b2n_f c26
               unfold brk
               rw [q5, Bool.false_and, Bool.false_and, Bool.false_and])
            | exact hE el (by omega)
      · skip
        refine wa_iload_n hX (i := 1) dX4_tellBreak_29 rfl rfl ?_
        refine wa_iload_n hX (i := 2) dX4_tellBreak_30 rfl rfl ?_
        refine wi_iconst hX dX4_tellBreak_31 ?_
        refine wa_ixor hX dX4_tellBreak_32 ?_
        refine wn_andn hX dX4_tellBreak_33 (by rfl) (by rfl) ?_
        refine wi_iconst hX dX4_tellBreak_34 ?_
        refine wa_iload_n hX (i := 3) dX4_tellBreak_35 rfl rfl ?_
        refine wn_shl1 hX dX4_tellBreak_36 (by rfl) (by omega) ?_
        refine wn_iand hX dX4_tellBreak_37 (by rfl) (by rfl) ?_
        refine wi_if_eq hX (tgt := 73) dX4_tellBreak_38 (by decide) (by exact inR_nat (and_ltl (sdf_lt (by omega)))) (fun c38 => ?_) (fun c38 => ?_)
        · skip
          refine wi_iinc hX dX4_tellBreak_73 rfl ?_
          dsimp only [List.set]
          refine wa_goto hX (tgt := 12) dX4_tellBreak_76 (by decide) ?_
          refine ih2 (j + 1) ⟨by omega, hnext ?_⟩ (by omega)
          rw [hbr]
          first
            | (have q5 := and_c0 c38
               rw [sdf_bit] at q5
               have q6 : (f.testBit j && !i.testBit j) = false := q5
               rw [Bool.and_assoc (M i), q6, Bool.and_false, Bool.false_and])
            | (rw [show (swpN M e f j &&& i == 0) = false by simp; omega, Bool.and_false])
        · skip
          refine wa_aload_n hX (i := 0) dX4_tellBreak_41 rfl rfl ?_
          refine wa_get hX 2 (by assumption) (by rfl) (by decide +kernel) dX4_tellBreak_42 ?_
          refine wa_iload_n hX (i := 3) dX4_tellBreak_45 rfl rfl ?_
          refine wi_iaload hX h3 (by omega) (by omega) (by omega) dX4_tellBreak_46 ?_
          rw [Int.toNat_natCast, hW0 j (by omega)]
          refine wa_iload_n hX (i := 2) dX4_tellBreak_47 rfl rfl ?_
          refine wn_iand hX dX4_tellBreak_48 (by rfl) (by rfl) ?_
          refine wi_if_ne hX (tgt := 73) dX4_tellBreak_49 (by decide) (by exact inR_nat (and_ltl (by omega))) (fun c49 => ?_) (fun c49 => ?_)
          · skip
            refine wi_iinc hX dX4_tellBreak_73 rfl ?_
            dsimp only [List.set]
            refine wa_goto hX (tgt := 12) dX4_tellBreak_76 (by decide) ?_
            refine ih2 (j + 1) ⟨by omega, hnext ?_⟩ (by omega)
            rw [hbr]
            first
              | (have q5 := and_c0 c38
                 rw [sdf_bit] at q5
                 have q6 : (f.testBit j && !i.testBit j) = false := q5
                 rw [Bool.and_assoc (M i), q6, Bool.and_false, Bool.false_and])
              | (rw [show (swpN M e f j &&& i == 0) = false by simp; omega, Bool.and_false])
          · skip
            refine wa_aload_n hX (i := 0) dX4_tellBreak_52 rfl rfl ?_
            refine wi_iconst hX dX4_tellBreak_53 ?_
            have c38' := and_c1 c38
            rw [sdf_bit, Bool.and_eq_true] at c38'
            have hyes : brk M e f i j = true := by
              rw [hbr, b2n_t c26, c38'.1, c38'.2, show (swpN M e f j &&& i == 0) = true by simp; omega]
              rfl
            refine wa_put hX 4 h1 (Nat.le_of_ble_eq_true rfl) (by decide +kernel) (by rfl) (by rfl) (by rfl) dX4_tellBreak_54 ?_
            refine wa_aload_n hX (i := 0) dX4_tellBreak_57 rfl rfl ?_
            refine wa_iload_n hX (i := 1) dX4_tellBreak_58 rfl rfl ?_
            refine wa_put hX 5 hset_eq (Nat.le_of_ble_eq_true rfl) (by decide +kernel) (by rfl) (by rfl) (by rfl) dX4_tellBreak_59 ?_
            rw [hset_hset]
            refine wa_aload_n hX (i := 0) dX4_tellBreak_62 rfl rfl ?_
            refine wa_iload_n hX (i := 2) dX4_tellBreak_63 rfl rfl ?_
            refine wa_put hX 6 hset_eq (Nat.le_of_ble_eq_true rfl) (by decide +kernel) (by rfl) (by rfl) (by rfl) dX4_tellBreak_64 ?_
            rw [hset_hset]
            refine wa_aload_n hX (i := 0) dX4_tellBreak_67 rfl rfl ?_
            refine wa_iload_n hX (i := 3) dX4_tellBreak_68 rfl rfl ?_
            refine wa_put hX 7 hset_eq (Nat.le_of_ble_eq_true rfl) (by decide +kernel) (by rfl) (by rfl) (by rfl) dX4_tellBreak_69 ?_
            rw [hset_hset]
            refine wa_vret hX dX4_tellBreak_72 ?_
            exact ⟨rfl, Or.inl ⟨i, j, ⟨by omega, by omega, hyes, hN, hE⟩, rfl⟩⟩
set_option maxRecDepth 100000 in
theorem c_X4_holds (hW : WOK l D S0) (d : Nat) {h : AH} {a la mq sq wq lm ls lw e : Nat} {br bf bs be : Int} {M : Nat → Bool} {F0 W0 : Nat → Int} (ha : h a = some (la, oExc mq sq wq ((2 ^ e - 1 : Nat) : Int) br bf bs be)) (h2 : h mq = some (lm, aM 1024 M)) (h3 : h sq = some (ls, aI .byte 1024 F0)) (h4 : h wq = some (lw, aI .int 10 W0)) (hl1 : lm ≠ ls) (hl2 : lm ≠ lw) (hl3 : ls ≠ lw) (hl4 : la ≠ ls) (hl5 : la ≠ lw) (hl6 : la ≠ lm) (he : e ≤ 10) : MA l D S0 yX4_holds cX4_holds 2 (some .boolean) (d + 3) [.ref a] h 0 0 (fun r h' => Fr (fun x => x = la ∨ x = ls ∨ x = lw) h h' ∧ (∃ F, h' sq = some (ls, aI .byte 1024 F)) ∧ (∃ W, h' wq = some (lw, aI .int 10 W)) ∧ ((r = some (I 1) ∧ oneN M e ∧ (∀ f g el, f < 2 ^ e → M f = true → g < 2 ^ e → el < 10 → brk M e f g el = false) ∧ h' a = some (la, oExc mq sq wq ((2 ^ e - 1 : Nat) : Int) br bf bs be)) ∨ (r = some (I 0) ∧ ¬ oneN M e ∧ h' a = some (la, oExc mq sq wq ((2 ^ e - 1 : Nat) : Int) br bf bs be)) ∨ (r = some (I 0) ∧ oneN M e ∧ ∃ f g el : Nat, f < 2 ^ e ∧ M f = true ∧ brkMin M e f g el ∧ (∀ f' g' el', f' < f → M f' = true → g' < 2 ^ e → el' < 10 → brk M e f' g' el' = false) ∧ h' a = some (la, oExc mq sq wq ((2 ^ e - 1 : Nat) : Int) 1 f g el)))) (fun _ _ => False) := by
  have hp := p2_le he
  have hp0 := p2_pos e
  refine MA.start hW (by decide) [.val (.ref a), .unset] rfl ?_
  rintro X rfl rfl rfl hX
  refine wa_aload_n hX (i := 0) dX4_holds_0 rfl rfl ?_
  refine wa_callV hX (c_X4_areOfOneNumber hW d ha h2 he) (by assumption) (by rfl) (by rfl) (by omega) (nA := 0) (by rfl) (by decide +kernel) rfl (by exact Nat.le_of_ble_eq_true rfl) dX4_holds_1 (fun r1 h1 p1 => ?_) (fun _ _ q => q.elim)
  obtain ⟨⟨bb, rfl, hbb⟩, qq1⟩ := p1; subst h1
  dsimp only [Option.toList, List.cons_append, List.nil_append]
  refine wi_if_ne hX (tgt := 9) dX4_holds_4 (by decide) (by exact b2n_inR _) (fun c4 => ?_) (fun c4 => ?_)
  · skip
    have hone : oneN M e := hbb.mp (b2n_t c4)
    refine wa_aload_n hX (i := 0) dX4_holds_9 rfl rfl ?_
    refine wa_callV hX (c_X4_findSpanning hW (d + 1) ha h2 h3 hl1 he) (by assumption) (by rfl) (by rfl) (by omega) (nA := 0) (by rfl) (by decide +kernel) rfl (by exact Nat.le_of_ble_eq_true rfl) dX4_holds_10 (fun r10 h10 p10 => ?_) (fun _ _ q => q.elim)
    obtain ⟨rfl, F, rfl, hF⟩ := p10
    have g1 : hset h sq (ls, aI .byte 1024 F) a = some (la, oExc mq sq wq ((2 ^ e - 1 : Nat) : Int) br bf bs be) := (hset_ne (lab_ne h3 ha hl4)).trans ha
    have g2 : hset h sq (ls, aI .byte 1024 F) mq = some (lm, aM 1024 M) := (hset_ne (lab_ne h3 h2 hl1)).trans h2
    have g3 : hset h sq (ls, aI .byte 1024 F) sq = some (ls, aI .byte 1024 F) := hset_eq
    have g4 : hset h sq (ls, aI .byte 1024 F) wq = some (lw, aI .int 10 W0) := (hset_ne (lab_ne h3 h4 hl3.symm)).trans h4
    have fr0 : Fr (fun x => x = la ∨ x = ls ∨ x = lw) h (hset h sq (ls, aI .byte 1024 F)) := Fr.put Fr.rf h3 (fun b hb => hset_ne hb) (Or.inr (Or.inl rfl))
    generalize hset h sq (ls, aI .byte 1024 F) = hA at g1 g2 g3 g4 fr0 ⊢
    dsimp only [Option.toList, List.cons_append, List.nil_append]
    refine wi_iconst hX dX4_holds_13 ?_
    refine wa_istore_n hX (i := 1) dX4_holds_14 rfl (by first | rfl | exact hu1 | exact hu2 | exact hu3 | exact hu4) ?_
    dsimp only [List.set]
    refine WA.loop (σ := Nat × (Nat → Int)) (fun z => 2 ^ e - z.1) (fun z => z.1 ≤ 2 ^ e ∧ ∀ f g el, f < z.1 → M f = true → g < 2 ^ e → el < 10 → brk M e f g el = false) (fun z => hset hA wq (lw, aI .int 10 z.2)) (fun z => [.val (.ref a), .val (I (z.1 : Nat))]) ?_ (0, W0) ⟨Nat.zero_le _, fun f g el hf => absurd hf (Nat.not_lt_zero f)⟩ |> WA.heap (hset_self g4).symm
    rintro ⟨i, W⟩ ⟨hi, hN⟩ ih
    dsimp only at hi hN ⊢
    have k1 : hset hA wq (lw, aI .int 10 W) a = some (la, oExc mq sq wq ((2 ^ e - 1 : Nat) : Int) br bf bs be) := (hset_ne (lab_ne g4 g1 hl5)).trans g1
    have k2 : hset hA wq (lw, aI .int 10 W) mq = some (lm, aM 1024 M) := (hset_ne (lab_ne g4 g2 hl2)).trans g2
    have k3 : hset hA wq (lw, aI .int 10 W) sq = some (ls, aI .byte 1024 F) := (hset_ne (lab_ne g4 g3 hl3)).trans g3
    have k4 : hset hA wq (lw, aI .int 10 W) wq = some (lw, aI .int 10 W) := hset_eq
    have fr1 : Fr (fun x => x = la ∨ x = ls ∨ x = lw) h (hset hA wq (lw, aI .int 10 W)) := Fr.put fr0 g4 (fun b hb => hset_ne hb) (Or.inr (Or.inr rfl))
    refine wa_iload_n hX (i := 1) dX4_holds_15 rfl rfl ?_
    refine wa_aload_n hX (i := 0) dX4_holds_16 rfl rfl ?_
    refine wa_get hX 3 (by assumption) (by rfl) (by decide +kernel) dX4_holds_17 ?_
    refine wi_icmp_gt hX (tgt := 57) dX4_holds_20 (by decide) (by omega) (by omega) (fun c20 => ?_) (fun c20 => ?_)
    · skip
      refine wi_iconst hX dX4_holds_57 ?_
      refine wa_zret hX dX4_holds_58 (by rfl) ?_
      exact ⟨fr1, ⟨F, k3⟩, ⟨W, k4⟩, Or.inl ⟨rfl, hone, fun f g el hf hMf hg hel => hN f g el (by omega) hMf hg hel, k1⟩⟩
    · skip
      refine wa_aload_n hX (i := 0) dX4_holds_23 rfl rfl ?_
      refine wa_iload_n hX (i := 1) dX4_holds_24 rfl rfl ?_
      refine wa_callV hX (c_X4_isMarked hW (d + 1) k1 k2 (s := i) (by omega)) (by assumption) (by rfl) (by rfl) (by omega) (nA := 1) (by rfl) (by decide +kernel) rfl (by exact Nat.le_of_ble_eq_true rfl) dX4_holds_25 (fun r25 h25 p25 => ?_) (fun _ _ q => q.elim)
      obtain ⟨rfl, qq25⟩ := p25; subst h25
      dsimp only [Option.toList, List.cons_append, List.nil_append]
      refine wi_if_eq hX (tgt := 51) dX4_holds_28 (by decide) (by exact b2n_inR _) (fun c28 => ?_) (fun c28 => ?_)
      · skip
        refine wi_iinc hX dX4_holds_51 rfl ?_
        dsimp only [List.set]
        refine wa_goto hX (tgt := 15) dX4_holds_54 (by decide) ?_
        first
          | (have q5 := b2n_f c28
             refine ih (i + 1, W) ⟨by show i + 1 ≤ 2 ^ e; omega, fun f g el hf hMf hg hel => ?_⟩ (by show 2 ^ e - (i + 1) < 2 ^ e - i; omega)
             dsimp only at hf
             rcases Nat.lt_succ_iff_lt_or_eq.mp hf with e9 | e9
             · exact hN f g el e9 hMf hg hel
             · subst e9; rw [q5] at hMf; cases hMf)
          | (have q5 := swap_yes (b2n_t c41)
             refine ih (i + 1, W2) ⟨by show i + 1 ≤ 2 ^ e; omega, fun f g el hf hMf hg hel => ?_⟩ (by show 2 ^ e - (i + 1) < 2 ^ e - i; omega)
             dsimp only at hf
             rcases Nat.lt_succ_iff_lt_or_eq.mp hf with e9 | e9
             · exact hN f g el e9 hMf hg hel
             · subst e9; exact q5 g el hg hel)
      · skip
        refine wa_aload_n hX (i := 0) dX4_holds_31 rfl rfl ?_
        refine wa_iload_n hX (i := 1) dX4_holds_32 rfl rfl ?_
        have hMi := b2n_t c28
        refine wa_callV hX (c_X4_findSwaps hW d k1 k2 k4 hl2 he (s := i) (by omega)) (by assumption) (by rfl) (by rfl) (by omega) (nA := 1) (by rfl) (by decide +kernel) rfl (by exact Nat.le_of_ble_eq_true rfl) dX4_holds_33 (fun r33 h33 p33 => ?_) (fun _ _ q => q.elim)
        obtain ⟨rfl, W2, rfl, hW2⟩ := p33
        rw [hset_hset]
        have m1 : hset hA wq (lw, aI .int 10 W2) a = some (la, oExc mq sq wq ((2 ^ e - 1 : Nat) : Int) br bf bs be) := (hset_ne (lab_ne g4 g1 hl5)).trans g1
        have m2 : hset hA wq (lw, aI .int 10 W2) mq = some (lm, aM 1024 M) := (hset_ne (lab_ne g4 g2 hl2)).trans g2
        have m3 : hset hA wq (lw, aI .int 10 W2) sq = some (ls, aI .byte 1024 F) := (hset_ne (lab_ne g4 g3 hl3)).trans g3
        have m4 : hset hA wq (lw, aI .int 10 W2) wq = some (lw, aI .int 10 W2) := hset_eq
        have fr2 : Fr (fun x => x = la ∨ x = ls ∨ x = lw) h (hset hA wq (lw, aI .int 10 W2)) := Fr.put fr0 g4 (fun b hb => hset_ne hb) (Or.inr (Or.inr rfl))
        dsimp only [Option.toList, List.cons_append, List.nil_append]
        refine wa_aload_n hX (i := 0) dX4_holds_36 rfl rfl ?_
        refine wa_iload_n hX (i := 1) dX4_holds_37 rfl rfl ?_
        refine wa_callV hX (c_X4_swapsMeet hW (d + 1) m1 m3 m4 hF hW2 he (s := i) (by omega)) (by assumption) (by rfl) (by rfl) (by omega) (nA := 1) (by rfl) (by decide +kernel) rfl (by exact Nat.le_of_ble_eq_true rfl) dX4_holds_38 (fun r38 h38 p38 => ?_) (fun _ _ q => q.elim)
        obtain ⟨rfl, qq38⟩ := p38; subst h38
        dsimp only [Option.toList, List.cons_append, List.nil_append]
        refine wi_if_ne hX (tgt := 51) dX4_holds_41 (by decide) (by exact b2n_inR _) (fun c41 => ?_) (fun c41 => ?_)
        · skip
          refine wi_iinc hX dX4_holds_51 rfl ?_
          dsimp only [List.set]
          refine wa_goto hX (tgt := 15) dX4_holds_54 (by decide) ?_
          first
            | (have q5 := b2n_f c28
               refine ih (i + 1, W) ⟨by show i + 1 ≤ 2 ^ e; omega, fun f g el hf hMf hg hel => ?_⟩ (by show 2 ^ e - (i + 1) < 2 ^ e - i; omega)
               dsimp only at hf
               rcases Nat.lt_succ_iff_lt_or_eq.mp hf with e9 | e9
               · exact hN f g el e9 hMf hg hel
               · subst e9; rw [q5] at hMf; cases hMf)
            | (have q5 := swap_yes (b2n_t c41)
               refine ih (i + 1, W2) ⟨by show i + 1 ≤ 2 ^ e; omega, fun f g el hf hMf hg hel => ?_⟩ (by show 2 ^ e - (i + 1) < 2 ^ e - i; omega)
               dsimp only at hf
               rcases Nat.lt_succ_iff_lt_or_eq.mp hf with e9 | e9
               · exact hN f g el e9 hMf hg hel
               · subst e9; exact q5 g el hg hel)
        · skip
          refine wa_aload_n hX (i := 0) dX4_holds_44 rfl rfl ?_
          refine wa_iload_n hX (i := 1) dX4_holds_45 rfl rfl ?_
          refine wa_callV hX (c_X4_tellBreak hW d m1 m2 m4 hW2 he (f := i) (by omega)) (by assumption) (by rfl) (by rfl) (by omega) (nA := 1) (by rfl) (by decide +kernel) rfl (by exact Nat.le_of_ble_eq_true rfl) dX4_holds_46 (fun r46 h46 p46 => ?_) (fun _ _ q => q.elim)
          obtain ⟨rfl, p46⟩ := p46
          have hsn := swap_no hMi (show i < 2 ^ e by omega) (b2n_f c41)
          dsimp only [Option.toList, List.cons_append, List.nil_append]
          refine wi_iconst hX dX4_holds_49 ?_
          refine wa_zret hX dX4_holds_50 (by rfl) ?_
          rcases p46 with ⟨g, el, hmin, rfl⟩ | ⟨hall, -⟩
          · refine ⟨Fr.put fr2 m1 (fun b hb => hset_ne hb) (Or.inl rfl), ⟨F, (hset_ne (lab_ne m1 m3 hl4.symm)).trans m3⟩, ⟨W2, (hset_ne (lab_ne m1 m4 hl5.symm)).trans m4⟩, Or.inr (Or.inr ⟨rfl, hone, i, g, el, by omega, hMi, hmin, hN, hset_eq⟩)⟩
          · obtain ⟨g, el, q1, q2, q3⟩ := hsn
            rw [hall g el q1 q2] at q3
            cases q3
  · skip
    refine wi_iconst hX dX4_holds_7 ?_
    refine wa_zret hX dX4_holds_8 (by rfl) ?_
    have hno : ¬ oneN M e := fun q => by
      have := hbb.mpr q
      rw [this] at c4
      exact absurd c4 (by decide)
    exact ⟨Fr.rf, ⟨_, h3⟩, ⟨_, h4⟩, Or.inr (Or.inl ⟨rfl, hno, ha⟩)⟩
end C39
