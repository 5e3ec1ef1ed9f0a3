/-! Circuitfold$Elimination (X3): reduce -/
section C32
variable {l : Launch} {D : va_G} {S0 : State}
set_option maxRecDepth 100000 in
theorem c_X3_reduce (hW : WOK l D S0) (d : Nat) {h : AH} {a la f rows n cq rq pq lc lr lp el pl : Nat} {rc rr : Nat → Nat} {C R : Nat → Nat → Nat} {P : Nat → Int} {Gc : Nat → Int} (h1 : h a = some (la, oElim f rows n cq rq pq)) (h2 : h cq = some (2, aRR n rc)) (h3 : h rq = some (2, aRR n rr)) (h4 : h pq = some (lp, aI .int n P)) (hc : h (rc el) = some (lc, aI .int rows Gc)) (hGc : ∀ r, r < rows → Gc r = ((C el r : Nat) : Int)) (hr : ∀ j, j < n → h (rr j) = some (lr, aV rows (R j))) (hel : el < n) (hpl : pl < n) (hn : n ≤ 10) (hrows : rows ≤ 10) (hf2 : 2 ≤ f) (hf5 : f ≤ 5) (hri : ∀ i j, i < n → j < n → rr i = rr j → i = j) (hl1 : lc ≠ lr) (hl2 : lr ≠ 2) (hl3 : lp ≠ lr) (hl4 : lp ≠ 2) (hC : ∀ r, r < rows → C el r < f) (hR : ∀ j, j < pl → ∀ r, r < rows → R j r < f) (hP : ∀ j, j < pl → -1 ≤ P j ∧ P j < rows) : MA l D S0 yX3_reduce cX3_reduce 6 none (d + 2) [.ref a, I (el : Int), I (pl : Int)] h 0 0 (fun r h' => r = none ∧ h' (rr pl) = some (lr, aV rows (finV f rows (redS f rows R P (C el) pl))) ∧ h' pq = some (lp, aI .int n (up P pl (fstE (redS f rows R P (C el) pl) rows))) ∧ ∀ b, b ≠ rr pl → b ≠ pq → h' b = h b) (fun _ _ => False) := by
  have harr := ne_oa h1 (hr pl hpl)
  have hapq := ne_oa h1 h4
  have hrqrr : rq ≠ rr pl := lab_ne (hr pl hpl) h3 hl2.symm
  have hrqpq : rq ≠ pq := lab_ne h4 h3 hl4.symm
  have hpqrr : pq ≠ rr pl := lab_ne (hr pl hpl) h4 hl3
  have hcrr : rc el ≠ rr pl := lab_ne (hr pl hpl) hc hl1
  have hS : ∀ k r, r < rows → redS f rows R P (C el) k r < f := redS_lt (by omega) hC
  refine MA.start hW (by decide) [.val (.ref a), .val (I (el : Int)), .val (I (pl : Int)), .unset, .unset, .unset] rfl ?_
  rintro X rfl rfl rfl hX
  refine wa_iload_n hX (i := 1) dX3_reduce_0 rfl rfl ?_
  refine wa_aload_n hX (i := 0) dX3_reduce_1 rfl rfl ?_
  refine wa_get hX 3 (by assumption) (by rfl) (by decide +kernel) dX3_reduce_2 ?_
  refine wa_len hX (by assumption) dX3_reduce_5 ?_
  refine wi_icmp_ge hX (tgt := 22) dX3_reduce_6 (by decide) (by omega) (by omega) (fun c6 => ?_) (fun c6 => ?_)
  · skip
    refine wa_vret hX dX3_reduce_22 ?_
    exfalso; omega
  · skip
    refine wa_iload_n hX (i := 2) dX3_reduce_9 rfl rfl ?_
    refine wi_if_lt hX (tgt := 22) dX3_reduce_10 (by decide) (by omega) (fun c10 => ?_) (fun c10 => ?_)
    · skip
      refine wa_vret hX dX3_reduce_22 ?_
      exfalso; omega
    · skip
      refine wa_iload_n hX (i := 2) dX3_reduce_13 rfl rfl ?_
      refine wa_aload_n hX (i := 0) dX3_reduce_14 rfl rfl ?_
      refine wa_get hX 4 (by assumption) (by rfl) (by decide +kernel) dX3_reduce_15 ?_
      refine wa_len hX (by assumption) dX3_reduce_18 ?_
      refine wi_icmp_lt hX (tgt := 23) dX3_reduce_19 (by decide) (by omega) (by omega) (fun c19 => ?_) (fun c19 => ?_)
      · skip
        refine wa_aload_n hX (i := 0) dX3_reduce_23 rfl rfl ?_
        refine wa_get hX 4 (by assumption) (by rfl) (by decide +kernel) dX3_reduce_24 ?_
        refine wa_iload_n hX (i := 2) dX3_reduce_27 rfl rfl ?_
        refine wi_aaloadA hX h3 (by omega) (by omega) (by omega) dX3_reduce_28 ?_
        rw [Int.toNat_natCast, if_pos hpl]
        dsimp only [va_rf]
        refine wa_astore_n hX (i := 3) dX3_reduce_29 rfl (by first | rfl | exact hu1 | exact hu2 | exact hu3 | exact hu4) ?_
        dsimp only [List.set]
        refine wa_aload_n hX (i := 0) dX3_reduce_30 rfl rfl ?_
        refine wa_get hX 3 (by assumption) (by rfl) (by decide +kernel) dX3_reduce_31 ?_
        refine wa_iload_n hX (i := 1) dX3_reduce_34 rfl rfl ?_
        refine wi_aaloadA hX h2 (by omega) (by omega) (by omega) dX3_reduce_35 ?_
        rw [Int.toNat_natCast, if_pos hel]
        dsimp only [va_rf]
        refine wi_iconst hX dX3_reduce_36 ?_
        refine wa_aload_n hX (i := 3) dX3_reduce_37 rfl rfl ?_
        refine wi_iconst hX dX3_reduce_38 ?_
        refine wa_aload_n hX (i := 0) dX3_reduce_39 rfl rfl ?_
        refine wa_get hX 1 (by assumption) (by rfl) (by decide +kernel) dX3_reduce_40 ?_
        refine wa_copy hX rows hc (hr pl hpl) (Nat.le_refl rows) (Nat.le_refl rows) (by omega) (by decide +kernel) rfl (by exact Nat.le_of_ble_eq_true rfl) dX3_reduce_43 ?_
        refine WA.ext (fun j => Int32.ofInt ((redS f rows R P (C el) 0 j : Nat) : Int)) hset_eq (fun j hj => by rw [if_pos hj, hGc j hj]; rfl) ?_
        rw [hset_hset]
        refine wi_iconst hX dX3_reduce_46 ?_
        refine wa_istore hX dX3_reduce_47 (by first | rfl | exact hu1 | exact hu2 | exact hu3 | exact hu4) ?_
        dsimp only [List.set]
        refine WA.loop (σ := Nat × Slot) (fun z => pl - z.1) (fun z => z.1 ≤ pl ∧ okS [z.2] 0 = true) (fun z => hset h (rr pl) (lr, aV rows (redS f rows R P (C el) z.1))) (fun z => [.val (.ref a), .val (I (el : Int)), .val (I (pl : Int)), .val (.ref (rr pl)), .val (I (z.1 : Nat)), z.2]) ?_ (0, .unset) ⟨Nat.zero_le _, rfl⟩
        rintro ⟨k, u1⟩ ⟨hk, hu1⟩ ih
        dsimp only at hk hu1 ⊢
        have g1 : hset h (rr pl) (lr, aV rows (redS f rows R P (C el) k)) a = some (la, oElim f rows n cq rq pq) := (hset_ne harr).trans h1
        have g3 : hset h (rr pl) (lr, aV rows (redS f rows R P (C el) k)) rq = some (2, aRR n rr) := (hset_ne hrqrr).trans h3
        have g4 : hset h (rr pl) (lr, aV rows (redS f rows R P (C el) k)) pq = some (lp, aI .int n P) := (hset_ne hpqrr).trans h4
        have g5 : hset h (rr pl) (lr, aV rows (redS f rows R P (C el) k)) (rr pl) = some (lr, aV rows (redS f rows R P (C el) k)) := hset_eq
        have hSk : redS f rows R P (C el) (k + 1) = (if 0 ≤ P k ∧ P k < rows ∧ redS f rows R P (C el) k (P k).toNat ≠ 0 then addV f (redS f rows R P (C el) k) (R k) (f - redS f rows R P (C el) k (P k).toNat) else redS f rows R P (C el) k) := rfl
        refine wa_iload hX dX3_reduce_49 rfl ?_
        refine wa_iload_n hX (i := 2) dX3_reduce_51 rfl rfl ?_
        refine wi_icmp_ge hX (tgt := 111) dX3_reduce_52 (by decide) (by omega) (by omega) (fun c52 => ?_) (fun c52 => ?_)
        · skip
          have hkp : k = pl := by omega
          subst hkp
          clear hSk
          generalize hV : redS f rows R P (C el) k = V at *
          have hVl : ∀ r, r < rows → V r < f := by rw [← hV]; exact hS k
          have hfr := fstE_rng V rows
          refine wa_aload_n hX (i := 0) dX3_reduce_111 rfl rfl ?_
          refine wa_aload_n hX (i := 3) dX3_reduce_112 rfl rfl ?_
          refine wa_callV hX (c_X3_firstEntry hW (d + 1) g5 hrows (fun r hr9 => by have := hVl r hr9; omega)) (by assumption) (by rfl) (by rfl) (by omega) (nA := 1) (by rfl) (by decide +kernel) rfl (by exact Nat.le_of_ble_eq_true rfl) dX3_reduce_113 (fun r113 h113 p113 => ?_) (fun _ _ q => q.elim)
          obtain ⟨rfl, qq113⟩ := p113; subst h113
          dsimp only [Option.toList, List.cons_append, List.nil_append]
          refine wa_istore hX dX3_reduce_116 (by first | rfl | exact hu1 | exact hu2 | exact hu3 | exact hu4) ?_
          dsimp only [List.set]
          refine wa_aload_n hX (i := 0) dX3_reduce_118 rfl rfl ?_
          refine wa_get hX 5 (by assumption) (by rfl) (by decide +kernel) dX3_reduce_119 ?_
          refine wa_iload_n hX (i := 2) dX3_reduce_122 rfl rfl ?_
          refine wa_iload hX dX3_reduce_123 rfl ?_
          refine wi_iastore hX g4 (by omega) (by omega) (by omega) dX3_reduce_125 ?_
          rw [Int.toNat_natCast]
          have k1 : hset (hset h (rr k) (lr, aV rows V)) pq (lp, aI .int n (up P k (fstE V rows))) a = some (la, oElim f rows n cq rq pq) := (hset_ne hapq).trans g1
          have k5 : hset (hset h (rr k) (lr, aV rows V)) pq (lp, aI .int n (up P k (fstE V rows))) (rr k) = some (lr, aV rows V) := (hset_ne hpqrr.symm).trans g5
          refine wa_iload hX dX3_reduce_126 rfl ?_
          refine wi_if_lt hX (tgt := 151) dX3_reduce_128 (by decide) (by omega) (fun c128 => ?_) (fun c128 => ?_)
          · skip
            refine wa_vret hX dX3_reduce_151 ?_
            first
              | (refine ⟨rfl, ?_, hset_eq, fun b hb1 hb2 => (hset_ne hb2).trans (hset_ne hb1)⟩
                 unfold finV
                 rw [if_neg (by omega)]
                 exact k5)
              | (refine ⟨rfl, ?_, (hset_ne hpqrr).trans hset_eq, fun b hb1 hb2 => (hset_ne hb1).trans ((hset_ne hb2).trans (hset_ne hb1))⟩
                 unfold finV
                 rw [if_pos (by omega)]
                 exact hset_eq)
          · skip
            refine wa_aload_n hX (i := 0) dX3_reduce_131 rfl rfl ?_
            refine wa_aload_n hX (i := 3) dX3_reduce_132 rfl rfl ?_
            refine wa_iload hX dX3_reduce_133 rfl ?_
            have hVp := hVl (fstE V rows).toNat (by omega)
            refine wi_iaload hX k5 (by omega) (by omega) (by omega) dX3_reduce_135 ?_
            refine wa_callV hX (c_X3_inverseOf hW d k1 hf2 hf5 (z := V (fstE V rows).toNat) (by omega)) (by assumption) (by rfl) (by rfl) (by omega) (nA := 1) (by rfl) (by decide +kernel) rfl (by exact Nat.le_of_ble_eq_true rfl) dX3_reduce_136 (fun r136 h136 p136 => ?_) (fun _ _ q => q.elim)
            obtain ⟨rfl, qq136⟩ := p136; subst h136
            have hiv := invN_rng (f := f) (z := V (fstE V rows).toNat) hf2
            dsimp only [Option.toList, List.cons_append, List.nil_append]
            refine wa_istore hX dX3_reduce_139 (by first | rfl | exact hu1 | exact hu2 | exact hu3 | exact hu4) ?_
            dsimp only [List.set]
            refine wa_aload_n hX (i := 0) dX3_reduce_141 rfl rfl ?_
            refine wa_aload_n hX (i := 3) dX3_reduce_142 rfl rfl ?_
            refine wa_aload_n hX (i := 3) dX3_reduce_143 rfl rfl ?_
            refine wa_iload hX dX3_reduce_144 rfl ?_
            refine wi_iconst hX dX3_reduce_146 ?_
            refine wi_isub hX dX3_reduce_147 ?_
            rw [show (((invN f (V (fstE V rows).toNat) : Nat) : Int) - 1) = ((invN f (V (fstE V rows).toNat) - 1 : Nat) : Int) by omega]
            refine wa_callV hX (c_X3_addTimes hW d (t := invN f (V (fstE V rows).toNat) - 1) k1 k5 k5 (fun _ => rfl) hf2 hf5 hrows (by omega) (fun r hr9 => by have := hVl r hr9; omega) (fun r hr9 => by have := hVl r hr9; omega)) (by assumption) (by rfl) (by rfl) (by omega) (nA := 3) (by rfl) (by decide +kernel) rfl (by exact Nat.le_of_ble_eq_true rfl) dX3_reduce_148 (fun r148 h148 p148 => ?_) (fun _ _ q => q.elim)
            obtain ⟨rfl, rfl⟩ := p148
            dsimp only [Option.toList, List.cons_append, List.nil_append]
            refine wa_vret hX dX3_reduce_151 ?_
            first
              | (refine ⟨rfl, ?_, hset_eq, fun b hb1 hb2 => (hset_ne hb2).trans (hset_ne hb1)⟩
                 unfold finV
                 rw [if_neg (by omega)]
                 exact k5)
              | (refine ⟨rfl, ?_, (hset_ne hpqrr).trans hset_eq, fun b hb1 hb2 => (hset_ne hb1).trans ((hset_ne hb2).trans (hset_ne hb1))⟩
                 unfold finV
                 rw [if_pos (by omega)]
                 exact hset_eq)
        · skip
          have hkn : k < n := by omega
          have hPk := hP k (by omega)
          have g6 : hset h (rr pl) (lr, aV rows (redS f rows R P (C el) k)) (rr k) = some (lr, aV rows (R k)) := (hset_ne (fun e => by have := hri k pl hkn hpl e; omega)).trans (hr k hkn)
          refine wa_aload_n hX (i := 0) dX3_reduce_55 rfl rfl ?_
          refine wa_iload hX dX3_reduce_56 rfl ?_
          refine wa_callV hX (c_X3_pivotAt hW (d + 1) g1 g4 hkn hn) (by assumption) (by rfl) (by rfl) (by omega) (nA := 1) (by rfl) (by decide +kernel) rfl (by exact Nat.le_of_ble_eq_true rfl) dX3_reduce_58 (fun r58 h58 p58 => ?_) (fun _ _ q => q.elim)
          obtain ⟨rfl, qq58⟩ := p58; subst h58
          dsimp only [Option.toList, List.cons_append, List.nil_append]
          refine wa_istore hX dX3_reduce_61 (by first | rfl | exact hu1 | exact hu2 | exact hu3 | exact hu4) ?_
          dsimp only [List.set]
          refine wa_iload hX dX3_reduce_63 rfl ?_
          refine wi_if_lt hX (tgt := 105) dX3_reduce_65 (by decide) (by omega) (fun c65 => ?_) (fun c65 => ?_)
          · skip
            refine wi_iinc hX dX3_reduce_105 rfl ?_
            dsimp only [List.set]
            refine wa_goto hX (tgt := 49) dX3_reduce_108 (by decide) ?_
            refine WA.heap ?_ (ih (k + 1, .val (I (P k))) ⟨by show k + 1 ≤ pl; omega, rfl⟩ (by show pl - (k + 1) < pl - k; omega))
            dsimp only
            first
              | (exfalso; omega)
              | rw [hSk, if_pos ⟨by omega, by omega, by omega⟩]
              | rw [hSk, if_neg (fun q => by have q1 := q.1; have q2 := q.2.1; have q3 := q.2.2; omega)]
          · skip
            refine wa_iload hX dX3_reduce_68 rfl ?_
            refine wa_aload_n hX (i := 0) dX3_reduce_70 rfl rfl ?_
            refine wa_get hX 1 (by assumption) (by rfl) (by decide +kernel) dX3_reduce_71 ?_
            refine wi_icmp_ge hX (tgt := 105) dX3_reduce_74 (by decide) (by omega) (by omega) (fun c74 => ?_) (fun c74 => ?_)
            · skip
              refine wi_iinc hX dX3_reduce_105 rfl ?_
              dsimp only [List.set]
              refine wa_goto hX (tgt := 49) dX3_reduce_108 (by decide) ?_
              refine WA.heap ?_ (ih (k + 1, .val (I (P k))) ⟨by show k + 1 ≤ pl; omega, rfl⟩ (by show pl - (k + 1) < pl - k; omega))
              dsimp only
              first
                | (exfalso; omega)
                | rw [hSk, if_pos ⟨by omega, by omega, by omega⟩]
                | rw [hSk, if_neg (fun q => by have q1 := q.1; have q2 := q.2.1; have q3 := q.2.2; omega)]
            · skip
              refine wa_aload_n hX (i := 3) dX3_reduce_77 rfl rfl ?_
              refine wa_iload hX dX3_reduce_78 rfl ?_
              refine wi_iaload hX g5 (by omega) (by omega) (by omega) dX3_reduce_80 ?_
              have hSv := hS k (P k).toNat (by omega)
              refine wi_if_eq hX (tgt := 105) dX3_reduce_81 (by decide) (by omega) (fun c81 => ?_) (fun c81 => ?_)
              · skip
                refine wi_iinc hX dX3_reduce_105 rfl ?_
                dsimp only [List.set]
                refine wa_goto hX (tgt := 49) dX3_reduce_108 (by decide) ?_
                refine WA.heap ?_ (ih (k + 1, .val (I (P k))) ⟨by show k + 1 ≤ pl; omega, rfl⟩ (by show pl - (k + 1) < pl - k; omega))
                dsimp only
                first
                  | (exfalso; omega)
                  | rw [hSk, if_pos ⟨by omega, by omega, by omega⟩]
                  | rw [hSk, if_neg (fun q => by have q1 := q.1; have q2 := q.2.1; have q3 := q.2.2; omega)]
              · skip
                refine wa_aload_n hX (i := 0) dX3_reduce_84 rfl rfl ?_
                refine wa_aload_n hX (i := 3) dX3_reduce_85 rfl rfl ?_
                refine wa_aload_n hX (i := 0) dX3_reduce_86 rfl rfl ?_
                refine wa_get hX 4 (by assumption) (by rfl) (by decide +kernel) dX3_reduce_87 ?_
                refine wa_iload hX dX3_reduce_90 rfl ?_
                refine wi_aaloadA hX g3 (by omega) (by omega) (by omega) dX3_reduce_92 ?_
                rw [Int.toNat_natCast, if_pos hkn]
                dsimp only [va_rf]
                refine wa_aload_n hX (i := 0) dX3_reduce_93 rfl rfl ?_
                refine wa_get hX 0 (by assumption) (by rfl) (by decide +kernel) dX3_reduce_94 ?_
                refine wa_aload_n hX (i := 3) dX3_reduce_97 rfl rfl ?_
                refine wa_iload hX dX3_reduce_98 rfl ?_
                refine wi_iaload hX g5 (by omega) (by omega) (by omega) dX3_reduce_100 ?_
                refine wi_isub hX dX3_reduce_101 ?_
                rw [show ((f : Int) - ((redS f rows R P (C el) k (P k).toNat : Nat) : Int)) = ((f - redS f rows R P (C el) k (P k).toNat : Nat) : Int) by omega]
                refine wa_callV hX (c_X3_addTimes hW d (t := f - redS f rows R P (C el) k (P k).toNat) g1 g5 g6 (fun e => by have := hri k pl hkn hpl e; omega) hf2 hf5 hrows (by omega) (fun r hr9 => by have := hS k r hr9; omega) (fun r hr9 => by have := hR k (by omega) r hr9; omega)) (by assumption) (by rfl) (by rfl) (by omega) (nA := 3) (by rfl) (by decide +kernel) rfl (by exact Nat.le_of_ble_eq_true rfl) dX3_reduce_102 (fun r102 h102 p102 => ?_) (fun _ _ q => q.elim)
                obtain ⟨rfl, rfl⟩ := p102
                rw [hset_hset]
                dsimp only [Option.toList, List.cons_append, List.nil_append]
                refine wi_iinc hX dX3_reduce_105 rfl ?_
                dsimp only [List.set]
                refine wa_goto hX (tgt := 49) dX3_reduce_108 (by decide) ?_
                refine WA.heap ?_ (ih (k + 1, .val (I (P k))) ⟨by show k + 1 ≤ pl; omega, rfl⟩ (by show pl - (k + 1) < pl - k; omega))
                dsimp only
                first
                  | (exfalso; omega)
                  | rw [hSk, if_pos ⟨by omega, by omega, by omega⟩]
                  | rw [hSk, if_neg (fun q => by have q1 := q.1; have q2 := q.2.1; have q3 := q.2.2; omega)]
      · skip
        refine wa_vret hX dX3_reduce_22 ?_
        exfalso; omega
end C32
