/-! Circuitfold$Likeness (X5): small methods -/
/-- sums over the greater sets, a bit after another -/
def sgT (G : Nat → Int) : Nat → Nat → Int
  | 0 => G
  | k + 1 => fun j => if j.testBit k then sgT G k j else sgT G k j + sgT G k (j ||| 2 ^ k)
def putN (Im : Nat → Nat) (el im : Nat) : Nat → Nat := fun j => if 2 ^ el ≤ j ∧ j < 2 ^ el + 2 ^ el then Im (j - 2 ^ el) ||| 2 ^ im else Im j
def fitN (P Q : Nat → Int32) (C W Im : Nat → Nat) (el im : Nat) : Bool := decide (P el = Q im) && allB (fun s => decide (C (s + 2 ^ el) = W (Im s ||| 2 ^ im))) (2 ^ el)
section C41
variable {l : Launch} {D : va_G} {S0 : State}
set_option maxRecDepth 100000 in
theorem c_X5_at (hW : WOK l D S0) (d : Nat) {h : AH} {q lq n : Nat} {i : Int} {g : Nat → Int} (h1 : h q = some (lq, aI .int n g)) (hn : n < 2147483648) (hi : inR i) : MA l D S0 yX5_at cX5_at 2 (some .int) d [.ref q, I i] h 0 0 (fun r h' => r = some (I (atv n g i)) ∧ h' = h) (fun _ _ => False) := by
  refine MA.start hW (by decide) [.val (.ref q), .val (I i)] rfl ?_
  rintro X rfl rfl rfl hX
  refine wa_iload_n hX (i := 1) dX5_at_0 rfl rfl ?_
  refine wi_if_lt hX (tgt := 16) dX5_at_1 (by decide) (by omega) (fun c1 => ?_) (fun c1 => ?_)
  · skip
    refine wi_iconst hX dX5_at_16 ?_
    refine wa_iret hX dX5_at_17 ?_
    refine ⟨?_, rfl⟩
    unfold atv
    first
      | rw [if_pos (by omega)]
      | rw [if_neg (by omega)]
  · skip
    refine wa_iload_n hX (i := 1) dX5_at_4 rfl rfl ?_
    refine wa_aload_n hX (i := 0) dX5_at_5 rfl rfl ?_
    refine wa_len hX (by assumption) dX5_at_6 ?_
    refine wi_icmp_ge hX (tgt := 16) dX5_at_7 (by decide) (by omega) (by omega) (fun c7 => ?_) (fun c7 => ?_)
    · skip
      refine wi_iconst hX dX5_at_16 ?_
      refine wa_iret hX dX5_at_17 ?_
      refine ⟨?_, rfl⟩
      unfold atv
      first
        | rw [if_pos (by omega)]
        | rw [if_neg (by omega)]
    · skip
      refine wa_aload_n hX (i := 0) dX5_at_10 rfl rfl ?_
      refine wa_iload_n hX (i := 1) dX5_at_11 rfl rfl ?_
      refine wi_iaload hX (by assumption) (by omega) (by omega) (by omega) dX5_at_12 ?_
      refine wa_goto hX (tgt := 17) dX5_at_13 (by decide) ?_
      refine wa_iret hX dX5_at_17 ?_
      refine ⟨?_, rfl⟩
      unfold atv
      first
        | rw [if_pos (by omega)]
        | rw [if_neg (by omega)]
set_option maxRecDepth 100000 in
theorem c_X5_imageOf (hW : WOK l D S0) (d : Nat) {h : AH} {a b r1 r2 r3 r4 r5 r6 l4 el : Nat} {e n : Int} {Im : Nat → Nat} (h1 : h a = some (b, oLik r1 r2 r3 r4 r5 r6 e n)) (h4 : h r4 = some (l4, aV 1024 Im)) (hel : el < 10) (hIm : Im (2 ^ el) < 1024) : MA l D S0 yX5_imageOf cX5_imageOf 2 (some .int) (d + 1) [.ref a, I (el : Int)] h 0 0 (fun r h' => r = some (I (ntz (Im (2 ^ el)) : Nat)) ∧ h' = h) (fun _ _ => False) := by
  have hb : 2 ^ el < 2 ^ 10 := bit_lt hel
  have hb0 := p2_pos el
  refine MA.start hW (by decide) [.val (.ref a), .val (I (el : Int))] rfl ?_
  rintro X rfl rfl rfl hX
  refine wa_aload_n hX (i := 0) dX5_imageOf_0 rfl rfl ?_
  refine wa_get hX 3 (by assumption) (by rfl) (by decide +kernel) dX5_imageOf_1 ?_
  refine wi_iconst hX dX5_imageOf_4 ?_
  refine wa_iload_n hX (i := 1) dX5_imageOf_5 rfl rfl ?_
  refine wn_shl1 hX dX5_imageOf_6 (by rfl) (by omega) ?_
  refine wa_callS hX (c_X5_at hW d h4 (by decide) (i := ((2 ^ el : Nat) : Int)) (by omega)) (by rfl) (by omega) (nA := 2) (by rfl) (by decide +kernel) rfl (by exact Nat.le_of_ble_eq_true rfl) dX5_imageOf_7 (fun r7 h7 p7 => ?_) (fun _ _ q => q.elim)
  obtain ⟨rfl, qq7⟩ := p7; subst h7
  rw [atv_in (by omega)]
  dsimp only [Option.toList, List.cons_append, List.nil_append]
  refine wa_callS hX (c_J6_ntz hW d (Im (2 ^ el)) hIm) (by rfl) (by omega) (nA := 1) (by rfl) (by decide +kernel) rfl (by exact Nat.le_of_ble_eq_true rfl) dX5_imageOf_10 (fun r10 h10 p10 => ?_) (fun _ _ q => q.elim)
  obtain ⟨rfl, qq10⟩ := p10; subst h10
  dsimp only [Option.toList, List.cons_append, List.nil_append]
  refine wa_iret hX dX5_imageOf_13 ?_
  exact ⟨rfl, rfl⟩
set_option maxRecDepth 100000 in
theorem c_X5_putImage (hW : WOK l D S0) (d : Nat) {h : AH} {a b r1 r2 r3 r4 r5 r6 l4 el im : Nat} {e n : Int} {Im : Nat → Nat} (h1 : h a = some (b, oLik r1 r2 r3 r4 r5 r6 e n)) (h4 : h r4 = some (l4, aV 1024 Im)) (hel : el < 10) (him : im < 10) : MA l D S0 yX5_putImage cX5_putImage 5 none d [.ref a, I (el : Int), I (im : Int)] h 0 0 (fun r h' => r = none ∧ h' = hset h r4 (l4, aV 1024 (putN Im el im))) (fun _ _ => False) := by
  have hb : 2 ^ el + 2 ^ el ≤ 1024 := by
    have := p2_mono (show el + 1 ≤ 10 by omega)
    rw [Nat.pow_succ] at this
    omega
  have ha4 := ne_oa h1 h4
  refine MA.start hW (by decide) [.val (.ref a), .val (I (el : Int)), .val (I (im : Int)), .unset, .unset] rfl ?_
  rintro X rfl rfl rfl hX
  refine wi_iconst hX dX5_putImage_0 ?_
  refine wa_iload_n hX (i := 1) dX5_putImage_1 rfl rfl ?_
  refine wn_shl1 hX dX5_putImage_2 (by rfl) (by omega) ?_
  refine wa_istore_n hX (i := 3) dX5_putImage_3 rfl rfl ?_
  dsimp only [List.set]
  refine wi_iconst hX dX5_putImage_4 ?_
  refine wa_istore hX dX5_putImage_5 rfl ?_
  dsimp only [List.set]
  refine WA.heap (hset_self h4).symm ?_
  refine WA.loop (σ := Nat × (Nat → Int)) (fun z => 2 ^ el - z.1) (fun z => z.1 ≤ 2 ^ el ∧ ∀ j, j < 1024 → z.2 j = ((if 2 ^ el ≤ j ∧ j < 2 ^ el + z.1 then Im (j - 2 ^ el) ||| 2 ^ im else Im j : Nat) : Int)) (fun z => hset h r4 (l4, aI .int 1024 z.2)) (fun z => [.val (.ref a), .val (I (el : Int)), .val (I (im : Int)), .val (I ((2 ^ el : Nat) : Int)), .val (I (z.1 : Nat))]) ?_ (0, (fun j => ((Im j : Nat) : Int))) ⟨Nat.zero_le _, fun j hj => by dsimp only; rw [if_neg (by omega)]⟩
  rintro ⟨i, F⟩ ⟨hi, hF⟩ ih
  dsimp only at hi hF ⊢
  have g1 : hset h r4 (l4, aI .int 1024 F) a = some (b, oLik r1 r2 r3 r4 r5 r6 e n) := (hset_ne ha4).trans h1
  have g4 : hset h r4 (l4, aI .int 1024 F) r4 = some (l4, aI .int 1024 F) := hset_eq
  have hadd : ((i : Int) + ((2 ^ el : Nat) : Int)) = ((i + 2 ^ el : Nat) : Int) := (Int.natCast_add _ _).symm
  refine wa_iload hX dX5_putImage_7 rfl ?_
  refine wa_iload_n hX (i := 3) dX5_putImage_9 rfl rfl ?_
  refine wi_icmp_ge hX (tgt := 51) dX5_putImage_10 (by decide) (by omega) (by omega) (fun c10 => ?_) (fun c10 => ?_)
  · skip
    first
      | (exfalso; omega)
      | (refine WA.ext9 (fun j => ((putN Im el im j : Nat) : Int)) g4 (fun j hj => by
           rw [hF j hj]
           unfold putN
           rw [show i = 2 ^ el by omega]) ?_
         rw [hset_hset]
         exact wa_vret hX dX5_putImage_51 ⟨rfl, rfl⟩)
  · skip
    refine wa_iload hX dX5_putImage_13 rfl ?_
    refine wa_iload_n hX (i := 3) dX5_putImage_15 rfl rfl ?_
    refine wi_iadd hX dX5_putImage_16 ?_
    rw [hadd]
    refine wa_aload_n hX (i := 0) dX5_putImage_17 rfl rfl ?_
    refine wa_get hX 3 (by assumption) (by rfl) (by decide +kernel) dX5_putImage_18 ?_
    refine wa_len hX (by assumption) dX5_putImage_21 ?_
    refine wi_icmp_ge hX (tgt := 51) dX5_putImage_22 (by decide) (by omega) (by omega) (fun c22 => ?_) (fun c22 => ?_)
    · skip
      first
        | (exfalso; omega)
        | (refine WA.ext9 (fun j => ((putN Im el im j : Nat) : Int)) g4 (fun j hj => by
             rw [hF j hj]
             unfold putN
             rw [show i = 2 ^ el by omega]) ?_
           rw [hset_hset]
           exact wa_vret hX dX5_putImage_51 ⟨rfl, rfl⟩)
    · skip
      refine wa_aload_n hX (i := 0) dX5_putImage_25 rfl rfl ?_
      refine wa_get hX 3 (by assumption) (by rfl) (by decide +kernel) dX5_putImage_26 ?_
      refine wa_iload hX dX5_putImage_29 rfl ?_
      refine wa_iload_n hX (i := 3) dX5_putImage_31 rfl rfl ?_
      refine wi_iadd hX dX5_putImage_32 ?_
      rw [hadd]
      refine wa_aload_n hX (i := 0) dX5_putImage_33 rfl rfl ?_
      refine wa_get hX 3 (by assumption) (by rfl) (by decide +kernel) dX5_putImage_34 ?_
      refine wa_iload hX dX5_putImage_37 rfl ?_
      refine wi_iaload hX g4 (by omega) (by omega) (by omega) dX5_putImage_39 ?_
      rw [Int.toNat_natCast, hF i (by omega), if_neg (by omega)]
      refine wi_iconst hX dX5_putImage_40 ?_
      refine wa_iload_n hX (i := 2) dX5_putImage_41 rfl rfl ?_
      refine wn_shl1 hX dX5_putImage_42 (by rfl) (by omega) ?_
      refine wn_ior hX dX5_putImage_43 (by rfl) (by rfl) ?_
      refine wi_iastore hX g4 (by omega) (by omega) (by omega) dX5_putImage_44 ?_
      rw [hset_hset]
      refine wi_iinc hX dX5_putImage_45 rfl ?_
      dsimp only [List.set]
      refine wa_goto hX (tgt := 7) dX5_putImage_48 (by decide) ?_
      refine ih (i + 1, up F ((i + 2 ^ el : Nat) : Int).toNat ((Im i ||| 2 ^ im : Nat) : Int)) ⟨by show i + 1 ≤ 2 ^ el; omega, fun j hj => ?_⟩ (by show 2 ^ el - (i + 1) < 2 ^ el - i; omega)
      dsimp only
      rw [up_is, Int.toNat_natCast]
      by_cases e9 : j = i + 2 ^ el
      · rw [if_pos e9, if_pos (by omega), show j - 2 ^ el = i by omega]
      · rw [if_neg e9, hF j hj]
        by_cases e5 : 2 ^ el ≤ j ∧ j < 2 ^ el + i
        · rw [if_pos e5, if_pos (by omega)]
        · rw [if_neg e5, if_neg (by omega)]
set_option maxRecDepth 100000 in
theorem c_X5_fits (hW : WOK l D S0) (d : Nat) {h : AH} {a b r1 r2 r3 r4 r5 r6 l2 l3 l4 l5 l6 el im : Nat} {e n : Int} {C Wn Im : Nat → Nat} {P Q : Nat → Int32} (h1 : h a = some (b, oLik r1 r2 r3 r4 r5 r6 e n)) (h2 : h r2 = some (l2, aV 1024 C)) (h3 : h r3 = some (l3, aV 1024 Wn)) (h4 : h r4 = some (l4, aV 1024 Im)) (h5 : h r5 = some (l5, aW .int 10 P)) (h6 : h r6 = some (l6, aW .int 10 Q)) (hel : el < 10) (him : im < 10) (hIm : ∀ j, j < 2 ^ el → Im j < 1024) (hC : ∀ j, C j ≤ 1024) (hWn : ∀ j, Wn j ≤ 1024) : MA l D S0 yX5_fits cX5_fits 6 (some .boolean) d [.ref a, I (el : Int), I (im : Int)] h 0 0 (fun r h' => r = some (I ((b2n (fitN P Q C Wn Im el im) : Nat) : Int)) ∧ h' = h) (fun _ _ => False) := by
  have hb : 2 ^ el + 2 ^ el ≤ 1024 := by
    have := p2_mono (show el + 1 ≤ 10 by omega)
    rw [Nat.pow_succ] at this
    omega
  have hbi : 2 ^ im < 2 ^ 10 := bit_lt him
  refine MA.start hW (by decide) [.val (.ref a), .val (I (el : Int)), .val (I (im : Int)), .unset, .unset, .unset] rfl ?_
  rintro X rfl rfl rfl hX
  refine wa_iload_n hX (i := 1) dX5_fits_0 rfl rfl ?_
  refine wa_aload_n hX (i := 0) dX5_fits_1 rfl rfl ?_
  refine wa_get hX 4 (by assumption) (by rfl) (by decide +kernel) dX5_fits_2 ?_
  refine wa_len hX (by assumption) dX5_fits_5 ?_
  refine wi_icmp_ge hX (tgt := 33) dX5_fits_6 (by decide) (by omega) (by omega) (fun c6 => ?_) (fun c6 => ?_)
  · skip
    refine wi_iconst hX dX5_fits_33 ?_
    refine wa_zret hX dX5_fits_34 (by rfl) ?_
    exfalso; omega
  · skip
    refine wa_iload_n hX (i := 2) dX5_fits_9 rfl rfl ?_
    refine wa_aload_n hX (i := 0) dX5_fits_10 rfl rfl ?_
    refine wa_get hX 5 (by assumption) (by rfl) (by decide +kernel) dX5_fits_11 ?_
    refine wa_len hX (by assumption) dX5_fits_14 ?_
    refine wi_icmp_ge hX (tgt := 33) dX5_fits_15 (by decide) (by omega) (by omega) (fun c15 => ?_) (fun c15 => ?_)
    · skip
      refine wi_iconst hX dX5_fits_33 ?_
      refine wa_zret hX dX5_fits_34 (by rfl) ?_
      exfalso; omega
    · skip
      refine wa_aload_n hX (i := 0) dX5_fits_18 rfl rfl ?_
      refine wa_get hX 4 (by assumption) (by rfl) (by decide +kernel) dX5_fits_19 ?_
      refine wa_iload_n hX (i := 1) dX5_fits_22 rfl rfl ?_
      refine wa_iaload hX h5 (by omega) (by omega) (by omega) dX5_fits_23 ?_
      rw [Int.toNat_natCast]
      refine wa_aload_n hX (i := 0) dX5_fits_24 rfl rfl ?_
      refine wa_get hX 5 (by assumption) (by rfl) (by decide +kernel) dX5_fits_25 ?_
      refine wa_iload_n hX (i := 2) dX5_fits_28 rfl rfl ?_
      refine wa_iaload hX h6 (by omega) (by omega) (by omega) dX5_fits_29 ?_
      rw [Int.toNat_natCast]
      refine wr_icmp_eq hX (tgt := 35) dX5_fits_30 (by decide) (fun c30 => ?_) (fun c30 => ?_)
      · skip
        refine wi_iconst hX dX5_fits_35 ?_
        refine wa_iload_n hX (i := 1) dX5_fits_36 rfl rfl ?_
        refine wn_shl1 hX dX5_fits_37 (by rfl) (by omega) ?_
        refine wa_istore_n hX (i := 3) dX5_fits_38 rfl (by first | rfl | exact hu1 | exact hu2 | exact hu3 | exact hu4) ?_
        dsimp only [List.set]
        refine wi_iconst hX dX5_fits_39 ?_
        refine wa_istore hX dX5_fits_40 (by first | rfl | exact hu1 | exact hu2 | exact hu3 | exact hu4) ?_
        dsimp only [List.set]
        refine WA.loop (σ := Nat × Slot) (fun z => 2 ^ el - z.1) (fun z => z.1 ≤ 2 ^ el ∧ okS [z.2] 0 = true ∧ ∀ t, t < z.1 → decide (C (t + 2 ^ el) = Wn (Im t ||| 2 ^ im)) = true) (fun _ => h) (fun z => [.val (.ref a), .val (I (el : Int)), .val (I (im : Int)), .val (I ((2 ^ el : Nat) : Int)), .val (I (z.1 : Nat)), z.2]) ?_ (0, .unset) ⟨Nat.zero_le _, rfl, fun t ht => absurd ht (Nat.not_lt_zero t)⟩
        rintro ⟨i, u1⟩ ⟨hi, hu1, hf⟩ ih
        dsimp only at hi hu1 hf ⊢
        have hadd : ((i : Int) + ((2 ^ el : Nat) : Int)) = ((i + 2 ^ el : Nat) : Int) := (Int.natCast_add _ _).symm
        have hC9 := hC (i + 2 ^ el)
        have hW9 := hWn (Im i ||| 2 ^ im)
        have hIm9 := hIm i
        refine wa_iload hX dX5_fits_42 rfl ?_
        refine wa_iload_n hX (i := 3) dX5_fits_44 rfl rfl ?_
        refine wi_icmp_ge hX (tgt := 110) dX5_fits_45 (by decide) (by omega) (by omega) (fun c45 => ?_) (fun c45 => ?_)
        · skip
          refine wi_iconst hX dX5_fits_110 ?_
          refine wa_zret hX dX5_fits_111 (by rfl) ?_
          first
            | (exfalso; omega)
            | (refine ⟨?_, rfl⟩
               have hq : fitN P Q C Wn Im el im = true := by
                 unfold fitN
                 rw [Bool.and_eq_true]
                 exact ⟨decide_eq_true c30, allB_iff.mpr (fun t ht => hf t (by omega))⟩
               rw [hq]; rfl)
        · skip
          refine wa_iload hX dX5_fits_48 rfl ?_
          refine wa_iload_n hX (i := 3) dX5_fits_50 rfl rfl ?_
          refine wi_iadd hX dX5_fits_51 ?_
          rw [hadd]
          refine wa_aload_n hX (i := 0) dX5_fits_52 rfl rfl ?_
          refine wa_get hX 1 (by assumption) (by rfl) (by decide +kernel) dX5_fits_53 ?_
          refine wa_len hX (by assumption) dX5_fits_56 ?_
          refine wi_icmp_ge hX (tgt := 110) dX5_fits_57 (by decide) (by omega) (by omega) (fun c57 => ?_) (fun c57 => ?_)
          · skip
            refine wi_iconst hX dX5_fits_110 ?_
            refine wa_zret hX dX5_fits_111 (by rfl) ?_
            first
              | (exfalso; omega)
              | (refine ⟨?_, rfl⟩
                 have hq : fitN P Q C Wn Im el im = true := by
                   unfold fitN
                   rw [Bool.and_eq_true]
                   exact ⟨decide_eq_true c30, allB_iff.mpr (fun t ht => hf t (by omega))⟩
                 rw [hq]; rfl)
          · skip
            refine wa_aload_n hX (i := 0) dX5_fits_60 rfl rfl ?_
            refine wa_get hX 3 (by assumption) (by rfl) (by decide +kernel) dX5_fits_61 ?_
            refine wa_iload hX dX5_fits_64 rfl ?_
            refine wi_iaload hX h4 (by omega) (by omega) (by omega) dX5_fits_66 ?_
            rw [Int.toNat_natCast]
            refine wi_iconst hX dX5_fits_67 ?_
            refine wa_iload_n hX (i := 2) dX5_fits_68 rfl rfl ?_
            refine wn_shl1 hX dX5_fits_69 (by rfl) (by omega) ?_
            refine wn_ior hX dX5_fits_70 (by rfl) (by rfl) ?_
            have hmp : Im i ||| 2 ^ im < 2 ^ 10 := or_lt (e := 10) (hIm9 (by omega)) hbi
            refine wa_istore hX dX5_fits_71 (by first | rfl | exact hu1 | exact hu2 | exact hu3 | exact hu4) ?_
            dsimp only [List.set]
            refine wa_iload hX dX5_fits_73 rfl ?_
            refine wa_aload_n hX (i := 0) dX5_fits_75 rfl rfl ?_
            refine wa_get hX 2 (by assumption) (by rfl) (by decide +kernel) dX5_fits_76 ?_
            refine wa_len hX (by assumption) dX5_fits_79 ?_
            refine wi_icmp_ge hX (tgt := 102) dX5_fits_80 (by decide) (by omega) (by omega) (fun c80 => ?_) (fun c80 => ?_)
            · skip
              refine wi_iconst hX dX5_fits_102 ?_
              refine wa_zret hX dX5_fits_103 (by rfl) ?_
              first
                | (exfalso; omega)
                | (refine ⟨?_, rfl⟩
                   have hq : fitN P Q C Wn Im el im = false := by
                     rw [Bool.eq_false_iff]
                     intro q
                     unfold fitN at q
                     rw [Bool.and_eq_true] at q
                     have q1 := of_decide_eq_true (allB_iff.mp q.2 i (by omega))
                     omega
                   rw [hq]; rfl)
            · skip
              refine wa_aload_n hX (i := 0) dX5_fits_83 rfl rfl ?_
              refine wa_get hX 1 (by assumption) (by rfl) (by decide +kernel) dX5_fits_84 ?_
              refine wa_iload hX dX5_fits_87 rfl ?_
              refine wa_iload_n hX (i := 3) dX5_fits_89 rfl rfl ?_
              refine wi_iadd hX dX5_fits_90 ?_
              rw [hadd]
              refine wi_iaload hX h2 (by omega) (by omega) (by omega) dX5_fits_91 ?_
              rw [Int.toNat_natCast]
              refine wa_aload_n hX (i := 0) dX5_fits_92 rfl rfl ?_
              refine wa_get hX 2 (by assumption) (by rfl) (by decide +kernel) dX5_fits_93 ?_
              refine wa_iload hX dX5_fits_96 rfl ?_
              refine wi_iaload hX h3 (by omega) (by omega) (by omega) dX5_fits_98 ?_
              rw [Int.toNat_natCast]
              refine wi_icmp_eq hX (tgt := 104) dX5_fits_99 (by decide) (by omega) (by omega) (fun c99 => ?_) (fun c99 => ?_)
              · skip
                refine wi_iinc hX dX5_fits_104 rfl ?_
                dsimp only [List.set]
                refine wa_goto hX (tgt := 42) dX5_fits_107 (by decide) ?_
                refine ih (i + 1, .val (I ((Im i ||| 2 ^ im : Nat) : Int))) ⟨by show i + 1 ≤ 2 ^ el; omega, rfl, fun t ht => ?_⟩ (by show 2 ^ el - (i + 1) < 2 ^ el - i; omega)
                dsimp only at ht
                rcases Nat.lt_succ_iff_lt_or_eq.mp ht with e9 | e9
                · exact hf t e9
                · subst e9; exact decide_eq_true (by omega)
              · skip
                refine wi_iconst hX dX5_fits_102 ?_
                refine wa_zret hX dX5_fits_103 (by rfl) ?_
                first
                  | (exfalso; omega)
                  | (refine ⟨?_, rfl⟩
                     have hq : fitN P Q C Wn Im el im = false := by
                       rw [Bool.eq_false_iff]
                       intro q
                       unfold fitN at q
                       rw [Bool.and_eq_true] at q
                       have q1 := of_decide_eq_true (allB_iff.mp q.2 i (by omega))
                       omega
                     rw [hq]; rfl)
      · skip
        refine wi_iconst hX dX5_fits_33 ?_
        refine wa_zret hX dX5_fits_34 (by rfl) ?_
        refine ⟨?_, rfl⟩
        have hq : fitN P Q C Wn Im el im = false := by
          unfold fitN
          rw [decide_eq_false c30, Bool.false_and]
        rw [hq]; rfl
set_option maxRecDepth 100000 in
theorem c_X5_sumOverGreater (hW : WOK l D S0) (d : Nat) {h : AH} {a b r1 r2 r3 r4 r5 r6 q lq e : Nat} {el : Int} {G : Nat → Int} (h1 : h a = some (b, oLik r1 r2 r3 r4 r5 r6 el ((2 ^ e : Nat) : Int))) (h2 : h q = some (lq, aI .int 1024 G)) (he : e ≤ 10) : MA l D S0 yX5_sumOverGreater cX5_sumOverGreater 4 none (d + 1) [.ref a, .ref q] h 0 0 (fun r h' => r = none ∧ ∃ F, h' = hset h q (lq, aI .int 1024 F) ∧ (∀ j, j < 2 ^ e → F j = sgT G e j) ∧ ∀ j, 2 ^ e ≤ j → F j = G j) (fun _ _ => False) := by
  have hp := p2_le he
  have hp0 := p2_pos e
  have haq := ne_oa h1 h2
  refine MA.start hW (by decide) [.val (.ref a), .val (.ref q), .unset, .unset] rfl ?_
  rintro X rfl rfl rfl hX
  refine wi_iconst hX dX5_sumOverGreater_0 ?_
  refine wa_istore_n hX (i := 2) dX5_sumOverGreater_1 rfl (by first | rfl | exact hu1 | exact hu2 | exact hu3 | exact hu4) ?_
  dsimp only [List.set]
  refine WA.heap (hset_self h2).symm ?_
  refine WA.loop (σ := Nat × (Nat → Int) × Slot) (fun z => e - z.1) (fun z => z.1 ≤ e ∧ okS [z.2.2] 0 = true ∧ (∀ j, j < 2 ^ e → z.2.1 j = sgT G z.1 j) ∧ ∀ j, 2 ^ e ≤ j → z.2.1 j = G j) (fun z => hset h q (lq, aI .int 1024 z.2.1)) (fun z => [.val (.ref a), .val (.ref q), .val (I ((2 ^ z.1 : Nat) : Int)), z.2.2]) ?_ (0, G, .unset) ⟨Nat.zero_le _, rfl, fun j hj => rfl, fun j hj => rfl⟩
  rintro ⟨k, F, u1⟩ ⟨hk, hu1, hF, hFo⟩ ih
  dsimp only at hk hu1 hF hFo ⊢
  have g1 : hset h q (lq, aI .int 1024 F) a = some (b, oLik r1 r2 r3 r4 r5 r6 el ((2 ^ e : Nat) : Int)) := (hset_ne haq).trans h1
  have hpk := p2_mono hk
  have hpk0 := p2_pos k
  refine wa_iload_n hX (i := 2) dX5_sumOverGreater_2 rfl rfl ?_
  refine wa_aload_n hX (i := 0) dX5_sumOverGreater_3 rfl rfl ?_
  refine wa_get hX 7 (by assumption) (by rfl) (by decide +kernel) dX5_sumOverGreater_4 ?_
  refine wi_icmp_ge hX (tgt := 58) dX5_sumOverGreater_7 (by decide) (by omega) (by omega) (fun c7 => ?_) (fun c7 => ?_)
  · skip
    refine wa_vret hX dX5_sumOverGreater_58 ?_
    refine ⟨rfl, F, rfl, fun j hj => ?_, hFo⟩
    have hke : k = e := by
      by_cases q : k < e
      · exact absurd (bit_lt q) (by omega)
      · omega
    rw [hF j hj, hke]
  · skip
    have hke : k < e := p2_inv (by omega)
    refine wi_iconst hX dX5_sumOverGreater_10 ?_
    refine wa_istore_n hX (i := 3) dX5_sumOverGreater_11 rfl (by first | rfl | exact hu1 | exact hu2 | exact hu3 | exact hu4) ?_
    dsimp only [List.set]
    clear g1
    refine WA.loop (σ := Nat × (Nat → Int)) (fun z => 2 ^ e - z.1) (fun z => z.1 ≤ 2 ^ e ∧ (∀ j, j < 2 ^ e → z.2 j = (if j < z.1 then sgT G (k + 1) j else sgT G k j)) ∧ ∀ j, 2 ^ e ≤ j → z.2 j = G j) (fun z => hset h q (lq, aI .int 1024 z.2)) (fun z => [.val (.ref a), .val (.ref q), .val (I ((2 ^ k : Nat) : Int)), .val (I (z.1 : Nat))]) ?_ (0, F) ⟨Nat.zero_le _, fun j hj => by rw [if_neg (Nat.not_lt_zero j)]; exact hF j hj, hFo⟩
    rintro ⟨s, K⟩ ⟨hs, hK, hKo⟩ ih2
    dsimp only at hs hK hKo ⊢
    have g1 : hset h q (lq, aI .int 1024 K) a = some (b, oLik r1 r2 r3 r4 r5 r6 el ((2 ^ e : Nat) : Int)) := (hset_ne haq).trans h1
    have g2 : hset h q (lq, aI .int 1024 K) q = some (lq, aI .int 1024 K) := hset_eq
    have hst : sgT G (k + 1) s = (if s.testBit k then sgT G k s else sgT G k s + sgT G k (s ||| 2 ^ k)) := rfl
    refine wa_iload_n hX (i := 3) dX5_sumOverGreater_12 rfl rfl ?_
    refine wa_aload_n hX (i := 0) dX5_sumOverGreater_13 rfl rfl ?_
    refine wa_get hX 7 (by assumption) (by rfl) (by decide +kernel) dX5_sumOverGreater_14 ?_
    refine wi_icmp_ge hX (tgt := 51) dX5_sumOverGreater_17 (by decide) (by omega) (by omega) (fun c17 => ?_) (fun c17 => ?_)
    · skip
      refine wa_iload_n hX (i := 2) dX5_sumOverGreater_51 rfl rfl ?_
      refine wi_iconst hX dX5_sumOverGreater_52 ?_
      refine wn_ishl hX (b := 1) dX5_sumOverGreater_53 (by rfl) (by rfl) (by omega) ?_
      refine wa_istore_n hX (i := 2) dX5_sumOverGreater_54 rfl (by first | rfl | exact hu1 | exact hu2 | exact hu3 | exact hu4) ?_
      dsimp only [List.set]
      refine wa_goto hX (tgt := 2) dX5_sumOverGreater_55 (by decide) ?_
      first
        | (exfalso; omega)
        | (rw [p2_shl]
           refine ih (k + 1, K, .val (I (s : Nat))) ⟨by show k + 1 ≤ e; omega, rfl, fun j hj => by dsimp only; rw [hK j hj, if_pos (by omega)], hKo⟩ (by show e - (k + 1) < e - k; omega))
    · skip
      refine wa_iload_n hX (i := 3) dX5_sumOverGreater_20 rfl rfl ?_
      refine wa_aload_n hX (i := 1) dX5_sumOverGreater_21 rfl rfl ?_
      refine wa_len hX (by assumption) dX5_sumOverGreater_22 ?_
      refine wi_icmp_ge hX (tgt := 51) dX5_sumOverGreater_23 (by decide) (by omega) (by omega) (fun c23 => ?_) (fun c23 => ?_)
      · skip
        refine wa_iload_n hX (i := 2) dX5_sumOverGreater_51 rfl rfl ?_
        refine wi_iconst hX dX5_sumOverGreater_52 ?_
        refine wn_ishl hX (b := 1) dX5_sumOverGreater_53 (by rfl) (by rfl) (by omega) ?_
        refine wa_istore_n hX (i := 2) dX5_sumOverGreater_54 rfl (by first | rfl | exact hu1 | exact hu2 | exact hu3 | exact hu4) ?_
        dsimp only [List.set]
        refine wa_goto hX (tgt := 2) dX5_sumOverGreater_55 (by decide) ?_
        first
          | (exfalso; omega)
          | (rw [p2_shl]
             refine ih (k + 1, K, .val (I (s : Nat))) ⟨by show k + 1 ≤ e; omega, rfl, fun j hj => by dsimp only; rw [hK j hj, if_pos (by omega)], hKo⟩ (by show e - (k + 1) < e - k; omega))
      · skip
        refine wa_iload_n hX (i := 3) dX5_sumOverGreater_26 rfl rfl ?_
        refine wa_iload_n hX (i := 2) dX5_sumOverGreater_27 rfl rfl ?_
        refine wn_iand hX dX5_sumOverGreater_28 (by rfl) (by rfl) ?_
        refine wi_if_ne hX (tgt := 45) dX5_sumOverGreater_29 (by decide) (by first | omega | exact inR_nat (and_ltl (by omega)) | exact inR_nat (and_ltr (by omega))) (fun c29 => ?_) (fun c29 => ?_)
        · skip
          refine wi_iinc hX dX5_sumOverGreater_45 rfl ?_
          dsimp only [List.set]
          refine wa_goto hX (tgt := 12) dX5_sumOverGreater_48 (by decide) ?_
          first
            | (have ht := and_c0 c29
               rw [if_neg (by rw [ht]; decide)] at hst
               refine ih2 (s + 1, up K (s : Int).toNat (sgT G k s + sgT G k (s ||| 2 ^ k))) ⟨by show s + 1 ≤ 2 ^ e; omega, fun j hj => ?_, fun j hj => by dsimp only; rw [up_is, Int.toNat_natCast, if_neg (by omega)]; exact hKo j hj⟩ (by show 2 ^ e - (s + 1) < 2 ^ e - s; omega)
               dsimp only
               rw [up_is, Int.toNat_natCast]
               by_cases e9 : j = s
               · subst e9; rw [if_pos rfl, if_pos (by omega), hst]
               · rw [if_neg e9, hK j hj]
                 by_cases e5 : j < s
                 · rw [if_pos e5, if_pos (by omega)]
                 · rw [if_neg e5, if_neg (by omega)])
            | (have ht := and_c1 c29
               rw [if_pos ht] at hst
               refine ih2 (s + 1, K) ⟨by show s + 1 ≤ 2 ^ e; omega, fun j hj => ?_, hKo⟩ (by show 2 ^ e - (s + 1) < 2 ^ e - s; omega)
               dsimp only
               rw [hK j hj]
               by_cases e9 : j = s
               · subst e9; rw [if_neg (Nat.lt_irrefl j), if_pos (by omega), hst]
               · by_cases e5 : j < s
                 · rw [if_pos e5, if_pos (by omega)]
                 · rw [if_neg e5, if_neg (by omega)])
        · skip
          refine wa_aload_n hX (i := 1) dX5_sumOverGreater_32 rfl rfl ?_
          refine wa_iload_n hX (i := 3) dX5_sumOverGreater_33 rfl rfl ?_
          refine wa_dup2 hX dX5_sumOverGreater_34 rfl rfl ?_
          refine wi_iaload hX g2 (by omega) (by omega) (by omega) dX5_sumOverGreater_35 ?_
          rw [Int.toNat_natCast, hK s (by omega), if_neg (Nat.lt_irrefl s)]
          have hx : s ||| 2 ^ k < 2 ^ e := or_lt (by omega) (bit_lt hke)
          have hx1 : s ≤ s ||| 2 ^ k := Nat.left_le_or
          refine wa_aload_n hX (i := 1) dX5_sumOverGreater_36 rfl rfl ?_
          refine wa_iload_n hX (i := 3) dX5_sumOverGreater_37 rfl rfl ?_
          refine wa_iload_n hX (i := 2) dX5_sumOverGreater_38 rfl rfl ?_
          refine wn_ior hX dX5_sumOverGreater_39 (by rfl) (by rfl) ?_
          refine wa_callS hX (c_X5_at hW d g2 (by decide) (i := ((s ||| 2 ^ k : Nat) : Int)) (by omega)) (by rfl) (by omega) (nA := 2) (by rfl) (by decide +kernel) rfl (by exact Nat.le_of_ble_eq_true rfl) dX5_sumOverGreater_40 (fun r40 h40 p40 => ?_) (fun _ _ q => q.elim)
          obtain ⟨rfl, qq40⟩ := p40; subst h40
          rw [atv_in (by omega), hK _ hx, if_neg (by omega)]
          dsimp only [Option.toList, List.cons_append, List.nil_append]
          refine wi_iadd hX dX5_sumOverGreater_43 ?_
          refine wi_iastore hX g2 (by omega) (by omega) (by omega) dX5_sumOverGreater_44 ?_
          rw [hset_hset]
          refine wi_iinc hX dX5_sumOverGreater_45 rfl ?_
          dsimp only [List.set]
          refine wa_goto hX (tgt := 12) dX5_sumOverGreater_48 (by decide) ?_
          first
            | (have ht := and_c0 c29
               rw [if_neg (by rw [ht]; decide)] at hst
               refine ih2 (s + 1, up K (s : Int).toNat (sgT G k s + sgT G k (s ||| 2 ^ k))) ⟨by show s + 1 ≤ 2 ^ e; omega, fun j hj => ?_, fun j hj => by dsimp only; rw [up_is, Int.toNat_natCast, if_neg (by omega)]; exact hKo j hj⟩ (by show 2 ^ e - (s + 1) < 2 ^ e - s; omega)
               dsimp only
               rw [up_is, Int.toNat_natCast]
               by_cases e9 : j = s
               · subst e9; rw [if_pos rfl, if_pos (by omega), hst]
               · rw [if_neg e9, hK j hj]
                 by_cases e5 : j < s
                 · rw [if_pos e5, if_pos (by omega)]
                 · rw [if_neg e5, if_neg (by omega)])
            | (have ht := and_c1 c29
               rw [if_pos ht] at hst
               refine ih2 (s + 1, K) ⟨by show s + 1 ≤ 2 ^ e; omega, fun j hj => ?_, hKo⟩ (by show 2 ^ e - (s + 1) < 2 ^ e - s; omega)
               dsimp only
               rw [hK j hj]
               by_cases e9 : j = s
               · subst e9; rw [if_neg (Nat.lt_irrefl j), if_pos (by omega), hst]
               · by_cases e5 : j < s
                 · rw [if_pos e5, if_pos (by omega)]
                 · rw [if_neg e5, if_neg (by omega)])
end C41
