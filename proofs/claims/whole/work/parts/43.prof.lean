/-! Circuitfold$Likeness (X5): profiles; Arrays.fill of ints -/
def trm (C : Nat → Nat) (s : Nat) : Int := ((C s : Nat) * 4099 + (bc s : Nat)) * ((C s : Nat) * 4099 + (bc s : Nat)) * ((C s : Nat) * 4099 + (bc s : Nat)) + ((C s : Nat) * 4099 + (bc s : Nat))
def prfN (C : Nat → Nat) (e N el : Nat) : Int := if el < e then sumI (fun s => if s.testBit el then trm C s else 0) N else 0
theorem sumI_succ (f : Nat → Int) (n : Nat) : sumI f (n + 1) = sumI f n + f n := rfl
def samN (P Q : Nat → Int32) (e : Nat) : Bool := allB (fun el => decide (cnt (fun o => decide (P o = P el)) e = cnt (fun o => decide (Q o = P el)) e)) e
section C43
variable {l : Launch} {D : va_G} {S0 : State}
set_option maxRecDepth 100000 in
theorem c_J7_fillI (hW : WOK l D S0) (d : Nat) {h : AH} {q lq n : Nat} {g : Nat → Int32} {z : Int} (h1 : h q = some (lq, aW .int n g)) (hn : n < 2147483648) : MA l D S0 yJ7_fill_53178 cJ7_fill_53178 4 none d [.ref q, I z] h 0 0 (fun r h' => r = none ∧ h' = hset h q (lq, aI .int n (fun _ => z))) (fun _ _ => False) := by
  refine MA.start hW (by decide) [.val (.ref q), .val (I z), .unset, .unset] rfl ?_
  rintro X rfl rfl rfl hX
  refine wi_iconst hX dJ7_fill_53178_0 ?_
  refine wa_istore_n hX (i := 2) dJ7_fill_53178_1 rfl rfl ?_
  dsimp only [List.set]
  refine wa_aload_n hX (i := 0) dJ7_fill_53178_2 rfl rfl ?_
  refine wa_len hX (by assumption) dJ7_fill_53178_3 ?_
  refine wa_istore_n hX (i := 3) dJ7_fill_53178_4 rfl rfl ?_
  dsimp only [List.set]
  skip
  refine WA.heap (hset_self h1).symm ?_
  refine WA.loop (σ := Nat × (Nat → Int32)) (fun s => n - s.1) (fun s => s.1 ≤ n ∧ ∀ j, j < s.1 → s.2 j = Int32.ofInt z) (fun s => hset h q (lq, aW .int n s.2)) (fun s => [.val (.ref q), .val (I z), .val (I (s.1 : Nat)), .val (I (n : Nat))]) ?_ (0, g) ⟨Nat.zero_le _, fun j hj => absurd hj (Nat.not_lt_zero j)⟩
  rintro ⟨i, f⟩ ⟨hi, hf⟩ ih
  dsimp only at hi hf ⊢
  have h2 : hset h q (lq, aW .int n f) q = some (lq, aW .int n f) := hset_eq
  refine wa_iload_n hX (i := 2) dJ7_fill_53178_5 rfl rfl ?_
  refine wa_iload_n hX (i := 3) dJ7_fill_53178_6 rfl rfl ?_
  refine wi_icmp_ge hX (tgt := 20) dJ7_fill_53178_7 (by decide) (by omega) (by omega) (fun c7 => ?_) (fun c7 => ?_)
  · skip
    refine WA.ext (fun _ => Int32.ofInt z) h2 (fun j hj => hf j (by omega)) ?_
    rw [hset_hset]
    refine wa_vret hX dJ7_fill_53178_20 ?_
    exact ⟨rfl, rfl⟩
  · skip
    refine wa_aload_n hX (i := 0) dJ7_fill_53178_10 rfl rfl ?_
    refine wa_iload_n hX (i := 2) dJ7_fill_53178_11 rfl rfl ?_
    refine wa_iload_n hX (i := 1) dJ7_fill_53178_12 rfl rfl ?_
    refine wa_iastore hX h2 (by omega) (by omega) (by omega) dJ7_fill_53178_13 ?_
    rw [hset_hset]
    refine wi_iinc hX dJ7_fill_53178_14 rfl ?_
    dsimp only [List.set]
    refine wa_goto hX (tgt := 5) dJ7_fill_53178_17 (by decide) ?_
    exact ih (i + 1, up f i (Int32.ofInt z)) ⟨by show i + 1 ≤ n; omega, fun j hj => by
        show up f i (Int32.ofInt z) j = Int32.ofInt z
        by_cases e : j = i
        · subst e; exact up_s
        · rw [up_n e]; exact hf j (by change j < i + 1 at hj; omega)⟩ (by show n - (i + 1) < n - i; omega)
set_option maxRecDepth 100000 in
theorem c_X5_fillProfiles (hW : WOK l D S0) (d : Nat) {h : AH} {a b r1 r2 r3 r4 r5 r6 q lq w lw e : Nat} {C : Nat → Nat} {G : Nat → Int32} {CI : Nat → Int} (h1 : h a = some (b, oLik r1 r2 r3 r4 r5 r6 e ((2 ^ e : Nat) : Int))) (h2 : h q = some (lq, aI .int 1024 CI)) (hCI : ∀ j, j < 2 ^ e → CI j = ((C j : Nat) : Int)) (h3 : h w = some (lw, aW .int 10 G)) (hl : lq ≠ lw) (he : e ≤ 10) : MA l D S0 yX5_fillProfiles cX5_fillProfiles 7 none (d + 1) [.ref a, .ref q, .ref w] h 0 0 (fun r h' => r = none ∧ h' = hset h w (lw, aI .int 10 (prfN C e (2 ^ e)))) (fun _ _ => False) := by
  have hp := p2_le he
  have hp0 := p2_pos e
  have haw := ne_oa h1 h3
  have hqw : q ≠ w := lab_ne h3 h2 hl
  refine MA.start hW (by decide) [.val (.ref a), .val (.ref q), .val (.ref w), .unset, .unset, .unset, .unset] rfl ?_
  rintro X rfl rfl rfl hX
  refine wa_aload_n hX (i := 2) dX5_fillProfiles_0 rfl rfl ?_
  refine wi_iconst hX dX5_fillProfiles_1 ?_
  refine wa_callS hX (c_J7_fillI hW d (z := 0) h3 (by decide)) (by rfl) (by omega) (nA := 2) (by rfl) (by decide +kernel) rfl (by exact Nat.le_of_ble_eq_true rfl) dX5_fillProfiles_2 (fun r2 h2 p2 => ?_) (fun _ _ q => q.elim)
  obtain ⟨rfl, rfl⟩ := p2
  dsimp only [Option.toList, List.cons_append, List.nil_append]
  refine wi_iconst hX dX5_fillProfiles_5 ?_
  refine wa_istore_n hX (i := 3) dX5_fillProfiles_6 rfl (by first | rfl | exact hu1 | exact hu2 | exact hu3 | exact hu4) ?_
  dsimp only [List.set]
  refine WA.loop (σ := Nat × (Nat → Int) × Slot × Slot × Slot) (fun z => 2 ^ e - z.1) (fun z => z.1 ≤ 2 ^ e ∧ okS [z.2.2.1] 0 = true ∧ okS [z.2.2.2.1] 0 = true ∧ okS [z.2.2.2.2] 0 = true ∧ ∀ j, j < 10 → z.2.1 j = prfN C e z.1 j) (fun z => hset h w (lw, aI .int 10 z.2.1)) (fun z => [.val (.ref a), .val (.ref q), .val (.ref w), .val (I (z.1 : Nat)), z.2.2.1, z.2.2.2.1, z.2.2.2.2]) ?_ (0, (fun _ => 0), .unset, .unset, .unset) ⟨Nat.zero_le _, rfl, rfl, rfl, fun j hj => by unfold prfN; split <;> rfl⟩
  rintro ⟨i, F, u1, u2, u3⟩ ⟨hi, hu1, hu2, hu3, hF⟩ ih
  dsimp only at hi hu1 hu2 hu3 hF ⊢
  have g1 : hset h w (lw, aI .int 10 F) a = some (b, oLik r1 r2 r3 r4 r5 r6 e ((2 ^ e : Nat) : Int)) := (hset_ne haw).trans h1
  have g2 : hset h w (lw, aI .int 10 F) q = some (lq, aI .int 1024 CI) := (hset_ne hqw).trans h2
  refine wa_iload_n hX (i := 3) dX5_fillProfiles_7 rfl rfl ?_
  refine wa_aload_n hX (i := 0) dX5_fillProfiles_8 rfl rfl ?_
  refine wa_get hX 7 (by assumption) (by rfl) (by decide +kernel) dX5_fillProfiles_9 ?_
  refine wi_icmp_ge hX (tgt := 97) dX5_fillProfiles_12 (by decide) (by omega) (by omega) (fun c12 => ?_) (fun c12 => ?_)
  · skip
    first
      | (exfalso; omega)
      | (refine WA.ext9 (prfN C e (2 ^ e)) hset_eq (fun j hj => by rw [hF j hj, show i = 2 ^ e by omega]) ?_
         rw [hset_hset]
         exact wa_vret hX dX5_fillProfiles_97 ⟨rfl, rfl⟩)
  · skip
    refine wa_iload_n hX (i := 3) dX5_fillProfiles_15 rfl rfl ?_
    refine wa_aload_n hX (i := 1) dX5_fillProfiles_16 rfl rfl ?_
    refine wa_len hX (by assumption) dX5_fillProfiles_17 ?_
    refine wi_icmp_ge hX (tgt := 97) dX5_fillProfiles_18 (by decide) (by omega) (by omega) (fun c18 => ?_) (fun c18 => ?_)
    · skip
      first
        | (exfalso; omega)
        | (refine WA.ext9 (prfN C e (2 ^ e)) hset_eq (fun j hj => by rw [hF j hj, show i = 2 ^ e by omega]) ?_
           rw [hset_hset]
           exact wa_vret hX dX5_fillProfiles_97 ⟨rfl, rfl⟩)
    · skip
      refine wa_aload_n hX (i := 1) dX5_fillProfiles_21 rfl rfl ?_
      refine wa_iload_n hX (i := 3) dX5_fillProfiles_22 rfl rfl ?_
      refine wi_iaload hX g2 (by omega) (by omega) (by omega) dX5_fillProfiles_23 ?_
      rw [Int.toNat_natCast, hCI i (by omega)]
      refine wi_sipush hX dX5_fillProfiles_24 (by decide) ?_
      refine wi_imul hX dX5_fillProfiles_27 ?_
      refine wa_iload_n hX (i := 3) dX5_fillProfiles_28 rfl rfl ?_
      refine wa_callS hX (c_J6_bitCount hW d (s := i) (by omega)) (by rfl) (by omega) (nA := 1) (by rfl) (by decide +kernel) rfl (by exact Nat.le_of_ble_eq_true rfl) dX5_fillProfiles_29 (fun r29 h29 p29 => ?_) (fun _ _ q => q.elim)
      obtain ⟨rfl, qq29⟩ := p29; subst h29
      dsimp only [Option.toList, List.cons_append, List.nil_append]
      refine wi_iadd hX dX5_fillProfiles_32 ?_
      refine wa_istore hX dX5_fillProfiles_33 (by first | rfl | exact hu1 | exact hu2 | exact hu3 | exact hu4) ?_
      dsimp only [List.set]
      refine wa_iload hX dX5_fillProfiles_35 rfl ?_
      refine wa_iload hX dX5_fillProfiles_37 rfl ?_
      refine wi_imul hX dX5_fillProfiles_39 ?_
      refine wa_iload hX dX5_fillProfiles_40 rfl ?_
      refine wi_imul hX dX5_fillProfiles_42 ?_
      refine wa_iload hX dX5_fillProfiles_43 rfl ?_
      refine wi_iadd hX dX5_fillProfiles_45 ?_
      refine wa_istore hX dX5_fillProfiles_46 (by first | rfl | exact hu1 | exact hu2 | exact hu3 | exact hu4) ?_
      dsimp only [List.set]
      refine wi_iconst hX dX5_fillProfiles_48 ?_
      refine wa_istore hX dX5_fillProfiles_49 (by first | rfl | exact hu1 | exact hu2 | exact hu3 | exact hu4) ?_
      dsimp only [List.set]
      clear g1 g2
      have htr : ((C i : Nat) * 4099 + (bc i : Nat) : Int) * ((C i : Nat) * 4099 + (bc i : Nat)) * ((C i : Nat) * 4099 + (bc i : Nat)) + ((C i : Nat) * 4099 + (bc i : Nat)) = trm C i := rfl
      rw [htr]
      generalize hbs : ((C i : Nat) * 4099 + (bc i : Nat) : Int) = bs
      refine WA.loop (σ := Nat × (Nat → Int)) (fun z => e - z.1) (fun z => z.1 ≤ e ∧ ∀ j, j < 10 → z.2 j = (if j < z.1 then prfN C e (i + 1) j else prfN C e i j)) (fun z => hset h w (lw, aI .int 10 z.2)) (fun z => [.val (.ref a), .val (.ref q), .val (.ref w), .val (I (i : Nat)), .val (I bs), .val (I (trm C i)), .val (I (z.1 : Nat))]) ?_ (0, F) ⟨Nat.zero_le _, fun j hj => by rw [if_neg (Nat.not_lt_zero j)]; exact hF j hj⟩
      rintro ⟨j, K⟩ ⟨hj, hK⟩ ih2
      dsimp only at hj hK ⊢
      have g1 : hset h w (lw, aI .int 10 K) a = some (b, oLik r1 r2 r3 r4 r5 r6 e ((2 ^ e : Nat) : Int)) := (hset_ne haw).trans h1
      have g3 : hset h w (lw, aI .int 10 K) w = some (lw, aI .int 10 K) := hset_eq
      refine wa_iload hX dX5_fillProfiles_51 rfl ?_
      refine wa_aload_n hX (i := 0) dX5_fillProfiles_53 rfl rfl ?_
      refine wa_get hX 6 (by assumption) (by rfl) (by decide +kernel) dX5_fillProfiles_54 ?_
      refine wi_icmp_ge hX (tgt := 91) dX5_fillProfiles_57 (by decide) (by omega) (by omega) (fun c57 => ?_) (fun c57 => ?_)
      · skip
        first
          | (exfalso; omega)
          | skip
        all_goals
          skip
          refine wi_iinc hX dX5_fillProfiles_91 rfl ?_
          dsimp only [List.set]
          refine wa_goto hX (tgt := 7) dX5_fillProfiles_94 (by decide) ?_
          refine ih (i + 1, K, .val (I bs), .val (I (trm C i)), .val (I (j : Nat))) ⟨by show i + 1 ≤ 2 ^ e; omega, rfl, rfl, rfl, fun t ht => ?_⟩ (by show 2 ^ e - (i + 1) < 2 ^ e - i; omega)
          dsimp only
          rw [hK t ht]
          by_cases e5 : t < j
          · rw [if_pos e5]
          · rw [if_neg e5]
            unfold prfN
            rw [if_neg (by omega), if_neg (by omega)]
      · skip
        refine wa_iload hX dX5_fillProfiles_60 rfl ?_
        refine wa_aload_n hX (i := 2) dX5_fillProfiles_62 rfl rfl ?_
        refine wa_len hX (by assumption) dX5_fillProfiles_63 ?_
        refine wi_icmp_ge hX (tgt := 91) dX5_fillProfiles_64 (by decide) (by omega) (by omega) (fun c64 => ?_) (fun c64 => ?_)
        · skip
          first
            | (exfalso; omega)
            | skip
          all_goals
            skip
            refine wi_iinc hX dX5_fillProfiles_91 rfl ?_
            dsimp only [List.set]
            refine wa_goto hX (tgt := 7) dX5_fillProfiles_94 (by decide) ?_
            refine ih (i + 1, K, .val (I bs), .val (I (trm C i)), .val (I (j : Nat))) ⟨by show i + 1 ≤ 2 ^ e; omega, rfl, rfl, rfl, fun t ht => ?_⟩ (by show 2 ^ e - (i + 1) < 2 ^ e - i; omega)
            dsimp only
            rw [hK t ht]
            by_cases e5 : t < j
            · rw [if_pos e5]
            · rw [if_neg e5]
              unfold prfN
              rw [if_neg (by omega), if_neg (by omega)]
        · skip
          have hst : prfN C e (i + 1) j = prfN C e i j + (if i.testBit j then trm C i else 0) := by
            unfold prfN
            rw [if_pos (by omega), if_pos (by omega), sumI_succ]
          refine wa_iload_n hX (i := 3) dX5_fillProfiles_67 rfl rfl ?_
          refine wi_iconst hX dX5_fillProfiles_68 ?_
          refine wa_iload hX dX5_fillProfiles_69 rfl ?_
          refine wn_shl1 hX dX5_fillProfiles_71 (by rfl) (by omega) ?_
          refine wn_iand hX dX5_fillProfiles_72 (by rfl) (by rfl) ?_
          refine wi_if_eq hX (tgt := 85) dX5_fillProfiles_73 (by decide) (by exact inR_nat (and_ltl (by omega))) (fun c73 => ?_) (fun c73 => ?_)
          · skip
            refine wi_iinc hX dX5_fillProfiles_85 rfl ?_
            dsimp only [List.set]
            refine wa_goto hX (tgt := 51) dX5_fillProfiles_88 (by decide) ?_
            first
              | (have ht := and_c0 c73
                 rw [ht, if_neg (by decide), Int.add_zero] at hst
                 refine ih2 (j + 1, K) ⟨by show j + 1 ≤ e; omega, fun t ht => ?_⟩ (by show e - (j + 1) < e - j; omega)
                 dsimp only
                 rw [hK t ht]
                 by_cases e9 : t = j
                 · subst e9; rw [if_neg (Nat.lt_irrefl t), if_pos (by omega), hst]
                 · by_cases e5 : t < j
                   · rw [if_pos e5, if_pos (by omega)]
                   · rw [if_neg e5, if_neg (by omega)])
              | (have ht := and_c1 c73
                 rw [if_pos ht] at hst
                 refine ih2 (j + 1, up K (j : Int).toNat (prfN C e i j + trm C i)) ⟨by show j + 1 ≤ e; omega, fun t ht => ?_⟩ (by show e - (j + 1) < e - j; omega)
                 dsimp only
                 rw [up_is, Int.toNat_natCast]
                 by_cases e9 : t = j
                 · subst e9; rw [if_pos rfl, if_pos (by omega), hst]
                 · rw [if_neg e9, hK t ht]
                   by_cases e5 : t < j
                   · rw [if_pos e5, if_pos (by omega)]
                   · rw [if_neg e5, if_neg (by omega)])
          · skip
            refine wa_aload_n hX (i := 2) dX5_fillProfiles_76 rfl rfl ?_
            refine wa_iload hX dX5_fillProfiles_77 rfl ?_
            refine wa_dup2 hX dX5_fillProfiles_79 rfl rfl ?_
            refine wi_iaload hX g3 (by omega) (by omega) (by omega) dX5_fillProfiles_80 ?_
            rw [Int.toNat_natCast, hK j (by omega), if_neg (Nat.lt_irrefl j)]
            refine wa_iload hX dX5_fillProfiles_81 rfl ?_
            refine wi_iadd hX dX5_fillProfiles_83 ?_
            refine wi_iastore hX g3 (by omega) (by omega) (by omega) dX5_fillProfiles_84 ?_
            rw [hset_hset]
            refine wi_iinc hX dX5_fillProfiles_85 rfl ?_
            dsimp only [List.set]
            refine wa_goto hX (tgt := 51) dX5_fillProfiles_88 (by decide) ?_
            first
              | (have ht := and_c0 c73
                 rw [ht, if_neg (by decide), Int.add_zero] at hst
                 refine ih2 (j + 1, K) ⟨by show j + 1 ≤ e; omega, fun t ht => ?_⟩ (by show e - (j + 1) < e - j; omega)
                 dsimp only
                 rw [hK t ht]
                 by_cases e9 : t = j
                 · subst e9; rw [if_neg (Nat.lt_irrefl t), if_pos (by omega), hst]
                 · by_cases e5 : t < j
                   · rw [if_pos e5, if_pos (by omega)]
                   · rw [if_neg e5, if_neg (by omega)])
              | (have ht := and_c1 c73
                 rw [if_pos ht] at hst
                 refine ih2 (j + 1, up K (j : Int).toNat (prfN C e i j + trm C i)) ⟨by show j + 1 ≤ e; omega, fun t ht => ?_⟩ (by show e - (j + 1) < e - j; omega)
                 dsimp only
                 rw [up_is, Int.toNat_natCast]
                 by_cases e9 : t = j
                 · subst e9; rw [if_pos rfl, if_pos (by omega), hst]
                 · rw [if_neg e9, hK t ht]
                   by_cases e5 : t < j
                   · rw [if_pos e5, if_pos (by omega)]
                   · rw [if_neg e5, if_neg (by omega)])
set_option maxRecDepth 100000 in
theorem c_X5_hasSameProfiles (hW : WOK l D S0) (d : Nat) {h : AH} {a b r1 r2 r3 r4 r5 r6 l5 l6 e : Nat} {nn : Int} {P Q : Nat → Int32} (h1 : h a = some (b, oLik r1 r2 r3 r4 r5 r6 e nn)) (h5 : h r5 = some (l5, aW .int 10 P)) (h6 : h r6 = some (l6, aW .int 10 Q)) (he : e ≤ 10) : MA l D S0 yX5_hasSameProfiles cX5_hasSameProfiles 4 (some .boolean) d [.ref a] h 0 0 (fun r h' => r = some (I ((b2n (samN P Q e) : Nat) : Int)) ∧ h' = h) (fun _ _ => False) := by
  refine MA.start hW (by decide) [.val (.ref a), .unset, .unset, .unset] rfl ?_
  rintro X rfl rfl rfl hX
  refine wi_iconst hX dX5_hasSameProfiles_0 ?_
  refine wa_istore_n hX (i := 1) dX5_hasSameProfiles_1 rfl (by first | rfl | exact hu1 | exact hu2 | exact hu3 | exact hu4) ?_
  dsimp only [List.set]
  refine WA.loop (σ := Nat × Slot × Slot) (fun z => e - z.1) (fun z => z.1 ≤ e ∧ okS [z.2.1] 0 = true ∧ okS [z.2.2] 0 = true ∧ ∀ t, t < z.1 → decide (cnt (fun o => decide (P o = P t)) e = cnt (fun o => decide (Q o = P t)) e) = true) (fun _ => h) (fun z => [.val (.ref a), .val (I (z.1 : Nat)), z.2.1, z.2.2]) ?_ (0, .unset, .unset) ⟨Nat.zero_le _, rfl, rfl, fun t ht => absurd ht (Nat.not_lt_zero t)⟩
  rintro ⟨i, u1, u2⟩ ⟨hi, hu1, hu2, hf⟩ ih
  dsimp only at hi hu1 hu2 hf ⊢
  refine wa_iload_n hX (i := 1) dX5_hasSameProfiles_2 rfl rfl ?_
  refine wa_aload_n hX (i := 0) dX5_hasSameProfiles_3 rfl rfl ?_
  refine wa_get hX 6 (by assumption) (by rfl) (by decide +kernel) dX5_hasSameProfiles_4 ?_
  refine wi_icmp_ge hX (tgt := 104) dX5_hasSameProfiles_7 (by decide) (by omega) (by omega) (fun c7 => ?_) (fun c7 => ?_)
  · skip
    refine wi_iconst hX dX5_hasSameProfiles_104 ?_
    refine wa_zret hX dX5_hasSameProfiles_105 (by rfl) ?_
    first
      | (exfalso; omega)
      | (refine ⟨?_, rfl⟩
         have hq : samN P Q e = true := allB_iff.mpr (fun t ht => hf t (by omega))
         rw [hq]; rfl)
  · skip
    refine wa_iload_n hX (i := 1) dX5_hasSameProfiles_10 rfl rfl ?_
    refine wa_aload_n hX (i := 0) dX5_hasSameProfiles_11 rfl rfl ?_
    refine wa_get hX 4 (by assumption) (by rfl) (by decide +kernel) dX5_hasSameProfiles_12 ?_
    refine wa_len hX (by assumption) dX5_hasSameProfiles_15 ?_
    refine wi_icmp_ge hX (tgt := 104) dX5_hasSameProfiles_16 (by decide) (by omega) (by omega) (fun c16 => ?_) (fun c16 => ?_)
    · skip
      refine wi_iconst hX dX5_hasSameProfiles_104 ?_
      refine wa_zret hX dX5_hasSameProfiles_105 (by rfl) ?_
      first
        | (exfalso; omega)
        | (refine ⟨?_, rfl⟩
           have hq : samN P Q e = true := allB_iff.mpr (fun t ht => hf t (by omega))
           rw [hq]; rfl)
    · skip
      refine wi_iconst hX dX5_hasSameProfiles_19 ?_
      refine wa_istore_n hX (i := 2) dX5_hasSameProfiles_20 rfl (by first | rfl | exact hu1 | exact hu2 | exact hu3 | exact hu4) ?_
      dsimp only [List.set]
      refine wi_iconst hX dX5_hasSameProfiles_21 ?_
      refine wa_istore_n hX (i := 3) dX5_hasSameProfiles_22 rfl (by first | rfl | exact hu1 | exact hu2 | exact hu3 | exact hu4) ?_
      dsimp only [List.set]
      refine WA.eq rfl (by simp [cnt]) rfl (WA.loop (σ := Nat) (fun z => e - z) (fun z => z ≤ e) (fun _ => h) (fun z => [.val (.ref a), .val (I (i : Nat)), .val (I ((cnt (fun o => decide (P o = P i)) z : Nat) - (cnt (fun o => decide (Q o = P i)) z : Nat))), .val (I (z : Nat))]) ?_ 0 (Nat.zero_le _))
      intro j hj ih2
      have hc1 := cnt_le (fun o => decide (P o = P i)) j
      have hc2 := cnt_le (fun o => decide (Q o = P i)) j
      refine wa_iload_n hX (i := 3) dX5_hasSameProfiles_23 rfl rfl ?_
      refine wa_aload_n hX (i := 0) dX5_hasSameProfiles_24 rfl rfl ?_
      refine wa_get hX 6 (by assumption) (by rfl) (by decide +kernel) dX5_hasSameProfiles_25 ?_
      refine wi_icmp_ge hX (tgt := 92) dX5_hasSameProfiles_28 (by decide) (by omega) (by omega) (fun c28 => ?_) (fun c28 => ?_)
      · skip
        first
          | (exfalso; omega)
          | skip
        all_goals
          skip
          have hje : j = e := by omega
          subst hje
          refine wa_iload_n hX (i := 2) dX5_hasSameProfiles_92 rfl rfl ?_
          refine wi_if_eq hX (tgt := 98) dX5_hasSameProfiles_93 (by decide) (by omega) (fun c93 => ?_) (fun c93 => ?_)
          · skip
            refine wi_iinc hX dX5_hasSameProfiles_98 rfl ?_
            dsimp only [List.set]
            refine wa_goto hX (tgt := 2) dX5_hasSameProfiles_101 (by decide) ?_
            refine ih (i + 1, .val (I ((cnt (fun o => decide (P o = P i)) j : Nat) - (cnt (fun o => decide (Q o = P i)) j : Nat))), .val (I (j : Nat))) ⟨by show i + 1 ≤ j; omega, rfl, rfl, fun t ht => ?_⟩ (by show j - (i + 1) < j - i; omega)
            dsimp only at ht
            rcases Nat.lt_succ_iff_lt_or_eq.mp ht with e9 | e9
            · exact hf t e9
            · subst e9; exact decide_eq_true (by omega)
          · skip
            refine wi_iconst hX dX5_hasSameProfiles_96 ?_
            refine wa_zret hX dX5_hasSameProfiles_97 (by rfl) ?_
            refine ⟨?_, rfl⟩
            have hq : samN P Q j = false := by
              rw [Bool.eq_false_iff]
              intro q
              unfold samN at q
              have q1 := of_decide_eq_true (allB_iff.mp q i (by omega))
              omega
            rw [hq]; rfl
      · skip
        refine wa_iload_n hX (i := 3) dX5_hasSameProfiles_31 rfl rfl ?_
        refine wa_aload_n hX (i := 0) dX5_hasSameProfiles_32 rfl rfl ?_
        refine wa_get hX 4 (by assumption) (by rfl) (by decide +kernel) dX5_hasSameProfiles_33 ?_
        refine wa_len hX (by assumption) dX5_hasSameProfiles_36 ?_
        refine wi_icmp_ge hX (tgt := 92) dX5_hasSameProfiles_37 (by decide) (by omega) (by omega) (fun c37 => ?_) (fun c37 => ?_)
        · skip
          first
            | (exfalso; omega)
            | skip
          all_goals
            skip
            have hje : j = e := by omega
            subst hje
            refine wa_iload_n hX (i := 2) dX5_hasSameProfiles_92 rfl rfl ?_
            refine wi_if_eq hX (tgt := 98) dX5_hasSameProfiles_93 (by decide) (by omega) (fun c93 => ?_) (fun c93 => ?_)
            · skip
              refine wi_iinc hX dX5_hasSameProfiles_98 rfl ?_
              dsimp only [List.set]
              refine wa_goto hX (tgt := 2) dX5_hasSameProfiles_101 (by decide) ?_
              refine ih (i + 1, .val (I ((cnt (fun o => decide (P o = P i)) j : Nat) - (cnt (fun o => decide (Q o = P i)) j : Nat))), .val (I (j : Nat))) ⟨by show i + 1 ≤ j; omega, rfl, rfl, fun t ht => ?_⟩ (by show j - (i + 1) < j - i; omega)
              dsimp only at ht
              rcases Nat.lt_succ_iff_lt_or_eq.mp ht with e9 | e9
              · exact hf t e9
              · subst e9; exact decide_eq_true (by omega)
            · skip
              refine wi_iconst hX dX5_hasSameProfiles_96 ?_
              refine wa_zret hX dX5_hasSameProfiles_97 (by rfl) ?_
              refine ⟨?_, rfl⟩
              have hq : samN P Q j = false := by
                rw [Bool.eq_false_iff]
                intro q
                unfold samN at q
                have q1 := of_decide_eq_true (allB_iff.mp q i (by omega))
                omega
              rw [hq]; rfl
        · skip
          refine wa_iload_n hX (i := 2) dX5_hasSameProfiles_40 rfl rfl ?_
          refine wa_aload_n hX (i := 0) dX5_hasSameProfiles_41 rfl rfl ?_
          refine wa_get hX 4 (by assumption) (by rfl) (by decide +kernel) dX5_hasSameProfiles_42 ?_
          refine wa_iload_n hX (i := 3) dX5_hasSameProfiles_45 rfl rfl ?_
          refine wa_iaload hX h5 (by omega) (by omega) (by omega) dX5_hasSameProfiles_46 ?_
          rw [Int.toNat_natCast]
          refine wa_aload_n hX (i := 0) dX5_hasSameProfiles_47 rfl rfl ?_
          refine wa_get hX 4 (by assumption) (by rfl) (by decide +kernel) dX5_hasSameProfiles_48 ?_
          refine wa_iload_n hX (i := 1) dX5_hasSameProfiles_51 rfl rfl ?_
          refine wa_iaload hX h5 (by omega) (by omega) (by omega) dX5_hasSameProfiles_52 ?_
          rw [Int.toNat_natCast]
          refine wr_icmp_ne hX (tgt := 60) dX5_hasSameProfiles_53 (by decide) (fun c53 => ?_) (fun c53 => ?_)
          · skip
            refine wi_iconst hX dX5_hasSameProfiles_60 ?_
            have hA := cnt_n (p := fun o => decide (P o = P i)) (n := j) (by simp [c53])
            refine WA.eq (pc2 := 61) (ls2 := [.val (.ref a), .val (I (i : Nat)), .val (I ((cnt (fun o => decide (P o = P i)) j : Nat) - (cnt (fun o => decide (Q o = P i)) j : Nat))), .val (I (j : Nat))]) (st2 := [I (((cnt (fun o => decide (P o = P i)) (j + 1) : Nat) : Int) - (cnt (fun o => decide (P o = P i)) j : Nat)), I ((cnt (fun o => decide (P o = P i)) j : Nat) - (cnt (fun o => decide (Q o = P i)) j : Nat))]) rfl rfl (by rw [hA, Int.sub_self]) ?_
            clear hA
            generalize hA : cnt (fun o => decide (P o = P i)) (j + 1) = cA
            refine wi_iadd hX dX5_hasSameProfiles_61 ?_
            refine wa_istore_n hX (i := 2) dX5_hasSameProfiles_62 rfl (by first | rfl | exact hu1 | exact hu2 | exact hu3 | exact hu4) ?_
            dsimp only [List.set]
            refine wa_iload_n hX (i := 2) dX5_hasSameProfiles_63 rfl rfl ?_
            refine wa_aload_n hX (i := 0) dX5_hasSameProfiles_64 rfl rfl ?_
            refine wa_get hX 5 (by assumption) (by rfl) (by decide +kernel) dX5_hasSameProfiles_65 ?_
            refine wa_iload_n hX (i := 3) dX5_hasSameProfiles_68 rfl rfl ?_
            refine wa_iaload hX h6 (by omega) (by omega) (by omega) dX5_hasSameProfiles_69 ?_
            rw [Int.toNat_natCast]
            refine wa_aload_n hX (i := 0) dX5_hasSameProfiles_70 rfl rfl ?_
            refine wa_get hX 4 (by assumption) (by rfl) (by decide +kernel) dX5_hasSameProfiles_71 ?_
            refine wa_iload_n hX (i := 1) dX5_hasSameProfiles_74 rfl rfl ?_
            refine wa_iaload hX h5 (by omega) (by omega) (by omega) dX5_hasSameProfiles_75 ?_
            rw [Int.toNat_natCast]
            refine wr_icmp_ne hX (tgt := 83) dX5_hasSameProfiles_76 (by decide) (fun c76 => ?_) (fun c76 => ?_)
            · skip
              refine wi_iconst hX dX5_hasSameProfiles_83 ?_
              refine wi_isub hX dX5_hasSameProfiles_84 ?_
              refine wa_istore_n hX (i := 2) dX5_hasSameProfiles_85 rfl (by first | rfl | exact hu1 | exact hu2 | exact hu3 | exact hu4) ?_
              dsimp only [List.set]
              refine wi_iinc hX dX5_hasSameProfiles_86 rfl ?_
              dsimp only [List.set]
              refine wa_goto hX (tgt := 23) dX5_hasSameProfiles_89 (by decide) ?_
              refine WA.eq rfl ?_ rfl (ih2 (j + 1) (by omega) (by omega))
              rw [hA, cnt_n (p := fun o => decide (Q o = P i)) (n := j) (by simp [c76])]
              congr 4
              congr 2
              omega
            · skip
              refine wi_iconst hX dX5_hasSameProfiles_79 ?_
              refine wa_goto hX (tgt := 84) dX5_hasSameProfiles_80 (by decide) ?_
              refine wi_isub hX dX5_hasSameProfiles_84 ?_
              refine wa_istore_n hX (i := 2) dX5_hasSameProfiles_85 rfl (by first | rfl | exact hu1 | exact hu2 | exact hu3 | exact hu4) ?_
              dsimp only [List.set]
              refine wi_iinc hX dX5_hasSameProfiles_86 rfl ?_
              dsimp only [List.set]
              refine wa_goto hX (tgt := 23) dX5_hasSameProfiles_89 (by decide) ?_
              refine WA.eq rfl ?_ rfl (ih2 (j + 1) (by omega) (by omega))
              rw [hA, cnt_y (p := fun o => decide (Q o = P i)) (n := j) (by simp [c76])]
              congr 4
              congr 2
              omega
          · skip
            refine wi_iconst hX dX5_hasSameProfiles_56 ?_
            refine wa_goto hX (tgt := 61) dX5_hasSameProfiles_57 (by decide) ?_
            have hA := cnt_y (p := fun o => decide (P o = P i)) (n := j) (by simp [c53])
            refine WA.eq (pc2 := 61) (ls2 := [.val (.ref a), .val (I (i : Nat)), .val (I ((cnt (fun o => decide (P o = P i)) j : Nat) - (cnt (fun o => decide (Q o = P i)) j : Nat))), .val (I (j : Nat))]) (st2 := [I (((cnt (fun o => decide (P o = P i)) (j + 1) : Nat) : Int) - (cnt (fun o => decide (P o = P i)) j : Nat)), I ((cnt (fun o => decide (P o = P i)) j : Nat) - (cnt (fun o => decide (Q o = P i)) j : Nat))]) rfl rfl (by rw [hA]; congr 3; omega) ?_
            clear hA
            generalize hA : cnt (fun o => decide (P o = P i)) (j + 1) = cA
            refine wi_iadd hX dX5_hasSameProfiles_61 ?_
            refine wa_istore_n hX (i := 2) dX5_hasSameProfiles_62 rfl (by first | rfl | exact hu1 | exact hu2 | exact hu3 | exact hu4) ?_
            dsimp only [List.set]
            refine wa_iload_n hX (i := 2) dX5_hasSameProfiles_63 rfl rfl ?_
            refine wa_aload_n hX (i := 0) dX5_hasSameProfiles_64 rfl rfl ?_
            refine wa_get hX 5 (by assumption) (by rfl) (by decide +kernel) dX5_hasSameProfiles_65 ?_
            refine wa_iload_n hX (i := 3) dX5_hasSameProfiles_68 rfl rfl ?_
            refine wa_iaload hX h6 (by omega) (by omega) (by omega) dX5_hasSameProfiles_69 ?_
            rw [Int.toNat_natCast]
            refine wa_aload_n hX (i := 0) dX5_hasSameProfiles_70 rfl rfl ?_
            refine wa_get hX 4 (by assumption) (by rfl) (by decide +kernel) dX5_hasSameProfiles_71 ?_
            refine wa_iload_n hX (i := 1) dX5_hasSameProfiles_74 rfl rfl ?_
            refine wa_iaload hX h5 (by omega) (by omega) (by omega) dX5_hasSameProfiles_75 ?_
            rw [Int.toNat_natCast]
            refine wr_icmp_ne hX (tgt := 83) dX5_hasSameProfiles_76 (by decide) (fun c76 => ?_) (fun c76 => ?_)
            · skip
              refine wi_iconst hX dX5_hasSameProfiles_83 ?_
              refine wi_isub hX dX5_hasSameProfiles_84 ?_
              refine wa_istore_n hX (i := 2) dX5_hasSameProfiles_85 rfl (by first | rfl | exact hu1 | exact hu2 | exact hu3 | exact hu4) ?_
              dsimp only [List.set]
              refine wi_iinc hX dX5_hasSameProfiles_86 rfl ?_
              dsimp only [List.set]
              refine wa_goto hX (tgt := 23) dX5_hasSameProfiles_89 (by decide) ?_
              refine WA.eq rfl ?_ rfl (ih2 (j + 1) (by omega) (by omega))
              rw [hA, cnt_n (p := fun o => decide (Q o = P i)) (n := j) (by simp [c76])]
              congr 4
              congr 2
              omega
            · skip
              refine wi_iconst hX dX5_hasSameProfiles_79 ?_
              refine wa_goto hX (tgt := 84) dX5_hasSameProfiles_80 (by decide) ?_
              refine wi_isub hX dX5_hasSameProfiles_84 ?_
              refine wa_istore_n hX (i := 2) dX5_hasSameProfiles_85 rfl (by first | rfl | exact hu1 | exact hu2 | exact hu3 | exact hu4) ?_
              dsimp only [List.set]
              refine wi_iinc hX dX5_hasSameProfiles_86 rfl ?_
              dsimp only [List.set]
              refine wa_goto hX (tgt := 23) dX5_hasSameProfiles_89 (by decide) ?_
              refine WA.eq rfl ?_ rfl (ih2 (j + 1) (by omega) (by omega))
              rw [hA, cnt_y (p := fun o => decide (Q o = P i)) (n := j) (by simp [c76])]
              congr 4
              congr 2
              omega
end C43
