/-! Circuitfold$Likeness (X5): spread, hasAsManyBases -/
section C45
variable {l : Launch} {D : va_G} {S0 : State}
set_option maxRecDepth 100000 in
theorem c_X5_spread (hW : WOK l D S0) (d : Nat) {h : AH} {a b r1 r2 r3 r4 r5 r6 l1 m lm full rq hq tq e e2 con del : Nat} {nn : Int} {sym : Int} {v2 v3 : Value} {F0 : Nat → Int} (h1 : h a = some (b, oLik r1 r2 r3 r4 r5 r6 e nn)) (h2 : h r1 = some (l1, aI .int 1024 F0)) (hm : h m = some (lm, oMat e2 full rq hq tq sym v2 v3)) (he : e ≤ 10) (he2 : e2 ≤ 10) (hcon : con < 2 ^ e2) : MA l D S0 yX5_spread cX5_spread 8 (some .boolean) (d + 1) [.ref a, .ref m, I (con : Int), I (del : Int)] h 0 0 (fun r h' => (bc (sdf (sdf (2 ^ e2 - 1) con) del) ≠ e ∧ r = some (I 0) ∧ h' = h) ∨ (bc (sdf (sdf (2 ^ e2 - 1) con) del) = e ∧ r = some (I 1) ∧ ∃ F, h' = hset h r1 (l1, aI .int 1024 F) ∧ ∀ j, j < 2 ^ e → F j = ((depN (sdf (sdf (2 ^ e2 - 1) con) del) con e2 j : Nat) : Int))) (fun _ _ => False) := by
  have hp := p2_le he2
  have hp0 := p2_pos e2
  have ha1 := ne_oa h1 h2
  have hm1 := ne_oa hm h2
  have hleft : sdf (sdf (2 ^ e2 - 1) con) del < 2 ^ e2 := sdf_lt (sdf_lt (by omega))
  have hcb := cnt_bc e2 (by omega) _ hleft
  generalize hL : sdf (sdf (2 ^ e2 - 1) con) del = left at hleft hcb ⊢
  have hbl := bc_le left
  refine MA.start hW (by decide) [.val (.ref a), .val (.ref m), .val (I (con : Int)), .val (I (del : Int)), .unset, .unset, .unset, .unset] rfl ?_
  rintro X rfl rfl rfl hX
  refine wa_aload_n hX (i := 1) dX5_spread_0 rfl rfl ?_
  refine wa_get hX 1 hm (by rfl) (by decide +kernel) dX5_spread_1 ?_
  refine wa_iload_n hX (i := 2) dX5_spread_4 rfl rfl ?_
  refine wi_iconst hX dX5_spread_5 ?_
  refine wa_ixor hX dX5_spread_6 ?_
  refine wn_andn hX dX5_spread_7 (by rfl) (by rfl) ?_
  refine wa_iload_n hX (i := 3) dX5_spread_8 rfl rfl ?_
  refine wi_iconst hX dX5_spread_9 ?_
  refine wa_ixor hX dX5_spread_10 ?_
  refine wn_andn hX dX5_spread_11 (by rfl) (by rfl) ?_
  rw [hL]
  refine wa_istore hX dX5_spread_12 (by first | rfl | exact hu1 | exact hu2 | exact hu3 | exact hu4) ?_
  dsimp only [List.set]
  refine wa_iload hX dX5_spread_14 rfl ?_
  refine wa_callS hX (c_J6_bitCount hW d (s := left) (by omega)) (by rfl) (by omega) (nA := 1) (by rfl) (by decide +kernel) rfl (by exact Nat.le_of_ble_eq_true rfl) dX5_spread_16 (fun r16 h16 p16 => ?_) (fun _ _ q => q.elim)
  obtain ⟨rfl, qq16⟩ := p16; subst h16
  dsimp only [Option.toList, List.cons_append, List.nil_append]
  refine wa_aload_n hX (i := 0) dX5_spread_19 rfl rfl ?_
  refine wa_get hX 6 (by assumption) (by rfl) (by decide +kernel) dX5_spread_20 ?_
  refine wi_icmp_eq hX (tgt := 28) dX5_spread_23 (by decide) (by omega) (by omega) (fun c23 => ?_) (fun c23 => ?_)
  · skip
    refine wi_iconst hX dX5_spread_28 ?_
    refine wa_istore hX dX5_spread_29 (by first | rfl | exact hu1 | exact hu2 | exact hu3 | exact hu4) ?_
    dsimp only [List.set]
    refine wa_aload_n hX (i := 0) dX5_spread_31 rfl rfl ?_
    refine wa_get hX 0 (by assumption) (by rfl) (by decide +kernel) dX5_spread_32 ?_
    refine wi_iconst hX dX5_spread_35 ?_
    refine wa_iload_n hX (i := 2) dX5_spread_36 rfl rfl ?_
    refine wi_iastore hX h2 (by omega) (by omega) (by omega) dX5_spread_37 ?_
    refine wi_iconst hX dX5_spread_38 ?_
    refine wa_istore hX dX5_spread_39 (by first | rfl | exact hu1 | exact hu2 | exact hu3 | exact hu4) ?_
    dsimp only [List.set]
    have hbe : bc left = e := by omega
    refine WA.loop (σ := Nat × (Nat → Int) × Slot) (fun z => e2 - z.1) (fun z => z.1 ≤ e2 ∧ okS [z.2.2] 0 = true ∧ ∀ j, j < 2 ^ cnt (fun t => left.testBit t) z.1 → z.2.1 j = ((depN left con z.1 j : Nat) : Int)) (fun z => hset h r1 (l1, aI .int 1024 z.2.1)) (fun z => [.val (.ref a), .val (.ref m), .val (I (con : Int)), .val (I (del : Int)), .val (I (left : Nat)), .val (I ((2 ^ cnt (fun t => left.testBit t) z.1 : Nat) : Int)), .val (I ((2 ^ z.1 : Nat) : Int)), z.2.2]) ?_ (0, up F0 (0 : Int).toNat (con : Int), .unset) ⟨Nat.zero_le _, rfl, fun j hj => by
      have e0 : j = 0 := by
        have : cnt (fun t => left.testBit t) 0 = 0 := rfl
        dsimp only at hj
        rw [this] at hj
        omega
      subst e0
      rfl⟩
    rintro ⟨k, F, u1⟩ ⟨hk, hu1, hF⟩ ih
    dsimp only at hk hu1 hF ⊢
    have hpk := p2_mono hk
    have hpk0 := p2_pos k
    have hck := cnt_mono (p := fun t => left.testBit t) hk
    have hpm := p2_mono (show cnt (fun t => left.testBit t) k ≤ 10 by omega)
    have hpm0 := p2_pos (cnt (fun t => left.testBit t) k)
    have k1 : hset h r1 (l1, aI .int 1024 F) a = some (b, oLik r1 r2 r3 r4 r5 r6 e nn) := (hset_ne ha1).trans h1
    have km : hset h r1 (l1, aI .int 1024 F) m = some (lm, oMat e2 full rq hq tq sym v2 v3) := (hset_ne hm1).trans hm
    have hdep : ∀ j, depN left con (k + 1) j = (if left.testBit k then (if j < 2 ^ cnt (fun t => left.testBit t) k then depN left con k j else depN left con k (j - 2 ^ cnt (fun t => left.testBit t) k) ||| 2 ^ k) else depN left con k j) := fun j => rfl
    generalize hM : cnt (fun t => left.testBit t) k = mk at hF hck hpm hpm0 hdep ⊢
    refine wa_iload hX dX5_spread_41 rfl ?_
    refine wa_aload_n hX (i := 1) dX5_spread_43 rfl rfl ?_
    refine wa_get hX 1 km (by rfl) (by decide +kernel) dX5_spread_44 ?_
    refine wi_icmp_gt hX (tgt := 122) dX5_spread_47 (by decide) (by omega) (by omega) (fun c47 => ?_) (fun c47 => ?_)
    · skip
      refine wi_iconst hX dX5_spread_122 ?_
      refine wa_zret hX dX5_spread_123 (by rfl) ?_
      have hke : k = e2 := by
        by_cases q : k < e2
        · exact absurd (bit_lt q) (by omega)
        · omega
      refine Or.inr ⟨hbe, rfl, F, rfl, fun j hj => ?_⟩
      subst hke
      exact hF j (by rw [← hM, hcb, hbe]; exact hj)
    · skip
      have hke : k < e2 := p2_inv (by omega)
      refine wa_iload hX dX5_spread_50 rfl ?_
      refine wa_iload hX dX5_spread_52 rfl ?_
      refine wn_iand hX dX5_spread_54 (by rfl) (by rfl) ?_
      refine wi_if_eq hX (tgt := 113) dX5_spread_55 (by decide) (by exact inR_nat (and_ltl (by omega))) (fun c55 => ?_) (fun c55 => ?_)
      · skip
        have htb := and_c0 c55
        have hcs : cnt (fun t => left.testBit t) (k + 1) = mk := by rw [cnt_n (p := fun t => left.testBit t) (n := k) (by rw [htb]; decide), hM]
        refine wa_iload hX dX5_spread_113 rfl ?_
        refine wi_iconst hX dX5_spread_115 ?_
        refine wn_ishl hX (b := 1) dX5_spread_116 (by rfl) (by rfl) (by omega) ?_
        refine wa_istore hX dX5_spread_117 (by first | rfl | exact hu1 | exact hu2 | exact hu3 | exact hu4) ?_
        dsimp only [List.set]
        refine wa_goto hX (tgt := 41) dX5_spread_119 (by decide) ?_
        rw [p2_shl]
        refine WA.eq rfl ?_ rfl (ih (k + 1, F, u1) ⟨by show k + 1 ≤ e2; omega, hu1, fun j hj => ?_⟩ (by show e2 - (k + 1) < e2 - k; omega))
        · dsimp only
          rw [hcs]
        · dsimp only at hj ⊢
          rw [hcs] at hj
          rw [hdep, if_neg (by rw [htb]; decide)]
          exact hF j hj
      · skip
        refine wi_iconst hX dX5_spread_58 ?_
        refine wa_istore hX dX5_spread_59 (by first | rfl | exact hu1 | exact hu2 | exact hu3 | exact hu4) ?_
        dsimp only [List.set]
        have htb := and_c1 c55
        have hcs : cnt (fun t => left.testBit t) (k + 1) = mk + 1 := by rw [cnt_y (p := fun t => left.testBit t) (n := k) htb, hM]
        have hck1 := cnt_mono (p := fun t => left.testBit t) (show k + 1 ≤ e2 by omega)
        have hpm1 := p2_mono (show mk + 1 ≤ 10 by omega)
        rw [Nat.pow_succ] at hpm1
        clear k1 km
        refine WA.loop (σ := Nat × (Nat → Int)) (fun z => 2 ^ mk - z.1) (fun z => z.1 ≤ 2 ^ mk ∧ ∀ j, j < 2 ^ mk + z.1 → z.2 j = ((depN left con (k + 1) j : Nat) : Int)) (fun z => hset h r1 (l1, aI .int 1024 z.2)) (fun z => [.val (.ref a), .val (.ref m), .val (I (con : Int)), .val (I (del : Int)), .val (I (left : Nat)), .val (I ((2 ^ mk : Nat) : Int)), .val (I ((2 ^ k : Nat) : Int)), .val (I (z.1 : Nat))]) ?_ (0, F) ⟨Nat.zero_le _, fun j hj => by dsimp only at hj ⊢; rw [hdep, if_pos htb, if_pos (by omega)]; exact hF j (by omega)⟩
        rintro ⟨s, K⟩ ⟨hs, hK⟩ ih2
        dsimp only at hs hK ⊢
        have k1 : hset h r1 (l1, aI .int 1024 K) a = some (b, oLik r1 r2 r3 r4 r5 r6 e nn) := (hset_ne ha1).trans h1
        have k2 : hset h r1 (l1, aI .int 1024 K) r1 = some (l1, aI .int 1024 K) := hset_eq
        have hadd : (((2 ^ mk : Nat) : Int) + (s : Int)) = ((2 ^ mk + s : Nat) : Int) := (Int.natCast_add _ _).symm
        refine wa_iload hX dX5_spread_61 rfl ?_
        refine wa_iload hX dX5_spread_63 rfl ?_
        refine wi_icmp_ge hX (tgt := 107) dX5_spread_65 (by decide) (by omega) (by omega) (fun c65 => ?_) (fun c65 => ?_)
        · skip
          first
            | (exfalso; omega)
            | skip
          all_goals
            rw [show ((2 ^ mk : Nat) : Int) = ((2 ^ mk : Nat) : Int) from rfl]
            refine wa_iload hX dX5_spread_107 rfl ?_
            refine wi_iconst hX dX5_spread_109 ?_
            refine wn_ishl hX (b := 1) dX5_spread_110 (by rfl) (by rfl) (by omega) ?_
            refine wa_istore hX dX5_spread_111 (by first | rfl | exact hu1 | exact hu2 | exact hu3 | exact hu4) ?_
            dsimp only [List.set]
            refine wa_iload hX dX5_spread_113 rfl ?_
            refine wi_iconst hX dX5_spread_115 ?_
            refine wn_ishl hX (b := 1) dX5_spread_116 (by rfl) (by rfl) (by omega) ?_
            refine wa_istore hX dX5_spread_117 (by first | rfl | exact hu1 | exact hu2 | exact hu3 | exact hu4) ?_
            dsimp only [List.set]
            refine wa_goto hX (tgt := 41) dX5_spread_119 (by decide) ?_
            rw [p2_shl, p2_shl]
            have hse : s = 2 ^ mk := by omega
            refine WA.eq rfl ?_ rfl (ih (k + 1, K, .val (I (s : Nat))) ⟨by show k + 1 ≤ e2; omega, rfl, fun j hj => ?_⟩ (by show e2 - (k + 1) < e2 - k; omega))
            · dsimp only
              rw [hcs]
            · dsimp only at hj ⊢
              rw [hcs, Nat.pow_succ] at hj
              exact hK j (by omega)
        · skip
          refine wa_iload hX dX5_spread_68 rfl ?_
          refine wa_iload hX dX5_spread_70 rfl ?_
          refine wi_iadd hX dX5_spread_72 ?_
          rw [hadd]
          refine wa_aload_n hX (i := 0) dX5_spread_73 rfl rfl ?_
          refine wa_get hX 0 (by assumption) (by rfl) (by decide +kernel) dX5_spread_74 ?_
          refine wa_len hX (by assumption) dX5_spread_77 ?_
          refine wi_icmp_ge hX (tgt := 107) dX5_spread_78 (by decide) (by omega) (by omega) (fun c78 => ?_) (fun c78 => ?_)
          · skip
            first
              | (exfalso; omega)
              | skip
            all_goals
              rw [show ((2 ^ mk : Nat) : Int) = ((2 ^ mk : Nat) : Int) from rfl]
              refine wa_iload hX dX5_spread_107 rfl ?_
              refine wi_iconst hX dX5_spread_109 ?_
              refine wn_ishl hX (b := 1) dX5_spread_110 (by rfl) (by rfl) (by omega) ?_
              refine wa_istore hX dX5_spread_111 (by first | rfl | exact hu1 | exact hu2 | exact hu3 | exact hu4) ?_
              dsimp only [List.set]
              refine wa_iload hX dX5_spread_113 rfl ?_
              refine wi_iconst hX dX5_spread_115 ?_
              refine wn_ishl hX (b := 1) dX5_spread_116 (by rfl) (by rfl) (by omega) ?_
              refine wa_istore hX dX5_spread_117 (by first | rfl | exact hu1 | exact hu2 | exact hu3 | exact hu4) ?_
              dsimp only [List.set]
              refine wa_goto hX (tgt := 41) dX5_spread_119 (by decide) ?_
              rw [p2_shl, p2_shl]
              have hse : s = 2 ^ mk := by omega
              refine WA.eq rfl ?_ rfl (ih (k + 1, K, .val (I (s : Nat))) ⟨by show k + 1 ≤ e2; omega, rfl, fun j hj => ?_⟩ (by show e2 - (k + 1) < e2 - k; omega))
              · dsimp only
                rw [hcs]
              · dsimp only at hj ⊢
                rw [hcs, Nat.pow_succ] at hj
                exact hK j (by omega)
          · skip
            refine wa_aload_n hX (i := 0) dX5_spread_81 rfl rfl ?_
            refine wa_get hX 0 (by assumption) (by rfl) (by decide +kernel) dX5_spread_82 ?_
            refine wa_iload hX dX5_spread_85 rfl ?_
            refine wa_iload hX dX5_spread_87 rfl ?_
            refine wi_iadd hX dX5_spread_89 ?_
            rw [hadd]
            refine wa_aload_n hX (i := 0) dX5_spread_90 rfl rfl ?_
            refine wa_get hX 0 (by assumption) (by rfl) (by decide +kernel) dX5_spread_91 ?_
            refine wa_iload hX dX5_spread_94 rfl ?_
            refine wi_iaload hX k2 (by omega) (by omega) (by omega) dX5_spread_96 ?_
            rw [Int.toNat_natCast, hK s (by omega), hdep s, if_pos htb, if_pos (by omega)]
            refine wa_iload hX dX5_spread_97 rfl ?_
            refine wn_ior hX dX5_spread_99 (by rfl) (by rfl) ?_
            refine wi_iastore hX k2 (by omega) (by omega) (by omega) dX5_spread_100 ?_
            rw [hset_hset]
            refine wi_iinc hX dX5_spread_101 rfl ?_
            dsimp only [List.set]
            refine wa_goto hX (tgt := 61) dX5_spread_104 (by decide) ?_
            refine ih2 (s + 1, up K ((2 ^ mk + s : Nat) : Int).toNat ((depN left con k s ||| 2 ^ k : Nat) : Int)) ⟨by show s + 1 ≤ 2 ^ mk; omega, fun j hj => ?_⟩ (by show 2 ^ mk - (s + 1) < 2 ^ mk - s; omega)
            dsimp only at hj ⊢
            rw [up_is, Int.toNat_natCast]
            by_cases e9 : j = 2 ^ mk + s
            · rw [if_pos e9, hdep j, if_pos htb, if_neg (by omega), show j - 2 ^ mk = s by omega]
            · rw [if_neg e9]; exact hK j (by omega)
  · skip
    refine wi_iconst hX dX5_spread_26 ?_
    refine wa_zret hX dX5_spread_27 (by rfl) ?_
    exact Or.inl ⟨by omega, rfl, rfl⟩
set_option maxRecDepth 100000 in
theorem c_X5_hasAsMany (hW : WOK l D S0) (d : Nat) {h : AH} {a b r1 r2 r3 r4 r5 r6 l1 l2 l3 m lm full rq hq tq lt e e2 : Nat} {sym : Int} {v2 v3 : Value} {sf sN C0 Wn : Nat → Nat} {F : Nat → Int} (h1 : h a = some (b, oLik r1 r2 r3 r4 r5 r6 e ((2 ^ e : Nat) : Int))) (g1 : h r1 = some (l1, aI .int 1024 F)) (h2 : h r2 = some (l2, aV 1024 C0)) (h3 : h r3 = some (l3, aV 1024 Wn)) (hm : h m = some (lm, oMat e2 full rq hq tq sym v2 v3)) (ht : h tq = some (lt, aB e2 sf)) (hF : ∀ j, j < 2 ^ e → F j = ((sN j : Nat) : Int)) (hsN : ∀ j, sN j < 2 ^ e2) (hl1 : l1 ≠ l2) (hl2 : l3 ≠ l2) (hl3 : lt ≠ l2) (he : e ≤ 10) (he2 : e2 ≤ 10) (hsf : ∀ j, j < 2 ^ e2 → sf j < 32) (hWn : ∀ j, Wn j ≤ 1024) : MA l D S0 yX5_hasAsManyBases cX5_hasAsManyBases 5 (some .boolean) (d + 1) [.ref a, .ref m] h 0 0 (fun r h' => r = some (I ((b2n (decide (cnt (fun j => sf (sN j) &&& 2 != 0) (2 ^ e) = Wn 0)) : Nat) : Int)) ∧ h' = hset h r2 (l2, aV 1024 (fun j => if j < 2 ^ e then basN sf (sN j) else C0 j))) (fun _ _ => False) := by
  have hp := p2_le he
  have hp0 := p2_pos e
  have ha2 := ne_oa h1 h2
  have hm2 := ne_oa hm h2
  have n1 : r1 ≠ r2 := lab_ne h2 g1 hl1
  have n3 : r3 ≠ r2 := lab_ne h2 h3 hl2
  have nt : tq ≠ r2 := lab_ne h2 ht hl3
  refine MA.start hW (by decide) [.val (.ref a), .val (.ref m), .unset, .unset, .unset] rfl ?_
  rintro X rfl rfl rfl hX
  refine wi_iconst hX dX5_hasAsManyBases_0 ?_
  refine wa_istore_n hX (i := 2) dX5_hasAsManyBases_1 rfl (by first | rfl | exact hu1 | exact hu2 | exact hu3 | exact hu4) ?_
  dsimp only [List.set]
  refine wi_iconst hX dX5_hasAsManyBases_2 ?_
  refine wa_istore_n hX (i := 3) dX5_hasAsManyBases_3 rfl (by first | rfl | exact hu1 | exact hu2 | exact hu3 | exact hu4) ?_
  dsimp only [List.set]
  refine WA.heap (hset_self h2).symm ?_
  refine WA.loop (σ := Nat × (Nat → Int) × Slot) (fun z => 2 ^ e - z.1) (fun z => z.1 ≤ 2 ^ e ∧ okS [z.2.2] 0 = true ∧ ∀ j, j < 1024 → z.2.1 j = ((if j < z.1 then basN sf (sN j) else C0 j : Nat) : Int)) (fun z => hset h r2 (l2, aI .int 1024 z.2.1)) (fun z => [.val (.ref a), .val (.ref m), .val (I ((cnt (fun j => sf (sN j) &&& 2 != 0) z.1 : Nat) : Int)), .val (I (z.1 : Nat)), z.2.2]) ?_ (0, (fun j => ((C0 j : Nat) : Int)), .unset) ⟨Nat.zero_le _, rfl, fun j hj => by rw [if_neg (Nat.not_lt_zero j)]⟩
  rintro ⟨i, K, u1⟩ ⟨hi, hu1, hK⟩ ih
  dsimp only at hi hu1 hK ⊢
  have k1 : hset h r2 (l2, aI .int 1024 K) a = some (b, oLik r1 r2 r3 r4 r5 r6 e ((2 ^ e : Nat) : Int)) := (hset_ne ha2).trans h1
  have kg : hset h r2 (l2, aI .int 1024 K) r1 = some (l1, aI .int 1024 F) := (hset_ne n1).trans g1
  have k2 : hset h r2 (l2, aI .int 1024 K) r2 = some (l2, aI .int 1024 K) := hset_eq
  have k3 : hset h r2 (l2, aI .int 1024 K) r3 = some (l3, aV 1024 Wn) := (hset_ne n3).trans h3
  have km : hset h r2 (l2, aI .int 1024 K) m = some (lm, oMat e2 full rq hq tq sym v2 v3) := (hset_ne hm2).trans hm
  have kt : hset h r2 (l2, aI .int 1024 K) tq = some (lt, aB e2 sf) := (hset_ne nt).trans ht
  have hcl := cnt_le (fun j => sf (sN j) &&& 2 != 0) i
  have hW0 := hWn 0
  refine wa_iload_n hX (i := 3) dX5_hasAsManyBases_4 rfl rfl ?_
  refine wa_aload_n hX (i := 0) dX5_hasAsManyBases_5 rfl rfl ?_
  refine wa_get hX 7 (by assumption) (by rfl) (by decide +kernel) dX5_hasAsManyBases_6 ?_
  refine wi_icmp_ge hX (tgt := 61) dX5_hasAsManyBases_9 (by decide) (by omega) (by omega) (fun c9 => ?_) (fun c9 => ?_)
  · skip
    first
      | (exfalso; omega)
      | skip
    all_goals
      have hie : i = 2 ^ e := by omega
      subst hie
      refine WA.ext9 (fun j => ((if j < 2 ^ e then basN sf (sN j) else C0 j : Nat) : Int)) k2 hK ?_
      rw [hset_hset]
      clear k1 kg k2 k3 km kt
      have k1 : hset h r2 (l2, aV 1024 (fun j => if j < 2 ^ e then basN sf (sN j) else C0 j)) a = some (b, oLik r1 r2 r3 r4 r5 r6 e ((2 ^ e : Nat) : Int)) := (hset_ne ha2).trans h1
      have k3 : hset h r2 (l2, aV 1024 (fun j => if j < 2 ^ e then basN sf (sN j) else C0 j)) r3 = some (l3, aV 1024 Wn) := (hset_ne n3).trans h3
      refine WA.heap (h2 := hset h r2 (l2, aV 1024 (fun j => if j < 2 ^ e then basN sf (sN j) else C0 j))) rfl ?_
      refine wa_iload_n hX (i := 2) dX5_hasAsManyBases_61 rfl rfl ?_
      refine wa_aload_n hX (i := 0) dX5_hasAsManyBases_62 rfl rfl ?_
      refine wa_get hX 2 (by assumption) (by rfl) (by decide +kernel) dX5_hasAsManyBases_63 ?_
      refine wi_iconst hX dX5_hasAsManyBases_66 ?_
      refine wi_iaload hX k3 (by omega) (by omega) (by omega) dX5_hasAsManyBases_67 ?_
      rw [show (0 : Int).toNat = 0 from rfl]
      refine wi_icmp_ne hX (tgt := 75) dX5_hasAsManyBases_68 (by decide) (by omega) (by omega) (fun c68 => ?_) (fun c68 => ?_)
      · skip
        refine wi_iconst hX dX5_hasAsManyBases_75 ?_
        refine wa_zret hX dX5_hasAsManyBases_76 (by rfl) ?_
        refine ⟨?_, rfl⟩
        first
          | (rw [decide_eq_true (show cnt (fun j => sf (sN j) &&& 2 != 0) (2 ^ e) = Wn 0 by omega)]; rfl)
          | (rw [decide_eq_false (show ¬ cnt (fun j => sf (sN j) &&& 2 != 0) (2 ^ e) = Wn 0 by omega)]; rfl)
      · skip
        refine wi_iconst hX dX5_hasAsManyBases_71 ?_
        refine wa_goto hX (tgt := 76) dX5_hasAsManyBases_72 (by decide) ?_
        refine wa_zret hX dX5_hasAsManyBases_76 (by rfl) ?_
        refine ⟨?_, rfl⟩
        first
          | (rw [decide_eq_true (show cnt (fun j => sf (sN j) &&& 2 != 0) (2 ^ e) = Wn 0 by omega)]; rfl)
          | (rw [decide_eq_false (show ¬ cnt (fun j => sf (sN j) &&& 2 != 0) (2 ^ e) = Wn 0 by omega)]; rfl)
  · skip
    refine wa_iload_n hX (i := 3) dX5_hasAsManyBases_12 rfl rfl ?_
    refine wa_aload_n hX (i := 0) dX5_hasAsManyBases_13 rfl rfl ?_
    refine wa_get hX 0 (by assumption) (by rfl) (by decide +kernel) dX5_hasAsManyBases_14 ?_
    refine wa_len hX (by assumption) dX5_hasAsManyBases_17 ?_
    refine wi_icmp_ge hX (tgt := 61) dX5_hasAsManyBases_18 (by decide) (by omega) (by omega) (fun c18 => ?_) (fun c18 => ?_)
    · skip
      first
        | (exfalso; omega)
        | skip
      all_goals
        have hie : i = 2 ^ e := by omega
        subst hie
        refine WA.ext9 (fun j => ((if j < 2 ^ e then basN sf (sN j) else C0 j : Nat) : Int)) k2 hK ?_
        rw [hset_hset]
        clear k1 kg k2 k3 km kt
        have k1 : hset h r2 (l2, aV 1024 (fun j => if j < 2 ^ e then basN sf (sN j) else C0 j)) a = some (b, oLik r1 r2 r3 r4 r5 r6 e ((2 ^ e : Nat) : Int)) := (hset_ne ha2).trans h1
        have k3 : hset h r2 (l2, aV 1024 (fun j => if j < 2 ^ e then basN sf (sN j) else C0 j)) r3 = some (l3, aV 1024 Wn) := (hset_ne n3).trans h3
        refine WA.heap (h2 := hset h r2 (l2, aV 1024 (fun j => if j < 2 ^ e then basN sf (sN j) else C0 j))) rfl ?_
        refine wa_iload_n hX (i := 2) dX5_hasAsManyBases_61 rfl rfl ?_
        refine wa_aload_n hX (i := 0) dX5_hasAsManyBases_62 rfl rfl ?_
        refine wa_get hX 2 (by assumption) (by rfl) (by decide +kernel) dX5_hasAsManyBases_63 ?_
        refine wi_iconst hX dX5_hasAsManyBases_66 ?_
        refine wi_iaload hX k3 (by omega) (by omega) (by omega) dX5_hasAsManyBases_67 ?_
        rw [show (0 : Int).toNat = 0 from rfl]
        refine wi_icmp_ne hX (tgt := 75) dX5_hasAsManyBases_68 (by decide) (by omega) (by omega) (fun c68 => ?_) (fun c68 => ?_)
        · skip
          refine wi_iconst hX dX5_hasAsManyBases_75 ?_
          refine wa_zret hX dX5_hasAsManyBases_76 (by rfl) ?_
          refine ⟨?_, rfl⟩
          first
            | (rw [decide_eq_true (show cnt (fun j => sf (sN j) &&& 2 != 0) (2 ^ e) = Wn 0 by omega)]; rfl)
            | (rw [decide_eq_false (show ¬ cnt (fun j => sf (sN j) &&& 2 != 0) (2 ^ e) = Wn 0 by omega)]; rfl)
        · skip
          refine wi_iconst hX dX5_hasAsManyBases_71 ?_
          refine wa_goto hX (tgt := 76) dX5_hasAsManyBases_72 (by decide) ?_
          refine wa_zret hX dX5_hasAsManyBases_76 (by rfl) ?_
          refine ⟨?_, rfl⟩
          first
            | (rw [decide_eq_true (show cnt (fun j => sf (sN j) &&& 2 != 0) (2 ^ e) = Wn 0 by omega)]; rfl)
            | (rw [decide_eq_false (show ¬ cnt (fun j => sf (sN j) &&& 2 != 0) (2 ^ e) = Wn 0 by omega)]; rfl)
    · skip
      refine wa_aload_n hX (i := 1) dX5_hasAsManyBases_21 rfl rfl ?_
      refine wa_aload_n hX (i := 0) dX5_hasAsManyBases_22 rfl rfl ?_
      refine wa_get hX 0 (by assumption) (by rfl) (by decide +kernel) dX5_hasAsManyBases_23 ?_
      refine wa_iload_n hX (i := 3) dX5_hasAsManyBases_26 rfl rfl ?_
      refine wi_iaload hX kg (by omega) (by omega) (by omega) dX5_hasAsManyBases_27 ?_
      rw [Int.toNat_natCast, hF i (by omega)]
      refine wi_iconst hX dX5_hasAsManyBases_28 ?_
      refine wa_callV hX (c_X6_has hW d km kt (so := 2) he2 (s := sN i) (hsN i) hsf) (by assumption) (by rfl) (by rfl) (by omega) (nA := 2) (by rfl) (by decide +kernel) rfl (by exact Nat.le_of_ble_eq_true rfl) dX5_hasAsManyBases_29 (fun r29 h29 p29 => ?_) (fun _ _ q => q.elim)
      obtain ⟨rfl, qq29⟩ := p29; subst h29
      dsimp only [Option.toList, List.cons_append, List.nil_append]
      refine wi_if_eq hX (tgt := 39) dX5_hasAsManyBases_32 (by decide) (by exact b2n_inR _) (fun c32 => ?_) (fun c32 => ?_)
      · skip
        refine wi_iconst hX dX5_hasAsManyBases_39 ?_
        refine WA.eq (pc2 := 40) (st2 := [I ((basN sf (sN i) : Nat) : Int)]) rfl rfl (by
          first
            | (have q5 := b2n_f c32; unfold basN; rw [q5]; rfl)
            | (have q5 := b2n_t c32; unfold basN; rw [q5]; rfl)) ?_
        have hcs : cnt (fun j => sf (sN j) &&& 2 != 0) (i + 1) = cnt (fun j => sf (sN j) &&& 2 != 0) i + basN sf (sN i) := by
          unfold basN
          first
            | (have q5 := b2n_f c32; rw [cnt_n (p := fun j => sf (sN j) &&& 2 != 0) (n := i) (by rw [q5]; decide), q5]; rfl)
            | (have q5 := b2n_t c32; rw [cnt_y (p := fun j => sf (sN j) &&& 2 != 0) (n := i) q5, q5]; rfl)
        refine wa_istore hX dX5_hasAsManyBases_40 (by first | rfl | exact hu1 | exact hu2 | exact hu3 | exact hu4) ?_
        dsimp only [List.set]
        refine wa_aload_n hX (i := 0) dX5_hasAsManyBases_42 rfl rfl ?_
        refine wa_get hX 1 (by assumption) (by rfl) (by decide +kernel) dX5_hasAsManyBases_43 ?_
        refine wa_iload_n hX (i := 3) dX5_hasAsManyBases_46 rfl rfl ?_
        refine wa_iload hX dX5_hasAsManyBases_47 rfl ?_
        refine wi_iastore hX k2 (by omega) (by omega) (by omega) dX5_hasAsManyBases_49 ?_
        rw [hset_hset]
        refine wa_iload_n hX (i := 2) dX5_hasAsManyBases_50 rfl rfl ?_
        refine wa_iload hX dX5_hasAsManyBases_51 rfl ?_
        refine wi_iadd hX dX5_hasAsManyBases_53 ?_
        refine wa_istore_n hX (i := 2) dX5_hasAsManyBases_54 rfl (by first | rfl | exact hu1 | exact hu2 | exact hu3 | exact hu4) ?_
        dsimp only [List.set]
        refine wi_iinc hX dX5_hasAsManyBases_55 rfl ?_
        dsimp only [List.set]
        refine wa_goto hX (tgt := 4) dX5_hasAsManyBases_58 (by decide) ?_
        refine WA.eq rfl ?_ rfl (ih (i + 1, up K (i : Int).toNat ((basN sf (sN i) : Nat) : Int), .val (I ((basN sf (sN i) : Nat) : Int))) ⟨by show i + 1 ≤ 2 ^ e; omega, rfl, fun j hj => ?_⟩ (by show 2 ^ e - (i + 1) < 2 ^ e - i; omega))
        · dsimp only
          rw [hcs, Int.natCast_add]
          rfl
        · dsimp only
          rw [up_is, Int.toNat_natCast]
          by_cases e9 : j = i
          · subst e9; rw [if_pos rfl, if_pos (by omega)]
          · rw [if_neg e9, hK j hj]
            by_cases e5 : j < i
            · rw [if_pos e5, if_pos (by omega)]
            · rw [if_neg e5, if_neg (by omega)]
      · skip
        refine wi_iconst hX dX5_hasAsManyBases_35 ?_
        refine wa_goto hX (tgt := 40) dX5_hasAsManyBases_36 (by decide) ?_
        refine WA.eq (pc2 := 40) (st2 := [I ((basN sf (sN i) : Nat) : Int)]) rfl rfl (by
          first
            | (have q5 := b2n_f c32; unfold basN; rw [q5]; rfl)
            | (have q5 := b2n_t c32; unfold basN; rw [q5]; rfl)) ?_
        have hcs : cnt (fun j => sf (sN j) &&& 2 != 0) (i + 1) = cnt (fun j => sf (sN j) &&& 2 != 0) i + basN sf (sN i) := by
          unfold basN
          first
            | (have q5 := b2n_f c32; rw [cnt_n (p := fun j => sf (sN j) &&& 2 != 0) (n := i) (by rw [q5]; decide), q5]; rfl)
            | (have q5 := b2n_t c32; rw [cnt_y (p := fun j => sf (sN j) &&& 2 != 0) (n := i) q5, q5]; rfl)
        refine wa_istore hX dX5_hasAsManyBases_40 (by first | rfl | exact hu1 | exact hu2 | exact hu3 | exact hu4) ?_
        dsimp only [List.set]
        refine wa_aload_n hX (i := 0) dX5_hasAsManyBases_42 rfl rfl ?_
        refine wa_get hX 1 (by assumption) (by rfl) (by decide +kernel) dX5_hasAsManyBases_43 ?_
        refine wa_iload_n hX (i := 3) dX5_hasAsManyBases_46 rfl rfl ?_
        refine wa_iload hX dX5_hasAsManyBases_47 rfl ?_
        refine wi_iastore hX k2 (by omega) (by omega) (by omega) dX5_hasAsManyBases_49 ?_
        rw [hset_hset]
        refine wa_iload_n hX (i := 2) dX5_hasAsManyBases_50 rfl rfl ?_
        refine wa_iload hX dX5_hasAsManyBases_51 rfl ?_
        refine wi_iadd hX dX5_hasAsManyBases_53 ?_
        refine wa_istore_n hX (i := 2) dX5_hasAsManyBases_54 rfl (by first | rfl | exact hu1 | exact hu2 | exact hu3 | exact hu4) ?_
        dsimp only [List.set]
        refine wi_iinc hX dX5_hasAsManyBases_55 rfl ?_
        dsimp only [List.set]
        refine wa_goto hX (tgt := 4) dX5_hasAsManyBases_58 (by decide) ?_
        refine WA.eq rfl ?_ rfl (ih (i + 1, up K (i : Int).toNat ((basN sf (sN i) : Nat) : Int), .val (I ((basN sf (sN i) : Nat) : Int))) ⟨by show i + 1 ≤ 2 ^ e; omega, rfl, fun j hj => ?_⟩ (by show 2 ^ e - (i + 1) < 2 ^ e - i; omega))
        · dsimp only
          rw [hcs, Int.natCast_add]
          rfl
        · dsimp only
          rw [up_is, Int.toNat_natCast]
          by_cases e9 : j = i
          · subst e9; rw [if_pos rfl, if_pos (by omega)]
          · rw [if_neg e9, hK j hj]
            by_cases e5 : j < i
            · rw [if_pos e5, if_pos (by omega)]
            · rw [if_neg e5, if_neg (by omega)]
end C45
