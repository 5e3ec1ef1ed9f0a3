/-! Circuitfold$Minors (X7): findDeletion -/
section C50
variable {l : Launch} {D : va_G} {S0 : State}
set_option maxRecDepth 100000 in
theorem c_X7_findDeletion (hW : WOK l D S0) (d : Nat) {h : AH} {a la lk dq ld b m lm full rq hq tq lt e e2 n con : Nat} {fo co de sym : Int} {lw lp v2 v3 : Value} {sf dl : Nat → Nat} {r : Nat → Nat} {F DD : Nat → Int} {C W Im : Nat → Nat} {P Q : Nat → Int32} (h1 : h a = some (la, oMin lk dq (n : Int) lw lp fo co de)) (h2 : h dq = some (ld, aI .int 1024 DD)) (hD : ∀ k, k < n → DD k = ((dl k : Nat) : Int)) (hn : n ≤ 1024) (hS : LikS h lk b r e ((2 ^ e : Nat) : Int) F C W Im P Q) (hm : h m = some (lm, oMat e2 full rq hq tq sym v2 v3)) (ht : h tq = some (lt, aB e2 sf)) (hl1 : lm < b ∨ b + 6 < lm) (hl2 : lt < b ∨ b + 6 < lt) (hl3 : la < b ∨ b + 6 < la) (hl4 : ld < b ∨ b + 6 < ld) (he : e ≤ 10) (he2 : e2 ≤ 10) (hcon : con < 2 ^ e2) (hsf : ∀ j, j < 2 ^ e2 → sf j < 32) : MA l D S0 yX7_findDeletion cX7_findDeletion 5 (some .boolean) (d + 13) [.ref a, .ref m, I (con : Int)] h 0 0 (fun rr h' => (∃ F' C' P' I', LikS h' lk b r e ((2 ^ e : Nat) : Int) F' C' W I' P' Q) ∧ Fr (fun x => x = la ∨ (b ≤ x ∧ x ≤ b + 6)) h h' ∧ ((fst (fun k => (con &&& dl k == 0) && alk0 sf W Q e e2 con (dl k)) n = none ∧ rr = some (I 0) ∧ h' a = some (la, oMin lk dq (n : Int) lw lp fo co de)) ∨ (∃ k, fst (fun k => (con &&& dl k == 0) && alk0 sf W Q e e2 con (dl k)) n = some k ∧ rr = some (I 1) ∧ h' a = some (la, oMin lk dq (n : Int) lw lp fo co (dl k : Nat))))) (fun _ _ => False) := by
  have hp := p2_le he2
  refine MA.start hW (by decide) [.val (.ref a), .val (.ref m), .val (I (con : Int)), .unset, .unset] rfl ?_
  rintro X rfl rfl rfl hX
  refine wi_iconst hX dX7_findDeletion_0 ?_
  refine wa_istore_n hX (i := 3) dX7_findDeletion_1 rfl (by first | rfl | exact hu1 | exact hu2 | exact hu3 | exact hu4) ?_
  dsimp only [List.set]
  refine WA.loop (σ := Nat × AH × Slot) (fun z => n - z.1) (fun z => z.1 ≤ n ∧ okS [z.2.2] 0 = true ∧ (∃ F' C' P' I', LikS z.2.1 lk b r e ((2 ^ e : Nat) : Int) F' C' W I' P' Q) ∧ Fr (fun x => b + 1 ≤ x ∧ x ≤ b + 6) h z.2.1 ∧ ∀ k, k < z.1 → ((con &&& dl k == 0) && alk0 sf W Q e e2 con (dl k)) = false) (fun z => z.2.1) (fun z => [.val (.ref a), .val (.ref m), .val (I (con : Int)), .val (I (z.1 : Nat)), z.2.2]) ?_ (0, h, .unset) ⟨Nat.zero_le _, rfl, ⟨F, C, P, Im, hS⟩, Fr.rf, fun k hk => absurd hk (Nat.not_lt_zero k)⟩
  rintro ⟨i, hh, u1⟩ ⟨hi, hu1, ⟨F1, C1, P1, I1, hS1⟩, fr1, hno⟩ ih
  dsimp only at hi hu1 hS1 fr1 hno ⊢
  have k1 := fr1 _ _ _ h1 (by omega)
  have k2 := fr1 _ _ _ h2 (by omega)
  have km := fr1 _ _ _ hm (by omega)
  have kt := fr1 _ _ _ ht (by omega)
  have hlk : ∃ o, hh lk = some (b, oF 7 o) := ⟨_, hS1.1⟩
  have hbc : alkN sf C1 W I1 Q e e2 con (dl i) = alk0 sf W Q e e2 con (dl i) := alkN_is hS1.2.2.2.2.2.2.2.2.2.2
  refine wa_iload_n hX (i := 3) dX7_findDeletion_2 rfl rfl ?_
  refine wa_aload_n hX (i := 0) dX7_findDeletion_3 rfl rfl ?_
  refine wa_get hX 2 k1 (by rfl) (by decide +kernel) dX7_findDeletion_4 ?_
  refine wi_icmp_ge hX (tgt := 62) dX7_findDeletion_7 (by decide) (by omega) (by omega) (fun c7 => ?_) (fun c7 => ?_)
  · skip
    refine wi_iconst hX dX7_findDeletion_62 ?_
    refine wa_zret hX dX7_findDeletion_63 (by rfl) ?_
    first
      | (exfalso; omega)
      | exact ⟨⟨F1, C1, P1, I1, hS1⟩, fr1.mono (fun x hx => Or.inr ⟨by omega, hx.2⟩), Or.inl ⟨fst_none (fun k hk => hno k (by omega)), rfl, k1⟩⟩
  · skip
    refine wa_iload_n hX (i := 3) dX7_findDeletion_10 rfl rfl ?_
    refine wa_aload_n hX (i := 0) dX7_findDeletion_11 rfl rfl ?_
    refine wa_get hX 1 k1 (by rfl) (by decide +kernel) dX7_findDeletion_12 ?_
    refine wa_len hX (by assumption) dX7_findDeletion_15 ?_
    refine wi_icmp_ge hX (tgt := 62) dX7_findDeletion_16 (by decide) (by omega) (by omega) (fun c16 => ?_) (fun c16 => ?_)
    · skip
      refine wi_iconst hX dX7_findDeletion_62 ?_
      refine wa_zret hX dX7_findDeletion_63 (by rfl) ?_
      first
        | (exfalso; omega)
        | exact ⟨⟨F1, C1, P1, I1, hS1⟩, fr1.mono (fun x hx => Or.inr ⟨by omega, hx.2⟩), Or.inl ⟨fst_none (fun k hk => hno k (by omega)), rfl, k1⟩⟩
    · skip
      refine wa_aload_n hX (i := 0) dX7_findDeletion_19 rfl rfl ?_
      refine wa_get hX 1 k1 (by rfl) (by decide +kernel) dX7_findDeletion_20 ?_
      refine wa_iload_n hX (i := 3) dX7_findDeletion_23 rfl rfl ?_
      refine wi_iaload hX k2 (by omega) (by omega) (by omega) dX7_findDeletion_24 ?_
      rw [Int.toNat_natCast, hD i (by omega)]
      refine wa_istore hX dX7_findDeletion_25 (by first | rfl | exact hu1 | exact hu2 | exact hu3 | exact hu4) ?_
      dsimp only [List.set]
      refine wa_iload_n hX (i := 2) dX7_findDeletion_27 rfl rfl ?_
      refine wa_iload hX dX7_findDeletion_28 rfl ?_
      refine wn_iand hX dX7_findDeletion_30 (by rfl) (by rfl) ?_
      refine wi_if_ne hX (tgt := 56) dX7_findDeletion_31 (by decide) (by exact inR_nat (and_ltl (by omega))) (fun c31 => ?_) (fun c31 => ?_)
      · skip
        refine wi_iinc hX dX7_findDeletion_56 rfl ?_
        dsimp only [List.set]
        refine wa_goto hX (tgt := 2) dX7_findDeletion_59 (by decide) ?_
        first
          | (have w := b2n_f c45
             refine ih (i + 1, _, .val (I (dl i : Nat))) ⟨by show i + 1 ≤ n; omega, rfl, ⟨F2, C2, P2, I2, hS2⟩, fr3, fun k hk => ?_⟩ (by show n - (i + 1) < n - i; omega)
             dsimp only at hk
             rcases Nat.lt_succ_iff_lt_or_eq.mp hk with q | q
             · exact hno k q
             · subst q; rw [w, Bool.and_false])
          | (have w : (con &&& dl i == 0) = false := by simp; omega
             refine ih (i + 1, _, .val (I (dl i : Nat))) ⟨by show i + 1 ≤ n; omega, rfl, ⟨F1, C1, P1, I1, hS1⟩, fr1, fun k hk => ?_⟩ (by show n - (i + 1) < n - i; omega)
             dsimp only at hk
             rcases Nat.lt_succ_iff_lt_or_eq.mp hk with q | q
             · exact hno k q
             · subst q; rw [w, Bool.false_and])
      · skip
        refine wa_aload_n hX (i := 0) dX7_findDeletion_34 rfl rfl ?_
        have kl := hS1.1
        refine wa_get hX 0 k1 (by rfl) (by decide +kernel) dX7_findDeletion_35 ?_
        refine wa_aload_n hX (i := 1) dX7_findDeletion_38 rfl rfl ?_
        refine wa_iload_n hX (i := 2) dX7_findDeletion_39 rfl rfl ?_
        refine wa_iload hX dX7_findDeletion_40 rfl ?_
        refine wa_callV hX (c_X5_isAlike hW d hS1 km kt hl1 hl2 he he2 hcon hsf (del := dl i)) (by assumption) (by rfl) (by rfl) (by omega) (nA := 3) (by rfl) (by decide +kernel) rfl (by exact Nat.le_of_ble_eq_true rfl) dX7_findDeletion_42 (fun r42 h42 p42 => ?_) (fun _ _ q => q.elim)
        obtain ⟨rfl, F2, C2, P2, I2, hS2, fr2, -⟩ := p42
        have fr3 := fr1.trans (fr2.mono (fun x hx => (by omega : b + 1 ≤ x ∧ x ≤ b + 6)))
        rw [hbc]
        have j1 := fr3 _ _ _ h1 (by omega)
        dsimp only [Option.toList, List.cons_append, List.nil_append]
        refine wi_if_eq hX (tgt := 56) dX7_findDeletion_45 (by decide) (by exact b2n_inR _) (fun c45 => ?_) (fun c45 => ?_)
        · skip
          refine wi_iinc hX dX7_findDeletion_56 rfl ?_
          dsimp only [List.set]
          refine wa_goto hX (tgt := 2) dX7_findDeletion_59 (by decide) ?_
          first
            | (have w := b2n_f c45
               refine ih (i + 1, _, .val (I (dl i : Nat))) ⟨by show i + 1 ≤ n; omega, rfl, ⟨F2, C2, P2, I2, hS2⟩, fr3, fun k hk => ?_⟩ (by show n - (i + 1) < n - i; omega)
               dsimp only at hk
               rcases Nat.lt_succ_iff_lt_or_eq.mp hk with q | q
               · exact hno k q
               · subst q; rw [w, Bool.and_false])
            | (have w : (con &&& dl i == 0) = false := by simp; omega
               refine ih (i + 1, _, .val (I (dl i : Nat))) ⟨by show i + 1 ≤ n; omega, rfl, ⟨F1, C1, P1, I1, hS1⟩, fr1, fun k hk => ?_⟩ (by show n - (i + 1) < n - i; omega)
               dsimp only at hk
               rcases Nat.lt_succ_iff_lt_or_eq.mp hk with q | q
               · exact hno k q
               · subst q; rw [w, Bool.false_and])
        · skip
          refine wa_aload_n hX (i := 0) dX7_findDeletion_48 rfl rfl ?_
          refine wa_iload hX dX7_findDeletion_49 rfl ?_
          refine wa_put hX 7 j1 (Nat.le_of_ble_eq_true rfl) (by decide +kernel) (by rfl) (by rfl) (by rfl) dX7_findDeletion_51 ?_
          refine wi_iconst hX dX7_findDeletion_54 ?_
          refine wa_zret hX dX7_findDeletion_55 (by rfl) ?_
          have hyes : ((con &&& dl i == 0) && alk0 sf W Q e e2 con (dl i)) = true := by
            rw [b2n_t c45, Bool.and_true]
            simp
            omega
          refine ⟨⟨F2, C2, P2, I2, ?_⟩, Fr.put (fr3.mono (fun x hx => Or.inr ⟨by omega, hx.2⟩)) j1 (fun x hx => hset_ne hx) (Or.inl rfl), Or.inr ⟨i, fst_some (by omega) hno hyes, rfl, hset_eq⟩⟩
          obtain ⟨gA, g1, g2, g3, g4, g5, g6, hC, hWb, hIm, hI0⟩ := hS2
          exact ⟨hset_lab j1 gA (by omega), hset_lab j1 g1 (by omega), hset_lab j1 g2 (by omega), hset_lab j1 g3 (by omega), hset_lab j1 g4 (by omega), hset_lab j1 g5 (by omega), hset_lab j1 g6 (by omega), hC, hWb, hIm, hI0⟩
end C50
