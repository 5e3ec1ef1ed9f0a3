/-! Circuitfold$Tables (X9): union, places, bases -/
theorem sdf_zero {a b : Nat} (h : a &&& b = a) : sdf a b = 0 := by unfold sdf; rw [h, Nat.xor_self]
theorem inB_step {gn : Nat → Nat} {c e s : Nat} (hg : ∀ i, i < c → gn i < 2 ^ e) : inB gn c s = (anyB (fun i => gn i == s) c || anyB (fun t => !s.testBit t && inB gn c (s ||| 2 ^ t)) e) := by
  rw [Bool.eq_iff_iff, Bool.or_eq_true]
  unfold inB
  rw [anyB_iff, anyB_iff, anyB_iff]
  constructor
  · rintro ⟨i, hi, h⟩
    have h1 : s &&& gn i = s := by simpa using h
    by_cases e1 : gn i = s
    · exact Or.inl ⟨i, hi, by simp [e1]⟩
    · right
      have h2 : ∃ t, (gn i).testBit t = true ∧ s.testBit t = false := by
        by_cases q : ∃ t, (gn i).testBit t = true ∧ s.testBit t = false
        · exact q
        · exfalso
          apply e1
          rw [← h1]
          apply Nat.eq_of_testBit_eq
          intro t
          rw [Nat.testBit_and]
          cases e5 : (gn i).testBit t with
          | false => rw [Bool.and_false]
          | true =>
            cases e6 : s.testBit t with
            | true => rfl
            | false => exact absurd ⟨t, e5, e6⟩ q
      obtain ⟨t, t1, t2⟩ := h2
      have ht : t < e := by
        by_cases q : t < e
        · exact q
        · have := testBit_hi (Nat.lt_of_lt_of_le (hg i hi) (p2_mono (show e ≤ t by omega)))
          rw [this] at t1
          cases t1
      refine ⟨t, ht, ?_⟩
      rw [t2, Bool.not_false, Bool.true_and, anyB_iff]
      refine ⟨i, hi, ?_⟩
      have h3 : (s ||| 2 ^ t) &&& gn i = s ||| 2 ^ t := by
        apply Nat.eq_of_testBit_eq
        intro j
        rw [Nat.testBit_and, Nat.testBit_or, bit_two]
        by_cases e5 : t = j
        · subst e5; simp [t1]
        · simp only [decide_eq_false e5, Bool.or_false]
          cases e6 : s.testBit j with
          | false => rfl
          | true => rw [and_testBit h1 e6]; rfl
      simp [h3]
  · rintro (⟨i, hi, h⟩ | ⟨t, ht, h⟩)
    · refine ⟨i, hi, ?_⟩
      have h1 : gn i = s := by simpa using h
      simp [h1]
    · rw [Bool.and_eq_true, anyB_iff] at h
      obtain ⟨-, i, hi, h1⟩ := h
      refine ⟨i, hi, ?_⟩
      have h2 : (s ||| 2 ^ t) &&& gn i = s ||| 2 ^ t := by simpa using h1
      have h3 : s &&& gn i = s := by
        apply Nat.eq_of_testBit_eq
        intro j
        rw [Nat.testBit_and]
        cases e6 : s.testBit j with
        | false => rfl
        | true => rw [and_testBit h2 (by rw [Nat.testBit_or, e6]; rfl)]; rfl
      simp [h3]
section C27
variable {l : Launch} {D : va_G} {S0 : State}
set_option maxRecDepth 100000 in
theorem c_X9_ofUnion (hW : WOK l D S0) (d : Nat) {h : AH} {a1 la1 a2 la2 e f1 f2 rq1 hq1 tq1 lt1 rq2 hq2 tq2 lt2 : Nat} {s1 s2 : Int} {v12 v13 v22 v23 : Value} {sf1 sf2 : Nat → Nat} (h1 : h a1 = some (la1, oMat e f1 rq1 hq1 tq1 s1 v12 v13)) (h3 : h tq1 = some (lt1, aB e sf1)) (h4 : h a2 = some (la2, oMat e f2 rq2 hq2 tq2 s2 v22 v23)) (h5 : h tq2 = some (lt2, aB e sf2)) (he : e ≤ 10) (hs1 : ∀ j, j < 2 ^ e → sf1 j < 32) (hs2 : ∀ j, j < 2 ^ e → sf2 j < 32) (hz : (sf1 0 &&& 1 != 0) = true) : MA l D S0 yX9_ofUnion cX9_ofUnion 4 (some (.array .byte)) (d + 2) [.ref a1, .ref a2] h 1 1024 (postNew h 2 (aB e (rkT (fun s => b2n (parted sf1 sf2 s)) e (2 ^ e)))) (fun _ _ => False) := by
  have hp := p2_le he
  have hp0 := p2_pos e
  refine MA.start hW (by decide) [.val (.ref a1), .val (.ref a2), .unset, .unset] rfl ?_
  rintro X rfl rfl rfl hX
  refine wa_aload_n hX (i := 0) dX9_ofUnion_0 rfl rfl ?_
  refine wa_get hX 0 (by assumption) (by rfl) (by decide +kernel) dX9_ofUnion_1 ?_
  refine wa_callS hX (c_X9_blank hW d he) (by rfl) (by omega) (nA := 1) (by rfl) (by decide +kernel) rfl (by exact Nat.le_of_ble_eq_true rfl) dX9_ofUnion_4 (fun r4 h4 p4 => ?_) (fun _ _ q => q.elim)
  obtain ⟨a, rfl, an, rfl⟩ := p4
  dsimp only [Option.toList, List.cons_append, List.nil_append]
  refine wa_astore_n hX (i := 2) dX9_ofUnion_7 rfl rfl ?_
  dsimp only [List.set]
  refine wi_iconst hX dX9_ofUnion_8 ?_
  refine wa_istore_n hX (i := 3) dX9_ofUnion_9 rfl rfl ?_
  dsimp only [List.set]
  refine WA.loop (σ := Nat × (Nat → Int)) (fun z => 2 ^ e - z.1) (fun z => z.1 ≤ 2 ^ e ∧ ∀ j, j < 2 ^ e → z.2 j = (if j < z.1 then ((b2n (parted sf1 sf2 j) : Nat) : Int) else 0)) (fun z => hset h a (2, aI .byte (2 ^ e) z.2)) (fun z => [.val (.ref a1), .val (.ref a2), .val (.ref a), .val (I (z.1 : Nat))]) ?_ (0, fun _ => 0) ⟨Nat.zero_le _, fun j _ => by rw [if_neg (Nat.not_lt_zero j)]⟩
  rintro ⟨i, F⟩ ⟨hi, hF⟩ ih
  dsimp only at hi hF ⊢
  have h2 : hset h a (2, aI .byte (2 ^ e) F) a = some (2, aI .byte (2 ^ e) F) := hset_eq
  have h1i := hset_new (x := (2, aI .byte (2 ^ e) F)) an h1
  have h3i := hset_new (x := (2, aI .byte (2 ^ e) F)) an h3
  have h4i := hset_new (x := (2, aI .byte (2 ^ e) F)) an h4
  have h5i := hset_new (x := (2, aI .byte (2 ^ e) F)) an h5
  refine wa_iload_n hX (i := 3) dX9_ofUnion_10 rfl rfl ?_
  refine wa_aload_n hX (i := 2) dX9_ofUnion_11 rfl rfl ?_
  refine wa_len hX (by assumption) dX9_ofUnion_12 ?_
  refine wi_icmp_ge hX (tgt := 35) dX9_ofUnion_13 (by decide) (by omega) (by omega) (fun c13 => ?_) (fun c13 => ?_)
  · skip
    refine WA.ext9 (fun j => ((b2n (parted sf1 sf2 j) : Nat) : Int)) h2 (fun j hj => by rw [hF j hj, if_pos (by omega)]) ?_
    rw [hset_hset]
    refine wa_aload_n hX (i := 2) dX9_ofUnion_35 rfl rfl ?_
    refine wa_callS hX (c_X9_ranked hW d hset_eq he (fun s _ => b2n_le _)) (by rfl) (by omega) (nA := 1) (by rfl) (by decide +kernel) rfl (by exact Nat.le_of_ble_eq_true rfl) dX9_ofUnion_36 (fun r36 h36 p36 => ?_) (fun _ _ q => q.elim)
    obtain ⟨rfl, rfl⟩ := p36
    rw [hset_hset]
    dsimp only [Option.toList, List.cons_append, List.nil_append]
    refine wa_aretR hX dX9_ofUnion_39 (by first | exact Or.inl ⟨_, rfl⟩ | exact Or.inr ⟨_, rfl⟩) ?_
    exact ⟨a, rfl, an, rfl⟩
  · skip
    refine wa_aload_n hX (i := 0) dX9_ofUnion_16 rfl rfl ?_
    refine wa_aload_n hX (i := 1) dX9_ofUnion_17 rfl rfl ?_
    refine wa_iload_n hX (i := 3) dX9_ofUnion_18 rfl rfl ?_
    refine wa_callS hX (c_X9_canBeParted hW d h1i h3i h4i h5i he (s := i) (by omega) hs1 hs2 hz) (by rfl) (by omega) (nA := 3) (by rfl) (by decide +kernel) rfl (by exact Nat.le_of_ble_eq_true rfl) dX9_ofUnion_19 (fun r19 h19 p19 => ?_) (fun _ _ q => q.elim)
    obtain ⟨rfl, qq19⟩ := p19; subst h19
    dsimp only [Option.toList, List.cons_append, List.nil_append]
    refine wi_if_eq hX (tgt := 29) dX9_ofUnion_22 (by decide) (by exact b2n_inR _) (fun c22 => ?_) (fun c22 => ?_)
    · skip
      refine wi_iinc hX dX9_ofUnion_29 rfl ?_
      dsimp only [List.set]
      refine wa_goto hX (tgt := 10) dX9_ofUnion_32 (by decide) ?_
      first
        | (have e9 := b2n_f c22
           refine ih (i + 1, F) ⟨by show i + 1 ≤ 2 ^ e; omega, fun j hj => ?_⟩ (by show 2 ^ e - (i + 1) < 2 ^ e - i; omega)
           dsimp only
           rw [hF j hj]
           by_cases e5 : j = i
           · subst e5; rw [if_neg (by omega), if_pos (by omega), e9]; rfl
           · by_cases e6 : j < i
             · rw [if_pos e6, if_pos (by omega)]
             · rw [if_neg e6, if_neg (by omega)])
        | (have e9 := b2n_t c22
           refine ih (i + 1, up F (i : Int).toNat 1) ⟨by show i + 1 ≤ 2 ^ e; omega, fun j hj => ?_⟩ (by show 2 ^ e - (i + 1) < 2 ^ e - i; omega)
           dsimp only
           rw [up_is, Int.toNat_natCast]
           by_cases e5 : j = i
           · subst e5; rw [if_pos rfl, if_pos (by omega), e9]; rfl
           · rw [if_neg e5, hF j hj]
             by_cases e6 : j < i
             · rw [if_pos e6, if_pos (by omega)]
             · rw [if_neg e6, if_neg (by omega)])
    · skip
      refine wa_aload_n hX (i := 2) dX9_ofUnion_25 rfl rfl ?_
      refine wa_iload_n hX (i := 3) dX9_ofUnion_26 rfl rfl ?_
      refine wi_iconst hX dX9_ofUnion_27 ?_
      refine wi_bastore hX h2 (by omega) (by omega) (by omega) (by rfl) dX9_ofUnion_28 ?_
      rw [hset_hset]
      refine wi_iinc hX dX9_ofUnion_29 rfl ?_
      dsimp only [List.set]
      refine wa_goto hX (tgt := 10) dX9_ofUnion_32 (by decide) ?_
      first
        | (have e9 := b2n_f c22
           refine ih (i + 1, F) ⟨by show i + 1 ≤ 2 ^ e; omega, fun j hj => ?_⟩ (by show 2 ^ e - (i + 1) < 2 ^ e - i; omega)
           dsimp only
           rw [hF j hj]
           by_cases e5 : j = i
           · subst e5; rw [if_neg (by omega), if_pos (by omega), e9]; rfl
           · by_cases e6 : j < i
             · rw [if_pos e6, if_pos (by omega)]
             · rw [if_neg e6, if_neg (by omega)])
        | (have e9 := b2n_t c22
           refine ih (i + 1, up F (i : Int).toNat 1) ⟨by show i + 1 ≤ 2 ^ e; omega, fun j hj => ?_⟩ (by show 2 ^ e - (i + 1) < 2 ^ e - i; omega)
           dsimp only
           rw [up_is, Int.toNat_natCast]
           by_cases e5 : j = i
           · subst e5; rw [if_pos rfl, if_pos (by omega), e9]; rfl
           · rw [if_neg e5, hF j hj]
             by_cases e6 : j < i
             · rw [if_pos e6, if_pos (by omega)]
             · rw [if_neg e6, if_neg (by omega)])
set_option maxRecDepth 100000 in
theorem c_X9_ofPlaces (hW : WOK l D S0) (d : Nat) {h : AH} {r lr q lq c e : Nat} {g : Nat → Nat} (h1 : h r = some (lr, oRow q (c : Int))) (h3 : h q = some (lq, aI .int 60 (fun j => ((g j : Nat) : Int)))) (hc : c ≤ 60) (he : e ≤ 10) : MA l D S0 yX9_ofPlaces cX9_ofPlaces 5 (some (.array .byte)) (d + 2) [.ref r, I (e : Int)] h 1 1024 (postNew h 2 (aB e (rkT (fun s => b2n (plM g e c s)) e (2 ^ e)))) (fun _ _ => False) := by
  have hp := p2_le he
  have hp0 := p2_pos e
  refine MA.start hW (by decide) [.val (.ref r), .val (I (e : Int)), .unset, .unset, .unset] rfl ?_
  rintro X rfl rfl rfl hX
  refine wa_iload_n hX (i := 1) dX9_ofPlaces_0 rfl rfl ?_
  refine wa_callS hX (c_X9_blank hW d he) (by rfl) (by omega) (nA := 1) (by rfl) (by decide +kernel) rfl (by exact Nat.le_of_ble_eq_true rfl) dX9_ofPlaces_1 (fun r1 h1 p1 => ?_) (fun _ _ q => q.elim)
  obtain ⟨a, rfl, an, rfl⟩ := p1
  dsimp only [Option.toList, List.cons_append, List.nil_append]
  refine wa_astore_n hX (i := 2) dX9_ofPlaces_4 rfl (by first | rfl | exact hu1 | exact hu2 | exact hu3 | exact hu4) ?_
  dsimp only [List.set]
  refine wa_aload_n hX (i := 2) dX9_ofPlaces_5 rfl rfl ?_
  refine wi_iconst hX dX9_ofPlaces_6 ?_
  refine wi_iconst hX dX9_ofPlaces_7 ?_
  refine wi_bastore hX hset_eq (by omega) (by omega) (by omega) (by rfl) dX9_ofPlaces_8 ?_
  rw [hset_hset]
  refine wi_iconst hX dX9_ofPlaces_9 ?_
  refine wa_istore_n hX (i := 3) dX9_ofPlaces_10 rfl (by first | rfl | exact hu1 | exact hu2 | exact hu3 | exact hu4) ?_
  dsimp only [List.set]
  refine WA.loop (σ := Nat × (Nat → Int) × Slot) (fun z => c - z.1) (fun z => z.1 ≤ c ∧ okS [z.2.2] 0 = true ∧ ∀ j, j < 2 ^ e → z.2.1 j = ((b2n (plM g e z.1 j) : Nat) : Int)) (fun z => hset h a (2, aI .byte (2 ^ e) z.2.1)) (fun z => [.val (.ref r), .val (I (e : Int)), .val (.ref a), .val (I (z.1 : Nat)), z.2.2]) ?_ (0, up (fun _ => 0) (0 : Int).toNat 1, .unset) ⟨Nat.zero_le _, rfl, fun j hj => by
    dsimp only
    rw [up_is]
    by_cases e5 : j = 0
    · subst e5; rfl
    · rw [if_neg (show ¬ j = (0 : Int).toNat from e5)]
      have e6 : plM g e 0 j = false := by show (j == 0) = false; simp [e5]
      rw [e6]
      rfl⟩
  rintro ⟨p, F, u1⟩ ⟨hp9, hu1, hF⟩ ih
  dsimp only at hp9 hu1 hF ⊢
  have h2 : hset h a (2, aI .byte (2 ^ e) F) a = some (2, aI .byte (2 ^ e) F) := hset_eq
  have h1i := hset_new (x := (2, aI .byte (2 ^ e) F)) an h1
  have h3i := hset_new (x := (2, aI .byte (2 ^ e) F)) an h3
  refine wa_iload_n hX (i := 3) dX9_ofPlaces_11 rfl rfl ?_
  refine wa_aload_n hX (i := 0) dX9_ofPlaces_12 rfl rfl ?_
  refine wa_callV hX (c_X8_length hW (d + 1) h1i) (by assumption) (by rfl) (by rfl) (by omega) (nA := 0) (by rfl) (by decide +kernel) rfl (by exact Nat.le_of_ble_eq_true rfl) dX9_ofPlaces_13 (fun r13 h13 p13 => ?_) (fun _ _ q => q.elim)
  obtain ⟨rfl, qq13⟩ := p13; subst h13
  dsimp only [Option.toList, List.cons_append, List.nil_append]
  refine wi_icmp_ge hX (tgt := 61) dX9_ofPlaces_16 (by decide) (by omega) (by omega) (fun c16 => ?_) (fun c16 => ?_)
  · skip
    have hpc : p = c := by omega
    subst hpc
    refine WA.ext9 (fun j => ((b2n (plM g e p j) : Nat) : Int)) h2 hF ?_
    rw [hset_hset]
    refine wa_aload_n hX (i := 2) dX9_ofPlaces_61 rfl rfl ?_
    refine wa_callS hX (c_X9_ranked hW d hset_eq he (fun s _ => b2n_le _)) (by rfl) (by omega) (nA := 1) (by rfl) (by decide +kernel) rfl (by exact Nat.le_of_ble_eq_true rfl) dX9_ofPlaces_62 (fun r62 h62 p62 => ?_) (fun _ _ q => q.elim)
    obtain ⟨rfl, rfl⟩ := p62
    rw [hset_hset]
    dsimp only [Option.toList, List.cons_append, List.nil_append]
    refine wa_aretR hX dX9_ofPlaces_65 (by first | exact Or.inl ⟨_, rfl⟩ | exact Or.inr ⟨_, rfl⟩) ?_
    exact ⟨a, rfl, an, rfl⟩
  · skip
    refine wa_aload_n hX (i := 2) dX9_ofPlaces_19 rfl rfl ?_
    refine wa_len hX (by assumption) dX9_ofPlaces_20 ?_
    refine wi_iconst hX dX9_ofPlaces_21 ?_
    refine wi_isub hX dX9_ofPlaces_22 ?_
    rw [show (((2 ^ e : Nat) : Int) - 1) = ((2 ^ e - 1 : Nat) : Int) by omega]
    refine wa_istore hX dX9_ofPlaces_23 (by first | rfl | exact hu1 | exact hu2 | exact hu3 | exact hu4) ?_
    dsimp only [List.set]
    clear h2 h1i h3i
    refine WA.loop (σ := Nat × (Nat → Int)) (fun z => z.1) (fun z => z.1 < 2 ^ e ∧ ∀ j, j < 2 ^ e → z.2 j = ((b2n (if z.1 < j then plM g e (p + 1) j else plM g e p j) : Nat) : Int)) (fun z => hset h a (2, aI .byte (2 ^ e) z.2)) (fun z => [.val (.ref r), .val (I (e : Int)), .val (.ref a), .val (I (p : Nat)), .val (I (z.1 : Nat))]) ?_ (2 ^ e - 1, F) ⟨by show 2 ^ e - 1 < 2 ^ e; omega, fun j hj => by dsimp only; rw [if_neg (by omega), hF j hj]⟩
    rintro ⟨s, G⟩ ⟨hs, hG⟩ ih2
    dsimp only at hs hG ⊢
    have h2 : hset h a (2, aI .byte (2 ^ e) G) a = some (2, aI .byte (2 ^ e) G) := hset_eq
    have h1i := hset_new (x := (2, aI .byte (2 ^ e) G)) an h1
    have h3i := hset_new (x := (2, aI .byte (2 ^ e) G)) an h3
    refine wa_iload hX dX9_ofPlaces_25 rfl ?_
    refine wi_if_le hX (tgt := 55) dX9_ofPlaces_27 (by decide) (by omega) (fun c27 => ?_) (fun c27 => ?_)
    · skip
      refine wi_iinc hX dX9_ofPlaces_55 rfl ?_
      dsimp only [List.set]
      refine wa_goto hX (tgt := 11) dX9_ofPlaces_58 (by decide) ?_
      refine ih (p + 1, G, .val (I (s : Int))) ⟨by show p + 1 ≤ c; omega, rfl, fun j hj => ?_⟩ (by show c - (p + 1) < c - p; omega)
      dsimp only
      rw [hG j hj]
      by_cases e5 : 0 < j
      · rw [if_pos (by omega)]
      · have e6 : j = 0 := by omega
        subst e6
        rw [if_neg (by omega)]
        have hstep : plM g e (p + 1) 0 = (plM g e p 0 || anyB (fun k => (0 : Nat).testBit k && (g p).testBit k && plM g e p (0 ^^^ 2 ^ k)) e) := rfl
        rw [hstep, anyB_f (fun k _ => by rw [Nat.zero_testBit, Bool.false_and, Bool.false_and]), Bool.or_false]
    · skip
      refine wa_aload_n hX (i := 2) dX9_ofPlaces_30 rfl rfl ?_
      refine wa_iload hX dX9_ofPlaces_31 rfl ?_
      refine wa_aload_n hX (i := 0) dX9_ofPlaces_33 rfl rfl ?_
      refine wa_iload_n hX (i := 3) dX9_ofPlaces_34 rfl rfl ?_
      refine wa_callV hX (c_X8_at hW (d + 1) h1i h3i (i := (p : Int)) (by omega)) (by assumption) (by rfl) (by rfl) (by omega) (nA := 1) (by rfl) (by decide +kernel) rfl (by exact Nat.le_of_ble_eq_true rfl) dX9_ofPlaces_35 (fun r35 h35 p35 => ?_) (fun _ _ q => q.elim)
      obtain ⟨rfl, qq35⟩ := p35; subst h35
      rw [if_pos (⟨by omega, by omega⟩ : 0 ≤ (p : Int) ∧ (p : Int) < 60), Int.toNat_natCast]
      dsimp only [Option.toList, List.cons_append, List.nil_append]
      refine wa_callS hX (c_X9_canPlace hW d h2 (g := plM g e p) (fun j hj => by rw [hG j (by omega), if_neg (by omega)]) he hs) (by rfl) (by omega) (nA := 3) (by rfl) (by decide +kernel) rfl (by exact Nat.le_of_ble_eq_true rfl) dX9_ofPlaces_38 (fun r38 h38 p38 => ?_) (fun _ _ q => q.elim)
      obtain ⟨rfl, qq38⟩ := p38; subst h38
      dsimp only [Option.toList, List.cons_append, List.nil_append]
      refine wi_if_eq hX (tgt := 49) dX9_ofPlaces_41 (by decide) (by exact b2n_inR _) (fun c41 => ?_) (fun c41 => ?_)
      · skip
        have hstep : plM g e (p + 1) s = (plM g e p s || anyB (fun k => s.testBit k && (g p).testBit k && plM g e p (s ^^^ 2 ^ k)) e) := rfl
        refine wi_iinc hX dX9_ofPlaces_49 rfl ?_
        dsimp only [List.set]
        refine wa_goto hX (tgt := 25) dX9_ofPlaces_52 (by decide) ?_
        rw [show ((s : Int) + -1) = ((s - 1 : Nat) : Int) by omega]
        first
          | (have e9 := b2n_f c41
             refine ih2 (s - 1, G) ⟨by show s - 1 < 2 ^ e; omega, fun j hj => ?_⟩ (by show s - 1 < s; omega)
             dsimp only
             rw [hG j hj]
             by_cases e5 : j = s
             · subst e5; rw [if_neg (by omega), if_pos (by omega), hstep, e9, Bool.or_false]
             · by_cases e6 : s < j
               · rw [if_pos e6, if_pos (by omega)]
               · rw [if_neg e6, if_neg (by omega)])
          | (have e9 := b2n_t c41
             refine ih2 (s - 1, up G (s : Int).toNat 1) ⟨by show s - 1 < 2 ^ e; omega, fun j hj => ?_⟩ (by show s - 1 < s; omega)
             dsimp only
             rw [up_is, Int.toNat_natCast]
             by_cases e5 : j = s
             · subst e5; rw [if_pos rfl, if_pos (by omega), hstep, e9, Bool.or_true]; rfl
             · rw [if_neg e5, hG j hj]
               by_cases e6 : s < j
               · rw [if_pos e6, if_pos (by omega)]
               · rw [if_neg e6, if_neg (by omega)])
      · skip
        refine wa_aload_n hX (i := 2) dX9_ofPlaces_44 rfl rfl ?_
        refine wa_iload hX dX9_ofPlaces_45 rfl ?_
        refine wi_iconst hX dX9_ofPlaces_47 ?_
        refine wi_bastore hX h2 (by omega) (by omega) (by omega) (by rfl) dX9_ofPlaces_48 ?_
        rw [hset_hset]
        have hstep : plM g e (p + 1) s = (plM g e p s || anyB (fun k => s.testBit k && (g p).testBit k && plM g e p (s ^^^ 2 ^ k)) e) := rfl
        refine wi_iinc hX dX9_ofPlaces_49 rfl ?_
        dsimp only [List.set]
        refine wa_goto hX (tgt := 25) dX9_ofPlaces_52 (by decide) ?_
        rw [show ((s : Int) + -1) = ((s - 1 : Nat) : Int) by omega]
        first
          | (have e9 := b2n_f c41
             refine ih2 (s - 1, G) ⟨by show s - 1 < 2 ^ e; omega, fun j hj => ?_⟩ (by show s - 1 < s; omega)
             dsimp only
             rw [hG j hj]
             by_cases e5 : j = s
             · subst e5; rw [if_neg (by omega), if_pos (by omega), hstep, e9, Bool.or_false]
             · by_cases e6 : s < j
               · rw [if_pos e6, if_pos (by omega)]
               · rw [if_neg e6, if_neg (by omega)])
          | (have e9 := b2n_t c41
             refine ih2 (s - 1, up G (s : Int).toNat 1) ⟨by show s - 1 < 2 ^ e; omega, fun j hj => ?_⟩ (by show s - 1 < s; omega)
             dsimp only
             rw [up_is, Int.toNat_natCast]
             by_cases e5 : j = s
             · subst e5; rw [if_pos rfl, if_pos (by omega), hstep, e9, Bool.or_true]; rfl
             · rw [if_neg e5, hG j hj]
               by_cases e6 : s < j
               · rw [if_pos e6, if_pos (by omega)]
               · rw [if_neg e6, if_neg (by omega)])
set_option maxRecDepth 100000 in
theorem c_X9_ofBases (hW : WOK l D S0) (d : Nat) {h : AH} {r lr q lq c e : Nat} {g : Nat → Nat} (h1 : h r = some (lr, oRow q (c : Int))) (h3 : h q = some (lq, aI .int 60 (fun j => ((g j : Nat) : Int)))) (hc : c ≤ 60) (he : e ≤ 10) (hg : ∀ i, i < c → g i < 2 ^ e) : MA l D S0 yX9_ofBases cX9_ofBases 5 (some (.array .byte)) (d + 2) [.ref r, I (e : Int)] h 1 1024 (postNew h 2 (aB e (rkT (fun s => b2n (inB g c s)) e (2 ^ e)))) (fun _ _ => False) := by
  have hp := p2_le he
  have hp0 := p2_pos e
  refine MA.start hW (by decide) [.val (.ref r), .val (I (e : Int)), .unset, .unset, .unset] rfl ?_
  rintro X rfl rfl rfl hX
  refine wa_iload_n hX (i := 1) dX9_ofBases_0 rfl rfl ?_
  refine wa_callS hX (c_X9_blank hW d he) (by rfl) (by omega) (nA := 1) (by rfl) (by decide +kernel) rfl (by exact Nat.le_of_ble_eq_true rfl) dX9_ofBases_1 (fun r1 h1 p1 => ?_) (fun _ _ q => q.elim)
  obtain ⟨a, rfl, an, rfl⟩ := p1
  dsimp only [Option.toList, List.cons_append, List.nil_append]
  refine wa_astore_n hX (i := 2) dX9_ofBases_4 rfl (by first | rfl | exact hu1 | exact hu2 | exact hu3 | exact hu4) ?_
  dsimp only [List.set]
  refine wi_iconst hX dX9_ofBases_5 ?_
  refine wa_istore_n hX (i := 3) dX9_ofBases_6 rfl (by first | rfl | exact hu1 | exact hu2 | exact hu3 | exact hu4) ?_
  dsimp only [List.set]
  refine WA.loop (σ := Nat × (Nat → Int) × Slot) (fun z => c - z.1) (fun z => z.1 ≤ c ∧ okS [z.2.2] 0 = true ∧ ∀ j, j < 2 ^ e → z.2.1 j = ((b2n (anyB (fun i => g i == j) z.1) : Nat) : Int)) (fun z => hset h a (2, aI .byte (2 ^ e) z.2.1)) (fun z => [.val (.ref r), .val (I (e : Int)), .val (.ref a), .val (I (z.1 : Nat)), z.2.2]) ?_ (0, (fun _ => 0), .unset) ⟨Nat.zero_le _, rfl, fun j hj => rfl⟩
  rintro ⟨p, F, u1⟩ ⟨hp9, hu1, hF⟩ ih
  dsimp only at hp9 hu1 hF ⊢
  have h2 : hset h a (2, aI .byte (2 ^ e) F) a = some (2, aI .byte (2 ^ e) F) := hset_eq
  have h1i := hset_new (x := (2, aI .byte (2 ^ e) F)) an h1
  have h3i := hset_new (x := (2, aI .byte (2 ^ e) F)) an h3
  refine wa_iload_n hX (i := 3) dX9_ofBases_7 rfl rfl ?_
  refine wa_aload_n hX (i := 0) dX9_ofBases_8 rfl rfl ?_
  refine wa_callV hX (c_X8_length hW (d + 1) h1i) (by assumption) (by rfl) (by rfl) (by omega) (nA := 0) (by rfl) (by decide +kernel) rfl (by exact Nat.le_of_ble_eq_true rfl) dX9_ofBases_9 (fun r9 h9 p9 => ?_) (fun _ _ q => q.elim)
  obtain ⟨rfl, qq9⟩ := p9; subst h9
  dsimp only [Option.toList, List.cons_append, List.nil_append]
  refine wi_icmp_ge hX (tgt := 45) dX9_ofBases_12 (by decide) (by omega) (by omega) (fun c12 => ?_) (fun c12 => ?_)
  · skip
    refine wa_aload_n hX (i := 2) dX9_ofBases_45 rfl rfl ?_
    refine wa_len hX (by assumption) dX9_ofBases_46 ?_
    refine wi_iconst hX dX9_ofBases_47 ?_
    refine wi_isub hX dX9_ofBases_48 ?_
    have hpc : p = c := by omega
    subst hpc
    rw [show (((2 ^ e : Nat) : Int) - 1) = ((2 ^ e : Nat) : Int) - 1 by omega]
    refine wa_istore_n hX (i := 3) dX9_ofBases_49 rfl (by first | rfl | exact hu1 | exact hu2 | exact hu3 | exact hu4) ?_
    dsimp only [List.set]
    clear h2 h1i h3i
    refine WA.eq rfl (by rw [show ((2 ^ e : Nat) : Int) - 1 = ((2 ^ e : Nat) : Int) - 1 from rfl]) rfl (WA.loop (σ := Nat × (Nat → Int) × Slot) (fun z => z.1) (fun z => z.1 ≤ 2 ^ e ∧ okS [z.2.2] 0 = true ∧ ∀ j, j < 2 ^ e → z.2.1 j = ((b2n (if z.1 ≤ j then inB g p j else anyB (fun i => g i == j) p) : Nat) : Int)) (fun z => hset h a (2, aI .byte (2 ^ e) z.2.1)) (fun z => [.val (.ref r), .val (I (e : Int)), .val (.ref a), .val (I ((z.1 : Nat) - 1)), z.2.2]) ?_ (2 ^ e, F, u1) ⟨Nat.le_refl _, hu1, fun j hj => by dsimp only; rw [if_neg (by omega), hF j hj]⟩)
    rintro ⟨s1, G, u1⟩ ⟨hs, hu1, hG⟩ ih2
    dsimp only at hs hu1 hG ⊢
    refine wa_iload_n hX (i := 3) dX9_ofBases_50 rfl rfl ?_
    refine wi_if_lt hX (tgt := 94) dX9_ofBases_51 (by decide) (by omega) (fun c51 => ?_) (fun c51 => ?_)
    · skip
      have hs0 : s1 = 0 := by omega
      subst hs0
      refine WA.ext9 (fun j => ((b2n (inB g p j) : Nat) : Int)) (hset_eq) (fun j hj => by rw [hG j hj, if_pos (Nat.zero_le _)]) ?_
      rw [hset_hset]
      refine wa_aload_n hX (i := 2) dX9_ofBases_94 rfl rfl ?_
      refine wa_callS hX (c_X9_ranked hW d hset_eq he (fun s _ => b2n_le _)) (by rfl) (by omega) (nA := 1) (by rfl) (by decide +kernel) rfl (by exact Nat.le_of_ble_eq_true rfl) dX9_ofBases_95 (fun r95 h95 p95 => ?_) (fun _ _ q => q.elim)
      obtain ⟨rfl, rfl⟩ := p95
      rw [hset_hset]
      dsimp only [Option.toList, List.cons_append, List.nil_append]
      refine wa_aretR hX dX9_ofBases_98 (by first | exact Or.inl ⟨_, rfl⟩ | exact Or.inr ⟨_, rfl⟩) ?_
      exact ⟨a, rfl, an, rfl⟩
    · skip
      obtain ⟨s, rfl⟩ : ∃ s, s1 = s + 1 := ⟨s1 - 1, by omega⟩
      rw [show (((s + 1 : Nat) : Int) - 1) = ((s : Nat) : Int) by omega]
      refine wi_iconst hX dX9_ofBases_54 ?_
      refine wa_istore hX dX9_ofBases_55 (by first | rfl | exact hu1 | exact hu2 | exact hu3 | exact hu4) ?_
      dsimp only [List.set]
      refine WA.loop (σ := Nat × (Nat → Int)) (fun z => e - z.1) (fun z => z.1 ≤ e ∧ ∀ j, j < 2 ^ e → z.2 j = ((b2n (if s < j then inB g p j else if j = s then (anyB (fun i => g i == s) p || anyB (fun t => !s.testBit t && inB g p (s ||| 2 ^ t)) z.1) else anyB (fun i => g i == j) p) : Nat) : Int)) (fun z => hset h a (2, aI .byte (2 ^ e) z.2)) (fun z => [.val (.ref r), .val (I (e : Int)), .val (.ref a), .val (I (s : Nat)), .val (I ((2 ^ z.1 : Nat) : Int))]) ?_ (0, G) ⟨Nat.zero_le _, fun j hj => by
        dsimp only
        rw [hG j hj]
        by_cases e5 : j = s
        · subst e5; rw [if_neg (by omega), if_neg (by omega), if_pos rfl]; show _ = ((b2n (_ || false) : Nat) : Int); rw [Bool.or_false]
        · by_cases e6 : s < j
          · rw [if_pos (by omega), if_pos (by omega)]
          · rw [if_neg (by omega), if_neg (by omega), if_neg e5]⟩
      rintro ⟨k, K⟩ ⟨hk, hK⟩ ih3
      dsimp only at hk hK ⊢
      have h2 : hset h a (2, aI .byte (2 ^ e) K) a = some (2, aI .byte (2 ^ e) K) := hset_eq
      have hpk := p2_mono hk
      have hpk0 := p2_pos k
      refine wa_iload hX dX9_ofBases_57 rfl ?_
      refine wa_aload_n hX (i := 2) dX9_ofBases_59 rfl rfl ?_
      refine wa_len hX (by assumption) dX9_ofBases_60 ?_
      refine wi_icmp_ge hX (tgt := 88) dX9_ofBases_61 (by decide) (by omega) (by omega) (fun c61 => ?_) (fun c61 => ?_)
      · skip
        refine wi_iinc hX dX9_ofBases_88 rfl ?_
        dsimp only [List.set]
        refine wa_goto hX (tgt := 50) dX9_ofBases_91 (by decide) ?_
        have hke : k = e := by
          by_cases q : k < e
          · exact absurd (bit_lt q) (by omega)
          · omega
        refine WA.eq rfl ?_ rfl (ih2 (s, K, .val (I ((2 ^ k : Nat) : Int))) ⟨by show s ≤ 2 ^ e; omega, rfl, fun j hj => ?_⟩ (by show s < s + 1; omega))
        · rfl
        · dsimp only
          rw [hK j hj]
          by_cases e6 : s < j
          · rw [if_pos e6, if_pos (by omega)]
          · rw [if_neg e6]
            by_cases e5 : j = s
            · subst e5; rw [if_pos rfl, if_pos (Nat.le_refl _), inB_step hg, hke]
            · rw [if_neg e5, if_neg (by omega)]
      · skip
        have hke : k < e := p2_inv (by omega)
        have hx : s ||| 2 ^ k < 2 ^ e := or_lt (by omega) (bit_lt hke)
        have hx1 : s ≤ s ||| 2 ^ k := Nat.left_le_or
        have hKx := hK _ hx
        have hval : ∃ b : Bool, K (s ||| 2 ^ k) = ((b2n b : Nat) : Int) ∧ (b || (anyB (fun i => g i == s) p || anyB (fun t => !s.testBit t && inB g p (s ||| 2 ^ t)) k)) = (anyB (fun i => g i == s) p || anyB (fun t => !s.testBit t && inB g p (s ||| 2 ^ t)) (k + 1)) := by
          rw [anyB_succ]
          by_cases e5 : s.testBit k = true
          · have e6 : s ||| 2 ^ k = s := by
              apply Nat.eq_of_testBit_eq
              intro j
              rw [Nat.testBit_or, bit_two]
              by_cases e7 : k = j
              · subst e7; simp [e5]
              · simp [e7]
            rw [e6, if_neg (Nat.lt_irrefl s), if_pos rfl] at hKx
            rw [e6]
            refine ⟨_, hKx, ?_⟩
            rw [e5, Bool.not_true, Bool.false_and, Bool.or_false, Bool.or_self]
          · have e5' : s.testBit k = false := by simpa using e5
            have e6 : s < s ||| 2 ^ k := by
              rcases Nat.lt_or_eq_of_le hx1 with q | q
              · exact q
              · have := congrArg (fun z => z.testBit k) q
                simp only [Nat.testBit_or, bit_two, e5'] at this
                simp at this
            rw [if_pos e6] at hKx
            refine ⟨_, hKx, ?_⟩
            rw [e5', Bool.not_false, Bool.true_and]
            cases inB g p (s ||| 2 ^ k) <;> cases anyB (fun i => g i == s) p <;> cases anyB (fun t => !s.testBit t && inB g p (s ||| 2 ^ t)) k <;> rfl
        obtain ⟨b, hb1, hb2⟩ := hval
        refine wa_aload_n hX (i := 2) dX9_ofBases_64 rfl rfl ?_
        refine wa_iload_n hX (i := 3) dX9_ofBases_65 rfl rfl ?_
        refine wa_iload hX dX9_ofBases_66 rfl ?_
        refine wn_ior hX dX9_ofBases_68 (by rfl) (by rfl) ?_
        refine wa_callS hX (c_X9_at hW d h2 (by omega) (i := ((s ||| 2 ^ k : Nat) : Int)) (by omega)) (by rfl) (by omega) (nA := 2) (by rfl) (by decide +kernel) rfl (by exact Nat.le_of_ble_eq_true rfl) dX9_ofBases_69 (fun r69 h69 p69 => ?_) (fun _ _ q => q.elim)
        obtain ⟨rfl, qq69⟩ := p69; subst h69
        rw [atv_in hx, hb1]
        dsimp only [Option.toList, List.cons_append, List.nil_append]
        refine wi_if_eq hX (tgt := 79) dX9_ofBases_72 (by decide) (by exact b2n_inR _) (fun c72 => ?_) (fun c72 => ?_)
        · skip
          refine wa_iload hX dX9_ofBases_79 rfl ?_
          refine wi_iconst hX dX9_ofBases_81 ?_
          refine wn_ishl hX (b := 1) dX9_ofBases_82 (by rfl) (by rfl) (by omega) ?_
          refine wa_istore hX dX9_ofBases_83 (by first | rfl | exact hu1 | exact hu2 | exact hu3 | exact hu4) ?_
          dsimp only [List.set]
          refine wa_goto hX (tgt := 57) dX9_ofBases_85 (by decide) ?_
          rw [p2_shl]
          first
            | (have e9 := b2n_f c72
               subst e9
               rw [Bool.false_or] at hb2
               refine ih3 (k + 1, K) ⟨by show k + 1 ≤ e; omega, fun j hj => ?_⟩ (by show e - (k + 1) < e - k; omega)
               dsimp only
               rw [hK j hj, hb2])
            | (have e9 := b2n_t c72
               subst e9
               rw [Bool.true_or] at hb2
               refine ih3 (k + 1, up K (s : Int).toNat 1) ⟨by show k + 1 ≤ e; omega, fun j hj => ?_⟩ (by show e - (k + 1) < e - k; omega)
               dsimp only
               rw [up_is, Int.toNat_natCast]
               by_cases e5 : j = s
               · subst e5; rw [if_pos rfl, if_neg (Nat.lt_irrefl j), if_pos rfl, ← hb2]; rfl
               · rw [if_neg e5, hK j hj]
                 by_cases e6 : s < j
                 · rw [if_pos e6, if_pos e6]
                 · rw [if_neg e6, if_neg e6, if_neg e5, if_neg e5])
        · skip
          refine wa_aload_n hX (i := 2) dX9_ofBases_75 rfl rfl ?_
          refine wa_iload_n hX (i := 3) dX9_ofBases_76 rfl rfl ?_
          refine wi_iconst hX dX9_ofBases_77 ?_
          refine wi_bastore hX h2 (by omega) (by omega) (by omega) (by rfl) dX9_ofBases_78 ?_
          rw [hset_hset]
          refine wa_iload hX dX9_ofBases_79 rfl ?_
          refine wi_iconst hX dX9_ofBases_81 ?_
          refine wn_ishl hX (b := 1) dX9_ofBases_82 (by rfl) (by rfl) (by omega) ?_
          refine wa_istore hX dX9_ofBases_83 (by first | rfl | exact hu1 | exact hu2 | exact hu3 | exact hu4) ?_
          dsimp only [List.set]
          refine wa_goto hX (tgt := 57) dX9_ofBases_85 (by decide) ?_
          rw [p2_shl]
          first
            | (have e9 := b2n_f c72
               subst e9
               rw [Bool.false_or] at hb2
               refine ih3 (k + 1, K) ⟨by show k + 1 ≤ e; omega, fun j hj => ?_⟩ (by show e - (k + 1) < e - k; omega)
               dsimp only
               rw [hK j hj, hb2])
            | (have e9 := b2n_t c72
               subst e9
               rw [Bool.true_or] at hb2
               refine ih3 (k + 1, up K (s : Int).toNat 1) ⟨by show k + 1 ≤ e; omega, fun j hj => ?_⟩ (by show e - (k + 1) < e - k; omega)
               dsimp only
               rw [up_is, Int.toNat_natCast]
               by_cases e5 : j = s
               · subst e5; rw [if_pos rfl, if_neg (Nat.lt_irrefl j), if_pos rfl, ← hb2]; rfl
               · rw [if_neg e5, hK j hj]
                 by_cases e6 : s < j
                 · rw [if_pos e6, if_pos e6]
                 · rw [if_neg e6, if_neg e6, if_neg e5, if_neg e5])
  · skip
    refine wa_aload_n hX (i := 0) dX9_ofBases_15 rfl rfl ?_
    refine wa_iload_n hX (i := 3) dX9_ofBases_16 rfl rfl ?_
    refine wa_callV hX (c_X8_at hW (d + 1) h1i h3i (i := (p : Int)) (by omega)) (by assumption) (by rfl) (by rfl) (by omega) (nA := 1) (by rfl) (by decide +kernel) rfl (by exact Nat.le_of_ble_eq_true rfl) dX9_ofBases_17 (fun r17 h17 p17 => ?_) (fun _ _ q => q.elim)
    obtain ⟨rfl, qq17⟩ := p17; subst h17
    rw [if_pos (⟨by omega, by omega⟩ : 0 ≤ (p : Int) ∧ (p : Int) < 60), Int.toNat_natCast]
    have hgp := hg p (by omega)
    dsimp only [Option.toList, List.cons_append, List.nil_append]
    refine wa_istore hX dX9_ofBases_20 (by first | rfl | exact hu1 | exact hu2 | exact hu3 | exact hu4) ?_
    dsimp only [List.set]
    refine wa_iload hX dX9_ofBases_22 rfl ?_
    refine wi_if_lt hX (tgt := 39) dX9_ofBases_24 (by decide) (by omega) (fun c24 => ?_) (fun c24 => ?_)
    · skip
      refine wi_iinc hX dX9_ofBases_39 rfl ?_
      dsimp only [List.set]
      refine wa_goto hX (tgt := 7) dX9_ofBases_42 (by decide) ?_
      first
        | (exfalso; omega)
        | (refine ih (p + 1, up F (g p : Int).toNat 1, .val (I (g p : Nat))) ⟨by show p + 1 ≤ c; omega, rfl, fun j hj => ?_⟩ (by show c - (p + 1) < c - p; omega)
           dsimp only
           rw [up_is, Int.toNat_natCast, anyB_succ]
           by_cases e5 : j = g p
           · subst e5; rw [if_pos rfl, show (g p == g p) = true by simp, Bool.or_true]; rfl
           · rw [if_neg e5, hF j hj, show (g p == j) = false by simp; omega, Bool.or_false])
    · skip
      refine wa_iload hX dX9_ofBases_27 rfl ?_
      refine wa_aload_n hX (i := 2) dX9_ofBases_29 rfl rfl ?_
      refine wa_len hX (by assumption) dX9_ofBases_30 ?_
      refine wi_icmp_ge hX (tgt := 39) dX9_ofBases_31 (by decide) (by omega) (by omega) (fun c31 => ?_) (fun c31 => ?_)
      · skip
        refine wi_iinc hX dX9_ofBases_39 rfl ?_
        dsimp only [List.set]
        refine wa_goto hX (tgt := 7) dX9_ofBases_42 (by decide) ?_
        first
          | (exfalso; omega)
          | (refine ih (p + 1, up F (g p : Int).toNat 1, .val (I (g p : Nat))) ⟨by show p + 1 ≤ c; omega, rfl, fun j hj => ?_⟩ (by show c - (p + 1) < c - p; omega)
             dsimp only
             rw [up_is, Int.toNat_natCast, anyB_succ]
             by_cases e5 : j = g p
             · subst e5; rw [if_pos rfl, show (g p == g p) = true by simp, Bool.or_true]; rfl
             · rw [if_neg e5, hF j hj, show (g p == j) = false by simp; omega, Bool.or_false])
      · skip
        refine wa_aload_n hX (i := 2) dX9_ofBases_34 rfl rfl ?_
        refine wa_iload hX dX9_ofBases_35 rfl ?_
        refine wi_iconst hX dX9_ofBases_37 ?_
        refine wi_bastore hX h2 (by omega) (by omega) (by omega) (by rfl) dX9_ofBases_38 ?_
        rw [hset_hset]
        refine wi_iinc hX dX9_ofBases_39 rfl ?_
        dsimp only [List.set]
        refine wa_goto hX (tgt := 7) dX9_ofBases_42 (by decide) ?_
        first
          | (exfalso; omega)
          | (refine ih (p + 1, up F (g p : Int).toNat 1, .val (I (g p : Nat))) ⟨by show p + 1 ≤ c; omega, rfl, fun j hj => ?_⟩ (by show c - (p + 1) < c - p; omega)
             dsimp only
             rw [up_is, Int.toNat_natCast, anyB_succ]
             by_cases e5 : j = g p
             · subst e5; rw [if_pos rfl, show (g p == g p) = true by simp, Bool.or_true]; rfl
             · rw [if_neg e5, hF j hj, show (g p == j) = false by simp; omega, Bool.or_false])
end C27
