/-! Circuitfold$Tables (X9): tables made of others -/
/-- the dual's ranks -/
def dualR (rk : Nat → Nat) (e s : Nat) : Nat := bc s + rk (sdf (2 ^ e - 1) s) - rk (2 ^ e - 1)
/-- a set of the part, told in the whole: the element el left out -/
def insB (el s : Nat) : Nat := (s &&& (2 ^ el - 1)) ||| ((sdf s (s &&& (2 ^ el - 1))) <<< 1)
theorem insB_lt {el e s : Nat} (he : el < e) (hs : s < 2 ^ (e - 1)) : insB el s < 2 ^ e := by
  have e2 : 2 ^ e = 2 * 2 ^ (e - 1) := by rw [← Nat.pow_succ']; congr 1; omega
  unfold insB
  refine or_lt (and_ltl (by omega)) ?_
  rw [Nat.shiftLeft_eq]
  have := sdf_lt (b := s &&& (2 ^ el - 1)) hs
  omega
def partR (rk : Nat → Nat) (el ct s : Nat) : Nat := rk (insB el s ||| ct) - rk ct
def sumR (rk1 rk2 : Nat → Nat) (e1 s : Nat) : Nat := rk1 (s &&& (2 ^ e1 - 1)) + rk2 (s >>> e1)
def extR (rk : Nat → Nat) (e sp s : Nat) : Nat := rk (s &&& (2 ^ e - 1)) + (if s ≠ s &&& (2 ^ e - 1) ∧ rk ((s &&& (2 ^ e - 1)) ||| sp) ≠ rk (s &&& (2 ^ e - 1)) then 1 else 0)
section C23
variable {l : Launch} {D : va_G} {S0 : State}
set_option maxRecDepth 100000 in
theorem c_X9_ofDual (hW : WOK l D S0) (d : Nat) {h : AH} {q lq e : Nat} {rk : Nat → Nat} (h1 : h q = some (lq, aB e rk)) (he : e ≤ 10) (hrk : ∀ s, s < 2 ^ e → rk s ≤ 10) (hd : ∀ s, s < 2 ^ e → rk (2 ^ e - 1) ≤ bc s + rk (sdf (2 ^ e - 1) s)) : MA l D S0 yX9_ofDual cX9_ofDual 4 (some (.array .byte)) (d + 1) [.ref q] h 1 1024 (postNew h 2 (aB e (dualR rk e))) (fun _ _ => False) := by
  have hp := p2_le he
  have hp0 := p2_pos e
  refine MA.start hW (by decide) [.val (.ref q), .unset, .unset, .unset] rfl ?_
  rintro X rfl rfl rfl hX
  refine wa_aload_n hX (i := 0) dX9_ofDual_0 rfl rfl ?_
  refine wa_len hX (by assumption) dX9_ofDual_1 ?_
  refine WA.room (k2 := 0 + 1) (sl2 := 0 + 2 ^ e) (by omega) (by omega) ?_
  refine wa_newa hX (2 ^ e) 2 .byte (.inl (fun j => Int32.ofInt ((fun _ => 0 : Nat → Int) j))) rfl (by rfl) (by omega) (fun cA => by rfl) (by decide +kernel) dX9_ofDual_2 (fun a an => ?_)
  have h1i := hset_new (x := (2, aI .byte (2 ^ e) (fun _ => 0))) an h1
  refine wa_astore_n hX (i := 1) dX9_ofDual_4 rfl rfl ?_
  dsimp only [List.set]
  refine wa_aload_n hX (i := 0) dX9_ofDual_5 rfl rfl ?_
  refine wa_len hX (by assumption) dX9_ofDual_6 ?_
  refine wi_iconst hX dX9_ofDual_7 ?_
  refine wi_isub hX dX9_ofDual_8 ?_
  rw [show (((2 ^ e : Nat) : Int) - 1) = ((2 ^ e - 1 : Nat) : Int) by omega]
  refine wa_istore_n hX (i := 2) dX9_ofDual_9 rfl rfl ?_
  dsimp only [List.set]
  refine wi_iconst hX dX9_ofDual_10 ?_
  refine wa_istore_n hX (i := 3) dX9_ofDual_11 rfl rfl ?_
  dsimp only [List.set]
  clear h1i
  refine WA.loop (σ := Nat × (Nat → Int)) (fun s => (2^e) - s.1) (fun s => s.1 ≤ (2^e) ∧ ∀ j, j < s.1 → s.2 j = (fun s => ((dualR rk e s : Nat) : Int)) j) (fun s => hset h a (2, aI .byte (2^e) s.2)) (fun s => [.val (.ref q), .val (.ref a), .val (I ((2 ^ e - 1 : Nat) : Int)), .val (I (s.1 : Nat))]) ?_ (0, fun _ => 0) ⟨Nat.zero_le _, fill_0⟩
  rintro ⟨i, f⟩ ⟨hi, hf⟩ ih
  dsimp only at hi hf ⊢
  have h2 : hset h a (2, aI .byte (2^e) f) a = some (2, aI .byte (2^e) f) := hset_eq
  have h1i := hset_new (x := (2, aI .byte (2^e) f)) an h1
  have hb := bc_le i
  refine wa_iload_n hX (i := 3) dX9_ofDual_12 rfl rfl ?_
  refine wa_aload_n hX (i := 1) dX9_ofDual_13 rfl rfl ?_
  refine wa_len hX (by assumption) dX9_ofDual_14 ?_
  refine wi_icmp_ge hX (tgt := 48) dX9_ofDual_15 (by decide) (by omega) (by omega) (fun c15 => ?_) (fun c15 => ?_)
  · skip
    refine WA.ext9 _ h2 (fun j hj => hf j (by omega)) ?_
    rw [hset_hset]
    refine wa_aload_n hX (i := 1) dX9_ofDual_48 rfl rfl ?_
    refine wa_aretR hX dX9_ofDual_49 (by first | exact Or.inl ⟨_, rfl⟩ | exact Or.inr ⟨_, rfl⟩) ?_
    exact ⟨a, rfl, an, rfl⟩
  · skip
    refine wa_aload_n hX (i := 1) dX9_ofDual_18 rfl rfl ?_
    refine wa_iload_n hX (i := 3) dX9_ofDual_19 rfl rfl ?_
    refine wa_iload_n hX (i := 3) dX9_ofDual_20 rfl rfl ?_
    refine wa_callS hX (c_J6_bitCount hW d (s := i) (by omega)) (by rfl) (by omega) (nA := 1) (by rfl) (by decide +kernel) rfl (by exact Nat.le_of_ble_eq_true rfl) dX9_ofDual_21 (fun r21 h21 p21 => ?_) (fun _ _ q => q.elim)
    obtain ⟨rfl, rfl⟩ := p21
    dsimp only [Option.toList, List.cons_append, List.nil_append]
    refine wa_aload_n hX (i := 0) dX9_ofDual_24 rfl rfl ?_
    refine wa_iload_n hX (i := 2) dX9_ofDual_25 rfl rfl ?_
    refine wa_callS hX (c_X9_rk hW d h1i he (s := 2 ^ e - 1) (by omega)) (by rfl) (by omega) (nA := 2) (by rfl) (by decide +kernel) rfl (by exact Nat.le_of_ble_eq_true rfl) dX9_ofDual_26 (fun r26 h26 p26 => ?_) (fun _ _ q => q.elim)
    obtain ⟨rfl, rfl⟩ := p26
    dsimp only [Option.toList, List.cons_append, List.nil_append]
    refine wi_isub hX dX9_ofDual_29 ?_
    refine wa_aload_n hX (i := 0) dX9_ofDual_30 rfl rfl ?_
    refine wa_iload_n hX (i := 2) dX9_ofDual_31 rfl rfl ?_
    refine wa_iload_n hX (i := 3) dX9_ofDual_32 rfl rfl ?_
    refine wi_iconst hX dX9_ofDual_33 ?_
    refine wa_ixor hX dX9_ofDual_34 ?_
    refine wn_andn hX dX9_ofDual_35 (by rfl) (by rfl) ?_
    refine wa_callS hX (c_X9_rk hW d h1i he (s := sdf (2 ^ e - 1) i) (sdf_lt (by omega))) (by rfl) (by omega) (nA := 2) (by rfl) (by decide +kernel) rfl (by exact Nat.le_of_ble_eq_true rfl) dX9_ofDual_36 (fun r36 h36 p36 => ?_) (fun _ _ q => q.elim)
    obtain ⟨rfl, rfl⟩ := p36
    have hd1 := hd i (by omega)
    have hr1 := hrk (sdf (2 ^ e - 1) i) (sdf_lt (by omega))
    have hq : dualR rk e i = bc i + rk (sdf (2 ^ e - 1) i) - rk (2 ^ e - 1) := rfl
    dsimp only [Option.toList, List.cons_append, List.nil_append]
    refine wi_iadd hX dX9_ofDual_39 ?_
    refine wn_i2b hX (dualR rk e i) dX9_ofDual_40 (by omega) (by omega) ?_
    refine wi_bastore hX h2 (by omega) (by omega) (by omega) (nar8 _ (by omega)) dX9_ofDual_41 ?_
    rw [hset_hset]
    refine wi_iinc hX dX9_ofDual_42 rfl ?_
    dsimp only [List.set]
    refine wa_goto hX (tgt := 12) dX9_ofDual_45 (by decide) ?_
    exact ih (i + 1, _) ⟨by show i + 1 ≤ 2 ^ e; omega, fill_step hf⟩ (by show 2 ^ e - (i + 1) < 2 ^ e - i; omega)
set_option maxRecDepth 100000 in
theorem c_X9_ofSum (hW : WOK l D S0) (d : Nat) {h : AH} {a1 la1 a2 la2 e1 e2 f1 f2 rq1 hq1 tq1 lr1 rq2 hq2 tq2 lr2 : Nat} {s1 s2 : Int} {v12 v13 v22 v23 : Value} {rk1 rk2 : Nat → Nat} (h1 : h a1 = some (la1, oMat e1 f1 rq1 hq1 tq1 s1 v12 v13)) (h3 : h rq1 = some (lr1, aB e1 rk1)) (h4 : h a2 = some (la2, oMat e2 f2 rq2 hq2 tq2 s2 v22 v23)) (h5 : h rq2 = some (lr2, aB e2 rk2)) (he : e1 + e2 ≤ 10) (hr1 : ∀ s, s < 2 ^ e1 → rk1 s ≤ 10) (hr2 : ∀ s, s < 2 ^ e2 → rk2 s ≤ 10) : MA l D S0 yX9_ofSum cX9_ofSum 4 (some (.array .byte)) (d + 2) [.ref a1, .ref a2] h 1 1024 (postNew h 2 (aB (e1 + e2) (sumR rk1 rk2 e1))) (fun _ _ => False) := by
  have hp := p2_le he
  have hp0 := p2_pos (e1 + e2)
  have hp1 := p2_pos e1
  refine MA.start hW (by decide) [.val (.ref a1), .val (.ref a2), .unset, .unset] rfl ?_
  rintro X rfl rfl rfl hX
  refine wa_aload_n hX (i := 0) dX9_ofSum_0 rfl rfl ?_
  refine wa_get hX 0 (by assumption) (by rfl) (by decide +kernel) dX9_ofSum_1 ?_
  refine wa_aload_n hX (i := 1) dX9_ofSum_4 rfl rfl ?_
  refine wa_get hX 0 (by assumption) (by rfl) (by decide +kernel) dX9_ofSum_5 ?_
  refine wi_iadd hX dX9_ofSum_8 ?_
  rw [show ((e1 : Int) + (e2 : Int)) = ((e1 + e2 : Nat) : Int) by omega]
  refine wa_callS hX (c_X9_blank hW d (e := e1 + e2) he) (by rfl) (by omega) (nA := 1) (by rfl) (by decide +kernel) rfl (by exact Nat.le_of_ble_eq_true rfl) dX9_ofSum_9 (fun r9 h9 p9 => ?_) (fun _ _ q => q.elim)
  obtain ⟨a, rfl, an, rfl⟩ := p9
  dsimp only [Option.toList, List.cons_append, List.nil_append]
  refine wa_astore_n hX (i := 2) dX9_ofSum_12 rfl rfl ?_
  dsimp only [List.set]
  refine wi_iconst hX dX9_ofSum_13 ?_
  refine wa_istore_n hX (i := 3) dX9_ofSum_14 rfl rfl ?_
  dsimp only [List.set]
  refine WA.loop (σ := Nat × (Nat → Int)) (fun s => (2^(e1+e2)) - s.1) (fun s => s.1 ≤ (2^(e1+e2)) ∧ ∀ j, j < s.1 → s.2 j = (fun s => ((sumR rk1 rk2 e1 s : Nat) : Int)) j) (fun s => hset h a (2, aI .byte (2^(e1+e2)) s.2)) (fun s => [.val (.ref a1), .val (.ref a2), .val (.ref a), .val (I (s.1 : Nat))]) ?_ (0, fun _ => 0) ⟨Nat.zero_le _, fill_0⟩
  rintro ⟨i, f⟩ ⟨hi, hf⟩ ih
  dsimp only at hi hf ⊢
  have h2 : hset h a (2, aI .byte (2^(e1+e2)) f) a = some (2, aI .byte (2^(e1+e2)) f) := hset_eq
  have h1i := hset_new (x := (2, aI .byte (2^(e1+e2)) f)) an h1
  have h3i := hset_new (x := (2, aI .byte (2^(e1+e2)) f)) an h3
  have h4i := hset_new (x := (2, aI .byte (2^(e1+e2)) f)) an h4
  have h5i := hset_new (x := (2, aI .byte (2^(e1+e2)) f)) an h5
  refine wa_iload_n hX (i := 3) dX9_ofSum_15 rfl rfl ?_
  refine wa_aload_n hX (i := 2) dX9_ofSum_16 rfl rfl ?_
  refine wa_len hX (by assumption) dX9_ofSum_17 ?_
  refine wi_icmp_ge hX (tgt := 52) dX9_ofSum_18 (by decide) (by omega) (by omega) (fun c18 => ?_) (fun c18 => ?_)
  · skip
    refine WA.ext9 _ h2 (fun j hj => hf j (by omega)) ?_
    rw [hset_hset]
    refine wa_aload_n hX (i := 2) dX9_ofSum_52 rfl rfl ?_
    refine wa_aretR hX dX9_ofSum_53 (by first | exact Or.inl ⟨_, rfl⟩ | exact Or.inr ⟨_, rfl⟩) ?_
    exact ⟨a, rfl, an, rfl⟩
  · skip
    refine wa_aload_n hX (i := 2) dX9_ofSum_21 rfl rfl ?_
    refine wa_iload_n hX (i := 3) dX9_ofSum_22 rfl rfl ?_
    refine wa_aload_n hX (i := 0) dX9_ofSum_23 rfl rfl ?_
    refine wa_iload_n hX (i := 3) dX9_ofSum_24 rfl rfl ?_
    refine wa_aload_n hX (i := 0) dX9_ofSum_25 rfl rfl ?_
    refine wa_get hX 1 (by assumption) (by rfl) (by decide +kernel) dX9_ofSum_26 ?_
    refine wn_iand hX dX9_ofSum_29 (by rfl) (by rfl) ?_
    refine wa_callV hX (c_X6_rank hW d h1i h3i (by omega) (s := i &&& (2 ^ e1 - 1)) (and_ltr (by omega))) (by assumption) (by rfl) (by rfl) (by omega) (nA := 1) (by rfl) (by decide +kernel) rfl (by exact Nat.le_of_ble_eq_true rfl) dX9_ofSum_30 (fun r30 h30 p30 => ?_) (fun _ _ q => q.elim)
    obtain ⟨rfl, rfl⟩ := p30
    have hr11 := hr1 (i &&& (2 ^ e1 - 1)) (and_ltr (by omega))
    have h9 : i >>> e1 < 2 ^ e2 := by
      rw [Nat.shiftRight_eq_div_pow]
      exact Nat.div_lt_of_lt_mul (by rw [← Nat.pow_add]; omega)
    dsimp only [Option.toList, List.cons_append, List.nil_append]
    refine wa_aload_n hX (i := 1) dX9_ofSum_33 rfl rfl ?_
    refine wa_iload_n hX (i := 3) dX9_ofSum_34 rfl rfl ?_
    refine wa_aload_n hX (i := 0) dX9_ofSum_35 rfl rfl ?_
    refine wa_get hX 0 (by assumption) (by rfl) (by decide +kernel) dX9_ofSum_36 ?_
    refine wn_ishr hX dX9_ofSum_39 (by rfl) (by rfl) (by omega) (by omega) ?_
    refine wa_callV hX (c_X6_rank hW d h4i h5i (by omega) (s := i >>> e1) h9) (by assumption) (by rfl) (by rfl) (by omega) (nA := 1) (by rfl) (by decide +kernel) rfl (by exact Nat.le_of_ble_eq_true rfl) dX9_ofSum_40 (fun r40 h40 p40 => ?_) (fun _ _ q => q.elim)
    obtain ⟨rfl, rfl⟩ := p40
    have hr22 := hr2 (i >>> e1) h9
    have hq : sumR rk1 rk2 e1 i = rk1 (i &&& (2 ^ e1 - 1)) + rk2 (i >>> e1) := rfl
    dsimp only [Option.toList, List.cons_append, List.nil_append]
    refine wi_iadd hX dX9_ofSum_43 ?_
    refine wn_i2b hX (sumR rk1 rk2 e1 i) dX9_ofSum_44 (by omega) (by omega) ?_
    refine wi_bastore hX h2 (by omega) (by omega) (by omega) (nar8 _ (by omega)) dX9_ofSum_45 ?_
    rw [hset_hset]
    refine wi_iinc hX dX9_ofSum_46 rfl ?_
    dsimp only [List.set]
    refine wa_goto hX (tgt := 15) dX9_ofSum_49 (by decide) ?_
    exact ih (i + 1, _) ⟨by show i + 1 ≤ 2 ^ (e1 + e2); omega, fill_step hf⟩ (by show 2 ^ (e1 + e2) - (i + 1) < 2 ^ (e1 + e2) - i; omega)
set_option maxRecDepth 100000 in
theorem c_X9_ofTruncation (hW : WOK l D S0) (d : Nat) {h : AH} {a1 la1 e full rq hq tq lr : Nat} {sym : Int} {v2 v3 : Value} {rk : Nat → Nat} (h1 : h a1 = some (la1, oMat e full rq hq tq sym v2 v3)) (h3 : h rq = some (lr, aB e rk)) (he : e ≤ 10) (hr : ∀ s, s < 2 ^ e → rk s ≤ 10) (hf1 : 1 ≤ full) (hf2 : full ≤ 10) : MA l D S0 yX9_ofTruncation cX9_ofTruncation 3 (some (.array .byte)) (d + 2) [.ref a1] h 1 1024 (postNew h 2 (aB e (fun s => min (rk s) (full - 1)))) (fun _ _ => False) := by
  have hp := p2_le he
  have hp0 := p2_pos e
  refine MA.start hW (by decide) [.val (.ref a1), .unset, .unset] rfl ?_
  rintro X rfl rfl rfl hX
  refine wa_aload_n hX (i := 0) dX9_ofTruncation_0 rfl rfl ?_
  refine wa_get hX 0 (by assumption) (by rfl) (by decide +kernel) dX9_ofTruncation_1 ?_
  refine wa_callS hX (c_X9_blank hW d he) (by rfl) (by omega) (nA := 1) (by rfl) (by decide +kernel) rfl (by exact Nat.le_of_ble_eq_true rfl) dX9_ofTruncation_4 (fun r4 h4 p4 => ?_) (fun _ _ q => q.elim)
  obtain ⟨a, rfl, an, rfl⟩ := p4
  dsimp only [Option.toList, List.cons_append, List.nil_append]
  refine wa_astore_n hX (i := 1) dX9_ofTruncation_7 rfl rfl ?_
  dsimp only [List.set]
  refine wi_iconst hX dX9_ofTruncation_8 ?_
  refine wa_istore_n hX (i := 2) dX9_ofTruncation_9 rfl rfl ?_
  dsimp only [List.set]
  refine WA.loop (σ := Nat × (Nat → Int)) (fun s => (2^e) - s.1) (fun s => s.1 ≤ (2^e) ∧ ∀ j, j < s.1 → s.2 j = (fun s => ((min (rk s) (full - 1) : Nat) : Int)) j) (fun s => hset h a (2, aI .byte (2^e) s.2)) (fun s => [.val (.ref a1), .val (.ref a), .val (I (s.1 : Nat))]) ?_ (0, fun _ => 0) ⟨Nat.zero_le _, fill_0⟩
  rintro ⟨i, f⟩ ⟨hi, hf⟩ ih
  dsimp only at hi hf ⊢
  have h2 : hset h a (2, aI .byte (2^e) f) a = some (2, aI .byte (2^e) f) := hset_eq
  have h1i := hset_new (x := (2, aI .byte (2^e) f)) an h1
  have h3i := hset_new (x := (2, aI .byte (2^e) f)) an h3
  refine wa_iload_n hX (i := 2) dX9_ofTruncation_10 rfl rfl ?_
  refine wa_aload_n hX (i := 1) dX9_ofTruncation_11 rfl rfl ?_
  refine wa_len hX (by assumption) dX9_ofTruncation_12 ?_
  refine wi_icmp_ge hX (tgt := 40) dX9_ofTruncation_13 (by decide) (by omega) (by omega) (fun c13 => ?_) (fun c13 => ?_)
  · skip
    refine WA.ext9 _ h2 (fun j hj => hf j (by omega)) ?_
    rw [hset_hset]
    refine wa_aload_n hX (i := 1) dX9_ofTruncation_40 rfl rfl ?_
    refine wa_aretR hX dX9_ofTruncation_41 (by first | exact Or.inl ⟨_, rfl⟩ | exact Or.inr ⟨_, rfl⟩) ?_
    exact ⟨a, rfl, an, rfl⟩
  · skip
    refine wa_aload_n hX (i := 1) dX9_ofTruncation_16 rfl rfl ?_
    refine wa_iload_n hX (i := 2) dX9_ofTruncation_17 rfl rfl ?_
    refine wa_aload_n hX (i := 0) dX9_ofTruncation_18 rfl rfl ?_
    refine wa_iload_n hX (i := 2) dX9_ofTruncation_19 rfl rfl ?_
    refine wa_callV hX (c_X6_rank hW d h1i h3i he (s := i) (by omega)) (by assumption) (by rfl) (by rfl) (by omega) (nA := 1) (by rfl) (by decide +kernel) rfl (by exact Nat.le_of_ble_eq_true rfl) dX9_ofTruncation_20 (fun r20 h20 p20 => ?_) (fun _ _ q => q.elim)
    obtain ⟨rfl, rfl⟩ := p20
    have hr11 := hr i (by omega)
    dsimp only [Option.toList, List.cons_append, List.nil_append]
    refine wa_aload_n hX (i := 0) dX9_ofTruncation_23 rfl rfl ?_
    refine wa_get hX 2 (by assumption) (by rfl) (by decide +kernel) dX9_ofTruncation_24 ?_
    refine wi_iconst hX dX9_ofTruncation_27 ?_
    refine wi_isub hX dX9_ofTruncation_28 ?_
    refine wi_min hX (by decide +kernel) rfl (by exact Nat.le_of_ble_eq_true rfl) (by omega) (by omega) dX9_ofTruncation_29 ?_
    refine wn_i2b hX (min (rk i) (full - 1)) dX9_ofTruncation_32 (by omega) (by omega) ?_
    refine wi_bastore hX h2 (by omega) (by omega) (by omega) (nar8 _ (by omega)) dX9_ofTruncation_33 ?_
    rw [hset_hset]
    refine wi_iinc hX dX9_ofTruncation_34 rfl ?_
    dsimp only [List.set]
    refine wa_goto hX (tgt := 10) dX9_ofTruncation_37 (by decide) ?_
    exact ih (i + 1, _) ⟨by show i + 1 ≤ 2 ^ e; omega, fill_step hf⟩ (by show 2 ^ e - (i + 1) < 2 ^ e - i; omega)
set_option maxRecDepth 100000 in
theorem c_X9_ofRelaxation (hW : WOK l D S0) (d : Nat) {h : AH} {a1 la1 e full rq hq tq lr t : Nat} {sym : Int} {v2 v3 : Value} {rk : Nat → Nat} (h1 : h a1 = some (la1, oMat e full rq hq tq sym v2 v3)) (h3 : h rq = some (lr, aB e rk)) (he : e ≤ 10) (hr : ∀ s, s < 2 ^ e → rk s ≤ 10) (hf2 : full ≤ 10) (ht : t < 2 ^ e) : MA l D S0 yX9_ofRelaxation cX9_ofRelaxation 4 (some (.array .byte)) (d + 2) [.ref a1, I (t : Int)] h 1 1024 (postNew h 2 (aB e (fun s => if s = t then full else rk s))) (fun _ _ => False) := by
  have hp := p2_le he
  have hp0 := p2_pos e
  refine MA.start hW (by decide) [.val (.ref a1), .val (I (t : Int)), .unset, .unset] rfl ?_
  rintro X rfl rfl rfl hX
  refine wa_aload_n hX (i := 0) dX9_ofRelaxation_0 rfl rfl ?_
  refine wa_get hX 0 (by assumption) (by rfl) (by decide +kernel) dX9_ofRelaxation_1 ?_
  refine wa_callS hX (c_X9_blank hW d he) (by rfl) (by omega) (nA := 1) (by rfl) (by decide +kernel) rfl (by exact Nat.le_of_ble_eq_true rfl) dX9_ofRelaxation_4 (fun r4 h4 p4 => ?_) (fun _ _ q => q.elim)
  obtain ⟨a, rfl, an, rfl⟩ := p4
  dsimp only [Option.toList, List.cons_append, List.nil_append]
  refine wa_astore_n hX (i := 2) dX9_ofRelaxation_7 rfl rfl ?_
  dsimp only [List.set]
  refine wi_iconst hX dX9_ofRelaxation_8 ?_
  refine wa_istore_n hX (i := 3) dX9_ofRelaxation_9 rfl rfl ?_
  dsimp only [List.set]
  refine WA.loop (σ := Nat × (Nat → Int)) (fun s => (2^e) - s.1) (fun s => s.1 ≤ (2^e) ∧ ∀ j, j < s.1 → s.2 j = (fun s => ((if s = t then full else rk s : Nat) : Int)) j) (fun s => hset h a (2, aI .byte (2^e) s.2)) (fun s => [.val (.ref a1), .val (I (t : Int)), .val (.ref a), .val (I (s.1 : Nat))]) ?_ (0, fun _ => 0) ⟨Nat.zero_le _, fill_0⟩
  rintro ⟨i, f⟩ ⟨hi, hf⟩ ih
  dsimp only at hi hf ⊢
  have h2 : hset h a (2, aI .byte (2^e) f) a = some (2, aI .byte (2^e) f) := hset_eq
  have h1i := hset_new (x := (2, aI .byte (2^e) f)) an h1
  have h3i := hset_new (x := (2, aI .byte (2^e) f)) an h3
  have hr11 := hr i
  refine wa_iload_n hX (i := 3) dX9_ofRelaxation_10 rfl rfl ?_
  refine wa_aload_n hX (i := 2) dX9_ofRelaxation_11 rfl rfl ?_
  refine wa_len hX (by assumption) dX9_ofRelaxation_12 ?_
  refine wi_icmp_ge hX (tgt := 43) dX9_ofRelaxation_13 (by decide) (by omega) (by omega) (fun c13 => ?_) (fun c13 => ?_)
  · skip
    refine WA.ext9 _ h2 (fun j hj => hf j (by omega)) ?_
    rw [hset_hset]
    refine wa_aload_n hX (i := 2) dX9_ofRelaxation_43 rfl rfl ?_
    refine wa_aretR hX dX9_ofRelaxation_44 (by first | exact Or.inl ⟨_, rfl⟩ | exact Or.inr ⟨_, rfl⟩) ?_
    exact ⟨a, rfl, an, rfl⟩
  · skip
    refine wa_aload_n hX (i := 2) dX9_ofRelaxation_16 rfl rfl ?_
    refine wa_iload_n hX (i := 3) dX9_ofRelaxation_17 rfl rfl ?_
    refine wa_iload_n hX (i := 3) dX9_ofRelaxation_18 rfl rfl ?_
    refine wa_iload_n hX (i := 1) dX9_ofRelaxation_19 rfl rfl ?_
    refine wi_icmp_ne hX (tgt := 30) dX9_ofRelaxation_20 (by decide) (by omega) (by omega) (fun c20 => ?_) (fun c20 => ?_)
    · skip
      refine wa_aload_n hX (i := 0) dX9_ofRelaxation_30 rfl rfl ?_
      refine wa_iload_n hX (i := 3) dX9_ofRelaxation_31 rfl rfl ?_
      refine wa_callV hX (c_X6_rank hW d h1i h3i he (s := i) (by omega)) (by assumption) (by rfl) (by rfl) (by omega) (nA := 1) (by rfl) (by decide +kernel) rfl (by exact Nat.le_of_ble_eq_true rfl) dX9_ofRelaxation_32 (fun r32 h32 p32 => ?_) (fun _ _ q => q.elim)
      obtain ⟨rfl, rfl⟩ := p32
      dsimp only [Option.toList, List.cons_append, List.nil_append]
      have hq : (if i = t then full else rk i) ≤ 10 := by split <;> omega
      refine wn_i2b hX (if i = t then full else rk i) dX9_ofRelaxation_35 (by first | (rw [if_pos (by omega)]) | (rw [if_neg (by omega)])) (by omega) ?_
      refine wi_bastore hX h2 (by omega) (by omega) (by omega) (nar8 _ (by omega)) dX9_ofRelaxation_36 ?_
      rw [hset_hset]
      refine wi_iinc hX dX9_ofRelaxation_37 rfl ?_
      dsimp only [List.set]
      refine wa_goto hX (tgt := 10) dX9_ofRelaxation_40 (by decide) ?_
      exact ih (i + 1, _) ⟨by show i + 1 ≤ 2 ^ e; omega, fill_step hf⟩ (by show 2 ^ e - (i + 1) < 2 ^ e - i; omega)
    · skip
      refine wa_aload_n hX (i := 0) dX9_ofRelaxation_23 rfl rfl ?_
      refine wa_get hX 2 (by assumption) (by rfl) (by decide +kernel) dX9_ofRelaxation_24 ?_
      refine wa_goto hX (tgt := 35) dX9_ofRelaxation_27 (by decide) ?_
      have hq : (if i = t then full else rk i) ≤ 10 := by split <;> omega
      refine wn_i2b hX (if i = t then full else rk i) dX9_ofRelaxation_35 (by first | (rw [if_pos (by omega)]) | (rw [if_neg (by omega)])) (by omega) ?_
      refine wi_bastore hX h2 (by omega) (by omega) (by omega) (nar8 _ (by omega)) dX9_ofRelaxation_36 ?_
      rw [hset_hset]
      refine wi_iinc hX dX9_ofRelaxation_37 rfl ?_
      dsimp only [List.set]
      refine wa_goto hX (tgt := 10) dX9_ofRelaxation_40 (by decide) ?_
      exact ih (i + 1, _) ⟨by show i + 1 ≤ 2 ^ e; omega, fill_step hf⟩ (by show 2 ^ e - (i + 1) < 2 ^ e - i; omega)
set_option maxRecDepth 100000 in
theorem c_X9_ofPart (hW : WOK l D S0) (d : Nat) {h : AH} {a1 la1 e full rq hq tq lr el ct : Nat} {sym b : Int} {v2 v3 : Value} {rk : Nat → Nat} (h1 : h a1 = some (la1, oMat e full rq hq tq sym v2 v3)) (h3 : h rq = some (lr, aB e rk)) (he : e ≤ 10) (hel : el < e) (hr : ∀ s, s < 2 ^ e → rk s ≤ 10) (hb : (b = 0 ∧ ct = 0) ∨ (b = 1 ∧ ct = 2 ^ el)) (hm : ∀ s, s < 2 ^ e → rk ct ≤ rk (s ||| ct)) : MA l D S0 yX9_ofPart cX9_ofPart 9 (some (.array .byte)) (d + 2) [.ref a1, I (el : Int), I b] h 1 1024 (postNew h 2 (aB (e - 1) (partR rk el ct))) (fun _ _ => False) := by
  have hp := p2_le (show e - 1 ≤ 10 by omega)
  have hp0 := p2_pos (e - 1)
  have hp1 := p2_pos el
  have hct : ct < 2 ^ e := by
    rcases hb with ⟨-, q⟩ | ⟨-, q⟩
    · subst q; exact p2_pos e
    · subst q; exact bit_lt hel
  have hb9 : b = 0 ∨ b = 1 := by rcases hb with ⟨q, -⟩ | ⟨q, -⟩ <;> omega
  refine MA.start hW (by decide) [.val (.ref a1), .val (I (el : Int)), .val (I b), .unset, .unset, .unset, .unset, .unset, .unset] rfl ?_
  rintro X rfl rfl rfl hX
  refine wa_aload_n hX (i := 0) dX9_ofPart_0 rfl rfl ?_
  refine wa_get hX 0 (by assumption) (by rfl) (by decide +kernel) dX9_ofPart_1 ?_
  refine wi_iconst hX dX9_ofPart_4 ?_
  refine wi_isub hX dX9_ofPart_5 ?_
  rw [show ((e : Int) - 1) = ((e - 1 : Nat) : Int) by omega]
  refine wa_callS hX (c_X9_blank hW d (e := e - 1) (by omega)) (by rfl) (by omega) (nA := 1) (by rfl) (by decide +kernel) rfl (by exact Nat.le_of_ble_eq_true rfl) dX9_ofPart_6 (fun r6 h6 p6 => ?_) (fun _ _ q => q.elim)
  obtain ⟨a, rfl, an, rfl⟩ := p6
  dsimp only [Option.toList, List.cons_append, List.nil_append]
  refine wa_astore_n hX (i := 3) dX9_ofPart_9 rfl (by first | rfl | exact hu1 | exact hu2 | exact hu3 | exact hu4) ?_
  dsimp only [List.set]
  refine wi_iconst hX dX9_ofPart_10 ?_
  refine wa_iload_n hX (i := 1) dX9_ofPart_11 rfl rfl ?_
  refine wn_shl1 hX dX9_ofPart_12 (by rfl) (by omega) ?_
  refine wa_istore hX dX9_ofPart_13 (by first | rfl | exact hu1 | exact hu2 | exact hu3 | exact hu4) ?_
  dsimp only [List.set]
  refine wa_iload_n hX (i := 2) dX9_ofPart_15 rfl rfl ?_
  refine wi_if_eq hX (tgt := 24) dX9_ofPart_16 (by decide) (by omega) (fun c16 => ?_) (fun c16 => ?_)
  · skip
    refine wi_iconst hX dX9_ofPart_24 ?_
    have hc9 : ct = 0 ∨ ct = 2 ^ el := by rcases hb with ⟨-, q⟩ | ⟨-, q⟩ <;> omega
    refine WA.eq (ls2 := [.val (.ref a1), .val (I (el : Int)), .val (I b), .val (.ref a), .val (I ((2 ^ el : Nat) : Int)), .unset, .unset, .unset, .unset]) (st2 := [I ((ct : Nat) : Int)]) rfl rfl (by
      rcases hb with ⟨q1, q2⟩ | ⟨q1, q2⟩ <;> first | (exfalso; omega) | (subst q2; rfl)) ?_
    refine wa_istore hX dX9_ofPart_25 (by first | rfl | exact hu1 | exact hu2 | exact hu3 | exact hu4) ?_
    dsimp only [List.set]
    refine wi_iconst hX dX9_ofPart_27 ?_
    refine wa_istore hX dX9_ofPart_28 (by first | rfl | exact hu1 | exact hu2 | exact hu3 | exact hu4) ?_
    dsimp only [List.set]
    refine WA.loop (σ := Nat × (Nat → Int) × List Slot) (fun s => 2 ^ (e - 1) - s.1) (fun s => (s.1 ≤ 2 ^ (e - 1) ∧ ∀ j, j < s.1 → s.2.1 j = ((partR rk el ct j : Nat) : Int)) ∧ (∃ u1 u2, s.2.2 = [u1, u2] ∧ okS [u1] 0 = true ∧ okS [u2] 0 = true)) (fun s => hset h a (2, aI .byte (2 ^ (e - 1)) s.2.1)) (fun s => [.val (.ref a1), .val (I (el : Int)), .val (I b), .val (.ref a), .val (I ((2 ^ el : Nat) : Int)), .val (I (ct : Int)), .val (I (s.1 : Nat))] ++ s.2.2) ?_ (0, (fun _ => 0), [.unset, .unset]) ⟨⟨Nat.zero_le _, fill_0⟩, ⟨_, _, rfl, rfl, rfl⟩⟩
    rintro ⟨i, f, lr9⟩ ⟨⟨hi, hf⟩, ⟨u1, u2, hl9, hu1, hu2⟩⟩ ih
    dsimp only at hi hf hl9 ⊢
    subst hl9
    dsimp only [List.cons_append, List.nil_append]
    have h2 : hset h a (2, aI .byte (2 ^ (e - 1)) f) a = some (2, aI .byte (2 ^ (e - 1)) f) := hset_eq
    have h1i := hset_new (x := (2, aI .byte (2 ^ (e - 1)) f)) an h1
    have h3i := hset_new (x := (2, aI .byte (2 ^ (e - 1)) f)) an h3
    refine wa_iload hX dX9_ofPart_30 rfl ?_
    refine wa_aload_n hX (i := 3) dX9_ofPart_32 rfl rfl ?_
    refine wa_len hX (by assumption) dX9_ofPart_33 ?_
    refine wi_icmp_ge hX (tgt := 87) dX9_ofPart_34 (by decide) (by omega) (by omega) (fun c34 => ?_) (fun c34 => ?_)
    · skip
      refine WA.ext9 _ h2 (fun j hj => hf j (by omega)) ?_
      rw [hset_hset]
      refine wa_aload_n hX (i := 3) dX9_ofPart_87 rfl rfl ?_
      refine wa_aretR hX dX9_ofPart_88 (by first | exact Or.inl ⟨_, rfl⟩ | exact Or.inr ⟨_, rfl⟩) ?_
      exact ⟨a, rfl, an, rfl⟩
    · skip
      refine wa_iload hX dX9_ofPart_37 rfl ?_
      refine wa_iload hX dX9_ofPart_39 rfl ?_
      refine wi_iconst hX dX9_ofPart_41 ?_
      refine wi_isub hX dX9_ofPart_42 ?_
      rw [show (((2 ^ el : Nat) : Int) - 1) = ((2 ^ el - 1 : Nat) : Int) by omega]
      refine wn_iand hX dX9_ofPart_43 (by rfl) (by rfl) ?_
      refine wa_istore hX dX9_ofPart_44 (by first | rfl | exact hu1 | exact hu2 | exact hu3 | exact hu4) ?_
      dsimp only [List.set]
      refine wa_iload hX dX9_ofPart_46 rfl ?_
      refine wa_iload hX dX9_ofPart_48 rfl ?_
      refine wa_iload hX dX9_ofPart_50 rfl ?_
      refine wi_iconst hX dX9_ofPart_52 ?_
      refine wa_ixor hX dX9_ofPart_53 ?_
      refine wn_andn hX dX9_ofPart_54 (by rfl) (by rfl) ?_
      refine wi_iconst hX dX9_ofPart_55 ?_
      refine wn_ishl hX (b := 1) dX9_ofPart_56 (by rfl) (by rfl) (by omega) ?_
      refine wn_ior hX dX9_ofPart_57 (by rfl) (by rfl) ?_
      refine wa_istore hX dX9_ofPart_58 (by first | rfl | exact hu1 | exact hu2 | exact hu3 | exact hu4) ?_
      dsimp only [List.set]
      refine wa_aload_n hX (i := 3) dX9_ofPart_60 rfl rfl ?_
      refine wa_iload hX dX9_ofPart_61 rfl ?_
      refine wa_aload_n hX (i := 0) dX9_ofPart_63 rfl rfl ?_
      refine wa_iload hX dX9_ofPart_64 rfl ?_
      refine wa_iload hX dX9_ofPart_66 rfl ?_
      refine wn_ior hX dX9_ofPart_68 (by rfl) (by rfl) ?_
      refine wa_callV hX (c_X6_rank hW d h1i h3i he (s := insB el i ||| ct) (or_lt (insB_lt hel (by omega)) hct)) (by assumption) (by rfl) (by rfl) (by omega) (nA := 1) (by rfl) (by decide +kernel) rfl (by exact Nat.le_of_ble_eq_true rfl) dX9_ofPart_69 (fun r69 h69 p69 => ?_) (fun _ _ q => q.elim)
      obtain ⟨rfl, rfl⟩ := p69
      dsimp only [Option.toList, List.cons_append, List.nil_append]
      refine wa_aload_n hX (i := 0) dX9_ofPart_72 rfl rfl ?_
      refine wa_iload hX dX9_ofPart_73 rfl ?_
      refine wa_callV hX (c_X6_rank hW d h1i h3i he (s := ct) hct) (by assumption) (by rfl) (by rfl) (by omega) (nA := 1) (by rfl) (by decide +kernel) rfl (by exact Nat.le_of_ble_eq_true rfl) dX9_ofPart_75 (fun r75 h75 p75 => ?_) (fun _ _ q => q.elim)
      obtain ⟨rfl, rfl⟩ := p75
      have hr11 := hr (insB el i ||| ct) (or_lt (insB_lt hel (by omega)) hct)
      have hm1 := hm (insB el i) (insB_lt hel (by omega))
      have hq : partR rk el ct i = rk (insB el i ||| ct) - rk ct := rfl
      dsimp only [Option.toList, List.cons_append, List.nil_append]
      refine wi_isub hX dX9_ofPart_78 ?_
      refine wn_i2b hX (partR rk el ct i) dX9_ofPart_79 (by omega) (by omega) ?_
      refine wi_bastore hX h2 (by omega) (by omega) (by omega) (nar8 _ (by omega)) dX9_ofPart_80 ?_
      rw [hset_hset]
      refine wi_iinc hX dX9_ofPart_81 rfl ?_
      dsimp only [List.set]
      refine wa_goto hX (tgt := 30) dX9_ofPart_84 (by decide) ?_
      exact ih (i + 1, _, [_, _]) ⟨⟨by show i + 1 ≤ 2 ^ (e - 1); omega, fill_step hf⟩, ⟨_, _, rfl, rfl, rfl⟩⟩ (by show 2 ^ (e - 1) - (i + 1) < 2 ^ (e - 1) - i; omega)
  · skip
    refine wa_iload hX dX9_ofPart_19 rfl ?_
    refine wa_goto hX (tgt := 25) dX9_ofPart_21 (by decide) ?_
    have hc9 : ct = 0 ∨ ct = 2 ^ el := by rcases hb with ⟨-, q⟩ | ⟨-, q⟩ <;> omega
    refine WA.eq (ls2 := [.val (.ref a1), .val (I (el : Int)), .val (I b), .val (.ref a), .val (I ((2 ^ el : Nat) : Int)), .unset, .unset, .unset, .unset]) (st2 := [I ((ct : Nat) : Int)]) rfl rfl (by
      rcases hb with ⟨q1, q2⟩ | ⟨q1, q2⟩ <;> first | (exfalso; omega) | (subst q2; rfl)) ?_
    refine wa_istore hX dX9_ofPart_25 (by first | rfl | exact hu1 | exact hu2 | exact hu3 | exact hu4) ?_
    dsimp only [List.set]
    refine wi_iconst hX dX9_ofPart_27 ?_
    refine wa_istore hX dX9_ofPart_28 (by first | rfl | exact hu1 | exact hu2 | exact hu3 | exact hu4) ?_
    dsimp only [List.set]
    refine WA.loop (σ := Nat × (Nat → Int) × List Slot) (fun s => 2 ^ (e - 1) - s.1) (fun s => (s.1 ≤ 2 ^ (e - 1) ∧ ∀ j, j < s.1 → s.2.1 j = ((partR rk el ct j : Nat) : Int)) ∧ (∃ u1 u2, s.2.2 = [u1, u2] ∧ okS [u1] 0 = true ∧ okS [u2] 0 = true)) (fun s => hset h a (2, aI .byte (2 ^ (e - 1)) s.2.1)) (fun s => [.val (.ref a1), .val (I (el : Int)), .val (I b), .val (.ref a), .val (I ((2 ^ el : Nat) : Int)), .val (I (ct : Int)), .val (I (s.1 : Nat))] ++ s.2.2) ?_ (0, (fun _ => 0), [.unset, .unset]) ⟨⟨Nat.zero_le _, fill_0⟩, ⟨_, _, rfl, rfl, rfl⟩⟩
    rintro ⟨i, f, lr9⟩ ⟨⟨hi, hf⟩, ⟨u1, u2, hl9, hu1, hu2⟩⟩ ih
    dsimp only at hi hf hl9 ⊢
    subst hl9
    dsimp only [List.cons_append, List.nil_append]
    have h2 : hset h a (2, aI .byte (2 ^ (e - 1)) f) a = some (2, aI .byte (2 ^ (e - 1)) f) := hset_eq
    have h1i := hset_new (x := (2, aI .byte (2 ^ (e - 1)) f)) an h1
    have h3i := hset_new (x := (2, aI .byte (2 ^ (e - 1)) f)) an h3
    refine wa_iload hX dX9_ofPart_30 rfl ?_
    refine wa_aload_n hX (i := 3) dX9_ofPart_32 rfl rfl ?_
    refine wa_len hX (by assumption) dX9_ofPart_33 ?_
    refine wi_icmp_ge hX (tgt := 87) dX9_ofPart_34 (by decide) (by omega) (by omega) (fun c34 => ?_) (fun c34 => ?_)
    · skip
      refine WA.ext9 _ h2 (fun j hj => hf j (by omega)) ?_
      rw [hset_hset]
      refine wa_aload_n hX (i := 3) dX9_ofPart_87 rfl rfl ?_
      refine wa_aretR hX dX9_ofPart_88 (by first | exact Or.inl ⟨_, rfl⟩ | exact Or.inr ⟨_, rfl⟩) ?_
      exact ⟨a, rfl, an, rfl⟩
    · skip
      refine wa_iload hX dX9_ofPart_37 rfl ?_
      refine wa_iload hX dX9_ofPart_39 rfl ?_
      refine wi_iconst hX dX9_ofPart_41 ?_
      refine wi_isub hX dX9_ofPart_42 ?_
      rw [show (((2 ^ el : Nat) : Int) - 1) = ((2 ^ el - 1 : Nat) : Int) by omega]
      refine wn_iand hX dX9_ofPart_43 (by rfl) (by rfl) ?_
      refine wa_istore hX dX9_ofPart_44 (by first | rfl | exact hu1 | exact hu2 | exact hu3 | exact hu4) ?_
      dsimp only [List.set]
      refine wa_iload hX dX9_ofPart_46 rfl ?_
      refine wa_iload hX dX9_ofPart_48 rfl ?_
      refine wa_iload hX dX9_ofPart_50 rfl ?_
      refine wi_iconst hX dX9_ofPart_52 ?_
      refine wa_ixor hX dX9_ofPart_53 ?_
      refine wn_andn hX dX9_ofPart_54 (by rfl) (by rfl) ?_
      refine wi_iconst hX dX9_ofPart_55 ?_
      refine wn_ishl hX (b := 1) dX9_ofPart_56 (by rfl) (by rfl) (by omega) ?_
      refine wn_ior hX dX9_ofPart_57 (by rfl) (by rfl) ?_
      refine wa_istore hX dX9_ofPart_58 (by first | rfl | exact hu1 | exact hu2 | exact hu3 | exact hu4) ?_
      dsimp only [List.set]
      refine wa_aload_n hX (i := 3) dX9_ofPart_60 rfl rfl ?_
      refine wa_iload hX dX9_ofPart_61 rfl ?_
      refine wa_aload_n hX (i := 0) dX9_ofPart_63 rfl rfl ?_
      refine wa_iload hX dX9_ofPart_64 rfl ?_
      refine wa_iload hX dX9_ofPart_66 rfl ?_
      refine wn_ior hX dX9_ofPart_68 (by rfl) (by rfl) ?_
      refine wa_callV hX (c_X6_rank hW d h1i h3i he (s := insB el i ||| ct) (or_lt (insB_lt hel (by omega)) hct)) (by assumption) (by rfl) (by rfl) (by omega) (nA := 1) (by rfl) (by decide +kernel) rfl (by exact Nat.le_of_ble_eq_true rfl) dX9_ofPart_69 (fun r69 h69 p69 => ?_) (fun _ _ q => q.elim)
      obtain ⟨rfl, rfl⟩ := p69
      dsimp only [Option.toList, List.cons_append, List.nil_append]
      refine wa_aload_n hX (i := 0) dX9_ofPart_72 rfl rfl ?_
      refine wa_iload hX dX9_ofPart_73 rfl ?_
      refine wa_callV hX (c_X6_rank hW d h1i h3i he (s := ct) hct) (by assumption) (by rfl) (by rfl) (by omega) (nA := 1) (by rfl) (by decide +kernel) rfl (by exact Nat.le_of_ble_eq_true rfl) dX9_ofPart_75 (fun r75 h75 p75 => ?_) (fun _ _ q => q.elim)
      obtain ⟨rfl, rfl⟩ := p75
      have hr11 := hr (insB el i ||| ct) (or_lt (insB_lt hel (by omega)) hct)
      have hm1 := hm (insB el i) (insB_lt hel (by omega))
      have hq : partR rk el ct i = rk (insB el i ||| ct) - rk ct := rfl
      dsimp only [Option.toList, List.cons_append, List.nil_append]
      refine wi_isub hX dX9_ofPart_78 ?_
      refine wn_i2b hX (partR rk el ct i) dX9_ofPart_79 (by omega) (by omega) ?_
      refine wi_bastore hX h2 (by omega) (by omega) (by omega) (nar8 _ (by omega)) dX9_ofPart_80 ?_
      rw [hset_hset]
      refine wi_iinc hX dX9_ofPart_81 rfl ?_
      dsimp only [List.set]
      refine wa_goto hX (tgt := 30) dX9_ofPart_84 (by decide) ?_
      exact ih (i + 1, _, [_, _]) ⟨⟨by show i + 1 ≤ 2 ^ (e - 1); omega, fill_step hf⟩, ⟨_, _, rfl, rfl, rfl⟩⟩ (by show 2 ^ (e - 1) - (i + 1) < 2 ^ (e - 1) - i; omega)
set_option maxRecDepth 100000 in
theorem c_X9_ofExtension (hW : WOK l D S0) (d : Nat) {h : AH} {a1 la1 e full rq hq tq lr t : Nat} {sym : Int} {v2 v3 : Value} {rk : Nat → Nat} (h1 : h a1 = some (la1, oMat e full rq hq tq sym v2 v3)) (h3 : h rq = some (lr, aB e rk)) (he : e ≤ 9) (hr : ∀ s, s < 2 ^ e → rk s ≤ 10) (ht : t < 2 ^ e) : MA l D S0 yX9_ofExtension cX9_ofExtension 6 (some (.array .byte)) (d + 2) [.ref a1, I (t : Int)] h 1 1024 (postNew h 2 (aB (e + 1) (extR rk e t))) (fun _ _ => False) := by
  have hp := p2_le (show e + 1 ≤ 10 by omega)
  have hp0 := p2_pos (e + 1)
  have hp1 := p2_pos e
  refine MA.start hW (by decide) [.val (.ref a1), .val (I (t : Int)), .unset, .unset, .unset, .unset] rfl ?_
  rintro X rfl rfl rfl hX
  refine wa_aload_n hX (i := 0) dX9_ofExtension_0 rfl rfl ?_
  refine wa_get hX 0 (by assumption) (by rfl) (by decide +kernel) dX9_ofExtension_1 ?_
  refine wi_iconst hX dX9_ofExtension_4 ?_
  refine wi_iadd hX dX9_ofExtension_5 ?_
  rw [show ((e : Int) + 1) = ((e + 1 : Nat) : Int) by omega]
  refine wa_callS hX (c_X9_blank hW d (e := e + 1) (by omega)) (by rfl) (by omega) (nA := 1) (by rfl) (by decide +kernel) rfl (by exact Nat.le_of_ble_eq_true rfl) dX9_ofExtension_6 (fun r6 h6 p6 => ?_) (fun _ _ q => q.elim)
  obtain ⟨a, rfl, an, rfl⟩ := p6
  dsimp only [Option.toList, List.cons_append, List.nil_append]
  refine wa_astore_n hX (i := 2) dX9_ofExtension_9 rfl (by first | rfl | exact hu1 | exact hu2 | exact hu3 | exact hu4) ?_
  dsimp only [List.set]
  refine wi_iconst hX dX9_ofExtension_10 ?_
  refine wa_istore_n hX (i := 3) dX9_ofExtension_11 rfl (by first | rfl | exact hu1 | exact hu2 | exact hu3 | exact hu4) ?_
  dsimp only [List.set]
  refine WA.loop (σ := Nat × (Nat → Int) × List Slot) (fun s => 2 ^ (e + 1) - s.1) (fun s => (s.1 ≤ 2 ^ (e + 1) ∧ ∀ j, j < s.1 → s.2.1 j = ((extR rk e t j : Nat) : Int)) ∧ (∃ u1 u2, s.2.2 = [u1, u2] ∧ okS [u1] 0 = true ∧ okS [u2] 0 = true)) (fun s => hset h a (2, aI .byte (2 ^ (e + 1)) s.2.1)) (fun s => [.val (.ref a1), .val (I (t : Int)), .val (.ref a), .val (I (s.1 : Nat))] ++ s.2.2) ?_ (0, (fun _ => 0), [.unset, .unset]) ⟨⟨Nat.zero_le _, fill_0⟩, ⟨_, _, rfl, rfl, rfl⟩⟩
  rintro ⟨i, f, lr9⟩ ⟨⟨hi, hf⟩, ⟨u1, u2, hl9, hu1, hu2⟩⟩ ih
  dsimp only at hi hf hl9 ⊢
  subst hl9
  dsimp only [List.cons_append, List.nil_append]
  have h2 : hset h a (2, aI .byte (2 ^ (e + 1)) f) a = some (2, aI .byte (2 ^ (e + 1)) f) := hset_eq
  have h1i := hset_new (x := (2, aI .byte (2 ^ (e + 1)) f)) an h1
  have h3i := hset_new (x := (2, aI .byte (2 ^ (e + 1)) f)) an h3
  have hold : i &&& (2 ^ e - 1) < 2 ^ e := and_ltr (by omega)
  have hle : i &&& (2 ^ e - 1) ≤ i := Nat.and_le_left
  have hr11 := hr _ hold
  have hr12 := hr _ (or_lt hold ht)
  refine wa_iload_n hX (i := 3) dX9_ofExtension_12 rfl rfl ?_
  refine wa_aload_n hX (i := 2) dX9_ofExtension_13 rfl rfl ?_
  refine wa_len hX (by assumption) dX9_ofExtension_14 ?_
  refine wi_icmp_ge hX (tgt := 68) dX9_ofExtension_15 (by decide) (by omega) (by omega) (fun c15 => ?_) (fun c15 => ?_)
  · skip
    refine WA.ext9 _ h2 (fun j hj => hf j (by omega)) ?_
    rw [hset_hset]
    refine wa_aload_n hX (i := 2) dX9_ofExtension_68 rfl rfl ?_
    refine wa_aretR hX dX9_ofExtension_69 (by first | exact Or.inl ⟨_, rfl⟩ | exact Or.inr ⟨_, rfl⟩) ?_
    exact ⟨a, rfl, an, rfl⟩
  · skip
    refine wa_iload_n hX (i := 3) dX9_ofExtension_18 rfl rfl ?_
    refine wa_aload_n hX (i := 0) dX9_ofExtension_19 rfl rfl ?_
    refine wa_get hX 1 (by assumption) (by rfl) (by decide +kernel) dX9_ofExtension_20 ?_
    refine wn_iand hX dX9_ofExtension_23 (by rfl) (by rfl) ?_
    refine wa_istore hX dX9_ofExtension_24 (by first | rfl | exact hu1 | exact hu2 | exact hu3 | exact hu4) ?_
    dsimp only [List.set]
    refine wa_aload_n hX (i := 0) dX9_ofExtension_26 rfl rfl ?_
    refine wa_iload hX dX9_ofExtension_27 rfl ?_
    refine wa_callV hX (c_X6_rank hW d h1i h3i (by omega) (s := i &&& (2 ^ e - 1)) hold) (by assumption) (by rfl) (by rfl) (by omega) (nA := 1) (by rfl) (by decide +kernel) rfl (by exact Nat.le_of_ble_eq_true rfl) dX9_ofExtension_29 (fun r29 h29 p29 => ?_) (fun _ _ q => q.elim)
    obtain ⟨rfl, rfl⟩ := p29
    dsimp only [Option.toList, List.cons_append, List.nil_append]
    refine wa_istore hX dX9_ofExtension_32 (by first | rfl | exact hu1 | exact hu2 | exact hu3 | exact hu4) ?_
    dsimp only [List.set]
    refine wa_iload_n hX (i := 3) dX9_ofExtension_34 rfl rfl ?_
    refine wa_iload hX dX9_ofExtension_35 rfl ?_
    refine wi_icmp_eq hX (tgt := 56) dX9_ofExtension_37 (by decide) (by omega) (by omega) (fun c37 => ?_) (fun c37 => ?_)
    · skip
      refine wa_aload_n hX (i := 2) dX9_ofExtension_56 rfl rfl ?_
      refine wa_iload_n hX (i := 3) dX9_ofExtension_57 rfl rfl ?_
      refine wa_iload hX dX9_ofExtension_58 rfl ?_
      have hq9 : extR rk e t i ≤ rk (i &&& (2 ^ e - 1)) + 1 := by unfold extR; split <;> omega
      refine wn_i2b hX (extR rk e t i) dX9_ofExtension_60 (by
          unfold extR
          first
            | rw [if_pos ⟨by omega, by omega⟩]; omega
            | rw [if_neg (fun q => by have := q.1; have := q.2; omega)]; omega) (by omega) ?_
      refine wi_bastore hX h2 (by omega) (by omega) (by omega) (nar8 _ (by omega)) dX9_ofExtension_61 ?_
      rw [hset_hset]
      refine wi_iinc hX dX9_ofExtension_62 rfl ?_
      dsimp only [List.set]
      refine wa_goto hX (tgt := 12) dX9_ofExtension_65 (by decide) ?_
      exact ih (i + 1, _, [_, _]) ⟨⟨by show i + 1 ≤ 2 ^ (e + 1); omega, fill_step hf⟩, ⟨_, _, rfl, rfl, rfl⟩⟩ (by show 2 ^ (e + 1) - (i + 1) < 2 ^ (e + 1) - i; omega)
    · skip
      refine wa_aload_n hX (i := 0) dX9_ofExtension_40 rfl rfl ?_
      refine wa_iload hX dX9_ofExtension_41 rfl ?_
      refine wa_iload_n hX (i := 1) dX9_ofExtension_43 rfl rfl ?_
      refine wn_ior hX dX9_ofExtension_44 (by rfl) (by rfl) ?_
      refine wa_callV hX (c_X6_rank hW d h1i h3i (by omega) (s := (i &&& (2 ^ e - 1)) ||| t) (or_lt hold ht)) (by assumption) (by rfl) (by rfl) (by omega) (nA := 1) (by rfl) (by decide +kernel) rfl (by exact Nat.le_of_ble_eq_true rfl) dX9_ofExtension_45 (fun r45 h45 p45 => ?_) (fun _ _ q => q.elim)
      obtain ⟨rfl, rfl⟩ := p45
      dsimp only [Option.toList, List.cons_append, List.nil_append]
      refine wa_iload hX dX9_ofExtension_48 rfl ?_
      refine wi_icmp_eq hX (tgt := 56) dX9_ofExtension_50 (by decide) (by omega) (by omega) (fun c50 => ?_) (fun c50 => ?_)
      · skip
        refine wa_aload_n hX (i := 2) dX9_ofExtension_56 rfl rfl ?_
        refine wa_iload_n hX (i := 3) dX9_ofExtension_57 rfl rfl ?_
        refine wa_iload hX dX9_ofExtension_58 rfl ?_
        have hq9 : extR rk e t i ≤ rk (i &&& (2 ^ e - 1)) + 1 := by unfold extR; split <;> omega
        refine wn_i2b hX (extR rk e t i) dX9_ofExtension_60 (by
            unfold extR
            first
              | rw [if_pos ⟨by omega, by omega⟩]; omega
              | rw [if_neg (fun q => by have := q.1; have := q.2; omega)]; omega) (by omega) ?_
        refine wi_bastore hX h2 (by omega) (by omega) (by omega) (nar8 _ (by omega)) dX9_ofExtension_61 ?_
        rw [hset_hset]
        refine wi_iinc hX dX9_ofExtension_62 rfl ?_
        dsimp only [List.set]
        refine wa_goto hX (tgt := 12) dX9_ofExtension_65 (by decide) ?_
        exact ih (i + 1, _, [_, _]) ⟨⟨by show i + 1 ≤ 2 ^ (e + 1); omega, fill_step hf⟩, ⟨_, _, rfl, rfl, rfl⟩⟩ (by show 2 ^ (e + 1) - (i + 1) < 2 ^ (e + 1) - i; omega)
      · skip
        refine wi_iinc hX dX9_ofExtension_53 rfl ?_
        dsimp only [List.set]
        refine wa_aload_n hX (i := 2) dX9_ofExtension_56 rfl rfl ?_
        refine wa_iload_n hX (i := 3) dX9_ofExtension_57 rfl rfl ?_
        refine wa_iload hX dX9_ofExtension_58 rfl ?_
        have hq9 : extR rk e t i ≤ rk (i &&& (2 ^ e - 1)) + 1 := by unfold extR; split <;> omega
        refine wn_i2b hX (extR rk e t i) dX9_ofExtension_60 (by
            unfold extR
            first
              | rw [if_pos ⟨by omega, by omega⟩]; omega
              | rw [if_neg (fun q => by have := q.1; have := q.2; omega)]; omega) (by omega) ?_
        refine wi_bastore hX h2 (by omega) (by omega) (by omega) (nar8 _ (by omega)) dX9_ofExtension_61 ?_
        rw [hset_hset]
        refine wi_iinc hX dX9_ofExtension_62 rfl ?_
        dsimp only [List.set]
        refine wa_goto hX (tgt := 12) dX9_ofExtension_65 (by decide) ?_
        exact ih (i + 1, _, [_, _]) ⟨⟨by show i + 1 ≤ 2 ^ (e + 1); omega, fill_step hf⟩, ⟨_, _, rfl, rfl, rfl⟩⟩ (by show 2 ^ (e + 1) - (i + 1) < 2 ^ (e + 1) - i; omega)
end C23
