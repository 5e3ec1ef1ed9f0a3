/-! Circuitfold$Tables (X9), first part: at, areSame, blank, ofUniform, ofDual -/
theorem bc_le (s : Nat) : bc s ≤ 10 := by unfold bc; omega
theorem i8_ok : ∀ z : Nat, z < 128 → (Int32.ofInt (z : Int)).toInt8.toInt32 = Int32.ofInt (z : Int) := by decide +kernel
theorem nar8 (z : Nat) (h : z < 128) : narrow .byte (I (z : Int)) = I (z : Int) := by
  show Value.int (Int32.ofInt (z : Int)).toInt8.toInt32 = _
  rw [i8_ok z h]
section C21
variable {l : Launch} {D : va_G} {S0 : State}
set_option maxRecDepth 100000 in
theorem c_X9_at (hW : WOK l D S0) (d : Nat) {h : AH} {q lq n : Nat} {i : Int} {g : Nat → Int} (h1 : h q = some (lq, aI .byte n g)) (hn : n < 2147483648) (hi : inR i) : MA l D S0 yX9_at cX9_at 2 (some .int) d [.ref q, I i] h 0 0 (fun r h' => r = some (I (atv n g i)) ∧ h' = h) (fun _ _ => False) := by
  refine MA.start hW (by decide) [.val (.ref q), .val (I i)] rfl ?_
  rintro X rfl rfl rfl hX
  refine wa_iload_n hX (i := 1) dX9_at_0 rfl rfl ?_
  refine wi_if_lt hX (tgt := 16) dX9_at_1 (by decide) (by omega) (fun c1 => ?_) (fun c1 => ?_)
  · skip
    refine wi_iconst hX dX9_at_16 ?_
    refine wa_iret hX dX9_at_17 ?_
    refine ⟨?_, rfl⟩
    unfold atv
    first
      | rw [if_pos (by omega)]
      | rw [if_neg (by omega)]
  · skip
    refine wa_iload_n hX (i := 1) dX9_at_4 rfl rfl ?_
    refine wa_aload_n hX (i := 0) dX9_at_5 rfl rfl ?_
    refine wa_len hX (by assumption) dX9_at_6 ?_
    refine wi_icmp_ge hX (tgt := 16) dX9_at_7 (by decide) (by omega) (by omega) (fun c7 => ?_) (fun c7 => ?_)
    · skip
      refine wi_iconst hX dX9_at_16 ?_
      refine wa_iret hX dX9_at_17 ?_
      refine ⟨?_, rfl⟩
      unfold atv
      first
        | rw [if_pos (by omega)]
        | rw [if_neg (by omega)]
    · skip
      refine wa_aload_n hX (i := 0) dX9_at_10 rfl rfl ?_
      refine wa_iload_n hX (i := 1) dX9_at_11 rfl rfl ?_
      refine wi_baload hX (by assumption) (by omega) (by omega) (by omega) dX9_at_12 ?_
      refine wa_goto hX (tgt := 17) dX9_at_13 (by decide) ?_
      refine wa_iret hX dX9_at_17 ?_
      refine ⟨?_, rfl⟩
      unfold atv
      first
        | rw [if_pos (by omega)]
        | rw [if_neg (by omega)]
set_option maxRecDepth 100000 in
theorem c_X9_areSame (hW : WOK l D S0) (d : Nat) {h : AH} {q lq n q2 lq2 n2 : Nat} {g g2 : Nat → Int} (h1 : h q = some (lq, aI .byte n g)) (h2 : h q2 = some (lq2, aI .byte n2 g2)) (hn : n < 2147483648) (hn2 : n2 < 2147483648) (hg : ∀ j, j < n → inR (g j)) (hg2 : ∀ j, j < n2 → inR (g2 j)) : MA l D S0 yX9_areSame cX9_areSame 3 (some .boolean) d [.ref q, .ref q2] h 0 0 (fun r h' => ∃ b : Int, r = some (I b) ∧ (b = 0 ∨ b = 1) ∧ (b = 1 ↔ n = n2 ∧ ∀ j, j < n → g j = g2 j) ∧ h' = h) (fun _ _ => False) := by
  refine MA.start hW (by decide) [.val (.ref q), .val (.ref q2), .unset] rfl ?_
  rintro X rfl rfl rfl hX
  refine wa_aload_n hX (i := 0) dX9_areSame_0 rfl rfl ?_
  refine wa_len hX (by assumption) dX9_areSame_1 ?_
  refine wa_aload_n hX (i := 1) dX9_areSame_2 rfl rfl ?_
  refine wa_len hX (by assumption) dX9_areSame_3 ?_
  refine wi_icmp_eq hX (tgt := 9) dX9_areSame_4 (by decide) (by omega) (by omega) (fun c4 => ?_) (fun c4 => ?_)
  · skip
    refine wi_iconst hX dX9_areSame_9 ?_
    refine wa_istore_n hX (i := 2) dX9_areSame_10 rfl rfl ?_
    dsimp only [List.set]
    refine WA.loop (σ := Nat) (fun i => n - i) (fun i => i ≤ n ∧ ∀ j, j < i → g j = g2 j) (fun _ => h) (fun i => [.val (.ref q), .val (.ref q2), .val (I (i : Nat))]) ?_ 0 ⟨Nat.zero_le _, fun j hj => absurd hj (Nat.not_lt_zero j)⟩
    rintro i ⟨hi, hf⟩ ih
    refine wa_iload_n hX (i := 2) dX9_areSame_11 rfl rfl ?_
    refine wa_aload_n hX (i := 0) dX9_areSame_12 rfl rfl ?_
    refine wa_len hX (by assumption) dX9_areSame_13 ?_
    refine wi_icmp_ge hX (tgt := 40) dX9_areSame_14 (by decide) (by omega) (by omega) (fun c14 => ?_) (fun c14 => ?_)
    · skip
      refine wi_iconst hX dX9_areSame_40 ?_
      refine wa_zret hX dX9_areSame_41 (by rfl) ?_
      exact ⟨1, rfl, Or.inr rfl, ⟨fun _ => ⟨by omega, fun j hj => hf j (by omega)⟩, fun _ => rfl⟩, rfl⟩
    · skip
      refine wa_iload_n hX (i := 2) dX9_areSame_17 rfl rfl ?_
      refine wa_aload_n hX (i := 1) dX9_areSame_18 rfl rfl ?_
      refine wa_len hX (by assumption) dX9_areSame_19 ?_
      refine wi_icmp_ge hX (tgt := 40) dX9_areSame_20 (by decide) (by omega) (by omega) (fun c20 => ?_) (fun c20 => ?_)
      · skip
        refine wi_iconst hX dX9_areSame_40 ?_
        refine wa_zret hX dX9_areSame_41 (by rfl) ?_
        exact ⟨1, rfl, Or.inr rfl, ⟨fun _ => ⟨by omega, fun j hj => hf j (by omega)⟩, fun _ => rfl⟩, rfl⟩
      · skip
        refine wa_aload_n hX (i := 0) dX9_areSame_23 rfl rfl ?_
        refine wa_iload_n hX (i := 2) dX9_areSame_24 rfl rfl ?_
        refine wi_baload hX (by assumption) (by omega) (by omega) (by omega) dX9_areSame_25 ?_
        refine wa_aload_n hX (i := 1) dX9_areSame_26 rfl rfl ?_
        refine wa_iload_n hX (i := 2) dX9_areSame_27 rfl rfl ?_
        refine wi_baload hX (by assumption) (by omega) (by omega) (by omega) dX9_areSame_28 ?_
        simp only [Int.toNat_natCast]
        refine wi_icmp_eq hX (tgt := 34) dX9_areSame_29 (by decide) (by first | exact hg i (by omega) | exact hg2 i (by omega)) (by first | exact hg i (by omega) | exact hg2 i (by omega)) (fun c29 => ?_) (fun c29 => ?_)
        · skip
          refine wi_iinc hX dX9_areSame_34 rfl ?_
          dsimp only [List.set]
          refine wa_goto hX (tgt := 11) dX9_areSame_37 (by decide) ?_
          refine ih (i + 1) ⟨by omega, fun j hj => ?_⟩ (by omega)
          rcases Nat.lt_succ_iff_lt_or_eq.mp hj with e | e
          · exact hf j e
          · subst e; exact c29
        · skip
          refine wi_iconst hX dX9_areSame_32 ?_
          refine wa_zret hX dX9_areSame_33 (by rfl) ?_
          refine ⟨0, rfl, Or.inl rfl, ⟨fun e => absurd e (by decide), fun e => absurd (e.2 i (by omega)) c29⟩, rfl⟩
  · skip
    refine wi_iconst hX dX9_areSame_7 ?_
    refine wa_zret hX dX9_areSame_8 (by rfl) ?_
    exact ⟨0, rfl, Or.inl rfl, ⟨fun e => absurd e (by decide), fun e => absurd e.1 (by omega)⟩, rfl⟩
set_option maxRecDepth 100000 in
theorem c_X9_blank (hW : WOK l D S0) (d : Nat) {h : AH} {e : Nat} (he : e ≤ 10) : MA l D S0 yX9_blank cX9_blank 1 (some (.array .byte)) d [I e] h 1 1024 (postNew h 2 (aI .byte (2 ^ e) (fun _ => 0))) (fun _ _ => False) := by
  have hp := p2_le he
  refine MA.start hW (by decide) [.val (I e)] rfl ?_
  rintro X rfl rfl rfl hX
  refine wi_iconst hX dX9_blank_0 ?_
  refine wi_iconst hX dX9_blank_1 ?_
  refine wi_bipush hX dX9_blank_2 (by decide) ?_
  refine wa_iload_n hX (i := 0) dX9_blank_4 rfl rfl ?_
  refine wi_min hX (by decide +kernel) rfl (by exact Nat.le_of_ble_eq_true rfl) (by omega) (by omega) dX9_blank_5 ?_
  refine wi_max hX (by decide +kernel) rfl (by exact Nat.le_of_ble_eq_true rfl) (by omega) (by omega) dX9_blank_8 ?_
  refine wn_ishl hX dX9_blank_11 (a := 1) (b := e) (by rfl) (by omega) (by omega) ?_
  refine WA.room (k2 := 0 + 1) (sl2 := 0 + 2 ^ e) (by omega) (by omega) ?_
  refine wa_newa hX (2 ^ e) 2 .byte (.inl (fun j => Int32.ofInt ((fun _ => 0 : Nat → Int) j))) rfl (by rw [Nat.one_shiftLeft]) (by omega) (fun cA => by rfl) (by decide +kernel) dX9_blank_12 (fun a an => ?_)
  refine wa_aretR hX dX9_blank_14 (by first | exact Or.inl ⟨_, rfl⟩ | exact Or.inr ⟨_, rfl⟩) ?_
  exact ⟨a, rfl, an, rfl⟩
set_option maxRecDepth 100000 in
theorem c_X9_ofUniform (hW : WOK l D S0) (d : Nat) {h : AH} {e r : Nat} (he : e ≤ 10) (hr : r ≤ 10) : MA l D S0 yX9_ofUniform cX9_ofUniform 4 (some (.array .byte)) (d + 1) [I r, I e] h 1 1024 (postNew h 2 (aI .byte (2 ^ e) (fun s => ((min r (bc s) : Nat) : Int)))) (fun _ _ => False) := by
  have hp := p2_le he
  refine MA.start hW (by decide) [.val (I r), .val (I e), .unset, .unset] rfl ?_
  rintro X rfl rfl rfl hX
  refine wa_iload_n hX (i := 1) dX9_ofUniform_0 rfl rfl ?_
  refine wa_callS hX (c_X9_blank hW d he) (by rfl) (by omega) (nA := 1) (by rfl) (by decide +kernel) rfl (by exact Nat.le_of_ble_eq_true rfl) dX9_ofUniform_1 (fun r1 h1 p1 => ?_) (fun _ _ q => q.elim)
  obtain ⟨a, rfl, an, rfl⟩ := p1
  dsimp only [Option.toList, List.cons_append, List.nil_append]
  refine wa_astore_n hX (i := 2) dX9_ofUniform_4 rfl rfl ?_
  dsimp only [List.set]
  refine wi_iconst hX dX9_ofUniform_5 ?_
  refine wa_istore_n hX (i := 3) dX9_ofUniform_6 rfl rfl ?_
  dsimp only [List.set]
  generalize hN : 2 ^ e = N at hp ⊢
  refine WA.loop (σ := Nat × (Nat → Int)) (fun s => N - s.1) (fun s => s.1 ≤ N ∧ ∀ j, j < s.1 → s.2 j = (fun s => ((min r (bc s) : Nat) : Int)) j) (fun s => hset h a (2, aI .byte N s.2)) (fun s => [.val (I r), .val (I e), .val (.ref a), .val (I (s.1 : Nat))]) ?_ (0, fun _ => 0) ⟨Nat.zero_le _, fill_0⟩
  rintro ⟨i, f⟩ ⟨hi, hf⟩ ih
  dsimp only at hi hf ⊢
  have h2 : hset h a (2, aI .byte N f) a = some (2, aI .byte N f) := hset_eq
  have hb := bc_le i
  refine wa_iload_n hX (i := 3) dX9_ofUniform_7 rfl rfl ?_
  refine wa_aload_n hX (i := 2) dX9_ofUniform_8 rfl rfl ?_
  refine wa_len hX (by assumption) dX9_ofUniform_9 ?_
  refine wi_icmp_ge hX (tgt := 31) dX9_ofUniform_10 (by decide) (by omega) (by omega) (fun c10 => ?_) (fun c10 => ?_)
  · skip
    refine WA.ext9 _ h2 (fun j hj => hf j (by omega)) ?_
    rw [hset_hset]
    refine wa_aload_n hX (i := 2) dX9_ofUniform_31 rfl rfl ?_
    refine wa_aretR hX dX9_ofUniform_32 (by first | exact Or.inl ⟨_, rfl⟩ | exact Or.inr ⟨_, rfl⟩) ?_
    exact ⟨a, rfl, an, by rw [hN]⟩
  · skip
    refine wa_aload_n hX (i := 2) dX9_ofUniform_13 rfl rfl ?_
    refine wa_iload_n hX (i := 3) dX9_ofUniform_14 rfl rfl ?_
    refine wa_iload_n hX (i := 0) dX9_ofUniform_15 rfl rfl ?_
    refine wa_iload_n hX (i := 3) dX9_ofUniform_16 rfl rfl ?_
    refine wa_callS hX (c_J6_bitCount hW d (s := i) (by omega)) (by rfl) (by omega) (nA := 1) (by rfl) (by decide +kernel) rfl (by exact Nat.le_of_ble_eq_true rfl) dX9_ofUniform_17 (fun r17 h17 p17 => ?_) (fun _ _ q => q.elim)
    obtain ⟨rfl, rfl⟩ := p17
    dsimp only [Option.toList, List.cons_append, List.nil_append]
    refine wi_min hX (by decide +kernel) rfl (by exact Nat.le_of_ble_eq_true rfl) (by omega) (by omega) dX9_ofUniform_20 ?_
    refine wv_i2b hX dX9_ofUniform_23 (z := ((min r (bc i) : Nat) : Int)) (by rw [show (min (r : Int) (bc i)) = ((min r (bc i) : Nat) : Int) by omega]; exact i8_ok _ (by omega)) ?_
    refine wi_bastore hX h2 (by omega) (by omega) (by omega) (nar8 _ (by omega)) dX9_ofUniform_24 ?_
    rw [hset_hset]
    refine wi_iinc hX dX9_ofUniform_25 rfl ?_
    dsimp only [List.set]
    refine wa_goto hX (tgt := 7) dX9_ofUniform_28 (by decide) ?_
    exact ih (i + 1, _) ⟨by show i + 1 ≤ N; omega, fill_step hf⟩ (by show N - (i + 1) < N - i; omega)
end C21
