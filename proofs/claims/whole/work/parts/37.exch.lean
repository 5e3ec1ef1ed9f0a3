/-! Circuitfold$Exchange (X4) -/
abbrev oExc (mq sq wq : Nat) (all br bf bs be : Int) : Ob := oF 6 [.ref mq, .ref sq, .ref wq, I all, I br, I bf, I bs, I be]
abbrev aM (n : Nat) (M : Nat → Bool) : Ob := aI .byte n (fun j => ((b2n (M j) : Nat) : Int))
/-- whether a marked set lies in s -/
def spn (M : Nat → Bool) (s : Nat) : Bool := anyB (fun t => M t && (t &&& s == t)) (s + 1)
theorem spn_iff {M : Nat → Bool} {s : Nat} : spn M s = true ↔ ∃ t, M t = true ∧ t &&& s = t := by
  unfold spn
  rw [anyB_iff]
  constructor
  · rintro ⟨t, -, h⟩
    rw [Bool.and_eq_true] at h
    exact ⟨t, h.1, by simpa using h.2⟩
  · rintro ⟨t, h1, h2⟩
    have : t ≤ s := by rw [← h2]; exact Nat.and_le_right
    exact ⟨t, by omega, by rw [h1, h2]; simp⟩
theorem spn_step {M : Nat → Bool} {e s : Nat} (hs : s < 2 ^ e) : spn M s = (M s || anyB (fun k => s.testBit k && spn M (s ^^^ 2 ^ k)) e) := by
  rw [Bool.eq_iff_iff, Bool.or_eq_true, spn_iff, anyB_iff]
  constructor
  · rintro ⟨t, h1, h2⟩
    by_cases e1 : t = s
    · subst e1; exact Or.inl h1
    · right
      have h3 : ∃ k, s.testBit k = true ∧ t.testBit k = false := by
        by_cases q : ∃ k, s.testBit k = true ∧ t.testBit k = false
        · exact q
        · exfalso
          apply e1
          rw [← h2]
          apply Nat.eq_of_testBit_eq
          intro k
          rw [Nat.testBit_and]
          cases e5 : s.testBit k with
          | false => rw [Bool.and_false]
          | true =>
            cases e6 : t.testBit k with
            | true => rfl
            | false => exact absurd ⟨k, e5, e6⟩ q
      obtain ⟨k, k1, k2⟩ := h3
      have hk : k < e := by
        by_cases q : k < e
        · exact q
        · have := testBit_hi (Nat.lt_of_lt_of_le hs (p2_mono (show e ≤ k by omega)))
          rw [this] at k1
          cases k1
      refine ⟨k, hk, ?_⟩
      rw [k1, Bool.true_and, spn_iff]
      refine ⟨t, h1, ?_⟩
      apply Nat.eq_of_testBit_eq
      intro j
      rw [Nat.testBit_and, Nat.testBit_xor, bit_two]
      by_cases e5 : k = j
      · subst e5; rw [k2, Bool.false_and]
      · simp only [decide_eq_false e5, Bool.xor_false]
        rw [← Nat.testBit_and, h2]
  · rintro (h | ⟨k, hk, h⟩)
    · exact ⟨s, h, Nat.and_self s⟩
    · rw [Bool.and_eq_true, spn_iff] at h
      obtain ⟨k1, t, h1, h2⟩ := h
      refine ⟨t, h1, ?_⟩
      apply Nat.eq_of_testBit_eq
      intro j
      rw [Nat.testBit_and]
      cases e5 : t.testBit j with
      | false => rfl
      | true =>
        have h6 := and_testBit h2 e5
        rw [Nat.testBit_xor, bit_two] at h6
        by_cases e6 : k = j
        · subst e6; rw [k1]; rfl
        · simp only [decide_eq_false e6, Bool.xor_false] at h6
          rw [h6]; rfl
/-- the swaps of an element of s -/
def swpN (M : Nat → Bool) (e s el : Nat) : Nat := if s.testBit el then orB (fun k => !(sdf s (2 ^ el)).testBit k && M (sdf s (2 ^ el) ||| 2 ^ k)) e else 0
theorem orB_lt (p : Nat → Bool) (e : Nat) : ∀ n, n ≤ e → orB p n < 2 ^ e := by
  intro n
  induction n with
  | zero => intro _; exact p2_pos e
  | succ n ih =>
    intro hn
    have := ih (by omega)
    by_cases hp : p n = true
    · rw [orB_y hp]; exact or_lt this (bit_lt hn)
    · rw [orB_n hp]; exact this
theorem swpN_lt (M : Nat → Bool) (e s el : Nat) : swpN M e s el < 2 ^ e := by
  unfold swpN
  split
  · exact orB_lt _ e e (Nat.le_refl e)
  · exact p2_pos e
section C37
variable {l : Launch} {D : va_G} {S0 : State}
set_option maxRecDepth 100000 in
theorem c_X4_begin (hW : WOK l D S0) (d : Nat) {h : AH} {a la mq sq wq lm e : Nat} {all br bf bs be : Int} {G : Nat → Int} (h1 : h a = some (la, oExc mq sq wq all br bf bs be)) (h2 : h mq = some (lm, aI .byte 1024 G)) (hl : la ≠ lm) (he : e ≤ 10) : MA l D S0 yX4_begin cX4_begin 2 none (d + 1) [.ref a, I (e : Int)] h 0 0 (fun r h' => r = none ∧ h' a = some (la, oExc mq sq wq ((2 ^ e - 1 : Nat) : Int) 0 bf bs be) ∧ h' mq = some (lm, aM 1024 (fun _ => false)) ∧ ∀ b, b ≠ a → b ≠ mq → h' b = h b) (fun _ _ => False) := by
  have hp := p2_le he
  have hp0 := p2_pos e
  have ham : a ≠ mq := lab_ne h2 h1 hl
  refine MA.start hW (by decide) [.val (.ref a), .val (I (e : Int))] rfl ?_
  rintro X rfl rfl rfl hX
  refine wa_aload_n hX (i := 0) dX4_begin_0 rfl rfl ?_
  refine wi_iconst hX dX4_begin_1 ?_
  refine wi_iconst hX dX4_begin_2 ?_
  refine wi_bipush hX dX4_begin_3 (by decide) ?_
  refine wa_iload_n hX (i := 1) dX4_begin_5 rfl rfl ?_
  refine wi_min hX (by decide +kernel) rfl (by exact Nat.le_of_ble_eq_true rfl) (by omega) (by omega) dX4_begin_6 ?_
  refine wi_max hX (by decide +kernel) rfl (by exact Nat.le_of_ble_eq_true rfl) (by omega) (by omega) dX4_begin_9 ?_
  rw [show max (0 : Int) (min (10 : Int) (e : Int)) = (e : Int) by omega]
  refine wn_shl1 hX (b := e) dX4_begin_12 rfl (by omega) ?_
  refine wi_iconst hX dX4_begin_13 ?_
  refine wi_isub hX dX4_begin_14 ?_
  rw [show (((2 ^ e : Nat) : Int) - 1) = ((2 ^ e - 1 : Nat) : Int) by omega]
  refine wa_put hX 3 h1 (Nat.le_of_ble_eq_true rfl) (by decide +kernel) (by rfl) (by rfl) (by rfl) dX4_begin_15 ?_
  have g1 : hset h a (la, oExc mq sq wq ((2 ^ e - 1 : Nat) : Int) br bf bs be) a = some (la, oExc mq sq wq ((2 ^ e - 1 : Nat) : Int) br bf bs be) := hset_eq
  have g2 : hset h a (la, oExc mq sq wq ((2 ^ e - 1 : Nat) : Int) br bf bs be) mq = some (lm, aI .byte 1024 G) := (hset_ne ham.symm).trans h2
  refine WA.heap (h2 := hset h a (la, oExc mq sq wq ((2 ^ e - 1 : Nat) : Int) br bf bs be)) rfl ?_
  refine wa_aload_n hX (i := 0) dX4_begin_18 rfl rfl ?_
  refine wa_get hX 0 g1 (by rfl) (by decide +kernel) dX4_begin_19 ?_
  refine wi_iconst hX dX4_begin_22 ?_
  refine wa_callS hX (c_J7_fillB hW d (z := 0) g2 (by decide) (by rfl)) (by rfl) (by omega) (nA := 2) (by rfl) (by decide +kernel) rfl (by exact Nat.le_of_ble_eq_true rfl) dX4_begin_23 (fun r23 h23 p23 => ?_) (fun _ _ q => q.elim)
  obtain ⟨rfl, rfl⟩ := p23
  have g3 := (hset_ne (h := hset h a (la, oExc mq sq wq ((2 ^ e - 1 : Nat) : Int) br bf bs be)) (x := (lm, aI .byte 1024 (fun _ => 0))) ham).trans g1
  dsimp only [Option.toList, List.cons_append, List.nil_append]
  refine wa_aload_n hX (i := 0) dX4_begin_26 rfl rfl ?_
  refine wi_iconst hX dX4_begin_27 ?_
  refine wa_put hX 4 g3 (Nat.le_of_ble_eq_true rfl) (by decide +kernel) (by rfl) (by rfl) (by rfl) dX4_begin_28 ?_
  refine wa_vret hX dX4_begin_31 ?_
  exact ⟨rfl, hset_eq, (hset_ne ham.symm).trans hset_eq, fun b h1 h2 => (hset_ne h1).trans ((hset_ne h2).trans (hset_ne h1))⟩
set_option maxRecDepth 100000 in
theorem c_X4_mark (hW : WOK l D S0) (d : Nat) {h : AH} {a la mq sq wq lm e s : Nat} {br bf bs be : Int} {M : Nat → Bool} (h1 : h a = some (la, oExc mq sq wq ((2 ^ e - 1 : Nat) : Int) br bf bs be)) (h2 : h mq = some (lm, aM 1024 M)) (he : e ≤ 10) (hs : s < 2 ^ e) : MA l D S0 yX4_mark cX4_mark 2 none d [.ref a, I (s : Int)] h 0 0 (fun r h' => r = none ∧ h' = hset h mq (lm, aM 1024 (fun j => M j || s == j))) (fun _ _ => False) := by
  have hp := p2_le he
  have hp0 := p2_pos e
  refine MA.start hW (by decide) [.val (.ref a), .val (I (s : Int))] rfl ?_
  rintro X rfl rfl rfl hX
  refine wa_iload_n hX (i := 1) dX4_mark_0 rfl rfl ?_
  refine wi_if_lt hX (tgt := 28) dX4_mark_1 (by decide) (by omega) (fun c1 => ?_) (fun c1 => ?_)
  · skip
    refine wa_vret hX dX4_mark_28 ?_
    first | (exfalso; omega) | exact ⟨rfl, rfl⟩
  · skip
    refine wa_iload_n hX (i := 1) dX4_mark_4 rfl rfl ?_
    refine wa_aload_n hX (i := 0) dX4_mark_5 rfl rfl ?_
    refine wa_get hX 3 (by assumption) (by rfl) (by decide +kernel) dX4_mark_6 ?_
    refine wi_icmp_gt hX (tgt := 28) dX4_mark_9 (by decide) (by omega) (by omega) (fun c9 => ?_) (fun c9 => ?_)
    · skip
      refine wa_vret hX dX4_mark_28 ?_
      first | (exfalso; omega) | exact ⟨rfl, rfl⟩
    · skip
      refine wa_iload_n hX (i := 1) dX4_mark_12 rfl rfl ?_
      refine wa_aload_n hX (i := 0) dX4_mark_13 rfl rfl ?_
      refine wa_get hX 0 (by assumption) (by rfl) (by decide +kernel) dX4_mark_14 ?_
      refine wa_len hX (by assumption) dX4_mark_17 ?_
      refine wi_icmp_ge hX (tgt := 28) dX4_mark_18 (by decide) (by omega) (by omega) (fun c18 => ?_) (fun c18 => ?_)
      · skip
        refine wa_vret hX dX4_mark_28 ?_
        first | (exfalso; omega) | exact ⟨rfl, rfl⟩
      · skip
        refine wa_aload_n hX (i := 0) dX4_mark_21 rfl rfl ?_
        refine wa_get hX 0 (by assumption) (by rfl) (by decide +kernel) dX4_mark_22 ?_
        refine wa_iload_n hX (i := 1) dX4_mark_25 rfl rfl ?_
        refine wi_iconst hX dX4_mark_26 ?_
        refine wi_bastore hX h2 (by omega) (by omega) (by omega) (by rfl) dX4_mark_27 ?_
        refine WA.ext9 (fun j => ((b2n (M j || s == j) : Nat) : Int)) hset_eq (fun j hj => by
          rw [up_is, Int.toNat_natCast]
          by_cases e9 : j = s
          · subst e9; rw [if_pos rfl, show (j == j) = true by simp, Bool.or_true]; rfl
          · rw [if_neg e9, show (s == j) = false by simp; omega, Bool.or_false]) ?_
        rw [hset_hset]
        refine wa_vret hX dX4_mark_28 ?_
        first | (exfalso; omega) | exact ⟨rfl, rfl⟩
set_option maxRecDepth 100000 in
theorem c_X4_isMarked (hW : WOK l D S0) (d : Nat) {h : AH} {a la mq sq wq lm s : Nat} {all br bf bs be : Int} {M : Nat → Bool} (h1 : h a = some (la, oExc mq sq wq all br bf bs be)) (h2 : h mq = some (lm, aM 1024 M)) (hs : s < 1024) : MA l D S0 yX4_isMarked cX4_isMarked 2 (some .boolean) (d + 1) [.ref a, I (s : Int)] h 0 0 (fun r h' => r = some (I ((b2n (M s) : Nat) : Int)) ∧ h' = h) (fun _ _ => False) := by
  refine MA.start hW (by decide) [.val (.ref a), .val (I (s : Int))] rfl ?_
  rintro X rfl rfl rfl hX
  refine wa_aload_n hX (i := 0) dX4_isMarked_0 rfl rfl ?_
  refine wa_get hX 0 (by assumption) (by rfl) (by decide +kernel) dX4_isMarked_1 ?_
  refine wa_iload_n hX (i := 1) dX4_isMarked_4 rfl rfl ?_
  refine wa_callS hX (c_X9_at hW d h2 (by decide) (i := (s : Int)) (by omega)) (by rfl) (by omega) (nA := 2) (by rfl) (by decide +kernel) rfl (by exact Nat.le_of_ble_eq_true rfl) dX4_isMarked_5 (fun r5 h5 p5 => ?_) (fun _ _ q => q.elim)
  obtain ⟨rfl, qq5⟩ := p5; subst h5
  rw [atv_in hs]
  dsimp only [Option.toList, List.cons_append, List.nil_append]
  refine wi_if_eq hX (tgt := 15) dX4_isMarked_8 (by decide) (by exact b2n_inR _) (fun c8 => ?_) (fun c8 => ?_)
  · skip
    refine wi_iconst hX dX4_isMarked_15 ?_
    refine wa_zret hX dX4_isMarked_16 (by rfl) ?_
    refine ⟨?_, rfl⟩
    first
      | (rw [b2n_f c8]; rfl)
      | (rw [b2n_t c8]; rfl)
  · skip
    refine wi_iconst hX dX4_isMarked_11 ?_
    refine wa_goto hX (tgt := 16) dX4_isMarked_12 (by decide) ?_
    refine wa_zret hX dX4_isMarked_16 (by rfl) ?_
    refine ⟨?_, rfl⟩
    first
      | (rw [b2n_f c8]; rfl)
      | (rw [b2n_t c8]; rfl)
set_option maxRecDepth 100000 in
theorem c_X4_areOfOneNumber (hW : WOK l D S0) (d : Nat) {h : AH} {a la mq sq wq lm e : Nat} {br bf bs be : Int} {M : Nat → Bool} (h1 : h a = some (la, oExc mq sq wq ((2 ^ e - 1 : Nat) : Int) br bf bs be)) (h2 : h mq = some (lm, aM 1024 M)) (he : e ≤ 10) : MA l D S0 yX4_areOfOneNumber cX4_areOfOneNumber 3 (some .boolean) (d + 2) [.ref a] h 0 0 (fun r h' => (∃ b : Bool, r = some (I ((b2n b : Nat) : Int)) ∧ (b = true ↔ (∃ s, s < 2 ^ e ∧ M s = true) ∧ ∀ s t, s < 2 ^ e → t < 2 ^ e → M s = true → M t = true → bc s = bc t)) ∧ h' = h) (fun _ _ => False) := by
  have hp := p2_le he
  have hp0 := p2_pos e
  refine MA.start hW (by decide) [.val (.ref a), .unset, .unset] rfl ?_
  rintro X rfl rfl rfl hX
  refine wi_iconst hX dX4_areOfOneNumber_0 ?_
  refine wa_istore_n hX (i := 1) dX4_areOfOneNumber_1 rfl rfl ?_
  dsimp only [List.set]
  refine wi_iconst hX dX4_areOfOneNumber_2 ?_
  refine wa_istore_n hX (i := 2) dX4_areOfOneNumber_3 rfl rfl ?_
  dsimp only [List.set]
  refine WA.loop (σ := Nat × Int) (fun z => 2 ^ e - z.1) (fun z => z.1 ≤ 2 ^ e ∧ ((z.2 = -1 ∧ ∀ t, t < z.1 → M t = false) ∨ (0 ≤ z.2 ∧ z.2 ≤ 10 ∧ (∃ t, t < z.1 ∧ M t = true) ∧ ∀ t, t < z.1 → M t = true → ((bc t : Nat) : Int) = z.2))) (fun _ => h) (fun z => [.val (.ref a), .val (I z.2), .val (I (z.1 : Nat))]) ?_ (0, -1) ⟨Nat.zero_le _, Or.inl ⟨rfl, fun t ht => absurd ht (Nat.not_lt_zero t)⟩⟩
  rintro ⟨i, nb⟩ ⟨hi, hI⟩ ih
  dsimp only at hi hI ⊢
  have hbi := bc_le i
  have hnb : -1 ≤ nb ∧ nb ≤ 10 := by rcases hI with ⟨q, -⟩ | ⟨q1, q2, -⟩ <;> omega
  refine wa_iload_n hX (i := 2) dX4_areOfOneNumber_4 rfl rfl ?_
  refine wa_aload_n hX (i := 0) dX4_areOfOneNumber_5 rfl rfl ?_
  refine wa_get hX 3 (by assumption) (by rfl) (by decide +kernel) dX4_areOfOneNumber_6 ?_
  refine wi_icmp_gt hX (tgt := 45) dX4_areOfOneNumber_9 (by decide) (by omega) (by omega) (fun c9 => ?_) (fun c9 => ?_)
  · skip
    refine wa_iload_n hX (i := 1) dX4_areOfOneNumber_45 rfl rfl ?_
    refine wi_if_lt hX (tgt := 53) dX4_areOfOneNumber_46 (by decide) (by omega) (fun c46 => ?_) (fun c46 => ?_)
    · skip
      refine wi_iconst hX dX4_areOfOneNumber_53 ?_
      refine wa_zret hX dX4_areOfOneNumber_54 (by rfl) ?_
      have hie : i = 2 ^ e := by omega
      subst hie
      rcases hI with ⟨q1, q2⟩ | ⟨q1, q2, q3, t3⟩
      · first
          | (exfalso; omega)
          | exact ⟨⟨false, rfl, ⟨fun q => (by cases q), fun q => by
              obtain ⟨s, s1, s2⟩ := q.1
              rw [q2 s s1] at s2
              cases s2⟩⟩, rfl⟩
      · first
          | (exfalso; omega)
          | exact ⟨⟨true, rfl, ⟨fun _ => ⟨q3, fun s t hs ht h8 h9 => by
              have w1 := t3 s hs h8
              have w2 := t3 t ht h9
              omega⟩, fun _ => rfl⟩⟩, rfl⟩
    · skip
      refine wi_iconst hX dX4_areOfOneNumber_49 ?_
      refine wa_goto hX (tgt := 54) dX4_areOfOneNumber_50 (by decide) ?_
      refine wa_zret hX dX4_areOfOneNumber_54 (by rfl) ?_
      have hie : i = 2 ^ e := by omega
      subst hie
      rcases hI with ⟨q1, q2⟩ | ⟨q1, q2, q3, t3⟩
      · first
          | (exfalso; omega)
          | exact ⟨⟨false, rfl, ⟨fun q => (by cases q), fun q => by
              obtain ⟨s, s1, s2⟩ := q.1
              rw [q2 s s1] at s2
              cases s2⟩⟩, rfl⟩
      · first
          | (exfalso; omega)
          | exact ⟨⟨true, rfl, ⟨fun _ => ⟨q3, fun s t hs ht h8 h9 => by
              have w1 := t3 s hs h8
              have w2 := t3 t ht h9
              omega⟩, fun _ => rfl⟩⟩, rfl⟩
  · skip
    refine wa_aload_n hX (i := 0) dX4_areOfOneNumber_12 rfl rfl ?_
    refine wa_iload_n hX (i := 2) dX4_areOfOneNumber_13 rfl rfl ?_
    refine wa_callV hX (c_X4_isMarked hW d h1 h2 (s := i) (by omega)) (by assumption) (by rfl) (by rfl) (by omega) (nA := 1) (by rfl) (by decide +kernel) rfl (by exact Nat.le_of_ble_eq_true rfl) dX4_areOfOneNumber_14 (fun r14 h14 p14 => ?_) (fun _ _ q => q.elim)
    obtain ⟨rfl, qq14⟩ := p14; subst h14
    dsimp only [Option.toList, List.cons_append, List.nil_append]
    refine wi_if_eq hX (tgt := 39) dX4_areOfOneNumber_17 (by decide) (by exact b2n_inR _) (fun c17 => ?_) (fun c17 => ?_)
    · skip
      refine wi_iinc hX dX4_areOfOneNumber_39 rfl ?_
      dsimp only [List.set]
      refine wa_goto hX (tgt := 4) dX4_areOfOneNumber_42 (by decide) ?_
      first
        | (refine ih (i + 1, nb) ⟨by show i + 1 ≤ 2 ^ e; omega, ?_⟩ (by show 2 ^ e - (i + 1) < 2 ^ e - i; omega)
           have hm := b2n_f c17
           dsimp only
           rcases hI with ⟨q1, q2⟩ | ⟨q1, q2, ⟨t, t1, t2⟩, t3⟩
           · refine Or.inl ⟨q1, fun t ht => ?_⟩
             rcases Nat.lt_succ_iff_lt_or_eq.mp ht with q | q
             · exact q2 t q
             · subst q; exact hm
           · refine Or.inr ⟨q1, q2, ⟨t, by omega, t2⟩, fun t ht h9 => ?_⟩
             rcases Nat.lt_succ_iff_lt_or_eq.mp ht with q | q
             · exact t3 t q h9
             · subst q; rw [hm] at h9; cases h9)
        | (refine ih (i + 1, ((bc i : Nat) : Int)) ⟨by show i + 1 ≤ 2 ^ e; omega, ?_⟩ (by show 2 ^ e - (i + 1) < 2 ^ e - i; omega)
           have hm := b2n_t c17
           dsimp only
           refine Or.inr ⟨by omega, by omega, ⟨i, by omega, hm⟩, fun t ht h9 => ?_⟩
           rcases Nat.lt_succ_iff_lt_or_eq.mp ht with q | q
           · rcases hI with ⟨q1, q2⟩ | ⟨q1, q2, -, t3⟩
             · rw [q2 t q] at h9; cases h9
             · have := t3 t q h9
               omega
           · subst q; rfl)
    · skip
      refine wa_iload_n hX (i := 1) dX4_areOfOneNumber_20 rfl rfl ?_
      refine wi_if_lt hX (tgt := 34) dX4_areOfOneNumber_21 (by decide) (by omega) (fun c21 => ?_) (fun c21 => ?_)
      · skip
        refine wa_iload_n hX (i := 2) dX4_areOfOneNumber_34 rfl rfl ?_
        refine wa_callS hX (c_J6_bitCount hW (d + 1) (s := i) (by omega)) (by rfl) (by omega) (nA := 1) (by rfl) (by decide +kernel) rfl (by exact Nat.le_of_ble_eq_true rfl) dX4_areOfOneNumber_35 (fun r35 h35 p35 => ?_) (fun _ _ q => q.elim)
        obtain ⟨rfl, qq35⟩ := p35; subst h35
        dsimp only [Option.toList, List.cons_append, List.nil_append]
        refine wa_istore_n hX (i := 1) dX4_areOfOneNumber_38 rfl rfl ?_
        dsimp only [List.set]
        refine wi_iinc hX dX4_areOfOneNumber_39 rfl ?_
        dsimp only [List.set]
        refine wa_goto hX (tgt := 4) dX4_areOfOneNumber_42 (by decide) ?_
        first
          | (refine ih (i + 1, nb) ⟨by show i + 1 ≤ 2 ^ e; omega, ?_⟩ (by show 2 ^ e - (i + 1) < 2 ^ e - i; omega)
             have hm := b2n_f c17
             dsimp only
             rcases hI with ⟨q1, q2⟩ | ⟨q1, q2, ⟨t, t1, t2⟩, t3⟩
             · refine Or.inl ⟨q1, fun t ht => ?_⟩
               rcases Nat.lt_succ_iff_lt_or_eq.mp ht with q | q
               · exact q2 t q
               · subst q; exact hm
             · refine Or.inr ⟨q1, q2, ⟨t, by omega, t2⟩, fun t ht h9 => ?_⟩
               rcases Nat.lt_succ_iff_lt_or_eq.mp ht with q | q
               · exact t3 t q h9
               · subst q; rw [hm] at h9; cases h9)
          | (refine ih (i + 1, ((bc i : Nat) : Int)) ⟨by show i + 1 ≤ 2 ^ e; omega, ?_⟩ (by show 2 ^ e - (i + 1) < 2 ^ e - i; omega)
             have hm := b2n_t c17
             dsimp only
             refine Or.inr ⟨by omega, by omega, ⟨i, by omega, hm⟩, fun t ht h9 => ?_⟩
             rcases Nat.lt_succ_iff_lt_or_eq.mp ht with q | q
             · rcases hI with ⟨q1, q2⟩ | ⟨q1, q2, -, t3⟩
               · rw [q2 t q] at h9; cases h9
               · have := t3 t q h9
                 omega
             · subst q; rfl)
      · skip
        refine wa_iload_n hX (i := 2) dX4_areOfOneNumber_24 rfl rfl ?_
        refine wa_callS hX (c_J6_bitCount hW (d + 1) (s := i) (by omega)) (by rfl) (by omega) (nA := 1) (by rfl) (by decide +kernel) rfl (by exact Nat.le_of_ble_eq_true rfl) dX4_areOfOneNumber_25 (fun r25 h25 p25 => ?_) (fun _ _ q => q.elim)
        obtain ⟨rfl, qq25⟩ := p25; subst h25
        dsimp only [Option.toList, List.cons_append, List.nil_append]
        refine wa_iload_n hX (i := 1) dX4_areOfOneNumber_28 rfl rfl ?_
        refine wi_icmp_eq hX (tgt := 34) dX4_areOfOneNumber_29 (by decide) (by omega) (by omega) (fun c29 => ?_) (fun c29 => ?_)
        · skip
          refine wa_iload_n hX (i := 2) dX4_areOfOneNumber_34 rfl rfl ?_
          refine wa_callS hX (c_J6_bitCount hW (d + 1) (s := i) (by omega)) (by rfl) (by omega) (nA := 1) (by rfl) (by decide +kernel) rfl (by exact Nat.le_of_ble_eq_true rfl) dX4_areOfOneNumber_35 (fun r35 h35 p35 => ?_) (fun _ _ q => q.elim)
          obtain ⟨rfl, qq35⟩ := p35; subst h35
          dsimp only [Option.toList, List.cons_append, List.nil_append]
          refine wa_istore_n hX (i := 1) dX4_areOfOneNumber_38 rfl rfl ?_
          dsimp only [List.set]
          refine wi_iinc hX dX4_areOfOneNumber_39 rfl ?_
          dsimp only [List.set]
          refine wa_goto hX (tgt := 4) dX4_areOfOneNumber_42 (by decide) ?_
          first
            | (refine ih (i + 1, nb) ⟨by show i + 1 ≤ 2 ^ e; omega, ?_⟩ (by show 2 ^ e - (i + 1) < 2 ^ e - i; omega)
               have hm := b2n_f c17
               dsimp only
               rcases hI with ⟨q1, q2⟩ | ⟨q1, q2, ⟨t, t1, t2⟩, t3⟩
               · refine Or.inl ⟨q1, fun t ht => ?_⟩
                 rcases Nat.lt_succ_iff_lt_or_eq.mp ht with q | q
                 · exact q2 t q
                 · subst q; exact hm
               · refine Or.inr ⟨q1, q2, ⟨t, by omega, t2⟩, fun t ht h9 => ?_⟩
                 rcases Nat.lt_succ_iff_lt_or_eq.mp ht with q | q
                 · exact t3 t q h9
                 · subst q; rw [hm] at h9; cases h9)
            | (refine ih (i + 1, ((bc i : Nat) : Int)) ⟨by show i + 1 ≤ 2 ^ e; omega, ?_⟩ (by show 2 ^ e - (i + 1) < 2 ^ e - i; omega)
               have hm := b2n_t c17
               dsimp only
               refine Or.inr ⟨by omega, by omega, ⟨i, by omega, hm⟩, fun t ht h9 => ?_⟩
               rcases Nat.lt_succ_iff_lt_or_eq.mp ht with q | q
               · rcases hI with ⟨q1, q2⟩ | ⟨q1, q2, -, t3⟩
                 · rw [q2 t q] at h9; cases h9
                 · have := t3 t q h9
                   omega
               · subst q; rfl)
        · skip
          refine wi_iconst hX dX4_areOfOneNumber_32 ?_
          refine wa_zret hX dX4_areOfOneNumber_33 (by rfl) ?_
          refine ⟨⟨false, rfl, ⟨fun q => (by cases q), fun q => ?_⟩⟩, rfl⟩
          exfalso
          rcases hI with ⟨q1, -⟩ | ⟨-, -, ⟨t, t1, t2⟩, t3⟩
          · omega
          · have q2 := q.2 i t (by omega) (by omega) (b2n_t c17) t2
            have q3 := t3 t t1 t2
            omega
end C37
