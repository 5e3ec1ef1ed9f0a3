/-! Circuitfold$Tables (X9): sorts, marks, ranks of marks -/
def b2n (b : Bool) : Nat := if b then 1 else 0
theorem b2n_le (b : Bool) : b2n b ≤ 1 := by cases b <;> decide
theorem b2n_and1 (b : Bool) : b2n b &&& 1 = b2n b := by cases b <;> rfl
theorem b2n_t {b : Bool} (h : ¬ ((b2n b : Nat) : Int) = 0) : b = true := by cases b with
  | true => rfl
  | false => exact absurd rfl h
theorem b2n_f {b : Bool} (h : ((b2n b : Nat) : Int) = 0) : b = false := by cases b with
  | false => rfl
  | true => exact absurd h (by decide)
theorem p2_shl (k : Nat) : 2 ^ k <<< 1 = 2 ^ (k + 1) := by rw [Nat.shiftLeft_eq, Nat.pow_one, ← Nat.pow_succ]
/-- p holds of all numbers below n -/
def allB (p : Nat → Bool) : Nat → Bool
  | 0 => true
  | n + 1 => allB p n && p n
theorem allB_succ {p : Nat → Bool} {n : Nat} : allB p (n + 1) = (allB p n && p n) := rfl
theorem allB_iff {p : Nat → Bool} {n : Nat} : allB p n = true ↔ ∀ k, k < n → p k = true := by
  induction n with
  | zero => exact ⟨fun _ k hk => absurd hk (Nat.not_lt_zero k), fun _ => rfl⟩
  | succ n ih =>
    show (allB p n && p n) = true ↔ _
    rw [Bool.and_eq_true, ih]
    constructor
    · rintro ⟨h1, h2⟩ k hk
      rcases Nat.lt_succ_iff_lt_or_eq.mp hk with e | e
      · exact h1 k e
      · subst e; exact h2
    · intro h
      exact ⟨fun k hk => h k (by omega), h n (by omega)⟩
/-- p holds of a number below n -/
def anyB (p : Nat → Bool) : Nat → Bool
  | 0 => false
  | n + 1 => anyB p n || p n
theorem anyB_succ {p : Nat → Bool} {n : Nat} : anyB p (n + 1) = (anyB p n || p n) := rfl
theorem anyB_iff {p : Nat → Bool} {n : Nat} : anyB p n = true ↔ ∃ k, k < n ∧ p k = true := by
  induction n with
  | zero => exact ⟨fun h => (by cases h), fun ⟨k, hk, _⟩ => absurd hk (Nat.not_lt_zero k)⟩
  | succ n ih =>
    show (anyB p n || p n) = true ↔ _
    rw [Bool.or_eq_true, ih]
    constructor
    · rintro (⟨k, h1, h2⟩ | h)
      · exact ⟨k, by omega, h2⟩
      · exact ⟨n, by omega, h⟩
    · rintro ⟨k, h1, h2⟩
      rcases Nat.lt_succ_iff_lt_or_eq.mp h1 with e | e
      · exact Or.inl ⟨k, e, h2⟩
      · subst e; exact Or.inr h2
theorem anyB_f {p : Nat → Bool} {n : Nat} (h : ∀ k, k < n → p k = false) : anyB p n = false := by
  cases e : anyB p n with
  | false => rfl
  | true =>
    obtain ⟨k, h1, h2⟩ := anyB_iff.mp e
    rw [h k h1] at h2
    cases h2
theorem p2_inv {k e : Nat} (h : 2 ^ k < 2 ^ e) : k < e := by
  by_cases q : k < e
  · exact q
  · exact absurd (Nat.pow_le_pow_right (show 2 > 0 by omega) (show e ≤ k by omega)) (by omega)
theorem p2_mono {k e : Nat} (h : k ≤ e) : 2 ^ k ≤ 2 ^ e := Nat.pow_le_pow_right (by omega) h
def numN (rk : Nat → Nat) (e s : Nat) : Nat := if rk s ≠ bc s then 0 else if rk (2 ^ e - 1) = bc s then 3 else 1
def flatN (rk : Nat → Nat) (e s : Nat) : Bool := allB (fun k => s.testBit k || decide (rk s < rk (s ^^^ 2 ^ k))) e
def circN (rk : Nat → Nat) (e s : Nat) : Bool := decide (rk s + 1 = bc s) && allB (fun k => !s.testBit k || decide (rk (s ^^^ 2 ^ k) = rk s)) e
def nbrN (rk : Nat → Nat) (e s : Nat) : Nat := (if circN rk e s then 4 else 0) ||| (if flatN rk e s then (if rk s + 1 = rk (2 ^ e - 1) then 24 else 8) else 0)
def sortN (rk : Nat → Nat) (e s : Nat) : Nat := numN rk e s ||| nbrN rk e s
theorem numN_lt (rk : Nat → Nat) (e s : Nat) : numN rk e s < 2 ^ 5 := by
  unfold numN; split
  · decide
  · split <;> decide
theorem nbrN_lt (rk : Nat → Nat) (e s : Nat) : nbrN rk e s < 2 ^ 5 := by
  unfold nbrN
  refine or_lt ?_ ?_
  · split <;> decide
  · split
    · split <;> decide
    · decide
theorem sortN_lt (rk : Nat → Nat) (e s : Nat) : sortN rk e s < 32 := or_lt (e := 5) (numN_lt rk e s) (nbrN_lt rk e s)
section C24
variable {l : Launch} {D : va_G} {S0 : State}
set_option maxRecDepth 100000 in
theorem c_X9_sortsByNumber (hW : WOK l D S0) (d : Nat) {h : AH} {q lq e s : Nat} {rk : Nat → Nat} (h1 : h q = some (lq, aB e rk)) (he : e ≤ 10) (hs : s < 2 ^ e) (hrk : ∀ s, s < 2 ^ e → rk s ≤ 10) : MA l D S0 yX9_sortsByNumber cX9_sortsByNumber 3 (some .int) (d + 1) [.ref q, I (s : Int)] h 0 0 (fun r h' => r = some (I (numN rk e s : Nat)) ∧ h' = h) (fun _ _ => False) := by
  have hp := p2_le he
  have hp0 := p2_pos e
  have hb := bc_le s
  have hr1 := hrk s hs
  have hr2 := hrk (2 ^ e - 1) (by omega)
  refine MA.start hW (by decide) [.val (.ref q), .val (I (s : Int)), .unset] rfl ?_
  rintro X rfl rfl rfl hX
  refine wa_iload_n hX (i := 1) dX9_sortsByNumber_0 rfl rfl ?_
  refine wa_callS hX (c_J6_bitCount hW d (s := s) (by omega)) (by rfl) (by omega) (nA := 1) (by rfl) (by decide +kernel) rfl (by exact Nat.le_of_ble_eq_true rfl) dX9_sortsByNumber_1 (fun r1 h1 p1 => ?_) (fun _ _ q => q.elim)
  obtain ⟨rfl, qq1⟩ := p1; subst h1
  dsimp only [Option.toList, List.cons_append, List.nil_append]
  refine wa_istore_n hX (i := 2) dX9_sortsByNumber_4 rfl rfl ?_
  dsimp only [List.set]
  refine wa_aload_n hX (i := 0) dX9_sortsByNumber_5 rfl rfl ?_
  refine wa_iload_n hX (i := 1) dX9_sortsByNumber_6 rfl rfl ?_
  refine wa_callS hX (c_X9_rk hW d h1 he hs) (by rfl) (by omega) (nA := 2) (by rfl) (by decide +kernel) rfl (by exact Nat.le_of_ble_eq_true rfl) dX9_sortsByNumber_7 (fun r7 h7 p7 => ?_) (fun _ _ q => q.elim)
  obtain ⟨rfl, qq7⟩ := p7; subst h7
  dsimp only [Option.toList, List.cons_append, List.nil_append]
  refine wa_iload_n hX (i := 2) dX9_sortsByNumber_10 rfl rfl ?_
  refine wi_icmp_eq hX (tgt := 16) dX9_sortsByNumber_11 (by decide) (by omega) (by omega) (fun c11 => ?_) (fun c11 => ?_)
  · skip
    refine wa_aload_n hX (i := 0) dX9_sortsByNumber_16 rfl rfl ?_
    refine wa_aload_n hX (i := 0) dX9_sortsByNumber_17 rfl rfl ?_
    refine wa_len hX (by assumption) dX9_sortsByNumber_18 ?_
    refine wi_iconst hX dX9_sortsByNumber_19 ?_
    refine wi_isub hX dX9_sortsByNumber_20 ?_
    rw [show (((2 ^ e : Nat) : Int) - 1) = ((2 ^ e - 1 : Nat) : Int) by omega]
    refine wa_callS hX (c_X9_rk hW d h1 he (s := 2 ^ e - 1) (by omega)) (by rfl) (by omega) (nA := 2) (by rfl) (by decide +kernel) rfl (by exact Nat.le_of_ble_eq_true rfl) dX9_sortsByNumber_21 (fun r21 h21 p21 => ?_) (fun _ _ q => q.elim)
    obtain ⟨rfl, qq21⟩ := p21; subst h21
    dsimp only [Option.toList, List.cons_append, List.nil_append]
    refine wa_iload_n hX (i := 2) dX9_sortsByNumber_24 rfl rfl ?_
    refine wi_icmp_ne hX (tgt := 32) dX9_sortsByNumber_25 (by decide) (by omega) (by omega) (fun c25 => ?_) (fun c25 => ?_)
    · skip
      refine wi_iconst hX dX9_sortsByNumber_32 ?_
      refine wa_iret hX dX9_sortsByNumber_33 ?_
      refine ⟨?_, rfl⟩
      unfold numN
      first
        | rw [if_pos (by omega)]; rfl
        | rw [if_neg (by omega), if_pos (by omega)]; rfl
        | rw [if_neg (by omega), if_neg (by omega)]; rfl
    · skip
      refine wi_iconst hX dX9_sortsByNumber_28 ?_
      refine wa_goto hX (tgt := 33) dX9_sortsByNumber_29 (by decide) ?_
      refine wa_iret hX dX9_sortsByNumber_33 ?_
      refine ⟨?_, rfl⟩
      unfold numN
      first
        | rw [if_pos (by omega)]; rfl
        | rw [if_neg (by omega), if_pos (by omega)]; rfl
        | rw [if_neg (by omega), if_neg (by omega)]; rfl
  · skip
    refine wi_iconst hX dX9_sortsByNumber_14 ?_
    refine wa_iret hX dX9_sortsByNumber_15 ?_
    refine ⟨?_, rfl⟩
    unfold numN
    first
      | rw [if_pos (by omega)]; rfl
      | rw [if_neg (by omega), if_pos (by omega)]; rfl
      | rw [if_neg (by omega), if_neg (by omega)]; rfl
set_option maxRecDepth 100000 in
theorem c_X9_sortsByNeighbours (hW : WOK l D S0) (d : Nat) {h : AH} {q lq e s : Nat} {rk : Nat → Nat} (h1 : h q = some (lq, aB e rk)) (he : e ≤ 10) (hs : s < 2 ^ e) (hrk : ∀ s, s < 2 ^ e → rk s ≤ 10) : MA l D S0 yX9_sortsByNeighbours cX9_sortsByNeighbours 7 (some .int) (d + 1) [.ref q, I (s : Int)] h 0 0 (fun r h' => r = some (I (nbrN rk e s : Nat)) ∧ h' = h) (fun _ _ => False) := by
  have hp := p2_le he
  have hp0 := p2_pos e
  have hb := bc_le s
  have hr1 := hrk s hs
  have hr2 := hrk (2 ^ e - 1) (by omega)
  refine MA.start hW (by decide) [.val (.ref q), .val (I (s : Int)), .unset, .unset, .unset, .unset, .unset] rfl ?_
  rintro X rfl rfl rfl hX
  refine wa_aload_n hX (i := 0) dX9_sortsByNeighbours_0 rfl rfl ?_
  refine wa_iload_n hX (i := 1) dX9_sortsByNeighbours_1 rfl rfl ?_
  refine wa_callS hX (c_X9_rk hW d h1 he hs) (by rfl) (by omega) (nA := 2) (by rfl) (by decide +kernel) rfl (by exact Nat.le_of_ble_eq_true rfl) dX9_sortsByNeighbours_2 (fun r2 h2 p2 => ?_) (fun _ _ q => q.elim)
  obtain ⟨rfl, qq2⟩ := p2; subst h2
  dsimp only [Option.toList, List.cons_append, List.nil_append]
  refine wa_istore_n hX (i := 2) dX9_sortsByNeighbours_5 rfl (by first | rfl | exact hu1 | exact hu2 | exact hu3 | exact hu4) ?_
  dsimp only [List.set]
  refine wi_iconst hX dX9_sortsByNeighbours_6 ?_
  refine wa_istore_n hX (i := 3) dX9_sortsByNeighbours_7 rfl (by first | rfl | exact hu1 | exact hu2 | exact hu3 | exact hu4) ?_
  dsimp only [List.set]
  refine wa_iload_n hX (i := 2) dX9_sortsByNeighbours_8 rfl rfl ?_
  refine wa_iload_n hX (i := 1) dX9_sortsByNeighbours_9 rfl rfl ?_
  refine wa_callS hX (c_J6_bitCount hW d (s := s) (by omega)) (by rfl) (by omega) (nA := 1) (by rfl) (by decide +kernel) rfl (by exact Nat.le_of_ble_eq_true rfl) dX9_sortsByNeighbours_10 (fun r10 h10 p10 => ?_) (fun _ _ q => q.elim)
  obtain ⟨rfl, qq10⟩ := p10; subst h10
  dsimp only [Option.toList, List.cons_append, List.nil_append]
  refine wi_iconst hX dX9_sortsByNeighbours_13 ?_
  refine wi_isub hX dX9_sortsByNeighbours_14 ?_
  refine wi_icmp_ne hX (tgt := 22) dX9_sortsByNeighbours_15 (by decide) (by omega) (by omega) (fun c15 => ?_) (fun c15 => ?_)
  · skip
    refine wi_iconst hX dX9_sortsByNeighbours_22 ?_
    refine WA.eq (ls2 := [.val (.ref q), .val (I (s : Int)), .val (I (rk s : Nat)), .val (I 1), .unset, .unset, .unset]) (st2 := [I ((b2n (decide (rk s + 1 = bc s)) : Nat) : Int)]) rfl rfl (by first | rw [decide_eq_true (by omega)]; rfl | rw [decide_eq_false (by omega)]; rfl) ?_
    refine wa_istore hX dX9_sortsByNeighbours_23 (by first | rfl | exact hu1 | exact hu2 | exact hu3 | exact hu4) ?_
    dsimp only [List.set]
    refine wi_iconst hX dX9_sortsByNeighbours_25 ?_
    refine wa_istore hX dX9_sortsByNeighbours_26 (by first | rfl | exact hu1 | exact hu2 | exact hu3 | exact hu4) ?_
    dsimp only [List.set]
    refine WA.eq rfl (by simp [b2n, allB]) rfl (WA.loop (σ := Nat × Slot) (fun z => e - z.1) (fun z => z.1 ≤ e ∧ okS [z.2] 0 = true) (fun _ => h) (fun z => [.val (.ref q), .val (I (s : Int)), .val (I (rk s : Nat)), .val (I ((b2n (allB (fun k => s.testBit k || decide (rk s < rk (s ^^^ 2 ^ k))) z.1) : Nat) : Int)), .val (I ((b2n (decide (rk s + 1 = bc s) && allB (fun k => !s.testBit k || decide (rk (s ^^^ 2 ^ k) = rk s)) z.1) : Nat) : Int)), .val (I ((2 ^ z.1 : Nat) : Int)), z.2]) ?_ (0, .unset) ⟨Nat.zero_le _, rfl⟩)
    rintro ⟨k, u1⟩ ⟨hk, hu1⟩ ih
    dsimp only at hk hu1 ⊢
    have hpk := p2_mono hk
    have hpk0 := p2_pos k
    refine wa_iload hX dX9_sortsByNeighbours_28 rfl ?_
    refine wa_aload_n hX (i := 0) dX9_sortsByNeighbours_30 rfl rfl ?_
    refine wa_len hX (by assumption) dX9_sortsByNeighbours_31 ?_
    refine wi_icmp_ge hX (tgt := 94) dX9_sortsByNeighbours_32 (by decide) (by omega) (by omega) (fun c32 => ?_) (fun c32 => ?_)
    · skip
      refine wa_iload hX dX9_sortsByNeighbours_94 rfl ?_
      refine wi_if_eq hX (tgt := 103) dX9_sortsByNeighbours_96 (by decide) (by have := b2n_le (decide (rk s + 1 = bc s) && allB (fun k => !s.testBit k || decide (rk (s ^^^ 2 ^ k) = rk s)) k); omega) (fun c96 => ?_) (fun c96 => ?_)
      · skip
        refine wi_iconst hX dX9_sortsByNeighbours_103 ?_
        refine wa_istore hX dX9_sortsByNeighbours_104 (by first | rfl | exact hu1 | exact hu2 | exact hu3 | exact hu4) ?_
        dsimp only [List.set]
        refine wa_iload_n hX (i := 3) dX9_sortsByNeighbours_106 rfl rfl ?_
        refine wi_if_eq hX (tgt := 136) dX9_sortsByNeighbours_107 (by decide) (by have := b2n_le (allB (fun k => s.testBit k || decide (rk s < rk (s ^^^ 2 ^ k))) k); omega) (fun c107 => ?_) (fun c107 => ?_)
        · skip
          refine wa_iload hX dX9_sortsByNeighbours_136 rfl ?_
          refine wa_iret hX dX9_sortsByNeighbours_138 ?_
          refine ⟨?_, rfl⟩
          have hke : k = e := by
            by_cases q : k < e
            · exact absurd (bit_lt q) (by omega)
            · omega
          subst hke
          unfold nbrN
          first
            | rw [if_pos (show circN rk k s = true from b2n_t c96), if_pos (show flatN rk k s = true from b2n_t c107), if_pos (by omega)] <;> rfl
            | rw [if_pos (show circN rk k s = true from b2n_t c96), if_pos (show flatN rk k s = true from b2n_t c107), if_neg (by omega)] <;> rfl
            | rw [if_pos (show circN rk k s = true from b2n_t c96), if_neg (show ¬ flatN rk k s = true from fun z => absurd z (by rw [show flatN rk k s = false from b2n_f c107]; decide))] <;> rfl
            | rw [if_neg (show ¬ circN rk k s = true from fun z => absurd z (by rw [show circN rk k s = false from b2n_f c96]; decide)), if_pos (show flatN rk k s = true from b2n_t c107), if_pos (by omega)] <;> rfl
            | rw [if_neg (show ¬ circN rk k s = true from fun z => absurd z (by rw [show circN rk k s = false from b2n_f c96]; decide)), if_pos (show flatN rk k s = true from b2n_t c107), if_neg (by omega)] <;> rfl
            | rw [if_neg (show ¬ circN rk k s = true from fun z => absurd z (by rw [show circN rk k s = false from b2n_f c96]; decide)), if_neg (show ¬ flatN rk k s = true from fun z => absurd z (by rw [show flatN rk k s = false from b2n_f c107]; decide))] <;> rfl
        · skip
          refine wa_iload hX dX9_sortsByNeighbours_110 rfl ?_
          refine wa_iload_n hX (i := 2) dX9_sortsByNeighbours_112 rfl rfl ?_
          refine wa_aload_n hX (i := 0) dX9_sortsByNeighbours_113 rfl rfl ?_
          refine wa_aload_n hX (i := 0) dX9_sortsByNeighbours_114 rfl rfl ?_
          refine wa_len hX (by assumption) dX9_sortsByNeighbours_115 ?_
          refine wi_iconst hX dX9_sortsByNeighbours_116 ?_
          refine wi_isub hX dX9_sortsByNeighbours_117 ?_
          rw [show (((2 ^ e : Nat) : Int) - 1) = ((2 ^ e - 1 : Nat) : Int) by omega]
          refine wa_callS hX (c_X9_rk hW d h1 he (s := 2 ^ e - 1) (by omega)) (by rfl) (by omega) (nA := 2) (by rfl) (by decide +kernel) rfl (by exact Nat.le_of_ble_eq_true rfl) dX9_sortsByNeighbours_118 (fun r118 h118 p118 => ?_) (fun _ _ q => q.elim)
          obtain ⟨rfl, qq118⟩ := p118; subst h118
          dsimp only [Option.toList, List.cons_append, List.nil_append]
          refine wi_iconst hX dX9_sortsByNeighbours_121 ?_
          refine wi_isub hX dX9_sortsByNeighbours_122 ?_
          refine wi_icmp_ne hX (tgt := 131) dX9_sortsByNeighbours_123 (by decide) (by omega) (by omega) (fun c123 => ?_) (fun c123 => ?_)
          · skip
            refine wi_bipush hX dX9_sortsByNeighbours_131 (by decide) ?_
            first | refine wn_ior hX (a := 4) (b := 24) dX9_sortsByNeighbours_133 rfl rfl ?_ | refine wn_ior hX (a := 4) (b := 8) dX9_sortsByNeighbours_133 rfl rfl ?_ | refine wn_ior hX (a := 0) (b := 24) dX9_sortsByNeighbours_133 rfl rfl ?_ | refine wn_ior hX (a := 0) (b := 8) dX9_sortsByNeighbours_133 rfl rfl ?_
            refine wa_istore hX dX9_sortsByNeighbours_134 (by first | rfl | exact hu1 | exact hu2 | exact hu3 | exact hu4) ?_
            dsimp only [List.set]
            refine wa_iload hX dX9_sortsByNeighbours_136 rfl ?_
            refine wa_iret hX dX9_sortsByNeighbours_138 ?_
            refine ⟨?_, rfl⟩
            have hke : k = e := by
              by_cases q : k < e
              · exact absurd (bit_lt q) (by omega)
              · omega
            subst hke
            unfold nbrN
            first
              | rw [if_pos (show circN rk k s = true from b2n_t c96), if_pos (show flatN rk k s = true from b2n_t c107), if_pos (by omega)] <;> rfl
              | rw [if_pos (show circN rk k s = true from b2n_t c96), if_pos (show flatN rk k s = true from b2n_t c107), if_neg (by omega)] <;> rfl
              | rw [if_pos (show circN rk k s = true from b2n_t c96), if_neg (show ¬ flatN rk k s = true from fun z => absurd z (by rw [show flatN rk k s = false from b2n_f c107]; decide))] <;> rfl
              | rw [if_neg (show ¬ circN rk k s = true from fun z => absurd z (by rw [show circN rk k s = false from b2n_f c96]; decide)), if_pos (show flatN rk k s = true from b2n_t c107), if_pos (by omega)] <;> rfl
              | rw [if_neg (show ¬ circN rk k s = true from fun z => absurd z (by rw [show circN rk k s = false from b2n_f c96]; decide)), if_pos (show flatN rk k s = true from b2n_t c107), if_neg (by omega)] <;> rfl
              | rw [if_neg (show ¬ circN rk k s = true from fun z => absurd z (by rw [show circN rk k s = false from b2n_f c96]; decide)), if_neg (show ¬ flatN rk k s = true from fun z => absurd z (by rw [show flatN rk k s = false from b2n_f c107]; decide))] <;> rfl
          · skip
            refine wi_bipush hX dX9_sortsByNeighbours_126 (by decide) ?_
            refine wa_goto hX (tgt := 133) dX9_sortsByNeighbours_128 (by decide) ?_
            first | refine wn_ior hX (a := 4) (b := 24) dX9_sortsByNeighbours_133 rfl rfl ?_ | refine wn_ior hX (a := 4) (b := 8) dX9_sortsByNeighbours_133 rfl rfl ?_ | refine wn_ior hX (a := 0) (b := 24) dX9_sortsByNeighbours_133 rfl rfl ?_ | refine wn_ior hX (a := 0) (b := 8) dX9_sortsByNeighbours_133 rfl rfl ?_
            refine wa_istore hX dX9_sortsByNeighbours_134 (by first | rfl | exact hu1 | exact hu2 | exact hu3 | exact hu4) ?_
            dsimp only [List.set]
            refine wa_iload hX dX9_sortsByNeighbours_136 rfl ?_
            refine wa_iret hX dX9_sortsByNeighbours_138 ?_
            refine ⟨?_, rfl⟩
            have hke : k = e := by
              by_cases q : k < e
              · exact absurd (bit_lt q) (by omega)
              · omega
            subst hke
            unfold nbrN
            first
              | rw [if_pos (show circN rk k s = true from b2n_t c96), if_pos (show flatN rk k s = true from b2n_t c107), if_pos (by omega)] <;> rfl
              | rw [if_pos (show circN rk k s = true from b2n_t c96), if_pos (show flatN rk k s = true from b2n_t c107), if_neg (by omega)] <;> rfl
              | rw [if_pos (show circN rk k s = true from b2n_t c96), if_neg (show ¬ flatN rk k s = true from fun z => absurd z (by rw [show flatN rk k s = false from b2n_f c107]; decide))] <;> rfl
              | rw [if_neg (show ¬ circN rk k s = true from fun z => absurd z (by rw [show circN rk k s = false from b2n_f c96]; decide)), if_pos (show flatN rk k s = true from b2n_t c107), if_pos (by omega)] <;> rfl
              | rw [if_neg (show ¬ circN rk k s = true from fun z => absurd z (by rw [show circN rk k s = false from b2n_f c96]; decide)), if_pos (show flatN rk k s = true from b2n_t c107), if_neg (by omega)] <;> rfl
              | rw [if_neg (show ¬ circN rk k s = true from fun z => absurd z (by rw [show circN rk k s = false from b2n_f c96]; decide)), if_neg (show ¬ flatN rk k s = true from fun z => absurd z (by rw [show flatN rk k s = false from b2n_f c107]; decide))] <;> rfl
      · skip
        refine wi_iconst hX dX9_sortsByNeighbours_99 ?_
        refine wa_goto hX (tgt := 104) dX9_sortsByNeighbours_100 (by decide) ?_
        refine wa_istore hX dX9_sortsByNeighbours_104 (by first | rfl | exact hu1 | exact hu2 | exact hu3 | exact hu4) ?_
        dsimp only [List.set]
        refine wa_iload_n hX (i := 3) dX9_sortsByNeighbours_106 rfl rfl ?_
        refine wi_if_eq hX (tgt := 136) dX9_sortsByNeighbours_107 (by decide) (by have := b2n_le (allB (fun k => s.testBit k || decide (rk s < rk (s ^^^ 2 ^ k))) k); omega) (fun c107 => ?_) (fun c107 => ?_)
        · skip
          refine wa_iload hX dX9_sortsByNeighbours_136 rfl ?_
          refine wa_iret hX dX9_sortsByNeighbours_138 ?_
          refine ⟨?_, rfl⟩
          have hke : k = e := by
            by_cases q : k < e
            · exact absurd (bit_lt q) (by omega)
            · omega
          subst hke
          unfold nbrN
          first
            | rw [if_pos (show circN rk k s = true from b2n_t c96), if_pos (show flatN rk k s = true from b2n_t c107), if_pos (by omega)] <;> rfl
            | rw [if_pos (show circN rk k s = true from b2n_t c96), if_pos (show flatN rk k s = true from b2n_t c107), if_neg (by omega)] <;> rfl
            | rw [if_pos (show circN rk k s = true from b2n_t c96), if_neg (show ¬ flatN rk k s = true from fun z => absurd z (by rw [show flatN rk k s = false from b2n_f c107]; decide))] <;> rfl
            | rw [if_neg (show ¬ circN rk k s = true from fun z => absurd z (by rw [show circN rk k s = false from b2n_f c96]; decide)), if_pos (show flatN rk k s = true from b2n_t c107), if_pos (by omega)] <;> rfl
            | rw [if_neg (show ¬ circN rk k s = true from fun z => absurd z (by rw [show circN rk k s = false from b2n_f c96]; decide)), if_pos (show flatN rk k s = true from b2n_t c107), if_neg (by omega)] <;> rfl
            | rw [if_neg (show ¬ circN rk k s = true from fun z => absurd z (by rw [show circN rk k s = false from b2n_f c96]; decide)), if_neg (show ¬ flatN rk k s = true from fun z => absurd z (by rw [show flatN rk k s = false from b2n_f c107]; decide))] <;> rfl
        · skip
          refine wa_iload hX dX9_sortsByNeighbours_110 rfl ?_
          refine wa_iload_n hX (i := 2) dX9_sortsByNeighbours_112 rfl rfl ?_
          refine wa_aload_n hX (i := 0) dX9_sortsByNeighbours_113 rfl rfl ?_
          refine wa_aload_n hX (i := 0) dX9_sortsByNeighbours_114 rfl rfl ?_
          refine wa_len hX (by assumption) dX9_sortsByNeighbours_115 ?_
          refine wi_iconst hX dX9_sortsByNeighbours_116 ?_
          refine wi_isub hX dX9_sortsByNeighbours_117 ?_
          rw [show (((2 ^ e : Nat) : Int) - 1) = ((2 ^ e - 1 : Nat) : Int) by omega]
          refine wa_callS hX (c_X9_rk hW d h1 he (s := 2 ^ e - 1) (by omega)) (by rfl) (by omega) (nA := 2) (by rfl) (by decide +kernel) rfl (by exact Nat.le_of_ble_eq_true rfl) dX9_sortsByNeighbours_118 (fun r118 h118 p118 => ?_) (fun _ _ q => q.elim)
          obtain ⟨rfl, qq118⟩ := p118; subst h118
          dsimp only [Option.toList, List.cons_append, List.nil_append]
          refine wi_iconst hX dX9_sortsByNeighbours_121 ?_
          refine wi_isub hX dX9_sortsByNeighbours_122 ?_
          refine wi_icmp_ne hX (tgt := 131) dX9_sortsByNeighbours_123 (by decide) (by omega) (by omega) (fun c123 => ?_) (fun c123 => ?_)
          · skip
            refine wi_bipush hX dX9_sortsByNeighbours_131 (by decide) ?_
            first | refine wn_ior hX (a := 4) (b := 24) dX9_sortsByNeighbours_133 rfl rfl ?_ | refine wn_ior hX (a := 4) (b := 8) dX9_sortsByNeighbours_133 rfl rfl ?_ | refine wn_ior hX (a := 0) (b := 24) dX9_sortsByNeighbours_133 rfl rfl ?_ | refine wn_ior hX (a := 0) (b := 8) dX9_sortsByNeighbours_133 rfl rfl ?_
            refine wa_istore hX dX9_sortsByNeighbours_134 (by first | rfl | exact hu1 | exact hu2 | exact hu3 | exact hu4) ?_
            dsimp only [List.set]
            refine wa_iload hX dX9_sortsByNeighbours_136 rfl ?_
            refine wa_iret hX dX9_sortsByNeighbours_138 ?_
            refine ⟨?_, rfl⟩
            have hke : k = e := by
              by_cases q : k < e
              · exact absurd (bit_lt q) (by omega)
              · omega
            subst hke
            unfold nbrN
            first
              | rw [if_pos (show circN rk k s = true from b2n_t c96), if_pos (show flatN rk k s = true from b2n_t c107), if_pos (by omega)] <;> rfl
              | rw [if_pos (show circN rk k s = true from b2n_t c96), if_pos (show flatN rk k s = true from b2n_t c107), if_neg (by omega)] <;> rfl
              | rw [if_pos (show circN rk k s = true from b2n_t c96), if_neg (show ¬ flatN rk k s = true from fun z => absurd z (by rw [show flatN rk k s = false from b2n_f c107]; decide))] <;> rfl
              | rw [if_neg (show ¬ circN rk k s = true from fun z => absurd z (by rw [show circN rk k s = false from b2n_f c96]; decide)), if_pos (show flatN rk k s = true from b2n_t c107), if_pos (by omega)] <;> rfl
              | rw [if_neg (show ¬ circN rk k s = true from fun z => absurd z (by rw [show circN rk k s = false from b2n_f c96]; decide)), if_pos (show flatN rk k s = true from b2n_t c107), if_neg (by omega)] <;> rfl
              | rw [if_neg (show ¬ circN rk k s = true from fun z => absurd z (by rw [show circN rk k s = false from b2n_f c96]; decide)), if_neg (show ¬ flatN rk k s = true from fun z => absurd z (by rw [show flatN rk k s = false from b2n_f c107]; decide))] <;> rfl
          · skip
            refine wi_bipush hX dX9_sortsByNeighbours_126 (by decide) ?_
            refine wa_goto hX (tgt := 133) dX9_sortsByNeighbours_128 (by decide) ?_
            first | refine wn_ior hX (a := 4) (b := 24) dX9_sortsByNeighbours_133 rfl rfl ?_ | refine wn_ior hX (a := 4) (b := 8) dX9_sortsByNeighbours_133 rfl rfl ?_ | refine wn_ior hX (a := 0) (b := 24) dX9_sortsByNeighbours_133 rfl rfl ?_ | refine wn_ior hX (a := 0) (b := 8) dX9_sortsByNeighbours_133 rfl rfl ?_
            refine wa_istore hX dX9_sortsByNeighbours_134 (by first | rfl | exact hu1 | exact hu2 | exact hu3 | exact hu4) ?_
            dsimp only [List.set]
            refine wa_iload hX dX9_sortsByNeighbours_136 rfl ?_
            refine wa_iret hX dX9_sortsByNeighbours_138 ?_
            refine ⟨?_, rfl⟩
            have hke : k = e := by
              by_cases q : k < e
              · exact absurd (bit_lt q) (by omega)
              · omega
            subst hke
            unfold nbrN
            first
              | rw [if_pos (show circN rk k s = true from b2n_t c96), if_pos (show flatN rk k s = true from b2n_t c107), if_pos (by omega)] <;> rfl
              | rw [if_pos (show circN rk k s = true from b2n_t c96), if_pos (show flatN rk k s = true from b2n_t c107), if_neg (by omega)] <;> rfl
              | rw [if_pos (show circN rk k s = true from b2n_t c96), if_neg (show ¬ flatN rk k s = true from fun z => absurd z (by rw [show flatN rk k s = false from b2n_f c107]; decide))] <;> rfl
              | rw [if_neg (show ¬ circN rk k s = true from fun z => absurd z (by rw [show circN rk k s = false from b2n_f c96]; decide)), if_pos (show flatN rk k s = true from b2n_t c107), if_pos (by omega)] <;> rfl
              | rw [if_neg (show ¬ circN rk k s = true from fun z => absurd z (by rw [show circN rk k s = false from b2n_f c96]; decide)), if_pos (show flatN rk k s = true from b2n_t c107), if_neg (by omega)] <;> rfl
              | rw [if_neg (show ¬ circN rk k s = true from fun z => absurd z (by rw [show circN rk k s = false from b2n_f c96]; decide)), if_neg (show ¬ flatN rk k s = true from fun z => absurd z (by rw [show flatN rk k s = false from b2n_f c107]; decide))] <;> rfl
    · skip
      have hke : k < e := p2_inv (by omega)
      have hx : s ^^^ 2 ^ k < 2 ^ e := Nat.xor_lt_two_pow hs (bit_lt hke)
      have hr3 := hrk _ hx
      refine wa_aload_n hX (i := 0) dX9_sortsByNeighbours_35 rfl rfl ?_
      refine wa_iload_n hX (i := 1) dX9_sortsByNeighbours_36 rfl rfl ?_
      refine wa_iload hX dX9_sortsByNeighbours_37 rfl ?_
      refine wn_ixor hX dX9_sortsByNeighbours_39 (by rfl) (by rfl) ?_
      refine wa_callS hX (c_X9_rk hW d h1 he (s := s ^^^ 2 ^ k) hx) (by rfl) (by omega) (nA := 2) (by rfl) (by decide +kernel) rfl (by exact Nat.le_of_ble_eq_true rfl) dX9_sortsByNeighbours_40 (fun r40 h40 p40 => ?_) (fun _ _ q => q.elim)
      obtain ⟨rfl, qq40⟩ := p40; subst h40
      dsimp only [Option.toList, List.cons_append, List.nil_append]
      refine wa_istore hX dX9_sortsByNeighbours_43 (by first | rfl | exact hu1 | exact hu2 | exact hu3 | exact hu4) ?_
      dsimp only [List.set]
      refine wa_iload_n hX (i := 1) dX9_sortsByNeighbours_45 rfl rfl ?_
      refine wa_iload hX dX9_sortsByNeighbours_46 rfl ?_
      refine wn_iand hX dX9_sortsByNeighbours_48 (by rfl) (by rfl) ?_
      refine wi_if_ne hX (tgt := 69) dX9_sortsByNeighbours_49 (by decide) (by first | omega | exact inR_nat (and_ltl (by omega)) | exact inR_nat (and_ltr (by omega))) (fun c49 => ?_) (fun c49 => ?_)
      · skip
        refine wa_iload hX dX9_sortsByNeighbours_69 rfl ?_
        refine wa_iload hX dX9_sortsByNeighbours_71 rfl ?_
        refine wa_iload_n hX (i := 2) dX9_sortsByNeighbours_73 rfl rfl ?_
        refine wi_icmp_ne hX (tgt := 81) dX9_sortsByNeighbours_74 (by decide) (by omega) (by omega) (fun c74 => ?_) (fun c74 => ?_)
        · skip
          refine wi_iconst hX dX9_sortsByNeighbours_81 ?_
          first | refine wn_iand hX (a := b2n (decide (rk s + 1 = bc s) && allB (fun k => !s.testBit k || decide (rk (s ^^^ 2 ^ k) = rk s)) k)) (b := 1) dX9_sortsByNeighbours_82 rfl rfl ?_ | refine wn_iand hX (a := b2n (decide (rk s + 1 = bc s) && allB (fun k => !s.testBit k || decide (rk (s ^^^ 2 ^ k) = rk s)) k)) (b := 0) dX9_sortsByNeighbours_82 rfl rfl ?_
          refine wa_istore hX dX9_sortsByNeighbours_83 (by first | rfl | exact hu1 | exact hu2 | exact hu3 | exact hu4) ?_
          dsimp only [List.set]
          refine wa_iload hX dX9_sortsByNeighbours_85 rfl ?_
          refine wi_iconst hX dX9_sortsByNeighbours_87 ?_
          refine wn_ishl hX (b := 1) dX9_sortsByNeighbours_88 (by rfl) (by rfl) (by omega) ?_
          refine wa_istore hX dX9_sortsByNeighbours_89 (by first | rfl | exact hu1 | exact hu2 | exact hu3 | exact hu4) ?_
          dsimp only [List.set]
          refine wa_goto hX (tgt := 28) dX9_sortsByNeighbours_91 (by decide) ?_
          rw [p2_shl]
          refine WA.eq rfl ?_ rfl (ih (k + 1, .val (I ((rk (s ^^^ 2 ^ k) : Nat) : Int))) ⟨by show k + 1 ≤ e; omega, rfl⟩ (by show e - (k + 1) < e - k; omega))
          dsimp only
          first
            | (have ht := and_c0 c49; have hd : decide (rk s < rk (s ^^^ 2 ^ k)) = true := decide_eq_true (by omega); rw [allB_succ, allB_succ]; simp only [ht, hd, Bool.false_or, Bool.true_or, Bool.or_true, Bool.and_true, Bool.and_false, Bool.not_true, Bool.not_false, Nat.and_zero, b2n_and1] <;> rfl)
            | (have ht := and_c0 c49; have hd : decide (rk s < rk (s ^^^ 2 ^ k)) = false := decide_eq_false (by omega); rw [allB_succ, allB_succ]; simp only [ht, hd, Bool.false_or, Bool.true_or, Bool.or_true, Bool.and_true, Bool.and_false, Bool.not_true, Bool.not_false, Nat.and_zero, b2n_and1] <;> rfl)
            | (have ht := and_c1 c49; have hd : decide (rk (s ^^^ 2 ^ k) = rk s) = true := decide_eq_true (by omega); rw [allB_succ, allB_succ]; simp only [ht, hd, Bool.false_or, Bool.true_or, Bool.or_true, Bool.and_true, Bool.and_false, Bool.not_true, Bool.not_false, Nat.and_zero, b2n_and1] <;> rfl)
            | (have ht := and_c1 c49; have hd : decide (rk (s ^^^ 2 ^ k) = rk s) = false := decide_eq_false (by omega); rw [allB_succ, allB_succ]; simp only [ht, hd, Bool.false_or, Bool.true_or, Bool.or_true, Bool.and_true, Bool.and_false, Bool.not_true, Bool.not_false, Nat.and_zero, b2n_and1] <;> rfl)
        · skip
          refine wi_iconst hX dX9_sortsByNeighbours_77 ?_
          refine wa_goto hX (tgt := 82) dX9_sortsByNeighbours_78 (by decide) ?_
          first | refine wn_iand hX (a := b2n (decide (rk s + 1 = bc s) && allB (fun k => !s.testBit k || decide (rk (s ^^^ 2 ^ k) = rk s)) k)) (b := 1) dX9_sortsByNeighbours_82 rfl rfl ?_ | refine wn_iand hX (a := b2n (decide (rk s + 1 = bc s) && allB (fun k => !s.testBit k || decide (rk (s ^^^ 2 ^ k) = rk s)) k)) (b := 0) dX9_sortsByNeighbours_82 rfl rfl ?_
          refine wa_istore hX dX9_sortsByNeighbours_83 (by first | rfl | exact hu1 | exact hu2 | exact hu3 | exact hu4) ?_
          dsimp only [List.set]
          refine wa_iload hX dX9_sortsByNeighbours_85 rfl ?_
          refine wi_iconst hX dX9_sortsByNeighbours_87 ?_
          refine wn_ishl hX (b := 1) dX9_sortsByNeighbours_88 (by rfl) (by rfl) (by omega) ?_
          refine wa_istore hX dX9_sortsByNeighbours_89 (by first | rfl | exact hu1 | exact hu2 | exact hu3 | exact hu4) ?_
          dsimp only [List.set]
          refine wa_goto hX (tgt := 28) dX9_sortsByNeighbours_91 (by decide) ?_
          rw [p2_shl]
          refine WA.eq rfl ?_ rfl (ih (k + 1, .val (I ((rk (s ^^^ 2 ^ k) : Nat) : Int))) ⟨by show k + 1 ≤ e; omega, rfl⟩ (by show e - (k + 1) < e - k; omega))
          dsimp only
          first
            | (have ht := and_c0 c49; have hd : decide (rk s < rk (s ^^^ 2 ^ k)) = true := decide_eq_true (by omega); rw [allB_succ, allB_succ]; simp only [ht, hd, Bool.false_or, Bool.true_or, Bool.or_true, Bool.and_true, Bool.and_false, Bool.not_true, Bool.not_false, Nat.and_zero, b2n_and1] <;> rfl)
            | (have ht := and_c0 c49; have hd : decide (rk s < rk (s ^^^ 2 ^ k)) = false := decide_eq_false (by omega); rw [allB_succ, allB_succ]; simp only [ht, hd, Bool.false_or, Bool.true_or, Bool.or_true, Bool.and_true, Bool.and_false, Bool.not_true, Bool.not_false, Nat.and_zero, b2n_and1] <;> rfl)
            | (have ht := and_c1 c49; have hd : decide (rk (s ^^^ 2 ^ k) = rk s) = true := decide_eq_true (by omega); rw [allB_succ, allB_succ]; simp only [ht, hd, Bool.false_or, Bool.true_or, Bool.or_true, Bool.and_true, Bool.and_false, Bool.not_true, Bool.not_false, Nat.and_zero, b2n_and1] <;> rfl)
            | (have ht := and_c1 c49; have hd : decide (rk (s ^^^ 2 ^ k) = rk s) = false := decide_eq_false (by omega); rw [allB_succ, allB_succ]; simp only [ht, hd, Bool.false_or, Bool.true_or, Bool.or_true, Bool.and_true, Bool.and_false, Bool.not_true, Bool.not_false, Nat.and_zero, b2n_and1] <;> rfl)
      · skip
        refine wa_iload_n hX (i := 3) dX9_sortsByNeighbours_52 rfl rfl ?_
        refine wa_iload hX dX9_sortsByNeighbours_53 rfl ?_
        refine wa_iload_n hX (i := 2) dX9_sortsByNeighbours_55 rfl rfl ?_
        refine wi_icmp_le hX (tgt := 63) dX9_sortsByNeighbours_56 (by decide) (by omega) (by omega) (fun c56 => ?_) (fun c56 => ?_)
        · skip
          refine wi_iconst hX dX9_sortsByNeighbours_63 ?_
          first | refine wn_iand hX (a := b2n (allB (fun k => s.testBit k || decide (rk s < rk (s ^^^ 2 ^ k))) k)) (b := 1) dX9_sortsByNeighbours_64 rfl rfl ?_ | refine wn_iand hX (a := b2n (allB (fun k => s.testBit k || decide (rk s < rk (s ^^^ 2 ^ k))) k)) (b := 0) dX9_sortsByNeighbours_64 rfl rfl ?_
          refine wa_istore_n hX (i := 3) dX9_sortsByNeighbours_65 rfl (by first | rfl | exact hu1 | exact hu2 | exact hu3 | exact hu4) ?_
          dsimp only [List.set]
          refine wa_goto hX (tgt := 85) dX9_sortsByNeighbours_66 (by decide) ?_
          refine wa_iload hX dX9_sortsByNeighbours_85 rfl ?_
          refine wi_iconst hX dX9_sortsByNeighbours_87 ?_
          refine wn_ishl hX (b := 1) dX9_sortsByNeighbours_88 (by rfl) (by rfl) (by omega) ?_
          refine wa_istore hX dX9_sortsByNeighbours_89 (by first | rfl | exact hu1 | exact hu2 | exact hu3 | exact hu4) ?_
          dsimp only [List.set]
          refine wa_goto hX (tgt := 28) dX9_sortsByNeighbours_91 (by decide) ?_
          rw [p2_shl]
          refine WA.eq rfl ?_ rfl (ih (k + 1, .val (I ((rk (s ^^^ 2 ^ k) : Nat) : Int))) ⟨by show k + 1 ≤ e; omega, rfl⟩ (by show e - (k + 1) < e - k; omega))
          dsimp only
          first
            | (have ht := and_c0 c49; have hd : decide (rk s < rk (s ^^^ 2 ^ k)) = true := decide_eq_true (by omega); rw [allB_succ, allB_succ]; simp only [ht, hd, Bool.false_or, Bool.true_or, Bool.or_true, Bool.and_true, Bool.and_false, Bool.not_true, Bool.not_false, Nat.and_zero, b2n_and1] <;> rfl)
            | (have ht := and_c0 c49; have hd : decide (rk s < rk (s ^^^ 2 ^ k)) = false := decide_eq_false (by omega); rw [allB_succ, allB_succ]; simp only [ht, hd, Bool.false_or, Bool.true_or, Bool.or_true, Bool.and_true, Bool.and_false, Bool.not_true, Bool.not_false, Nat.and_zero, b2n_and1] <;> rfl)
            | (have ht := and_c1 c49; have hd : decide (rk (s ^^^ 2 ^ k) = rk s) = true := decide_eq_true (by omega); rw [allB_succ, allB_succ]; simp only [ht, hd, Bool.false_or, Bool.true_or, Bool.or_true, Bool.and_true, Bool.and_false, Bool.not_true, Bool.not_false, Nat.and_zero, b2n_and1] <;> rfl)
            | (have ht := and_c1 c49; have hd : decide (rk (s ^^^ 2 ^ k) = rk s) = false := decide_eq_false (by omega); rw [allB_succ, allB_succ]; simp only [ht, hd, Bool.false_or, Bool.true_or, Bool.or_true, Bool.and_true, Bool.and_false, Bool.not_true, Bool.not_false, Nat.and_zero, b2n_and1] <;> rfl)
        · skip
          refine wi_iconst hX dX9_sortsByNeighbours_59 ?_
          refine wa_goto hX (tgt := 64) dX9_sortsByNeighbours_60 (by decide) ?_
          first | refine wn_iand hX (a := b2n (allB (fun k => s.testBit k || decide (rk s < rk (s ^^^ 2 ^ k))) k)) (b := 1) dX9_sortsByNeighbours_64 rfl rfl ?_ | refine wn_iand hX (a := b2n (allB (fun k => s.testBit k || decide (rk s < rk (s ^^^ 2 ^ k))) k)) (b := 0) dX9_sortsByNeighbours_64 rfl rfl ?_
          refine wa_istore_n hX (i := 3) dX9_sortsByNeighbours_65 rfl (by first | rfl | exact hu1 | exact hu2 | exact hu3 | exact hu4) ?_
          dsimp only [List.set]
          refine wa_goto hX (tgt := 85) dX9_sortsByNeighbours_66 (by decide) ?_
          refine wa_iload hX dX9_sortsByNeighbours_85 rfl ?_
          refine wi_iconst hX dX9_sortsByNeighbours_87 ?_
          refine wn_ishl hX (b := 1) dX9_sortsByNeighbours_88 (by rfl) (by rfl) (by omega) ?_
          refine wa_istore hX dX9_sortsByNeighbours_89 (by first | rfl | exact hu1 | exact hu2 | exact hu3 | exact hu4) ?_
          dsimp only [List.set]
          refine wa_goto hX (tgt := 28) dX9_sortsByNeighbours_91 (by decide) ?_
          rw [p2_shl]
          refine WA.eq rfl ?_ rfl (ih (k + 1, .val (I ((rk (s ^^^ 2 ^ k) : Nat) : Int))) ⟨by show k + 1 ≤ e; omega, rfl⟩ (by show e - (k + 1) < e - k; omega))
          dsimp only
          first
            | (have ht := and_c0 c49; have hd : decide (rk s < rk (s ^^^ 2 ^ k)) = true := decide_eq_true (by omega); rw [allB_succ, allB_succ]; simp only [ht, hd, Bool.false_or, Bool.true_or, Bool.or_true, Bool.and_true, Bool.and_false, Bool.not_true, Bool.not_false, Nat.and_zero, b2n_and1] <;> rfl)
            | (have ht := and_c0 c49; have hd : decide (rk s < rk (s ^^^ 2 ^ k)) = false := decide_eq_false (by omega); rw [allB_succ, allB_succ]; simp only [ht, hd, Bool.false_or, Bool.true_or, Bool.or_true, Bool.and_true, Bool.and_false, Bool.not_true, Bool.not_false, Nat.and_zero, b2n_and1] <;> rfl)
            | (have ht := and_c1 c49; have hd : decide (rk (s ^^^ 2 ^ k) = rk s) = true := decide_eq_true (by omega); rw [allB_succ, allB_succ]; simp only [ht, hd, Bool.false_or, Bool.true_or, Bool.or_true, Bool.and_true, Bool.and_false, Bool.not_true, Bool.not_false, Nat.and_zero, b2n_and1] <;> rfl)
            | (have ht := and_c1 c49; have hd : decide (rk (s ^^^ 2 ^ k) = rk s) = false := decide_eq_false (by omega); rw [allB_succ, allB_succ]; simp only [ht, hd, Bool.false_or, Bool.true_or, Bool.or_true, Bool.and_true, Bool.and_false, Bool.not_true, Bool.not_false, Nat.and_zero, b2n_and1] <;> rfl)
  · skip
    refine wi_iconst hX dX9_sortsByNeighbours_18 ?_
    refine wa_goto hX (tgt := 23) dX9_sortsByNeighbours_19 (by decide) ?_
    refine WA.eq (ls2 := [.val (.ref q), .val (I (s : Int)), .val (I (rk s : Nat)), .val (I 1), .unset, .unset, .unset]) (st2 := [I ((b2n (decide (rk s + 1 = bc s)) : Nat) : Int)]) rfl rfl (by first | rw [decide_eq_true (by omega)]; rfl | rw [decide_eq_false (by omega)]; rfl) ?_
    refine wa_istore hX dX9_sortsByNeighbours_23 (by first | rfl | exact hu1 | exact hu2 | exact hu3 | exact hu4) ?_
    dsimp only [List.set]
    refine wi_iconst hX dX9_sortsByNeighbours_25 ?_
    refine wa_istore hX dX9_sortsByNeighbours_26 (by first | rfl | exact hu1 | exact hu2 | exact hu3 | exact hu4) ?_
    dsimp only [List.set]
    refine WA.eq rfl (by simp [b2n, allB]) rfl (WA.loop (σ := Nat × Slot) (fun z => e - z.1) (fun z => z.1 ≤ e ∧ okS [z.2] 0 = true) (fun _ => h) (fun z => [.val (.ref q), .val (I (s : Int)), .val (I (rk s : Nat)), .val (I ((b2n (allB (fun k => s.testBit k || decide (rk s < rk (s ^^^ 2 ^ k))) z.1) : Nat) : Int)), .val (I ((b2n (decide (rk s + 1 = bc s) && allB (fun k => !s.testBit k || decide (rk (s ^^^ 2 ^ k) = rk s)) z.1) : Nat) : Int)), .val (I ((2 ^ z.1 : Nat) : Int)), z.2]) ?_ (0, .unset) ⟨Nat.zero_le _, rfl⟩)
    rintro ⟨k, u1⟩ ⟨hk, hu1⟩ ih
    dsimp only at hk hu1 ⊢
    have hpk := p2_mono hk
    have hpk0 := p2_pos k
    refine wa_iload hX dX9_sortsByNeighbours_28 rfl ?_
    refine wa_aload_n hX (i := 0) dX9_sortsByNeighbours_30 rfl rfl ?_
    refine wa_len hX (by assumption) dX9_sortsByNeighbours_31 ?_
    refine wi_icmp_ge hX (tgt := 94) dX9_sortsByNeighbours_32 (by decide) (by omega) (by omega) (fun c32 => ?_) (fun c32 => ?_)
    · skip
      refine wa_iload hX dX9_sortsByNeighbours_94 rfl ?_
      refine wi_if_eq hX (tgt := 103) dX9_sortsByNeighbours_96 (by decide) (by have := b2n_le (decide (rk s + 1 = bc s) && allB (fun k => !s.testBit k || decide (rk (s ^^^ 2 ^ k) = rk s)) k); omega) (fun c96 => ?_) (fun c96 => ?_)
      · skip
        refine wi_iconst hX dX9_sortsByNeighbours_103 ?_
        refine wa_istore hX dX9_sortsByNeighbours_104 (by first | rfl | exact hu1 | exact hu2 | exact hu3 | exact hu4) ?_
        dsimp only [List.set]
        refine wa_iload_n hX (i := 3) dX9_sortsByNeighbours_106 rfl rfl ?_
        refine wi_if_eq hX (tgt := 136) dX9_sortsByNeighbours_107 (by decide) (by have := b2n_le (allB (fun k => s.testBit k || decide (rk s < rk (s ^^^ 2 ^ k))) k); omega) (fun c107 => ?_) (fun c107 => ?_)
        · skip
          refine wa_iload hX dX9_sortsByNeighbours_136 rfl ?_
          refine wa_iret hX dX9_sortsByNeighbours_138 ?_
          refine ⟨?_, rfl⟩
          have hke : k = e := by
            by_cases q : k < e
            · exact absurd (bit_lt q) (by omega)
            · omega
          subst hke
          unfold nbrN
          first
            | rw [if_pos (show circN rk k s = true from b2n_t c96), if_pos (show flatN rk k s = true from b2n_t c107), if_pos (by omega)] <;> rfl
            | rw [if_pos (show circN rk k s = true from b2n_t c96), if_pos (show flatN rk k s = true from b2n_t c107), if_neg (by omega)] <;> rfl
            | rw [if_pos (show circN rk k s = true from b2n_t c96), if_neg (show ¬ flatN rk k s = true from fun z => absurd z (by rw [show flatN rk k s = false from b2n_f c107]; decide))] <;> rfl
            | rw [if_neg (show ¬ circN rk k s = true from fun z => absurd z (by rw [show circN rk k s = false from b2n_f c96]; decide)), if_pos (show flatN rk k s = true from b2n_t c107), if_pos (by omega)] <;> rfl
            | rw [if_neg (show ¬ circN rk k s = true from fun z => absurd z (by rw [show circN rk k s = false from b2n_f c96]; decide)), if_pos (show flatN rk k s = true from b2n_t c107), if_neg (by omega)] <;> rfl
            | rw [if_neg (show ¬ circN rk k s = true from fun z => absurd z (by rw [show circN rk k s = false from b2n_f c96]; decide)), if_neg (show ¬ flatN rk k s = true from fun z => absurd z (by rw [show flatN rk k s = false from b2n_f c107]; decide))] <;> rfl
        · skip
          refine wa_iload hX dX9_sortsByNeighbours_110 rfl ?_
          refine wa_iload_n hX (i := 2) dX9_sortsByNeighbours_112 rfl rfl ?_
          refine wa_aload_n hX (i := 0) dX9_sortsByNeighbours_113 rfl rfl ?_
          refine wa_aload_n hX (i := 0) dX9_sortsByNeighbours_114 rfl rfl ?_
          refine wa_len hX (by assumption) dX9_sortsByNeighbours_115 ?_
          refine wi_iconst hX dX9_sortsByNeighbours_116 ?_
          refine wi_isub hX dX9_sortsByNeighbours_117 ?_
          rw [show (((2 ^ e : Nat) : Int) - 1) = ((2 ^ e - 1 : Nat) : Int) by omega]
          refine wa_callS hX (c_X9_rk hW d h1 he (s := 2 ^ e - 1) (by omega)) (by rfl) (by omega) (nA := 2) (by rfl) (by decide +kernel) rfl (by exact Nat.le_of_ble_eq_true rfl) dX9_sortsByNeighbours_118 (fun r118 h118 p118 => ?_) (fun _ _ q => q.elim)
          obtain ⟨rfl, qq118⟩ := p118; subst h118
          dsimp only [Option.toList, List.cons_append, List.nil_append]
          refine wi_iconst hX dX9_sortsByNeighbours_121 ?_
          refine wi_isub hX dX9_sortsByNeighbours_122 ?_
          refine wi_icmp_ne hX (tgt := 131) dX9_sortsByNeighbours_123 (by decide) (by omega) (by omega) (fun c123 => ?_) (fun c123 => ?_)
          · skip
            refine wi_bipush hX dX9_sortsByNeighbours_131 (by decide) ?_
            first | refine wn_ior hX (a := 4) (b := 24) dX9_sortsByNeighbours_133 rfl rfl ?_ | refine wn_ior hX (a := 4) (b := 8) dX9_sortsByNeighbours_133 rfl rfl ?_ | refine wn_ior hX (a := 0) (b := 24) dX9_sortsByNeighbours_133 rfl rfl ?_ | refine wn_ior hX (a := 0) (b := 8) dX9_sortsByNeighbours_133 rfl rfl ?_
            refine wa_istore hX dX9_sortsByNeighbours_134 (by first | rfl | exact hu1 | exact hu2 | exact hu3 | exact hu4) ?_
            dsimp only [List.set]
            refine wa_iload hX dX9_sortsByNeighbours_136 rfl ?_
            refine wa_iret hX dX9_sortsByNeighbours_138 ?_
            refine ⟨?_, rfl⟩
            have hke : k = e := by
              by_cases q : k < e
              · exact absurd (bit_lt q) (by omega)
              · omega
            subst hke
            unfold nbrN
            first
              | rw [if_pos (show circN rk k s = true from b2n_t c96), if_pos (show flatN rk k s = true from b2n_t c107), if_pos (by omega)] <;> rfl
              | rw [if_pos (show circN rk k s = true from b2n_t c96), if_pos (show flatN rk k s = true from b2n_t c107), if_neg (by omega)] <;> rfl
              | rw [if_pos (show circN rk k s = true from b2n_t c96), if_neg (show ¬ flatN rk k s = true from fun z => absurd z (by rw [show flatN rk k s = false from b2n_f c107]; decide))] <;> rfl
              | rw [if_neg (show ¬ circN rk k s = true from fun z => absurd z (by rw [show circN rk k s = false from b2n_f c96]; decide)), if_pos (show flatN rk k s = true from b2n_t c107), if_pos (by omega)] <;> rfl
              | rw [if_neg (show ¬ circN rk k s = true from fun z => absurd z (by rw [show circN rk k s = false from b2n_f c96]; decide)), if_pos (show flatN rk k s = true from b2n_t c107), if_neg (by omega)] <;> rfl
              | rw [if_neg (show ¬ circN rk k s = true from fun z => absurd z (by rw [show circN rk k s = false from b2n_f c96]; decide)), if_neg (show ¬ flatN rk k s = true from fun z => absurd z (by rw [show flatN rk k s = false from b2n_f c107]; decide))] <;> rfl
          · skip
            refine wi_bipush hX dX9_sortsByNeighbours_126 (by decide) ?_
            refine wa_goto hX (tgt := 133) dX9_sortsByNeighbours_128 (by decide) ?_
            first | refine wn_ior hX (a := 4) (b := 24) dX9_sortsByNeighbours_133 rfl rfl ?_ | refine wn_ior hX (a := 4) (b := 8) dX9_sortsByNeighbours_133 rfl rfl ?_ | refine wn_ior hX (a := 0) (b := 24) dX9_sortsByNeighbours_133 rfl rfl ?_ | refine wn_ior hX (a := 0) (b := 8) dX9_sortsByNeighbours_133 rfl rfl ?_
            refine wa_istore hX dX9_sortsByNeighbours_134 (by first | rfl | exact hu1 | exact hu2 | exact hu3 | exact hu4) ?_
            dsimp only [List.set]
            refine wa_iload hX dX9_sortsByNeighbours_136 rfl ?_
            refine wa_iret hX dX9_sortsByNeighbours_138 ?_
            refine ⟨?_, rfl⟩
            have hke : k = e := by
              by_cases q : k < e
              · exact absurd (bit_lt q) (by omega)
              · omega
            subst hke
            unfold nbrN
            first
              | rw [if_pos (show circN rk k s = true from b2n_t c96), if_pos (show flatN rk k s = true from b2n_t c107), if_pos (by omega)] <;> rfl
              | rw [if_pos (show circN rk k s = true from b2n_t c96), if_pos (show flatN rk k s = true from b2n_t c107), if_neg (by omega)] <;> rfl
              | rw [if_pos (show circN rk k s = true from b2n_t c96), if_neg (show ¬ flatN rk k s = true from fun z => absurd z (by rw [show flatN rk k s = false from b2n_f c107]; decide))] <;> rfl
              | rw [if_neg (show ¬ circN rk k s = true from fun z => absurd z (by rw [show circN rk k s = false from b2n_f c96]; decide)), if_pos (show flatN rk k s = true from b2n_t c107), if_pos (by omega)] <;> rfl
              | rw [if_neg (show ¬ circN rk k s = true from fun z => absurd z (by rw [show circN rk k s = false from b2n_f c96]; decide)), if_pos (show flatN rk k s = true from b2n_t c107), if_neg (by omega)] <;> rfl
              | rw [if_neg (show ¬ circN rk k s = true from fun z => absurd z (by rw [show circN rk k s = false from b2n_f c96]; decide)), if_neg (show ¬ flatN rk k s = true from fun z => absurd z (by rw [show flatN rk k s = false from b2n_f c107]; decide))] <;> rfl
      · skip
        refine wi_iconst hX dX9_sortsByNeighbours_99 ?_
        refine wa_goto hX (tgt := 104) dX9_sortsByNeighbours_100 (by decide) ?_
        refine wa_istore hX dX9_sortsByNeighbours_104 (by first | rfl | exact hu1 | exact hu2 | exact hu3 | exact hu4) ?_
        dsimp only [List.set]
        refine wa_iload_n hX (i := 3) dX9_sortsByNeighbours_106 rfl rfl ?_
        refine wi_if_eq hX (tgt := 136) dX9_sortsByNeighbours_107 (by decide) (by have := b2n_le (allB (fun k => s.testBit k || decide (rk s < rk (s ^^^ 2 ^ k))) k); omega) (fun c107 => ?_) (fun c107 => ?_)
        · skip
          refine wa_iload hX dX9_sortsByNeighbours_136 rfl ?_
          refine wa_iret hX dX9_sortsByNeighbours_138 ?_
          refine ⟨?_, rfl⟩
          have hke : k = e := by
            by_cases q : k < e
            · exact absurd (bit_lt q) (by omega)
            · omega
          subst hke
          unfold nbrN
          first
            | rw [if_pos (show circN rk k s = true from b2n_t c96), if_pos (show flatN rk k s = true from b2n_t c107), if_pos (by omega)] <;> rfl
            | rw [if_pos (show circN rk k s = true from b2n_t c96), if_pos (show flatN rk k s = true from b2n_t c107), if_neg (by omega)] <;> rfl
            | rw [if_pos (show circN rk k s = true from b2n_t c96), if_neg (show ¬ flatN rk k s = true from fun z => absurd z (by rw [show flatN rk k s = false from b2n_f c107]; decide))] <;> rfl
            | rw [if_neg (show ¬ circN rk k s = true from fun z => absurd z (by rw [show circN rk k s = false from b2n_f c96]; decide)), if_pos (show flatN rk k s = true from b2n_t c107), if_pos (by omega)] <;> rfl
            | rw [if_neg (show ¬ circN rk k s = true from fun z => absurd z (by rw [show circN rk k s = false from b2n_f c96]; decide)), if_pos (show flatN rk k s = true from b2n_t c107), if_neg (by omega)] <;> rfl
            | rw [if_neg (show ¬ circN rk k s = true from fun z => absurd z (by rw [show circN rk k s = false from b2n_f c96]; decide)), if_neg (show ¬ flatN rk k s = true from fun z => absurd z (by rw [show flatN rk k s = false from b2n_f c107]; decide))] <;> rfl
        · skip
          refine wa_iload hX dX9_sortsByNeighbours_110 rfl ?_
          refine wa_iload_n hX (i := 2) dX9_sortsByNeighbours_112 rfl rfl ?_
          refine wa_aload_n hX (i := 0) dX9_sortsByNeighbours_113 rfl rfl ?_
          refine wa_aload_n hX (i := 0) dX9_sortsByNeighbours_114 rfl rfl ?_
          refine wa_len hX (by assumption) dX9_sortsByNeighbours_115 ?_
          refine wi_iconst hX dX9_sortsByNeighbours_116 ?_
          refine wi_isub hX dX9_sortsByNeighbours_117 ?_
          rw [show (((2 ^ e : Nat) : Int) - 1) = ((2 ^ e - 1 : Nat) : Int) by omega]
          refine wa_callS hX (c_X9_rk hW d h1 he (s := 2 ^ e - 1) (by omega)) (by rfl) (by omega) (nA := 2) (by rfl) (by decide +kernel) rfl (by exact Nat.le_of_ble_eq_true rfl) dX9_sortsByNeighbours_118 (fun r118 h118 p118 => ?_) (fun _ _ q => q.elim)
          obtain ⟨rfl, qq118⟩ := p118; subst h118
          dsimp only [Option.toList, List.cons_append, List.nil_append]
          refine wi_iconst hX dX9_sortsByNeighbours_121 ?_
          refine wi_isub hX dX9_sortsByNeighbours_122 ?_
          refine wi_icmp_ne hX (tgt := 131) dX9_sortsByNeighbours_123 (by decide) (by omega) (by omega) (fun c123 => ?_) (fun c123 => ?_)
          · skip
            refine wi_bipush hX dX9_sortsByNeighbours_131 (by decide) ?_
            first | refine wn_ior hX (a := 4) (b := 24) dX9_sortsByNeighbours_133 rfl rfl ?_ | refine wn_ior hX (a := 4) (b := 8) dX9_sortsByNeighbours_133 rfl rfl ?_ | refine wn_ior hX (a := 0) (b := 24) dX9_sortsByNeighbours_133 rfl rfl ?_ | refine wn_ior hX (a := 0) (b := 8) dX9_sortsByNeighbours_133 rfl rfl ?_
            refine wa_istore hX dX9_sortsByNeighbours_134 (by first | rfl | exact hu1 | exact hu2 | exact hu3 | exact hu4) ?_
            dsimp only [List.set]
            refine wa_iload hX dX9_sortsByNeighbours_136 rfl ?_
            refine wa_iret hX dX9_sortsByNeighbours_138 ?_
            refine ⟨?_, rfl⟩
            have hke : k = e := by
              by_cases q : k < e
              · exact absurd (bit_lt q) (by omega)
              · omega
            subst hke
            unfold nbrN
            first
              | rw [if_pos (show circN rk k s = true from b2n_t c96), if_pos (show flatN rk k s = true from b2n_t c107), if_pos (by omega)] <;> rfl
              | rw [if_pos (show circN rk k s = true from b2n_t c96), if_pos (show flatN rk k s = true from b2n_t c107), if_neg (by omega)] <;> rfl
              | rw [if_pos (show circN rk k s = true from b2n_t c96), if_neg (show ¬ flatN rk k s = true from fun z => absurd z (by rw [show flatN rk k s = false from b2n_f c107]; decide))] <;> rfl
              | rw [if_neg (show ¬ circN rk k s = true from fun z => absurd z (by rw [show circN rk k s = false from b2n_f c96]; decide)), if_pos (show flatN rk k s = true from b2n_t c107), if_pos (by omega)] <;> rfl
              | rw [if_neg (show ¬ circN rk k s = true from fun z => absurd z (by rw [show circN rk k s = false from b2n_f c96]; decide)), if_pos (show flatN rk k s = true from b2n_t c107), if_neg (by omega)] <;> rfl
              | rw [if_neg (show ¬ circN rk k s = true from fun z => absurd z (by rw [show circN rk k s = false from b2n_f c96]; decide)), if_neg (show ¬ flatN rk k s = true from fun z => absurd z (by rw [show flatN rk k s = false from b2n_f c107]; decide))] <;> rfl
          · skip
            refine wi_bipush hX dX9_sortsByNeighbours_126 (by decide) ?_
            refine wa_goto hX (tgt := 133) dX9_sortsByNeighbours_128 (by decide) ?_
            first | refine wn_ior hX (a := 4) (b := 24) dX9_sortsByNeighbours_133 rfl rfl ?_ | refine wn_ior hX (a := 4) (b := 8) dX9_sortsByNeighbours_133 rfl rfl ?_ | refine wn_ior hX (a := 0) (b := 24) dX9_sortsByNeighbours_133 rfl rfl ?_ | refine wn_ior hX (a := 0) (b := 8) dX9_sortsByNeighbours_133 rfl rfl ?_
            refine wa_istore hX dX9_sortsByNeighbours_134 (by first | rfl | exact hu1 | exact hu2 | exact hu3 | exact hu4) ?_
            dsimp only [List.set]
            refine wa_iload hX dX9_sortsByNeighbours_136 rfl ?_
            refine wa_iret hX dX9_sortsByNeighbours_138 ?_
            refine ⟨?_, rfl⟩
            have hke : k = e := by
              by_cases q : k < e
              · exact absurd (bit_lt q) (by omega)
              · omega
            subst hke
            unfold nbrN
            first
              | rw [if_pos (show circN rk k s = true from b2n_t c96), if_pos (show flatN rk k s = true from b2n_t c107), if_pos (by omega)] <;> rfl
              | rw [if_pos (show circN rk k s = true from b2n_t c96), if_pos (show flatN rk k s = true from b2n_t c107), if_neg (by omega)] <;> rfl
              | rw [if_pos (show circN rk k s = true from b2n_t c96), if_neg (show ¬ flatN rk k s = true from fun z => absurd z (by rw [show flatN rk k s = false from b2n_f c107]; decide))] <;> rfl
              | rw [if_neg (show ¬ circN rk k s = true from fun z => absurd z (by rw [show circN rk k s = false from b2n_f c96]; decide)), if_pos (show flatN rk k s = true from b2n_t c107), if_pos (by omega)] <;> rfl
              | rw [if_neg (show ¬ circN rk k s = true from fun z => absurd z (by rw [show circN rk k s = false from b2n_f c96]; decide)), if_pos (show flatN rk k s = true from b2n_t c107), if_neg (by omega)] <;> rfl
              | rw [if_neg (show ¬ circN rk k s = true from fun z => absurd z (by rw [show circN rk k s = false from b2n_f c96]; decide)), if_neg (show ¬ flatN rk k s = true from fun z => absurd z (by rw [show flatN rk k s = false from b2n_f c107]; decide))] <;> rfl
    · skip
      have hke : k < e := p2_inv (by omega)
      have hx : s ^^^ 2 ^ k < 2 ^ e := Nat.xor_lt_two_pow hs (bit_lt hke)
      have hr3 := hrk _ hx
      refine wa_aload_n hX (i := 0) dX9_sortsByNeighbours_35 rfl rfl ?_
      refine wa_iload_n hX (i := 1) dX9_sortsByNeighbours_36 rfl rfl ?_
      refine wa_iload hX dX9_sortsByNeighbours_37 rfl ?_
      refine wn_ixor hX dX9_sortsByNeighbours_39 (by rfl) (by rfl) ?_
      refine wa_callS hX (c_X9_rk hW d h1 he (s := s ^^^ 2 ^ k) hx) (by rfl) (by omega) (nA := 2) (by rfl) (by decide +kernel) rfl (by exact Nat.le_of_ble_eq_true rfl) dX9_sortsByNeighbours_40 (fun r40 h40 p40 => ?_) (fun _ _ q => q.elim)
      obtain ⟨rfl, qq40⟩ := p40; subst h40
      dsimp only [Option.toList, List.cons_append, List.nil_append]
      refine wa_istore hX dX9_sortsByNeighbours_43 (by first | rfl | exact hu1 | exact hu2 | exact hu3 | exact hu4) ?_
      dsimp only [List.set]
      refine wa_iload_n hX (i := 1) dX9_sortsByNeighbours_45 rfl rfl ?_
      refine wa_iload hX dX9_sortsByNeighbours_46 rfl ?_
      refine wn_iand hX dX9_sortsByNeighbours_48 (by rfl) (by rfl) ?_
      refine wi_if_ne hX (tgt := 69) dX9_sortsByNeighbours_49 (by decide) (by first | omega | exact inR_nat (and_ltl (by omega)) | exact inR_nat (and_ltr (by omega))) (fun c49 => ?_) (fun c49 => ?_)
      · skip
        refine wa_iload hX dX9_sortsByNeighbours_69 rfl ?_
        refine wa_iload hX dX9_sortsByNeighbours_71 rfl ?_
        refine wa_iload_n hX (i := 2) dX9_sortsByNeighbours_73 rfl rfl ?_
        refine wi_icmp_ne hX (tgt := 81) dX9_sortsByNeighbours_74 (by decide) (by omega) (by omega) (fun c74 => ?_) (fun c74 => ?_)
        · skip
          refine wi_iconst hX dX9_sortsByNeighbours_81 ?_
          first | refine wn_iand hX (a := b2n (decide (rk s + 1 = bc s) && allB (fun k => !s.testBit k || decide (rk (s ^^^ 2 ^ k) = rk s)) k)) (b := 1) dX9_sortsByNeighbours_82 rfl rfl ?_ | refine wn_iand hX (a := b2n (decide (rk s + 1 = bc s) && allB (fun k => !s.testBit k || decide (rk (s ^^^ 2 ^ k) = rk s)) k)) (b := 0) dX9_sortsByNeighbours_82 rfl rfl ?_
          refine wa_istore hX dX9_sortsByNeighbours_83 (by first | rfl | exact hu1 | exact hu2 | exact hu3 | exact hu4) ?_
          dsimp only [List.set]
          refine wa_iload hX dX9_sortsByNeighbours_85 rfl ?_
          refine wi_iconst hX dX9_sortsByNeighbours_87 ?_
          refine wn_ishl hX (b := 1) dX9_sortsByNeighbours_88 (by rfl) (by rfl) (by omega) ?_
          refine wa_istore hX dX9_sortsByNeighbours_89 (by first | rfl | exact hu1 | exact hu2 | exact hu3 | exact hu4) ?_
          dsimp only [List.set]
          refine wa_goto hX (tgt := 28) dX9_sortsByNeighbours_91 (by decide) ?_
          rw [p2_shl]
          refine WA.eq rfl ?_ rfl (ih (k + 1, .val (I ((rk (s ^^^ 2 ^ k) : Nat) : Int))) ⟨by show k + 1 ≤ e; omega, rfl⟩ (by show e - (k + 1) < e - k; omega))
          dsimp only
          first
            | (have ht := and_c0 c49; have hd : decide (rk s < rk (s ^^^ 2 ^ k)) = true := decide_eq_true (by omega); rw [allB_succ, allB_succ]; simp only [ht, hd, Bool.false_or, Bool.true_or, Bool.or_true, Bool.and_true, Bool.and_false, Bool.not_true, Bool.not_false, Nat.and_zero, b2n_and1] <;> rfl)
            | (have ht := and_c0 c49; have hd : decide (rk s < rk (s ^^^ 2 ^ k)) = false := decide_eq_false (by omega); rw [allB_succ, allB_succ]; simp only [ht, hd, Bool.false_or, Bool.true_or, Bool.or_true, Bool.and_true, Bool.and_false, Bool.not_true, Bool.not_false, Nat.and_zero, b2n_and1] <;> rfl)
            | (have ht := and_c1 c49; have hd : decide (rk (s ^^^ 2 ^ k) = rk s) = true := decide_eq_true (by omega); rw [allB_succ, allB_succ]; simp only [ht, hd, Bool.false_or, Bool.true_or, Bool.or_true, Bool.and_true, Bool.and_false, Bool.not_true, Bool.not_false, Nat.and_zero, b2n_and1] <;> rfl)
            | (have ht := and_c1 c49; have hd : decide (rk (s ^^^ 2 ^ k) = rk s) = false := decide_eq_false (by omega); rw [allB_succ, allB_succ]; simp only [ht, hd, Bool.false_or, Bool.true_or, Bool.or_true, Bool.and_true, Bool.and_false, Bool.not_true, Bool.not_false, Nat.and_zero, b2n_and1] <;> rfl)
        · skip
          refine wi_iconst hX dX9_sortsByNeighbours_77 ?_
          refine wa_goto hX (tgt := 82) dX9_sortsByNeighbours_78 (by decide) ?_
          first | refine wn_iand hX (a := b2n (decide (rk s + 1 = bc s) && allB (fun k => !s.testBit k || decide (rk (s ^^^ 2 ^ k) = rk s)) k)) (b := 1) dX9_sortsByNeighbours_82 rfl rfl ?_ | refine wn_iand hX (a := b2n (decide (rk s + 1 = bc s) && allB (fun k => !s.testBit k || decide (rk (s ^^^ 2 ^ k) = rk s)) k)) (b := 0) dX9_sortsByNeighbours_82 rfl rfl ?_
          refine wa_istore hX dX9_sortsByNeighbours_83 (by first | rfl | exact hu1 | exact hu2 | exact hu3 | exact hu4) ?_
          dsimp only [List.set]
          refine wa_iload hX dX9_sortsByNeighbours_85 rfl ?_
          refine wi_iconst hX dX9_sortsByNeighbours_87 ?_
          refine wn_ishl hX (b := 1) dX9_sortsByNeighbours_88 (by rfl) (by rfl) (by omega) ?_
          refine wa_istore hX dX9_sortsByNeighbours_89 (by first | rfl | exact hu1 | exact hu2 | exact hu3 | exact hu4) ?_
          dsimp only [List.set]
          refine wa_goto hX (tgt := 28) dX9_sortsByNeighbours_91 (by decide) ?_
          rw [p2_shl]
          refine WA.eq rfl ?_ rfl (ih (k + 1, .val (I ((rk (s ^^^ 2 ^ k) : Nat) : Int))) ⟨by show k + 1 ≤ e; omega, rfl⟩ (by show e - (k + 1) < e - k; omega))
          dsimp only
          first
            | (have ht := and_c0 c49; have hd : decide (rk s < rk (s ^^^ 2 ^ k)) = true := decide_eq_true (by omega); rw [allB_succ, allB_succ]; simp only [ht, hd, Bool.false_or, Bool.true_or, Bool.or_true, Bool.and_true, Bool.and_false, Bool.not_true, Bool.not_false, Nat.and_zero, b2n_and1] <;> rfl)
            | (have ht := and_c0 c49; have hd : decide (rk s < rk (s ^^^ 2 ^ k)) = false := decide_eq_false (by omega); rw [allB_succ, allB_succ]; simp only [ht, hd, Bool.false_or, Bool.true_or, Bool.or_true, Bool.and_true, Bool.and_false, Bool.not_true, Bool.not_false, Nat.and_zero, b2n_and1] <;> rfl)
            | (have ht := and_c1 c49; have hd : decide (rk (s ^^^ 2 ^ k) = rk s) = true := decide_eq_true (by omega); rw [allB_succ, allB_succ]; simp only [ht, hd, Bool.false_or, Bool.true_or, Bool.or_true, Bool.and_true, Bool.and_false, Bool.not_true, Bool.not_false, Nat.and_zero, b2n_and1] <;> rfl)
            | (have ht := and_c1 c49; have hd : decide (rk (s ^^^ 2 ^ k) = rk s) = false := decide_eq_false (by omega); rw [allB_succ, allB_succ]; simp only [ht, hd, Bool.false_or, Bool.true_or, Bool.or_true, Bool.and_true, Bool.and_false, Bool.not_true, Bool.not_false, Nat.and_zero, b2n_and1] <;> rfl)
      · skip
        refine wa_iload_n hX (i := 3) dX9_sortsByNeighbours_52 rfl rfl ?_
        refine wa_iload hX dX9_sortsByNeighbours_53 rfl ?_
        refine wa_iload_n hX (i := 2) dX9_sortsByNeighbours_55 rfl rfl ?_
        refine wi_icmp_le hX (tgt := 63) dX9_sortsByNeighbours_56 (by decide) (by omega) (by omega) (fun c56 => ?_) (fun c56 => ?_)
        · skip
          refine wi_iconst hX dX9_sortsByNeighbours_63 ?_
          first | refine wn_iand hX (a := b2n (allB (fun k => s.testBit k || decide (rk s < rk (s ^^^ 2 ^ k))) k)) (b := 1) dX9_sortsByNeighbours_64 rfl rfl ?_ | refine wn_iand hX (a := b2n (allB (fun k => s.testBit k || decide (rk s < rk (s ^^^ 2 ^ k))) k)) (b := 0) dX9_sortsByNeighbours_64 rfl rfl ?_
          refine wa_istore_n hX (i := 3) dX9_sortsByNeighbours_65 rfl (by first | rfl | exact hu1 | exact hu2 | exact hu3 | exact hu4) ?_
          dsimp only [List.set]
          refine wa_goto hX (tgt := 85) dX9_sortsByNeighbours_66 (by decide) ?_
          refine wa_iload hX dX9_sortsByNeighbours_85 rfl ?_
          refine wi_iconst hX dX9_sortsByNeighbours_87 ?_
          refine wn_ishl hX (b := 1) dX9_sortsByNeighbours_88 (by rfl) (by rfl) (by omega) ?_
          refine wa_istore hX dX9_sortsByNeighbours_89 (by first | rfl | exact hu1 | exact hu2 | exact hu3 | exact hu4) ?_
          dsimp only [List.set]
          refine wa_goto hX (tgt := 28) dX9_sortsByNeighbours_91 (by decide) ?_
          rw [p2_shl]
          refine WA.eq rfl ?_ rfl (ih (k + 1, .val (I ((rk (s ^^^ 2 ^ k) : Nat) : Int))) ⟨by show k + 1 ≤ e; omega, rfl⟩ (by show e - (k + 1) < e - k; omega))
          dsimp only
          first
            | (have ht := and_c0 c49; have hd : decide (rk s < rk (s ^^^ 2 ^ k)) = true := decide_eq_true (by omega); rw [allB_succ, allB_succ]; simp only [ht, hd, Bool.false_or, Bool.true_or, Bool.or_true, Bool.and_true, Bool.and_false, Bool.not_true, Bool.not_false, Nat.and_zero, b2n_and1] <;> rfl)
            | (have ht := and_c0 c49; have hd : decide (rk s < rk (s ^^^ 2 ^ k)) = false := decide_eq_false (by omega); rw [allB_succ, allB_succ]; simp only [ht, hd, Bool.false_or, Bool.true_or, Bool.or_true, Bool.and_true, Bool.and_false, Bool.not_true, Bool.not_false, Nat.and_zero, b2n_and1] <;> rfl)
            | (have ht := and_c1 c49; have hd : decide (rk (s ^^^ 2 ^ k) = rk s) = true := decide_eq_true (by omega); rw [allB_succ, allB_succ]; simp only [ht, hd, Bool.false_or, Bool.true_or, Bool.or_true, Bool.and_true, Bool.and_false, Bool.not_true, Bool.not_false, Nat.and_zero, b2n_and1] <;> rfl)
            | (have ht := and_c1 c49; have hd : decide (rk (s ^^^ 2 ^ k) = rk s) = false := decide_eq_false (by omega); rw [allB_succ, allB_succ]; simp only [ht, hd, Bool.false_or, Bool.true_or, Bool.or_true, Bool.and_true, Bool.and_false, Bool.not_true, Bool.not_false, Nat.and_zero, b2n_and1] <;> rfl)
        · skip
          refine wi_iconst hX dX9_sortsByNeighbours_59 ?_
          refine wa_goto hX (tgt := 64) dX9_sortsByNeighbours_60 (by decide) ?_
          first | refine wn_iand hX (a := b2n (allB (fun k => s.testBit k || decide (rk s < rk (s ^^^ 2 ^ k))) k)) (b := 1) dX9_sortsByNeighbours_64 rfl rfl ?_ | refine wn_iand hX (a := b2n (allB (fun k => s.testBit k || decide (rk s < rk (s ^^^ 2 ^ k))) k)) (b := 0) dX9_sortsByNeighbours_64 rfl rfl ?_
          refine wa_istore_n hX (i := 3) dX9_sortsByNeighbours_65 rfl (by first | rfl | exact hu1 | exact hu2 | exact hu3 | exact hu4) ?_
          dsimp only [List.set]
          refine wa_goto hX (tgt := 85) dX9_sortsByNeighbours_66 (by decide) ?_
          refine wa_iload hX dX9_sortsByNeighbours_85 rfl ?_
          refine wi_iconst hX dX9_sortsByNeighbours_87 ?_
          refine wn_ishl hX (b := 1) dX9_sortsByNeighbours_88 (by rfl) (by rfl) (by omega) ?_
          refine wa_istore hX dX9_sortsByNeighbours_89 (by first | rfl | exact hu1 | exact hu2 | exact hu3 | exact hu4) ?_
          dsimp only [List.set]
          refine wa_goto hX (tgt := 28) dX9_sortsByNeighbours_91 (by decide) ?_
          rw [p2_shl]
          refine WA.eq rfl ?_ rfl (ih (k + 1, .val (I ((rk (s ^^^ 2 ^ k) : Nat) : Int))) ⟨by show k + 1 ≤ e; omega, rfl⟩ (by show e - (k + 1) < e - k; omega))
          dsimp only
          first
            | (have ht := and_c0 c49; have hd : decide (rk s < rk (s ^^^ 2 ^ k)) = true := decide_eq_true (by omega); rw [allB_succ, allB_succ]; simp only [ht, hd, Bool.false_or, Bool.true_or, Bool.or_true, Bool.and_true, Bool.and_false, Bool.not_true, Bool.not_false, Nat.and_zero, b2n_and1] <;> rfl)
            | (have ht := and_c0 c49; have hd : decide (rk s < rk (s ^^^ 2 ^ k)) = false := decide_eq_false (by omega); rw [allB_succ, allB_succ]; simp only [ht, hd, Bool.false_or, Bool.true_or, Bool.or_true, Bool.and_true, Bool.and_false, Bool.not_true, Bool.not_false, Nat.and_zero, b2n_and1] <;> rfl)
            | (have ht := and_c1 c49; have hd : decide (rk (s ^^^ 2 ^ k) = rk s) = true := decide_eq_true (by omega); rw [allB_succ, allB_succ]; simp only [ht, hd, Bool.false_or, Bool.true_or, Bool.or_true, Bool.and_true, Bool.and_false, Bool.not_true, Bool.not_false, Nat.and_zero, b2n_and1] <;> rfl)
            | (have ht := and_c1 c49; have hd : decide (rk (s ^^^ 2 ^ k) = rk s) = false := decide_eq_false (by omega); rw [allB_succ, allB_succ]; simp only [ht, hd, Bool.false_or, Bool.true_or, Bool.or_true, Bool.and_true, Bool.and_false, Bool.not_true, Bool.not_false, Nat.and_zero, b2n_and1] <;> rfl)
set_option maxRecDepth 100000 in
theorem c_X9_sortsOf (hW : WOK l D S0) (d : Nat) {h : AH} {q lq e : Nat} {rk : Nat → Nat} (h1 : h q = some (lq, aB e rk)) (he : e ≤ 10) (hrk : ∀ s, s < 2 ^ e → rk s ≤ 10) : MA l D S0 yX9_sortsOf cX9_sortsOf 3 (some (.array .byte)) (d + 2) [.ref q] h 1 1024 (postNew h 2 (aB e (sortN rk e))) (fun _ _ => False) := by
  have hp := p2_le he
  have hp0 := p2_pos e
  refine MA.start hW (by decide) [.val (.ref q), .unset, .unset] rfl ?_
  rintro X rfl rfl rfl hX
  refine wa_aload_n hX (i := 0) dX9_sortsOf_0 rfl rfl ?_
  refine wa_len hX (by assumption) dX9_sortsOf_1 ?_
  refine WA.room (k2 := 0 + 1) (sl2 := 0 + 2 ^ e) (by omega) (by omega) ?_
  refine wa_newa hX (2 ^ e) 2 .byte (.inl (fun j => Int32.ofInt ((fun _ => 0 : Nat → Int) j))) rfl (by rfl) (by omega) (fun cA => by rfl) (by decide +kernel) dX9_sortsOf_2 (fun a an => ?_)
  refine wa_astore_n hX (i := 1) dX9_sortsOf_4 rfl rfl ?_
  dsimp only [List.set]
  refine wi_iconst hX dX9_sortsOf_5 ?_
  refine wa_istore_n hX (i := 2) dX9_sortsOf_6 rfl rfl ?_
  dsimp only [List.set]
  refine WA.loop (σ := Nat × (Nat → Int)) (fun s => (2^e) - s.1) (fun s => s.1 ≤ (2^e) ∧ ∀ j, j < s.1 → s.2 j = (fun s => ((sortN rk e s : Nat) : Int)) j) (fun s => hset h a (2, aI .byte (2^e) s.2)) (fun s => [.val (.ref q), .val (.ref a), .val (I (s.1 : Nat))]) ?_ (0, fun _ => 0) ⟨Nat.zero_le _, fill_0⟩
  rintro ⟨i, f⟩ ⟨hi, hf⟩ ih
  dsimp only at hi hf ⊢
  have h2 : hset h a (2, aI .byte (2^e) f) a = some (2, aI .byte (2^e) f) := hset_eq
  have h1i := hset_new (x := (2, aI .byte (2^e) f)) an h1
  refine wa_iload_n hX (i := 2) dX9_sortsOf_7 rfl rfl ?_
  refine wa_aload_n hX (i := 1) dX9_sortsOf_8 rfl rfl ?_
  refine wa_len hX (by assumption) dX9_sortsOf_9 ?_
  refine wi_icmp_ge hX (tgt := 34) dX9_sortsOf_10 (by decide) (by omega) (by omega) (fun c10 => ?_) (fun c10 => ?_)
  · skip
    refine WA.ext9 _ h2 (fun j hj => hf j (by omega)) ?_
    rw [hset_hset]
    refine wa_aload_n hX (i := 1) dX9_sortsOf_34 rfl rfl ?_
    refine wa_aretR hX dX9_sortsOf_35 (by first | exact Or.inl ⟨_, rfl⟩ | exact Or.inr ⟨_, rfl⟩) ?_
    exact ⟨a, rfl, an, rfl⟩
  · skip
    refine wa_aload_n hX (i := 1) dX9_sortsOf_13 rfl rfl ?_
    refine wa_iload_n hX (i := 2) dX9_sortsOf_14 rfl rfl ?_
    refine wa_aload_n hX (i := 0) dX9_sortsOf_15 rfl rfl ?_
    refine wa_iload_n hX (i := 2) dX9_sortsOf_16 rfl rfl ?_
    refine wa_callS hX (c_X9_sortsByNumber hW d h1i he (s := i) (by omega) hrk) (by rfl) (by omega) (nA := 2) (by rfl) (by decide +kernel) rfl (by exact Nat.le_of_ble_eq_true rfl) dX9_sortsOf_17 (fun r17 h17 p17 => ?_) (fun _ _ q => q.elim)
    obtain ⟨rfl, qq17⟩ := p17; subst h17
    dsimp only [Option.toList, List.cons_append, List.nil_append]
    refine wa_aload_n hX (i := 0) dX9_sortsOf_20 rfl rfl ?_
    refine wa_iload_n hX (i := 2) dX9_sortsOf_21 rfl rfl ?_
    refine wa_callS hX (c_X9_sortsByNeighbours hW d h1i he (s := i) (by omega) hrk) (by rfl) (by omega) (nA := 2) (by rfl) (by decide +kernel) rfl (by exact Nat.le_of_ble_eq_true rfl) dX9_sortsOf_22 (fun r22 h22 p22 => ?_) (fun _ _ q => q.elim)
    obtain ⟨rfl, rfl⟩ := p22
    have hq := sortN_lt rk e i
    dsimp only [Option.toList, List.cons_append, List.nil_append]
    refine wn_ior hX dX9_sortsOf_25 (by rfl) (by rfl) ?_
    refine wn_i2b hX (sortN rk e i) dX9_sortsOf_26 (by rfl) (by omega) ?_
    refine wi_bastore hX h2 (by omega) (by omega) (by omega) (nar8 _ (by omega)) dX9_sortsOf_27 ?_
    rw [hset_hset]
    refine wi_iinc hX dX9_sortsOf_28 rfl ?_
    dsimp only [List.set]
    refine wa_goto hX (tgt := 7) dX9_sortsOf_31 (by decide) ?_
    exact ih (i + 1, _) ⟨by show i + 1 ≤ 2 ^ e; omega, fill_step hf⟩ (by show 2 ^ e - (i + 1) < 2 ^ e - i; omega)
end C24
