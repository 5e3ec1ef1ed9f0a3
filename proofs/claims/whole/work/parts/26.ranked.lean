/-! Circuitfold$Tables (X9): marks turned into ranks; union, places, bases; Circuitfold$Row (X8): put, greatest -/
theorem anyB_congr {p q : Nat → Bool} {n : Nat} (h : ∀ k, k < n → p k = q k) : anyB p n = anyB q n := by
  induction n with
  | zero => rfl
  | succ n ih => rw [anyB_succ, anyB_succ, ih (fun k hk => h k (by omega)), h n (by omega)]
theorem anyB_stop {p : Nat → Bool} {k e : Nat} (h : ∀ j, k ≤ j → p j = false) (hk : k ≤ e) : anyB p e = anyB p k := by
  induction e with
  | zero => rw [show k = 0 by omega]
  | succ e ih =>
    rcases Nat.lt_or_eq_of_le hk with q | q
    · rw [anyB_succ, ih (by omega), h e (by omega), Bool.or_false]
    · rw [q]
/-- marks after so many places -/
def plM (pl : Nat → Nat) (e : Nat) : Nat → Nat → Bool
  | 0 => fun s => s == 0
  | p + 1 => fun s => plM pl e p s || anyB (fun k => s.testBit k && (pl p).testBit k && plM pl e p (s ^^^ 2 ^ k)) e
/-- whether a set lies in one of the first c numbers -/
def inB (gn : Nat → Nat) (c s : Nat) : Bool := anyB (fun i => s &&& gn i == s) c
theorem maxI (a b : Nat) : ((max a b : Nat) : Int) = max (a : Int) (b : Int) := by omega
section C26
variable {l : Launch} {D : va_G} {S0 : State}
set_option maxRecDepth 100000 in
theorem c_X8_put (hW : WOK l D S0) (d : Nat) {h : AH} {a la q lq c : Nat} {z : Int} {g : Nat → Int} (h1 : h a = some (la, oRow q (c : Int))) (h2 : h q = some (lq, aI .int 60 g)) (hl : la ≠ lq) (hc : c < 60) : MA l D S0 yX8_put cX8_put 2 none d [.ref a, I z] h 0 0 (fun r h' => r = none ∧ h' = hset (hset h q (lq, aI .int 60 (up g c z))) a (la, oRow q ((c + 1 : Nat) : Int))) (fun _ _ => False) := by
  refine MA.start hW (by decide) [.val (.ref a), .val (I z)] rfl ?_
  rintro X rfl rfl rfl hX
  refine wa_aload_n hX (i := 0) dX8_put_0 rfl rfl ?_
  refine wa_get hX 1 (by assumption) (by rfl) (by decide +kernel) dX8_put_1 ?_
  refine wi_if_lt hX (tgt := 39) dX8_put_4 (by decide) (by omega) (fun c4 => ?_) (fun c4 => ?_)
  · skip
    refine wa_vret hX dX8_put_39 ?_
    first | (exfalso; omega) | exact ⟨rfl, rfl⟩
  · skip
    refine wa_aload_n hX (i := 0) dX8_put_7 rfl rfl ?_
    refine wa_get hX 1 (by assumption) (by rfl) (by decide +kernel) dX8_put_8 ?_
    refine wa_aload_n hX (i := 0) dX8_put_11 rfl rfl ?_
    refine wa_get hX 0 (by assumption) (by rfl) (by decide +kernel) dX8_put_12 ?_
    refine wa_len hX (by assumption) dX8_put_15 ?_
    refine wi_icmp_ge hX (tgt := 39) dX8_put_16 (by decide) (by omega) (by omega) (fun c16 => ?_) (fun c16 => ?_)
    · skip
      refine wa_vret hX dX8_put_39 ?_
      first | (exfalso; omega) | exact ⟨rfl, rfl⟩
    · skip
      refine wa_aload_n hX (i := 0) dX8_put_19 rfl rfl ?_
      refine wa_get hX 0 (by assumption) (by rfl) (by decide +kernel) dX8_put_20 ?_
      refine wa_aload_n hX (i := 0) dX8_put_23 rfl rfl ?_
      refine wa_get hX 1 (by assumption) (by rfl) (by decide +kernel) dX8_put_24 ?_
      refine wa_iload_n hX (i := 1) dX8_put_27 rfl rfl ?_
      refine wi_iastore hX h2 (by omega) (by omega) (by omega) dX8_put_28 ?_
      have h3 : hset h q (lq, aI .int 60 (up g c z)) a = some (la, oRow q (c : Int)) := (hset_ne (lab_ne h2 h1 hl)).trans h1
      refine wa_aload_n hX (i := 0) dX8_put_29 rfl rfl ?_
      refine wa_dup hX dX8_put_30 rfl ?_
      refine wa_get hX 1 (by assumption) (by rfl) (by decide +kernel) dX8_put_31 ?_
      refine wi_iconst hX dX8_put_34 ?_
      refine wi_iadd hX dX8_put_35 ?_
      refine wa_put hX 1 h3 (Nat.le_of_ble_eq_true rfl) (by decide +kernel) (by rfl) (by rfl) (by rfl) dX8_put_36 ?_
      refine wa_vret hX dX8_put_39 ?_
      first | (exfalso; omega) | exact ⟨rfl, rfl⟩
/-- the greatest of the first n numbers, -1 of none -/
def grt (g : Nat → Nat) : Nat → Int
  | 0 => -1
  | n + 1 => max (grt g n) (g n : Nat)
theorem grt_lt {g : Nat → Nat} {b : Nat} (h : ∀ j, g j < b) (n : Nat) : grt g n < b ∧ -1 ≤ grt g n := by
  induction n with
  | zero => exact ⟨by unfold grt; omega, by unfold grt; omega⟩
  | succ n ih => have := h n; unfold grt; omega
set_option maxRecDepth 100000 in
theorem c_X8_greatest (hW : WOK l D S0) (d : Nat) {h : AH} {a la q lq c : Nat} {g : Nat → Nat} (h1 : h a = some (la, oRow q (c : Int))) (h2 : h q = some (lq, aI .int 60 (fun j => ((g j : Nat) : Int)))) (hc : c ≤ 60) (hg : ∀ j, g j < 1024) : MA l D S0 yX8_greatest cX8_greatest 3 (some .int) (d + 1) [.ref a] h 0 0 (fun r h' => r = some (I (grt g c)) ∧ h' = h) (fun _ _ => False) := by
  refine MA.start hW (by decide) [.val (.ref a), .unset, .unset] rfl ?_
  rintro X rfl rfl rfl hX
  refine wi_iconst hX dX8_greatest_0 ?_
  refine wa_istore_n hX (i := 1) dX8_greatest_1 rfl rfl ?_
  dsimp only [List.set]
  refine wi_iconst hX dX8_greatest_2 ?_
  refine wa_istore_n hX (i := 2) dX8_greatest_3 rfl rfl ?_
  dsimp only [List.set]
  refine WA.loop (σ := Nat) (fun z => c - z) (fun z => z ≤ c) (fun _ => h) (fun z => [.val (.ref a), .val (I (grt g z)), .val (I (z : Nat))]) ?_ 0 (Nat.zero_le _)
  intro j hj ih
  have hr := grt_lt hg j
  have hr2 := hg j
  refine wa_iload_n hX (i := 2) dX8_greatest_4 rfl rfl ?_
  refine wa_aload_n hX (i := 0) dX8_greatest_5 rfl rfl ?_
  refine wa_get hX 1 (by assumption) (by rfl) (by decide +kernel) dX8_greatest_6 ?_
  refine wi_icmp_ge hX (tgt := 28) dX8_greatest_9 (by decide) (by omega) (by omega) (fun c9 => ?_) (fun c9 => ?_)
  · skip
    refine wa_iload_n hX (i := 1) dX8_greatest_28 rfl rfl ?_
    refine wa_iret hX dX8_greatest_29 ?_
    refine ⟨?_, rfl⟩
    rw [show j = c by omega]
  · skip
    refine wa_iload_n hX (i := 1) dX8_greatest_12 rfl rfl ?_
    refine wa_aload_n hX (i := 0) dX8_greatest_13 rfl rfl ?_
    refine wa_iload_n hX (i := 2) dX8_greatest_14 rfl rfl ?_
    refine wa_callV hX (c_X8_at hW d h1 h2 (i := (j : Int)) (by omega)) (by assumption) (by rfl) (by rfl) (by omega) (nA := 1) (by rfl) (by decide +kernel) rfl (by exact Nat.le_of_ble_eq_true rfl) dX8_greatest_15 (fun r15 h15 p15 => ?_) (fun _ _ q => q.elim)
    obtain ⟨rfl, qq15⟩ := p15; subst h15
    rw [if_pos (⟨by omega, by omega⟩ : 0 ≤ (j : Int) ∧ (j : Int) < 60), Int.toNat_natCast]
    dsimp only [Option.toList, List.cons_append, List.nil_append]
    refine wi_max hX (by decide +kernel) rfl (by exact Nat.le_of_ble_eq_true rfl) (by omega) (by omega) dX8_greatest_18 ?_
    refine wa_istore_n hX (i := 1) dX8_greatest_21 rfl rfl ?_
    dsimp only [List.set]
    refine wi_iinc hX dX8_greatest_22 rfl ?_
    dsimp only [List.set]
    refine wa_goto hX (tgt := 4) dX8_greatest_25 (by decide) ?_
    exact ih (j + 1) (by omega) (by omega)
set_option maxRecDepth 100000 in
theorem c_X9_canPlace (hW : WOK l D S0) (d : Nat) {h : AH} {q lq e s pl : Nat} {g : Nat → Bool} {F : Nat → Int} (h1 : h q = some (lq, aI .byte (2 ^ e) F)) (hF : ∀ j, j < s → F j = ((b2n (g j) : Nat) : Int)) (he : e ≤ 10) (hs : s < 2 ^ e) : MA l D S0 yX9_canPlaceOneMore cX9_canPlaceOneMore 4 (some .boolean) (d + 1) [.ref q, I (s : Int), I (pl : Int)] h 0 0 (fun r h' => r = some (I ((b2n (anyB (fun k => s.testBit k && pl.testBit k && g (s ^^^ 2 ^ k)) e) : Nat) : Int)) ∧ h' = h) (fun _ _ => False) := by
  have hp := p2_le he
  have hp0 := p2_pos e
  refine MA.start hW (by decide) [.val (.ref q), .val (I (s : Int)), .val (I (pl : Int)), .unset] rfl ?_
  rintro X rfl rfl rfl hX
  refine wi_iconst hX dX9_canPlaceOneMore_0 ?_
  refine wa_istore_n hX (i := 3) dX9_canPlaceOneMore_1 rfl rfl ?_
  dsimp only [List.set]
  refine WA.loop (σ := Nat) (fun k => e - k) (fun k => k ≤ e ∧ ∀ t, t < k → (s.testBit t && pl.testBit t && g (s ^^^ 2 ^ t)) = false) (fun _ => h) (fun k => [.val (.ref q), .val (I (s : Int)), .val (I (pl : Int)), .val (I ((2 ^ k : Nat) : Int))]) ?_ 0 ⟨Nat.zero_le _, fun t ht => absurd ht (Nat.not_lt_zero t)⟩
  rintro k ⟨hk, hf⟩ ih
  have hpk := p2_mono hk
  have hpk0 := p2_pos k
  refine wa_iload_n hX (i := 3) dX9_canPlaceOneMore_2 rfl rfl ?_
  refine wa_iload_n hX (i := 1) dX9_canPlaceOneMore_3 rfl rfl ?_
  refine wi_icmp_gt hX (tgt := 34) dX9_canPlaceOneMore_4 (by decide) (by omega) (by omega) (fun c4 => ?_) (fun c4 => ?_)
  · skip
    refine wi_iconst hX dX9_canPlaceOneMore_34 ?_
    refine wa_zret hX dX9_canPlaceOneMore_35 (by rfl) ?_
    refine ⟨?_, rfl⟩
    have hq : anyB (fun k => s.testBit k && pl.testBit k && g (s ^^^ 2 ^ k)) e = false := anyB_f (fun t ht => by
      by_cases e9 : t < k
      · exact hf t e9
      · have h9 := p2_mono (show k ≤ t by omega)
        rw [testBit_hi (show s < 2 ^ t by omega), Bool.false_and, Bool.false_and])
    rw [hq]
    rfl
  · skip
    have hke : k < e := p2_inv (by omega)
    refine wa_iload_n hX (i := 1) dX9_canPlaceOneMore_7 rfl rfl ?_
    refine wa_iload_n hX (i := 2) dX9_canPlaceOneMore_8 rfl rfl ?_
    refine wn_iand hX dX9_canPlaceOneMore_9 (by rfl) (by rfl) ?_
    refine wa_iload_n hX (i := 3) dX9_canPlaceOneMore_10 rfl rfl ?_
    refine wn_iand hX dX9_canPlaceOneMore_11 (by rfl) (by rfl) ?_
    refine wi_if_eq hX (tgt := 27) dX9_canPlaceOneMore_12 (by decide) (by exact inR_nat (and_ltl (and_ltl (by omega)))) (fun c12 => ?_) (fun c12 => ?_)
    · skip
      refine wa_iload_n hX (i := 3) dX9_canPlaceOneMore_27 rfl rfl ?_
      refine wi_iconst hX dX9_canPlaceOneMore_28 ?_
      refine wn_ishl hX (b := 1) dX9_canPlaceOneMore_29 (by rfl) (by rfl) (by omega) ?_
      refine wa_istore_n hX (i := 3) dX9_canPlaceOneMore_30 rfl rfl ?_
      dsimp only [List.set]
      refine wa_goto hX (tgt := 2) dX9_canPlaceOneMore_31 (by decide) ?_
      rw [p2_shl]
      refine ih (k + 1) ⟨by omega, fun t ht => ?_⟩ (by omega)
      rcases Nat.lt_succ_iff_lt_or_eq.mp ht with e9 | e9
      · exact hf t e9
      · subst e9
        first
          | (have q9 := and_c0 c12; rw [Nat.testBit_and] at q9; rw [q9, Bool.false_and])
          | rw [b2n_f c22, Bool.and_false]
    · skip
      have c12' := and_c1 c12
      rw [Nat.testBit_and, Bool.and_eq_true] at c12'
      have hx1 := xor_lt c12'.1
      have hx : s ^^^ 2 ^ k < 2 ^ e := by omega
      refine wa_aload_n hX (i := 0) dX9_canPlaceOneMore_15 rfl rfl ?_
      refine wa_iload_n hX (i := 1) dX9_canPlaceOneMore_16 rfl rfl ?_
      refine wa_iload_n hX (i := 3) dX9_canPlaceOneMore_17 rfl rfl ?_
      refine wn_ixor hX dX9_canPlaceOneMore_18 (by rfl) (by rfl) ?_
      refine wa_callS hX (c_X9_at hW d h1 (by omega) (i := ((s ^^^ 2 ^ k : Nat) : Int)) (by omega)) (by rfl) (by omega) (nA := 2) (by rfl) (by decide +kernel) rfl (by exact Nat.le_of_ble_eq_true rfl) dX9_canPlaceOneMore_19 (fun r19 h19 p19 => ?_) (fun _ _ q => q.elim)
      obtain ⟨rfl, qq19⟩ := p19; subst h19
      rw [atv_in hx, hF _ hx1]
      dsimp only [Option.toList, List.cons_append, List.nil_append]
      refine wi_if_eq hX (tgt := 27) dX9_canPlaceOneMore_22 (by decide) (by exact b2n_inR _) (fun c22 => ?_) (fun c22 => ?_)
      · skip
        refine wa_iload_n hX (i := 3) dX9_canPlaceOneMore_27 rfl rfl ?_
        refine wi_iconst hX dX9_canPlaceOneMore_28 ?_
        refine wn_ishl hX (b := 1) dX9_canPlaceOneMore_29 (by rfl) (by rfl) (by omega) ?_
        refine wa_istore_n hX (i := 3) dX9_canPlaceOneMore_30 rfl rfl ?_
        dsimp only [List.set]
        refine wa_goto hX (tgt := 2) dX9_canPlaceOneMore_31 (by decide) ?_
        rw [p2_shl]
        refine ih (k + 1) ⟨by omega, fun t ht => ?_⟩ (by omega)
        rcases Nat.lt_succ_iff_lt_or_eq.mp ht with e9 | e9
        · exact hf t e9
        · subst e9
          first
            | (have q9 := and_c0 c12; rw [Nat.testBit_and] at q9; rw [q9, Bool.false_and])
            | rw [b2n_f c22, Bool.and_false]
      · skip
        refine wi_iconst hX dX9_canPlaceOneMore_25 ?_
        refine wa_zret hX dX9_canPlaceOneMore_26 (by rfl) ?_
        refine ⟨?_, rfl⟩
        have hq : anyB (fun k => s.testBit k && pl.testBit k && g (s ^^^ 2 ^ k)) e = true := anyB_iff.mpr ⟨k, hke, by rw [c12'.1, c12'.2, b2n_t c22]; rfl⟩
        rw [hq]
        rfl
set_option maxRecDepth 100000 in
theorem c_X9_ranked (hW : WOK l D S0) (d : Nat) {h : AH} {q lq e : Nat} {g : Nat → Nat} (h1 : h q = some (lq, aB e g)) (he : e ≤ 10) (hg : ∀ s, s < 2 ^ e → g s ≤ 1) : MA l D S0 yX9_ranked cX9_ranked 4 (some (.array .byte)) (d + 1) [.ref q] h 0 0 (fun r h' => r = some (.ref q) ∧ h' = hset h q (lq, aB e (rkT g e (2 ^ e)))) (fun _ _ => False) := by
  have hp := p2_le he
  have hp0 := p2_pos e
  refine MA.start hW (by decide) [.val (.ref q), .unset, .unset, .unset] rfl ?_
  rintro X rfl rfl rfl hX
  refine wi_iconst hX dX9_ranked_0 ?_
  refine wa_istore_n hX (i := 1) dX9_ranked_1 rfl (by first | rfl | exact hu1 | exact hu2 | exact hu3 | exact hu4) ?_
  dsimp only [List.set]
  refine WA.heap (hset_self h1).symm ?_
  refine WA.loop (σ := Nat × (Nat → Int) × Slot × Slot) (fun z => 2 ^ e - z.1) (fun z => z.1 ≤ 2 ^ e ∧ okS [z.2.2.1] 0 = true ∧ okS [z.2.2.2] 0 = true ∧ ∀ j, j < 2 ^ e → z.2.1 j = ((if j < z.1 then rkT g e z.1 j else g j : Nat) : Int)) (fun z => hset h q (lq, aI .byte (2 ^ e) z.2.1)) (fun z => [.val (.ref q), .val (I (z.1 : Nat)), z.2.2.1, z.2.2.2]) ?_ (0, (fun j => ((g j : Nat) : Int)), .unset, .unset) ⟨Nat.zero_le _, rfl, rfl, fun j hj => by rw [if_neg (Nat.not_lt_zero j)]⟩
  rintro ⟨i, F, u1, u2⟩ ⟨hi, hu1, hu2, hF⟩ ih
  dsimp only at hi hu1 hu2 hF ⊢
  have h2 : hset h q (lq, aI .byte (2 ^ e) F) q = some (lq, aI .byte (2 ^ e) F) := hset_eq
  refine wa_iload_n hX (i := 1) dX9_ranked_2 rfl rfl ?_
  refine wa_aload_n hX (i := 0) dX9_ranked_3 rfl rfl ?_
  refine wa_len hX (by assumption) dX9_ranked_4 ?_
  refine wi_icmp_ge hX (tgt := 71) dX9_ranked_5 (by decide) (by omega) (by omega) (fun c5 => ?_) (fun c5 => ?_)
  · skip
    have hie : i = 2 ^ e := by omega
    subst hie
    refine WA.ext9 (fun j => ((rkT g e (2 ^ e) j : Nat) : Int)) h2 (fun j hj => by rw [hF j hj, if_pos hj]) ?_
    rw [hset_hset]
    refine wa_aload_n hX (i := 0) dX9_ranked_71 rfl rfl ?_
    refine wa_aretR hX dX9_ranked_72 (by first | exact Or.inl ⟨_, rfl⟩ | exact Or.inr ⟨_, rfl⟩) ?_
    exact ⟨rfl, rfl⟩
  · skip
    refine wi_iconst hX dX9_ranked_8 ?_
    refine wa_istore_n hX (i := 2) dX9_ranked_9 rfl (by first | rfl | exact hu1 | exact hu2 | exact hu3 | exact hu4) ?_
    dsimp only [List.set]
    refine wa_aload_n hX (i := 0) dX9_ranked_10 rfl rfl ?_
    refine wa_iload_n hX (i := 1) dX9_ranked_11 rfl rfl ?_
    have hFi := hF i (by omega)
    rw [if_neg (Nat.lt_irrefl i)] at hFi
    have hgi := hg i (by omega)
    refine wi_baload hX (by assumption) (by omega) (by omega) (by omega) dX9_ranked_12 ?_
    rw [Int.toNat_natCast, hFi]
    refine wi_if_eq hX (tgt := 24) dX9_ranked_13 (by decide) (by omega) (fun c13 => ?_) (fun c13 => ?_)
    · skip
      refine wi_iconst hX dX9_ranked_24 ?_
      refine wa_istore_n hX (i := 3) dX9_ranked_25 rfl (by first | rfl | exact hu1 | exact hu2 | exact hu3 | exact hu4) ?_
      dsimp only [List.set]
      refine WA.loop (σ := Nat) (fun k => e - k) (fun k => k ≤ e) (fun _ => hset h q (lq, aI .byte (2 ^ e) F)) (fun k => [.val (.ref q), .val (I (i : Nat)), .val (I (maxB (fun k => if i.testBit k then rkT g e i (i ^^^ 2 ^ k) else 0) k : Nat)), .val (I ((2 ^ k : Nat) : Int))]) ?_ 0 (Nat.zero_le _)
      intro k hk ih2
      have hpk := p2_mono hk
      have hpk0 := p2_pos k
      have hmx : maxB (fun k => if i.testBit k then rkT g e i (i ^^^ 2 ^ k) else 0) k ≤ 10 := maxB_le (fun k _ => by
        show (if i.testBit k then rkT g e i (i ^^^ 2 ^ k) else 0) ≤ 10
        split
        · exact rkT_le g e i _
        · exact Nat.zero_le _)
      refine wa_iload_n hX (i := 3) dX9_ranked_26 rfl rfl ?_
      refine wa_iload_n hX (i := 1) dX9_ranked_27 rfl rfl ?_
      refine wi_icmp_gt hX (tgt := 60) dX9_ranked_28 (by decide) (by omega) (by omega) (fun c28 => ?_) (fun c28 => ?_)
      · skip
        have e8 : rkT g e (i + 1) i = maxB (fun k => if i.testBit k then rkT g e i (i ^^^ 2 ^ k) else 0) k := by
          have e7 : rkT g e (i + 1) i = (if i = i then (if g i ≠ 0 then bc i else maxB (fun k => if i.testBit k then rkT g e i (i ^^^ 2 ^ k) else 0) e) else rkT g e i i) := rfl
          rw [e7, if_pos rfl, if_neg (by omega)]
          refine maxB_stop (fun j hj => ?_) hk
          have h9 := p2_mono hj
          show (if i.testBit j then rkT g e i (i ^^^ 2 ^ j) else 0) = 0
          rw [testBit_hi (show i < 2 ^ j by omega)]
          rfl
        rw [← e8]
        have hr9 := rkT_le g e (i + 1) i
        refine wa_aload_n hX (i := 0) dX9_ranked_60 rfl rfl ?_
        refine wa_iload_n hX (i := 1) dX9_ranked_61 rfl rfl ?_
        refine wa_iload_n hX (i := 2) dX9_ranked_62 rfl rfl ?_
        refine wn_i2b hX (rkT g e (i + 1) i) dX9_ranked_63 (by omega) (by omega) ?_
        refine wi_bastore hX h2 (by omega) (by omega) (by omega) (nar8 _ (by omega)) dX9_ranked_64 ?_
        rw [hset_hset]
        refine wi_iinc hX dX9_ranked_65 rfl ?_
        dsimp only [List.set]
        refine wa_goto hX (tgt := 2) dX9_ranked_68 (by decide) ?_
        refine ih (i + 1, up F (i : Int).toNat ((rkT g e (i + 1) i : Nat) : Int), .val (I ((rkT g e (i + 1) i : Nat) : Int)), .val (I ((2 ^ k : Nat) : Int))) ⟨by show i + 1 ≤ 2 ^ e; omega, rfl, rfl, fun j hj => ?_⟩ (by show 2 ^ e - (i + 1) < 2 ^ e - i; omega)
        dsimp only
        rw [up_is, Int.toNat_natCast]
        by_cases e9 : j = i
        · subst e9; rw [if_pos rfl, if_pos (by omega)]
        · rw [if_neg e9, hF j hj]
          by_cases e5 : j < i
          · have e7 : rkT g e (i + 1) j = (if j = i then (if g i ≠ 0 then bc i else maxB (fun k => if i.testBit k then rkT g e i (i ^^^ 2 ^ k) else 0) e) else rkT g e i j) := rfl
            rw [if_pos e5, if_pos (by omega), e7, if_neg e9]
          · rw [if_neg e5, if_neg (by omega)]
      · skip
        have hke : k < e := p2_inv (by omega)
        refine wa_iload_n hX (i := 2) dX9_ranked_31 rfl rfl ?_
        refine wa_iload_n hX (i := 1) dX9_ranked_32 rfl rfl ?_
        refine wa_iload_n hX (i := 3) dX9_ranked_33 rfl rfl ?_
        refine wn_iand hX dX9_ranked_34 (by rfl) (by rfl) ?_
        refine wi_if_eq hX (tgt := 48) dX9_ranked_35 (by decide) (by first | omega | exact inR_nat (and_ltl (by omega)) | exact inR_nat (and_ltr (by omega))) (fun c35 => ?_) (fun c35 => ?_)
        · skip
          refine wi_iconst hX dX9_ranked_48 ?_
          refine wi_max hX (by decide +kernel) rfl (by exact Nat.le_of_ble_eq_true rfl) (by omega) (by omega) dX9_ranked_49 ?_
          refine wa_istore_n hX (i := 2) dX9_ranked_52 rfl (by first | rfl | exact hu1 | exact hu2 | exact hu3 | exact hu4) ?_
          dsimp only [List.set]
          refine wa_iload_n hX (i := 3) dX9_ranked_53 rfl rfl ?_
          refine wi_iconst hX dX9_ranked_54 ?_
          refine wn_ishl hX (b := 1) dX9_ranked_55 (by rfl) (by rfl) (by omega) ?_
          refine wa_istore_n hX (i := 3) dX9_ranked_56 rfl (by first | rfl | exact hu1 | exact hu2 | exact hu3 | exact hu4) ?_
          dsimp only [List.set]
          refine wa_goto hX (tgt := 26) dX9_ranked_57 (by decide) ?_
          rw [p2_shl]
          refine WA.eq rfl ?_ rfl (ih2 (k + 1) (by omega) (by omega))
          first
            | (have e9 : maxB (fun k => if i.testBit k then rkT g e i (i ^^^ 2 ^ k) else 0) (k + 1) = max (maxB (fun k => if i.testBit k then rkT g e i (i ^^^ 2 ^ k) else 0) k) (if i.testBit k then rkT g e i (i ^^^ 2 ^ k) else 0) := rfl
               rw [e9, if_pos (and_c1 c35), maxI])
            | (have e9 : maxB (fun k => if i.testBit k then rkT g e i (i ^^^ 2 ^ k) else 0) (k + 1) = max (maxB (fun k => if i.testBit k then rkT g e i (i ^^^ 2 ^ k) else 0) k) (if i.testBit k then rkT g e i (i ^^^ 2 ^ k) else 0) := rfl
               rw [e9, if_neg (fun z => absurd z (by rw [and_c0 c35]; decide)), maxI]; rfl)
        · skip
          have c35' := and_c1 c35
          have hx1 := xor_lt c35'
          have hx : i ^^^ 2 ^ k < 2 ^ e := by omega
          have hr := rkT_le g e i (i ^^^ 2 ^ k)
          refine wa_aload_n hX (i := 0) dX9_ranked_38 rfl rfl ?_
          refine wa_iload_n hX (i := 1) dX9_ranked_39 rfl rfl ?_
          refine wa_iload_n hX (i := 3) dX9_ranked_40 rfl rfl ?_
          refine wn_ixor hX dX9_ranked_41 (by rfl) (by rfl) ?_
          refine wa_callS hX (c_X9_at hW d h2 (by omega) (i := ((i ^^^ 2 ^ k : Nat) : Int)) (by omega)) (by rfl) (by omega) (nA := 2) (by rfl) (by decide +kernel) rfl (by exact Nat.le_of_ble_eq_true rfl) dX9_ranked_42 (fun r42 h42 p42 => ?_) (fun _ _ q => q.elim)
          obtain ⟨rfl, qq42⟩ := p42; subst h42
          rw [atv_in hx, hF _ hx, if_pos hx1]
          dsimp only [Option.toList, List.cons_append, List.nil_append]
          refine wa_goto hX (tgt := 49) dX9_ranked_45 (by decide) ?_
          refine wi_max hX (by decide +kernel) rfl (by exact Nat.le_of_ble_eq_true rfl) (by omega) (by omega) dX9_ranked_49 ?_
          refine wa_istore_n hX (i := 2) dX9_ranked_52 rfl (by first | rfl | exact hu1 | exact hu2 | exact hu3 | exact hu4) ?_
          dsimp only [List.set]
          refine wa_iload_n hX (i := 3) dX9_ranked_53 rfl rfl ?_
          refine wi_iconst hX dX9_ranked_54 ?_
          refine wn_ishl hX (b := 1) dX9_ranked_55 (by rfl) (by rfl) (by omega) ?_
          refine wa_istore_n hX (i := 3) dX9_ranked_56 rfl (by first | rfl | exact hu1 | exact hu2 | exact hu3 | exact hu4) ?_
          dsimp only [List.set]
          refine wa_goto hX (tgt := 26) dX9_ranked_57 (by decide) ?_
          rw [p2_shl]
          refine WA.eq rfl ?_ rfl (ih2 (k + 1) (by omega) (by omega))
          first
            | (have e9 : maxB (fun k => if i.testBit k then rkT g e i (i ^^^ 2 ^ k) else 0) (k + 1) = max (maxB (fun k => if i.testBit k then rkT g e i (i ^^^ 2 ^ k) else 0) k) (if i.testBit k then rkT g e i (i ^^^ 2 ^ k) else 0) := rfl
               rw [e9, if_pos (and_c1 c35), maxI])
            | (have e9 : maxB (fun k => if i.testBit k then rkT g e i (i ^^^ 2 ^ k) else 0) (k + 1) = max (maxB (fun k => if i.testBit k then rkT g e i (i ^^^ 2 ^ k) else 0) k) (if i.testBit k then rkT g e i (i ^^^ 2 ^ k) else 0) := rfl
               rw [e9, if_neg (fun z => absurd z (by rw [and_c0 c35]; decide)), maxI]; rfl)
    · skip
      refine wa_iload_n hX (i := 1) dX9_ranked_16 rfl rfl ?_
      refine wa_callS hX (c_J6_bitCount hW d (s := i) (by omega)) (by rfl) (by omega) (nA := 1) (by rfl) (by decide +kernel) rfl (by exact Nat.le_of_ble_eq_true rfl) dX9_ranked_17 (fun r17 h17 p17 => ?_) (fun _ _ q => q.elim)
      obtain ⟨rfl, qq17⟩ := p17; subst h17
      dsimp only [Option.toList, List.cons_append, List.nil_append]
      refine wa_istore_n hX (i := 2) dX9_ranked_20 rfl (by first | rfl | exact hu1 | exact hu2 | exact hu3 | exact hu4) ?_
      dsimp only [List.set]
      refine wa_goto hX (tgt := 60) dX9_ranked_21 (by decide) ?_
      have e8 : rkT g e (i + 1) i = bc i := by
        have e7 : rkT g e (i + 1) i = (if i = i then (if g i ≠ 0 then bc i else maxB (fun k => if i.testBit k then rkT g e i (i ^^^ 2 ^ k) else 0) e) else rkT g e i i) := rfl
        rw [e7, if_pos rfl, if_pos (by omega)]
      rw [← e8]
      have hr9 := rkT_le g e (i + 1) i
      refine wa_aload_n hX (i := 0) dX9_ranked_60 rfl rfl ?_
      refine wa_iload_n hX (i := 1) dX9_ranked_61 rfl rfl ?_
      refine wa_iload_n hX (i := 2) dX9_ranked_62 rfl rfl ?_
      refine wn_i2b hX (rkT g e (i + 1) i) dX9_ranked_63 (by omega) (by omega) ?_
      refine wi_bastore hX h2 (by omega) (by omega) (by omega) (nar8 _ (by omega)) dX9_ranked_64 ?_
      rw [hset_hset]
      refine wi_iinc hX dX9_ranked_65 rfl ?_
      dsimp only [List.set]
      refine wa_goto hX (tgt := 2) dX9_ranked_68 (by decide) ?_
      refine ih (i + 1, up F (i : Int).toNat ((rkT g e (i + 1) i : Nat) : Int), .val (I ((rkT g e (i + 1) i : Nat) : Int)), u2) ⟨by show i + 1 ≤ 2 ^ e; omega, rfl, hu2, fun j hj => ?_⟩ (by show 2 ^ e - (i + 1) < 2 ^ e - i; omega)
      dsimp only
      rw [up_is, Int.toNat_natCast]
      by_cases e9 : j = i
      · subst e9; rw [if_pos rfl, if_pos (by omega)]
      · rw [if_neg e9, hF j hj]
        by_cases e5 : j < i
        · have e7 : rkT g e (i + 1) j = (if j = i then (if g i ≠ 0 then bc i else maxB (fun k => if i.testBit k then rkT g e i (i ^^^ 2 ^ k) else 0) e) else rkT g e i j) := rfl
          rw [if_pos e5, if_pos (by omega), e7, if_neg e9]
        · rw [if_neg e5, if_neg (by omega)]
end C26
