/-! Circuitfold$Tables (X9): marks and their ranks; Circuitfold$Row (X8): put, greatest; Circuitfold$Matroid (X6): the rest of the reads -/
theorem b2n_inR (b : Bool) : inR ((b2n b : Nat) : Int) := inR_nat (by have := b2n_le b; omega)
theorem up_is {α : Type} {f : Nat → α} {k j : Nat} {x : α} : up f k x j = if j = k then x else f j := rfl
theorem and_testBit {a b : Nat} (h : a &&& b = a) {i : Nat} (hi : a.testBit i = true) : b.testBit i = true := by
  have h2 := congrArg (fun z => z.testBit i) h
  simp only [Nat.testBit_and, hi, Bool.true_and] at h2
  exact h2
/-- the parts of s fall from p to (p - 1) & s -/
theorem sub_pred : ∀ (p s q : Nat), p &&& s = p → q &&& s = q → q < p → q ≤ (p - 1) &&& s := by
  intro p
  induction p using Nat.strongRecOn with
  | _ p ih =>
    intro s q hp hq hlt
    have hp2 : p / 2 &&& s / 2 = p / 2 := by rw [← Nat.and_div_two, hp]
    have hq2 : q / 2 &&& s / 2 = q / 2 := by rw [← Nat.and_div_two, hq]
    have hm : ∀ a b : Nat, (a &&& b) % 2 = a % 2 * (b % 2) := fun a b => by
      have h0 := Nat.testBit_and a b 0
      simp only [Nat.testBit_zero] at h0
      rcases Nat.mod_two_eq_zero_or_one a with e1 | e1 <;> rcases Nat.mod_two_eq_zero_or_one b with e2 | e2 <;> rcases Nat.mod_two_eq_zero_or_one (a &&& b) with e3 | e3 <;> simp_all
    have hd : ∀ a b : Nat, (a &&& b) = 2 * (a / 2 &&& b / 2) + a % 2 * (b % 2) := fun a b => by
      rw [← Nat.and_div_two, ← hm]; omega
    rcases Nat.mod_two_eq_zero_or_one p with e | e
    · by_cases h0 : q / 2 < p / 2
      · have h1 := ih (p / 2) (by omega) (s / 2) (q / 2) hp2 hq2 h0
        have h3 : (p - 1) / 2 = p / 2 - 1 := by omega
        have h4 : (p - 1) % 2 = 1 := by omega
        rw [hd (p - 1) s, h3, h4]
        have h5 := hm q s
        rw [hq] at h5
        have h6 : q % 2 ≤ s % 2 := by
          rcases Nat.mod_two_eq_zero_or_one s with e2 | e2
          · rw [e2] at h5; omega
          · omega
        omega
      · omega
    · have h3 : (p - 1) / 2 = p / 2 := by omega
      have h4 : (p - 1) % 2 = 0 := by omega
      rw [hd (p - 1) s, h3, h4, hp2]
      omega
theorem xor_lt {s k : Nat} (h : s.testBit k = true) : s ^^^ 2 ^ k < s := by
  have e : s &&& 2 ^ k = 2 ^ k := by
    apply Nat.eq_of_testBit_eq
    intro i
    rw [Nat.testBit_and, bit_two]
    by_cases q : k = i
    · subst q; simp [h]
    · simp [q]
  have h1 := sdf_le s (2 ^ k)
  unfold sdf at h1
  rw [e] at h1
  rcases Nat.lt_or_eq_of_le h1 with q | q
  · exact q
  · have h2 := congrArg (fun z => z.testBit k) q
    simp only [Nat.testBit_xor, bit_two, h] at h2
    simp at h2
def parted (sf1 sf2 : Nat → Nat) (s : Nat) : Bool := anyB (fun p => (p &&& s == p) && (sf1 p &&& 1 != 0) && (sf2 (sdf s p) &&& 1 != 0)) (s + 1)
def maxB (p : Nat → Nat) : Nat → Nat
  | 0 => 0
  | n + 1 => max (maxB p n) (p n)
theorem maxB_le {p : Nat → Nat} {n b : Nat} (h : ∀ k, k < n → p k ≤ b) : maxB p n ≤ b := by
  induction n with
  | zero => exact Nat.zero_le _
  | succ n ih =>
    have := ih (fun k hk => h k (by omega))
    have := h n (by omega)
    unfold maxB
    omega
theorem maxB_stop {p : Nat → Nat} {k e : Nat} (h : ∀ j, k ≤ j → p j = 0) (hk : k ≤ e) : maxB p e = maxB p k := by
  induction e with
  | zero => rw [show k = 0 by omega]
  | succ e ih =>
    rcases Nat.lt_or_eq_of_le hk with q | q
    · have h1 := ih (by omega)
      have h2 := h e (by omega)
      show max (maxB p e) (p e) = _
      omega
    · rw [q]
theorem maxB_up {p : Nat → Nat} {n : Nat} : maxB p n = maxB p n := rfl
/-- ranks of marks, as they are found one after another -/
def rkT (g : Nat → Nat) (e : Nat) : Nat → Nat → Nat
  | 0 => fun _ => 0
  | n + 1 => fun j => if j = n then (if g n ≠ 0 then bc n else maxB (fun k => if n.testBit k then rkT g e n (n ^^^ 2 ^ k) else 0) e) else rkT g e n j
theorem rkT_le (g : Nat → Nat) (e n j : Nat) : rkT g e n j ≤ 10 := by
  induction n generalizing j with
  | zero => exact Nat.zero_le _
  | succ n ih =>
    unfold rkT
    split
    · split
      · exact bc_le n
      · refine maxB_le (fun k _ => ?_)
        split
        · exact ih _
        · exact Nat.zero_le _
    · exact ih j
theorem testBit_hi {s k : Nat} (h : s < 2 ^ k) : s.testBit k = false := Nat.testBit_lt_two_pow h
section C25
variable {l : Launch} {D : va_G} {S0 : State}
/-- whether a set is of a sort -/
theorem c_X6_has (hW : WOK l D S0) (d : Nat) {h : AH} {a la e full rq hq tq lt so : Nat} {sym : Int} {s : Nat} {v2 v3 : Value} {sf : Nat → Nat} (h1 : h a = some (la, oMat e full rq hq tq sym v2 v3)) (h2 : h tq = some (lt, aB e sf)) (he : e ≤ 10) (hs : s < 2 ^ e) (hsf : ∀ j, j < 2 ^ e → sf j < 32) : MA l D S0 yX6_isSort cX6_isSort 3 (some .boolean) d [.ref a, I (s : Int), I so] h 0 0 (fun r h' => r = some (I ((b2n (sf s &&& so != 0) : Nat) : Int)) ∧ h' = h) (fun _ _ => False) := by
  have h := c_X6_sort hW d h1 h2 (so := so) he hs hsf
  have e9 : (if sf s &&& so ≠ 0 then (1 : Int) else 0) = ((b2n (sf s &&& so != 0) : Nat) : Int) := by
    unfold b2n
    by_cases q : sf s &&& so = 0
    · simp [q]
    · simp [q]
  rw [e9] at h
  exact h
/-- the circuit in a basis and one element more -/
def cirN (sf : Nat → Nat) (e b el : Nat) : Nat := 2 ^ el ||| orB (fun m => b.testBit m && (sf (sdf b (2 ^ m) ||| 2 ^ el) &&& 2 != 0)) e
set_option maxRecDepth 100000 in
theorem c_X6_circuitIn (hW : WOK l D S0) (d : Nat) {h : AH} {a la e full rq hq tq lt b el : Nat} {sym : Int} {v2 v3 : Value} {sf : Nat → Nat} (h1 : h a = some (la, oMat e full rq hq tq sym v2 v3)) (h2 : h tq = some (lt, aB e sf)) (he : e ≤ 10) (hb : b < 2 ^ e) (hel : el < e) (hsf : ∀ j, j < 2 ^ e → sf j < 32) : MA l D S0 yX6_circuitIn cX6_circuitIn 6 (some .int) (d + 1) [.ref a, I (b : Int), I (el : Int)] h 0 0 (fun r h' => r = some (I (cirN sf e b el : Nat)) ∧ h' = h) (fun _ _ => False) := by
  have hp := p2_le he
  refine MA.start hW (by decide) [.val (.ref a), .val (I (b : Int)), .val (I (el : Int)), .unset, .unset, .unset] rfl ?_
  rintro X rfl rfl rfl hX
  refine wi_iconst hX dX6_circuitIn_0 ?_
  refine wa_iload_n hX (i := 2) dX6_circuitIn_1 rfl rfl ?_
  refine wn_shl1 hX dX6_circuitIn_2 (by rfl) (by omega) ?_
  refine wa_istore_n hX (i := 3) dX6_circuitIn_3 rfl (by first | rfl | exact hu1 | exact hu2 | exact hu3 | exact hu4) ?_
  dsimp only [List.set]
  refine wi_iconst hX dX6_circuitIn_4 ?_
  refine wa_istore hX dX6_circuitIn_5 (by first | rfl | exact hu1 | exact hu2 | exact hu3 | exact hu4) ?_
  dsimp only [List.set]
  refine WA.eq rfl (by simp [orB]) rfl (WA.loop (σ := Nat × Slot) (fun z => e - z.1) (fun z => z.1 ≤ e ∧ okS [z.2] 0 = true) (fun _ => h) (fun z => [.val (.ref a), .val (I (b : Int)), .val (I (el : Int)), .val (I (2 ^ el ||| orB (fun m => b.testBit m && (sf (sdf b (2 ^ m) ||| 2 ^ el) &&& 2 != 0)) z.1 : Nat)), .val (I (z.1 : Nat)), z.2]) ?_ (0, .unset) ⟨Nat.zero_le _, rfl⟩)
  rintro ⟨j, u1⟩ ⟨hj, hu1⟩ ih
  dsimp only at hj hu1 ⊢
  have hs9 := sdf_lt (a := b) (b := 2 ^ j) hb
  refine wa_iload hX dX6_circuitIn_7 rfl ?_
  refine wa_aload_n hX (i := 0) dX6_circuitIn_9 rfl rfl ?_
  refine wa_get hX 0 (by assumption) (by rfl) (by decide +kernel) dX6_circuitIn_10 ?_
  refine wi_icmp_ge hX (tgt := 59) dX6_circuitIn_13 (by decide) (by omega) (by omega) (fun c13 => ?_) (fun c13 => ?_)
  · skip
    refine wa_iload_n hX (i := 3) dX6_circuitIn_59 rfl rfl ?_
    refine wa_iret hX dX6_circuitIn_60 ?_
    refine ⟨?_, rfl⟩
    rw [show j = e by omega]
    rfl
  · skip
    refine wa_iload_n hX (i := 1) dX6_circuitIn_16 rfl rfl ?_
    refine wi_iconst hX dX6_circuitIn_17 ?_
    refine wa_iload hX dX6_circuitIn_18 rfl ?_
    refine wn_shl1 hX dX6_circuitIn_20 (by rfl) (by omega) ?_
    refine wi_iconst hX dX6_circuitIn_21 ?_
    refine wa_ixor hX dX6_circuitIn_22 ?_
    refine wn_andn hX dX6_circuitIn_23 (by rfl) (by rfl) ?_
    refine wa_istore hX dX6_circuitIn_24 (by first | rfl | exact hu1 | exact hu2 | exact hu3 | exact hu4) ?_
    dsimp only [List.set]
    refine wa_iload hX dX6_circuitIn_26 rfl ?_
    refine wa_iload_n hX (i := 1) dX6_circuitIn_28 rfl rfl ?_
    refine wi_icmp_eq hX (tgt := 53) dX6_circuitIn_29 (by decide) (by omega) (by omega) (fun c29 => ?_) (fun c29 => ?_)
    · skip
      refine wi_iinc hX dX6_circuitIn_53 rfl ?_
      dsimp only [List.set]
      refine wa_goto hX (tgt := 7) dX6_circuitIn_56 (by decide) ?_
      refine WA.eq rfl ?_ rfl (ih (j + 1, .val (I ((sdf b (2 ^ j) : Nat) : Int))) ⟨by show j + 1 ≤ e; omega, rfl⟩ (by show e - (j + 1) < e - j; omega))
      dsimp only
      first
        | (have q1 : sdf b (2 ^ j) = b := by omega
           rw [orB_n (by rw [sdf_self, and_bit0] at q1; rw [q1, Bool.false_and]; decide)]; rfl)
        | (have q1 : ¬ b &&& 2 ^ j = 0 := fun z => by rw [← sdf_self] at z; omega
           rw [and_bit1] at q1
           first
             | (rw [orB_y (by rw [q1, b2n_t c43]; rfl), ← Nat.or_assoc]; rfl)
             | (rw [orB_n (by rw [q1, b2n_f c43]; decide)]; rfl))
    · skip
      refine wa_aload_n hX (i := 0) dX6_circuitIn_32 rfl rfl ?_
      refine wa_iload hX dX6_circuitIn_33 rfl ?_
      refine wi_iconst hX dX6_circuitIn_35 ?_
      refine wa_iload_n hX (i := 2) dX6_circuitIn_36 rfl rfl ?_
      refine wn_shl1 hX dX6_circuitIn_37 (by rfl) (by omega) ?_
      refine wn_ior hX dX6_circuitIn_38 (by rfl) (by rfl) ?_
      refine wi_iconst hX dX6_circuitIn_39 ?_
      refine wa_callV hX (c_X6_has hW d h1 h2 he (s := sdf b (2 ^ j) ||| 2 ^ el) (or_lt hs9 (bit_lt hel)) hsf) (by assumption) (by rfl) (by rfl) (by omega) (nA := 2) (by rfl) (by decide +kernel) rfl (by exact Nat.le_of_ble_eq_true rfl) dX6_circuitIn_40 (fun r40 h40 p40 => ?_) (fun _ _ q => q.elim)
      obtain ⟨rfl, qq40⟩ := p40; subst h40
      dsimp only [Option.toList, List.cons_append, List.nil_append]
      refine wi_if_eq hX (tgt := 53) dX6_circuitIn_43 (by decide) (by exact b2n_inR _) (fun c43 => ?_) (fun c43 => ?_)
      · skip
        refine wi_iinc hX dX6_circuitIn_53 rfl ?_
        dsimp only [List.set]
        refine wa_goto hX (tgt := 7) dX6_circuitIn_56 (by decide) ?_
        refine WA.eq rfl ?_ rfl (ih (j + 1, .val (I ((sdf b (2 ^ j) : Nat) : Int))) ⟨by show j + 1 ≤ e; omega, rfl⟩ (by show e - (j + 1) < e - j; omega))
        dsimp only
        first
          | (have q1 : sdf b (2 ^ j) = b := by omega
             rw [orB_n (by rw [sdf_self, and_bit0] at q1; rw [q1, Bool.false_and]; decide)]; rfl)
          | (have q1 : ¬ b &&& 2 ^ j = 0 := fun z => by rw [← sdf_self] at z; omega
             rw [and_bit1] at q1
             first
               | (rw [orB_y (by rw [q1, b2n_t c43]; rfl), ← Nat.or_assoc]; rfl)
               | (rw [orB_n (by rw [q1, b2n_f c43]; decide)]; rfl))
      · skip
        refine wa_iload_n hX (i := 3) dX6_circuitIn_46 rfl rfl ?_
        refine wi_iconst hX dX6_circuitIn_47 ?_
        refine wa_iload hX dX6_circuitIn_48 rfl ?_
        refine wn_shl1 hX dX6_circuitIn_50 (by rfl) (by omega) ?_
        refine wn_ior hX dX6_circuitIn_51 (by rfl) (by rfl) ?_
        refine wa_istore_n hX (i := 3) dX6_circuitIn_52 rfl (by first | rfl | exact hu1 | exact hu2 | exact hu3 | exact hu4) ?_
        dsimp only [List.set]
        refine wi_iinc hX dX6_circuitIn_53 rfl ?_
        dsimp only [List.set]
        refine wa_goto hX (tgt := 7) dX6_circuitIn_56 (by decide) ?_
        refine WA.eq rfl ?_ rfl (ih (j + 1, .val (I ((sdf b (2 ^ j) : Nat) : Int))) ⟨by show j + 1 ≤ e; omega, rfl⟩ (by show e - (j + 1) < e - j; omega))
        dsimp only
        first
          | (have q1 : sdf b (2 ^ j) = b := by omega
             rw [orB_n (by rw [sdf_self, and_bit0] at q1; rw [q1, Bool.false_and]; decide)]; rfl)
          | (have q1 : ¬ b &&& 2 ^ j = 0 := fun z => by rw [← sdf_self] at z; omega
             rw [and_bit1] at q1
             first
               | (rw [orB_y (by rw [q1, b2n_t c43]; rfl), ← Nat.or_assoc]; rfl)
               | (rw [orB_n (by rw [q1, b2n_f c43]; decide)]; rfl))
def lowN (sf : Nat → Nat) (e el : Nat) : Nat := ntz (2 ^ el ||| orN (fun s => s.testBit el && (sf s &&& 4 != 0)) (2 ^ e))
set_option maxRecDepth 100000 in
theorem c_X6_lowestWith (hW : WOK l D S0) (d : Nat) {h : AH} {a la e full rq hq tq lt el : Nat} {sym : Int} {v2 v3 : Value} {sf : Nat → Nat} (h1 : h a = some (la, oMat e full rq hq tq sym v2 v3)) (h2 : h tq = some (lt, aB e sf)) (he : e ≤ 10) (hel : el < e) (hsf : ∀ j, j < 2 ^ e → sf j < 32) : MA l D S0 yX6_lowestWith cX6_lowestWith 4 (some .int) (d + 1) [.ref a, I (el : Int)] h 0 0 (fun r h' => r = some (I (lowN sf e el : Nat)) ∧ h' = h) (fun _ _ => False) := by
  have hp := p2_le he
  have hp0 := p2_pos e
  refine MA.start hW (by decide) [.val (.ref a), .val (I (el : Int)), .unset, .unset] rfl ?_
  rintro X rfl rfl rfl hX
  refine wi_iconst hX dX6_lowestWith_0 ?_
  refine wa_iload_n hX (i := 1) dX6_lowestWith_1 rfl rfl ?_
  refine wn_shl1 hX dX6_lowestWith_2 (by rfl) (by omega) ?_
  refine wa_istore_n hX (i := 2) dX6_lowestWith_3 rfl rfl ?_
  dsimp only [List.set]
  refine wi_iconst hX dX6_lowestWith_4 ?_
  refine wa_istore_n hX (i := 3) dX6_lowestWith_5 rfl rfl ?_
  dsimp only [List.set]
  refine WA.eq rfl (by simp [orN]) rfl (WA.loop (σ := Nat) (fun z => 2 ^ e - z) (fun z => z ≤ 2 ^ e) (fun _ => h) (fun z => [.val (.ref a), .val (I (el : Int)), .val (I (2 ^ el ||| orN (fun s => s.testBit el && (sf s &&& 4 != 0)) z : Nat)), .val (I (z : Nat))]) ?_ 0 (Nat.zero_le _))
  intro j hj ih
  refine wa_iload_n hX (i := 3) dX6_lowestWith_6 rfl rfl ?_
  refine wa_aload_n hX (i := 0) dX6_lowestWith_7 rfl rfl ?_
  refine wa_get hX 1 (by assumption) (by rfl) (by decide +kernel) dX6_lowestWith_8 ?_
  refine wi_icmp_gt hX (tgt := 41) dX6_lowestWith_11 (by decide) (by omega) (by omega) (fun c11 => ?_) (fun c11 => ?_)
  · skip
    refine wa_iload_n hX (i := 2) dX6_lowestWith_41 rfl rfl ?_
    refine wa_callS hX (c_J6_ntz hW d (2 ^ el ||| orN (fun s => s.testBit el && (sf s &&& 4 != 0)) j) (Nat.lt_of_lt_of_le (or_lt (bit_lt hel) (orN_lt hj)) hp)) (by rfl) (by omega) (nA := 1) (by rfl) (by decide +kernel) rfl (by exact Nat.le_of_ble_eq_true rfl) dX6_lowestWith_42 (fun r42 h42 p42 => ?_) (fun _ _ q => q.elim)
    obtain ⟨rfl, qq42⟩ := p42; subst h42
    dsimp only [Option.toList, List.cons_append, List.nil_append]
    refine wa_iret hX dX6_lowestWith_45 ?_
    refine ⟨?_, rfl⟩
    rw [show j = 2 ^ e by omega]
    rfl
  · skip
    refine wa_iload_n hX (i := 3) dX6_lowestWith_14 rfl rfl ?_
    refine wi_iconst hX dX6_lowestWith_15 ?_
    refine wa_iload_n hX (i := 1) dX6_lowestWith_16 rfl rfl ?_
    refine wn_shl1 hX dX6_lowestWith_17 (by rfl) (by omega) ?_
    refine wn_iand hX dX6_lowestWith_18 (by rfl) (by rfl) ?_
    refine wi_if_eq hX (tgt := 35) dX6_lowestWith_19 (by decide) (by first | omega | exact inR_nat (and_ltl (by omega)) | exact inR_nat (and_ltr (by omega))) (fun c19 => ?_) (fun c19 => ?_)
    · skip
      refine wi_iinc hX dX6_lowestWith_35 rfl ?_
      dsimp only [List.set]
      refine wa_goto hX (tgt := 6) dX6_lowestWith_38 (by decide) ?_
      refine WA.eq rfl ?_ rfl (ih (j + 1) (by omega) (by omega))
      first
        | (rw [orN_n (by rw [and_c0 c19, Bool.false_and]; decide)]; rfl)
        | (rw [orN_y (by rw [and_c1 c19, b2n_t c28]; rfl), ← Nat.or_assoc]; rfl)
        | (rw [orN_n (by rw [and_c1 c19, b2n_f c28]; decide)]; rfl)
    · skip
      refine wa_aload_n hX (i := 0) dX6_lowestWith_22 rfl rfl ?_
      refine wa_iload_n hX (i := 3) dX6_lowestWith_23 rfl rfl ?_
      refine wi_iconst hX dX6_lowestWith_24 ?_
      refine wa_callV hX (c_X6_has hW d h1 h2 he (s := j) (by omega) hsf) (by assumption) (by rfl) (by rfl) (by omega) (nA := 2) (by rfl) (by decide +kernel) rfl (by exact Nat.le_of_ble_eq_true rfl) dX6_lowestWith_25 (fun r25 h25 p25 => ?_) (fun _ _ q => q.elim)
      obtain ⟨rfl, qq25⟩ := p25; subst h25
      dsimp only [Option.toList, List.cons_append, List.nil_append]
      refine wi_if_eq hX (tgt := 35) dX6_lowestWith_28 (by decide) (by exact b2n_inR _) (fun c28 => ?_) (fun c28 => ?_)
      · skip
        refine wi_iinc hX dX6_lowestWith_35 rfl ?_
        dsimp only [List.set]
        refine wa_goto hX (tgt := 6) dX6_lowestWith_38 (by decide) ?_
        refine WA.eq rfl ?_ rfl (ih (j + 1) (by omega) (by omega))
        first
          | (rw [orN_n (by rw [and_c0 c19, Bool.false_and]; decide)]; rfl)
          | (rw [orN_y (by rw [and_c1 c19, b2n_t c28]; rfl), ← Nat.or_assoc]; rfl)
          | (rw [orN_n (by rw [and_c1 c19, b2n_f c28]; decide)]; rfl)
      · skip
        refine wa_iload_n hX (i := 2) dX6_lowestWith_31 rfl rfl ?_
        refine wa_iload_n hX (i := 3) dX6_lowestWith_32 rfl rfl ?_
        refine wn_ior hX dX6_lowestWith_33 (by rfl) (by rfl) ?_
        refine wa_istore_n hX (i := 2) dX6_lowestWith_34 rfl rfl ?_
        dsimp only [List.set]
        refine wi_iinc hX dX6_lowestWith_35 rfl ?_
        dsimp only [List.set]
        refine wa_goto hX (tgt := 6) dX6_lowestWith_38 (by decide) ?_
        refine WA.eq rfl ?_ rfl (ih (j + 1) (by omega) (by omega))
        first
          | (rw [orN_n (by rw [and_c0 c19, Bool.false_and]; decide)]; rfl)
          | (rw [orN_y (by rw [and_c1 c19, b2n_t c28]; rfl), ← Nat.or_assoc]; rfl)
          | (rw [orN_n (by rw [and_c1 c19, b2n_f c28]; decide)]; rfl)
set_option maxRecDepth 100000 in
theorem c_X9_canBeParted (hW : WOK l D S0) (d : Nat) {h : AH} {a1 la1 a2 la2 e f1 f2 rq1 hq1 tq1 lt1 rq2 hq2 tq2 lt2 s : Nat} {s1 s2 : Int} {v12 v13 v22 v23 : Value} {sf1 sf2 : Nat → Nat} (h1 : h a1 = some (la1, oMat e f1 rq1 hq1 tq1 s1 v12 v13)) (h3 : h tq1 = some (lt1, aB e sf1)) (h4 : h a2 = some (la2, oMat e f2 rq2 hq2 tq2 s2 v22 v23)) (h5 : h tq2 = some (lt2, aB e sf2)) (he : e ≤ 10) (hs : s < 2 ^ e) (hs1 : ∀ j, j < 2 ^ e → sf1 j < 32) (hs2 : ∀ j, j < 2 ^ e → sf2 j < 32) (hz : (sf1 0 &&& 1 != 0) = true) : MA l D S0 yX9_canBeParted cX9_canBeParted 4 (some .boolean) (d + 1) [.ref a1, .ref a2, I (s : Int)] h 0 0 (fun r h' => r = some (I ((b2n (parted sf1 sf2 s) : Nat) : Int)) ∧ h' = h) (fun _ _ => False) := by
  have hp := p2_le he
  have hp0 := p2_pos e
  refine MA.start hW (by decide) [.val (.ref a1), .val (.ref a2), .val (I (s : Int)), .unset] rfl ?_
  rintro X rfl rfl rfl hX
  refine wa_iload_n hX (i := 2) dX9_canBeParted_0 rfl rfl ?_
  refine wa_istore_n hX (i := 3) dX9_canBeParted_1 rfl rfl ?_
  dsimp only [List.set]
  refine WA.loop (σ := Nat) (fun p => p) (fun p => p ≤ s ∧ p &&& s = p ∧ ∀ q, p < q → q ≤ s → ((q &&& s == q) && (sf1 q &&& 1 != 0) && (sf2 (sdf s q) &&& 1 != 0)) = false) (fun _ => h) (fun p => [.val (.ref a1), .val (.ref a2), .val (I (s : Int)), .val (I (p : Nat))]) ?_ s ⟨Nat.le_refl _, Nat.and_self s, fun q h1 h2 => absurd h1 (by omega)⟩
  rintro p ⟨hps, hpa, hf⟩ ih
  have hd9 := sdf_lt (b := p) hs
  refine wa_iload_n hX (i := 3) dX9_canBeParted_2 rfl rfl ?_
  refine wi_if_le hX (tgt := 39) dX9_canBeParted_3 (by decide) (by omega) (fun c3 => ?_) (fun c3 => ?_)
  · skip
    refine wa_aload_n hX (i := 1) dX9_canBeParted_39 rfl rfl ?_
    refine wa_iload_n hX (i := 2) dX9_canBeParted_40 rfl rfl ?_
    refine wi_iconst hX dX9_canBeParted_41 ?_
    refine wa_callV hX (c_X6_has hW d h4 h5 he (s := s) hs hs2) (by assumption) (by rfl) (by rfl) (by omega) (nA := 2) (by rfl) (by decide +kernel) rfl (by exact Nat.le_of_ble_eq_true rfl) dX9_canBeParted_42 (fun r42 h42 p42 => ?_) (fun _ _ q => q.elim)
    obtain ⟨rfl, qq42⟩ := p42; subst h42
    dsimp only [Option.toList, List.cons_append, List.nil_append]
    refine wa_zret hX dX9_canBeParted_45 (by cases (sf2 s &&& 1 != 0) <;> rfl) ?_
    refine ⟨?_, rfl⟩
    have hp9 : p = 0 := by omega
    subst hp9
    have hs0 : sdf s 0 = s := by unfold sdf; rw [Nat.and_zero, Nat.xor_zero]
    cases e9 : sf2 s &&& 1 != 0 with
    | true =>
      have hq : parted sf1 sf2 s = true := anyB_iff.mpr ⟨0, by omega, by rw [hs0, e9, hz]; simp⟩
      rw [hq]
    | false =>
      have hq : parted sf1 sf2 s = false := anyB_f (fun q hq => by
        by_cases q0 : q = 0
        · subst q0; rw [hs0, e9, Bool.and_false]
        · exact hf q (by omega) (by omega))
      rw [hq]
  · skip
    refine wa_aload_n hX (i := 0) dX9_canBeParted_6 rfl rfl ?_
    refine wa_iload_n hX (i := 3) dX9_canBeParted_7 rfl rfl ?_
    refine wi_iconst hX dX9_canBeParted_8 ?_
    refine wa_callV hX (c_X6_has hW d h1 h3 he (s := p) (by omega) hs1) (by assumption) (by rfl) (by rfl) (by omega) (nA := 2) (by rfl) (by decide +kernel) rfl (by exact Nat.le_of_ble_eq_true rfl) dX9_canBeParted_9 (fun r9 h9 p9 => ?_) (fun _ _ q => q.elim)
    obtain ⟨rfl, qq9⟩ := p9; subst h9
    dsimp only [Option.toList, List.cons_append, List.nil_append]
    refine wi_if_eq hX (tgt := 30) dX9_canBeParted_12 (by decide) (by exact b2n_inR _) (fun c12 => ?_) (fun c12 => ?_)
    · skip
      refine wa_iload_n hX (i := 3) dX9_canBeParted_30 rfl rfl ?_
      refine wi_iconst hX dX9_canBeParted_31 ?_
      refine wi_isub hX dX9_canBeParted_32 ?_
      rw [show ((p : Int) - 1) = ((p - 1 : Nat) : Int) by omega]
      refine wa_iload_n hX (i := 2) dX9_canBeParted_33 rfl rfl ?_
      refine wn_iand hX dX9_canBeParted_34 (by rfl) (by rfl) ?_
      refine wa_istore_n hX (i := 3) dX9_canBeParted_35 rfl rfl ?_
      dsimp only [List.set]
      refine wa_goto hX (tgt := 2) dX9_canBeParted_36 (by decide) ?_
      have hle : (p - 1) &&& s ≤ p - 1 := Nat.and_le_left
      refine ih ((p - 1) &&& s) ⟨Nat.and_le_right, by rw [Nat.and_assoc, Nat.and_self], fun q q1 q2 => ?_⟩ (by show (p - 1) &&& s < p; omega)
      by_cases q3 : p < q
      · exact hf q q3 q2
      · by_cases q4 : q = p
        · subst q4
          first
            | rw [b2n_f c12, Bool.and_false, Bool.false_and]
            | rw [b2n_f c25, Bool.and_false]
        · by_cases q5 : q &&& s = q
          · exact absurd (sub_pred p s q hpa q5 (by omega)) (by omega)
          · rw [show (q &&& s == q) = false by simp [q5], Bool.false_and, Bool.false_and]
    · skip
      refine wa_aload_n hX (i := 1) dX9_canBeParted_15 rfl rfl ?_
      refine wa_iload_n hX (i := 2) dX9_canBeParted_16 rfl rfl ?_
      refine wa_iload_n hX (i := 3) dX9_canBeParted_17 rfl rfl ?_
      refine wi_iconst hX dX9_canBeParted_18 ?_
      refine wa_ixor hX dX9_canBeParted_19 ?_
      refine wn_andn hX dX9_canBeParted_20 (by rfl) (by rfl) ?_
      refine wi_iconst hX dX9_canBeParted_21 ?_
      refine wa_callV hX (c_X6_has hW d h4 h5 he (s := sdf s p) hd9 hs2) (by assumption) (by rfl) (by rfl) (by omega) (nA := 2) (by rfl) (by decide +kernel) rfl (by exact Nat.le_of_ble_eq_true rfl) dX9_canBeParted_22 (fun r22 h22 p22 => ?_) (fun _ _ q => q.elim)
      obtain ⟨rfl, qq22⟩ := p22; subst h22
      dsimp only [Option.toList, List.cons_append, List.nil_append]
      refine wi_if_eq hX (tgt := 30) dX9_canBeParted_25 (by decide) (by exact b2n_inR _) (fun c25 => ?_) (fun c25 => ?_)
      · skip
        refine wa_iload_n hX (i := 3) dX9_canBeParted_30 rfl rfl ?_
        refine wi_iconst hX dX9_canBeParted_31 ?_
        refine wi_isub hX dX9_canBeParted_32 ?_
        rw [show ((p : Int) - 1) = ((p - 1 : Nat) : Int) by omega]
        refine wa_iload_n hX (i := 2) dX9_canBeParted_33 rfl rfl ?_
        refine wn_iand hX dX9_canBeParted_34 (by rfl) (by rfl) ?_
        refine wa_istore_n hX (i := 3) dX9_canBeParted_35 rfl rfl ?_
        dsimp only [List.set]
        refine wa_goto hX (tgt := 2) dX9_canBeParted_36 (by decide) ?_
        have hle : (p - 1) &&& s ≤ p - 1 := Nat.and_le_left
        refine ih ((p - 1) &&& s) ⟨Nat.and_le_right, by rw [Nat.and_assoc, Nat.and_self], fun q q1 q2 => ?_⟩ (by show (p - 1) &&& s < p; omega)
        by_cases q3 : p < q
        · exact hf q q3 q2
        · by_cases q4 : q = p
          · subst q4
            first
              | rw [b2n_f c12, Bool.and_false, Bool.false_and]
              | rw [b2n_f c25, Bool.and_false]
          · by_cases q5 : q &&& s = q
            · exact absurd (sub_pred p s q hpa q5 (by omega)) (by omega)
            · rw [show (q &&& s == q) = false by simp [q5], Bool.false_and, Bool.false_and]
      · skip
        refine wi_iconst hX dX9_canBeParted_28 ?_
        refine wa_zret hX dX9_canBeParted_29 (by rfl) ?_
        refine ⟨?_, rfl⟩
        have hq : parted sf1 sf2 s = true := anyB_iff.mpr ⟨p, by omega, by rw [hpa, b2n_t c12, b2n_t c25]; simp⟩
        rw [hq]
        rfl
end C25
