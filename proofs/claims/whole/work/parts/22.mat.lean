/-! Circuitfold$Matroid (X6): reads -/
/-- a matroid of e elements: its ranks at rq, shapes at hq, sorts at tq -/
abbrev oMat (e full rq hq tq : Nat) (sym : Int) (v2 v3 : Value) : Ob := oF 8 [I e, I ((2 ^ e - 1 : Nat) : Int), I full, .ref rq, .ref hq, .ref tq, I sym, v2, v3]
abbrev aB (e : Nat) (rk : Nat → Nat) : Ob := aI .byte (2 ^ e) (fun s => ((rk s : Nat) : Int))
section LY8
variable {X : Cx} {own : String} {cc : ByteArray} {nL : Nat} {ret : Option FieldType} {nm : String} {d : Nat} {post : Option Value → AH → Prop} {px : String → AH → Prop} {h : AH} {k sl pc : Nat} {ls : List Slot} {rest : List Value}
theorem wn_i2b (hX : Ok X own cc nL ret nm d post px) {x : Int} (z : Nat) (dg : decode cc pc = .ok (.i2b, 1)) (hx : x = (z : Int)) (hz : z < 128) (k' : WA X h k sl (pc + 1) ls (I ((z : Nat) : Int) :: rest)) : WA X h k sl pc ls (I x :: rest) := by
  subst hx
  exact wv_i2b hX dg (i8_ok _ hz) k'
end LY8
section C22
variable {l : Launch} {D : va_G} {S0 : State}
/-- a table at a set of its own -/
theorem c_X9_rk (hW : WOK l D S0) (d : Nat) {h : AH} {q lq e s : Nat} {rk : Nat → Nat} (h1 : h q = some (lq, aB e rk)) (he : e ≤ 10) (hs : s < 2 ^ e) : MA l D S0 yX9_at cX9_at 2 (some .int) d [.ref q, I (s : Int)] h 0 0 (fun r h' => r = some (I (rk s : Nat)) ∧ h' = h) (fun _ _ => False) := by
  have hp := p2_le he
  have hp0 := p2_pos e
  have h := c_X9_at hW d h1 (by omega) (i := (s : Int)) (by omega)
  rw [atv_in hs] at h
  exact h
set_option maxRecDepth 100000 in
theorem c_X6_rankOf (hW : WOK l D S0) (d : Nat) {h : AH} {a la e full rq hq tq lr : Nat} {sym : Int} {v2 v3 : Value} {rk : Nat → Nat} {i : Int} (h1 : h a = some (la, oMat e full rq hq tq sym v2 v3)) (h2 : h rq = some (lr, aB e rk)) (he : e ≤ 10) (hi : inR i) : MA l D S0 yX6_rankOf cX6_rankOf 2 (some .int) (d + 1) [.ref a, I i] h 0 0 (fun r h' => r = some (I (atv (2 ^ e) (fun s => ((rk s : Nat) : Int)) i)) ∧ h' = h) (fun _ _ => False) := by
  have hp := p2_le he
  have hp0 := p2_pos e
  refine MA.start hW (by decide) [.val (.ref a), .val (I i)] rfl ?_
  rintro X rfl rfl rfl hX
  refine wa_aload_n hX (i := 0) dX6_rankOf_0 rfl rfl ?_
  refine wa_get hX 3 (by assumption) (by rfl) (by decide +kernel) dX6_rankOf_1 ?_
  refine wa_iload_n hX (i := 1) dX6_rankOf_4 rfl rfl ?_
  refine wa_callS hX (c_X9_at hW d h2 (by omega) hi) (by rfl) (by omega) (nA := 2) (by rfl) (by decide +kernel) rfl (by exact Nat.le_of_ble_eq_true rfl) dX6_rankOf_5 (fun r5 h5 p5 => ?_) (fun _ _ q => q.elim)
  obtain ⟨rfl, rfl⟩ := p5
  dsimp only [Option.toList, List.cons_append, List.nil_append]
  refine wa_iret hX dX6_rankOf_8 ?_
  exact ⟨rfl, rfl⟩
/-- .. of a set of its own -/
theorem c_X6_rank (hW : WOK l D S0) (d : Nat) {h : AH} {a la e full rq hq tq lr : Nat} {sym : Int} {v2 v3 : Value} {rk : Nat → Nat} {s : Nat} (h1 : h a = some (la, oMat e full rq hq tq sym v2 v3)) (h2 : h rq = some (lr, aB e rk)) (he : e ≤ 10) (hs : s < 2 ^ e) : MA l D S0 yX6_rankOf cX6_rankOf 2 (some .int) (d + 1) [.ref a, I (s : Int)] h 0 0 (fun r h' => r = some (I (rk s : Nat)) ∧ h' = h) (fun _ _ => False) := by
  have hp := p2_le he
  have hp0 := p2_pos e
  have h := c_X6_rankOf hW d h1 h2 he (i := (s : Int)) (by omega)
  rw [atv_in hs] at h
  exact h
set_option maxRecDepth 100000 in
theorem c_X6_isSort (hW : WOK l D S0) (d : Nat) {h : AH} {a la e full rq hq tq lt so : Nat} {sym i : Int} {v2 v3 : Value} {sf : Nat → Nat} (h1 : h a = some (la, oMat e full rq hq tq sym v2 v3)) (h2 : h tq = some (lt, aB e sf)) (he : e ≤ 10) (hi : inR i) (hsf : ∀ j, j < 2 ^ e → sf j < 32) : MA l D S0 yX6_isSort cX6_isSort 3 (some .boolean) d [.ref a, I i, I so] h 0 0 (fun r h' => r = some (I (if 0 ≤ i ∧ i < ((2 ^ e : Nat) : Int) ∧ sf i.toNat &&& so ≠ 0 then 1 else 0)) ∧ h' = h) (fun _ _ => False) := by
  have hp := p2_le he
  have hp0 := p2_pos e
  refine MA.start hW (by decide) [.val (.ref a), .val (I i), .val (I so)] rfl ?_
  rintro X rfl rfl rfl hX
  refine wa_iload_n hX (i := 1) dX6_isSort_0 rfl rfl ?_
  refine wi_if_lt hX (tgt := 28) dX6_isSort_1 (by decide) (by omega) (fun c1 => ?_) (fun c1 => ?_)
  · skip
    refine wi_iconst hX dX6_isSort_28 ?_
    refine wa_zret hX dX6_isSort_29 (by rfl) ?_
    refine ⟨?_, rfl⟩
    first
      | rw [if_pos ⟨by omega, by omega, fun q => by omega⟩]
      | rw [if_neg (fun q => by have := q.1; have := q.2.1; have q3 := q.2.2; omega)]
  · skip
    refine wa_iload_n hX (i := 1) dX6_isSort_4 rfl rfl ?_
    refine wa_aload_n hX (i := 0) dX6_isSort_5 rfl rfl ?_
    refine wa_get hX 5 (by assumption) (by rfl) (by decide +kernel) dX6_isSort_6 ?_
    refine wa_len hX (by assumption) dX6_isSort_9 ?_
    refine wi_icmp_ge hX (tgt := 28) dX6_isSort_10 (by decide) (by omega) (by omega) (fun c10 => ?_) (fun c10 => ?_)
    · skip
      refine wi_iconst hX dX6_isSort_28 ?_
      refine wa_zret hX dX6_isSort_29 (by rfl) ?_
      refine ⟨?_, rfl⟩
      first
        | rw [if_pos ⟨by omega, by omega, fun q => by omega⟩]
        | rw [if_neg (fun q => by have := q.1; have := q.2.1; have q3 := q.2.2; omega)]
    · skip
      refine wa_aload_n hX (i := 0) dX6_isSort_13 rfl rfl ?_
      refine wa_get hX 5 (by assumption) (by rfl) (by decide +kernel) dX6_isSort_14 ?_
      refine wa_iload_n hX (i := 1) dX6_isSort_17 rfl rfl ?_
      refine wi_baload hX (by assumption) (by omega) (by omega) (by omega) dX6_isSort_18 ?_
      refine wa_iload_n hX (i := 2) dX6_isSort_19 rfl rfl ?_
      refine wn_iand hX dX6_isSort_20 (by rfl) (by rfl) ?_
      refine wi_if_eq hX (tgt := 28) dX6_isSort_21 (by decide) (by
          have h9 := Nat.lt_of_le_of_lt (Nat.and_le_left (n := sf i.toNat) (m := so)) (hsf i.toNat (by omega))
          omega) (fun c21 => ?_) (fun c21 => ?_)
      · skip
        refine wi_iconst hX dX6_isSort_28 ?_
        refine wa_zret hX dX6_isSort_29 (by rfl) ?_
        refine ⟨?_, rfl⟩
        first
          | rw [if_pos ⟨by omega, by omega, fun q => by omega⟩]
          | rw [if_neg (fun q => by have := q.1; have := q.2.1; have q3 := q.2.2; omega)]
      · skip
        refine wi_iconst hX dX6_isSort_24 ?_
        refine wa_goto hX (tgt := 29) dX6_isSort_25 (by decide) ?_
        refine wa_zret hX dX6_isSort_29 (by rfl) ?_
        refine ⟨?_, rfl⟩
        first
          | rw [if_pos ⟨by omega, by omega, fun q => by omega⟩]
          | rw [if_neg (fun q => by have := q.1; have := q.2.1; have q3 := q.2.2; omega)]
set_option maxRecDepth 100000 in
theorem c_X6_countOf (hW : WOK l D S0) (d : Nat) {h : AH} {a la e full rq hq tq lt so : Nat} {sym : Int} {v2 v3 : Value} {sf : Nat → Nat} (h1 : h a = some (la, oMat e full rq hq tq sym v2 v3)) (h2 : h tq = some (lt, aB e sf)) (he : e ≤ 10) (hsf : ∀ j, j < 2 ^ e → sf j < 32) : MA l D S0 yX6_countOf cX6_countOf 4 (some .int) d [.ref a, I so] h 0 0 (fun r h' => r = some (I (cnt (fun s => sf s &&& so != 0) (2 ^ e) : Nat)) ∧ h' = h) (fun _ _ => False) := by
  have hp := p2_le he
  have hp0 := p2_pos e
  refine MA.start hW (by decide) [.val (.ref a), .val (I so), .unset, .unset] rfl ?_
  rintro X rfl rfl rfl hX
  refine wi_iconst hX dX6_countOf_0 ?_
  refine wa_istore_n hX (i := 2) dX6_countOf_1 rfl rfl ?_
  dsimp only [List.set]
  refine wi_iconst hX dX6_countOf_2 ?_
  refine wa_istore_n hX (i := 3) dX6_countOf_3 rfl rfl ?_
  dsimp only [List.set]
  refine WA.loop (σ := Nat) (fun i => 2 ^ e - i) (fun i => i ≤ 2 ^ e) (fun _ => h) (fun i => [.val (.ref a), .val (I so), .val (I (cnt (fun s => sf s &&& so != 0) i : Nat)), .val (I (i : Nat))]) ?_ 0 (Nat.zero_le _)
  intro i hi ih
  refine wa_iload_n hX (i := 3) dX6_countOf_4 rfl rfl ?_
  refine wa_aload_n hX (i := 0) dX6_countOf_5 rfl rfl ?_
  refine wa_get hX 5 (by assumption) (by rfl) (by decide +kernel) dX6_countOf_6 ?_
  refine wa_len hX (by assumption) dX6_countOf_9 ?_
  refine wi_icmp_ge hX (tgt := 33) dX6_countOf_10 (by decide) (by omega) (by omega) (fun c10 => ?_) (fun c10 => ?_)
  · skip
    refine wa_iload_n hX (i := 2) dX6_countOf_33 rfl rfl ?_
    refine wa_iret hX dX6_countOf_34 ?_
    refine ⟨?_, rfl⟩
    rw [show i = 2 ^ e by omega]
  · skip
    refine wa_aload_n hX (i := 0) dX6_countOf_13 rfl rfl ?_
    refine wa_get hX 5 (by assumption) (by rfl) (by decide +kernel) dX6_countOf_14 ?_
    refine wa_iload_n hX (i := 3) dX6_countOf_17 rfl rfl ?_
    refine wi_baload hX (by assumption) (by omega) (by omega) (by omega) dX6_countOf_18 ?_
    refine wa_iload_n hX (i := 1) dX6_countOf_19 rfl rfl ?_
    refine wn_iand hX dX6_countOf_20 (by rfl) (by rfl) ?_
    refine wi_if_eq hX (tgt := 27) dX6_countOf_21 (by decide) (by
        have h9 := Nat.lt_of_le_of_lt (Nat.and_le_left (n := sf i) (m := so)) (hsf i (by omega))
        simp only [Int.toNat_natCast]
        omega) (fun c21 => ?_) (fun c21 => ?_)
    · skip
      refine wi_iinc hX dX6_countOf_27 rfl ?_
      dsimp only [List.set]
      refine wa_goto hX (tgt := 4) dX6_countOf_30 (by decide) ?_
      have h8 : cnt (fun s => sf s &&& so != 0) (i + 1) = cnt (fun s => sf s &&& so != 0) i + (if (sf i &&& so != 0) = true then 1 else 0) := rfl
      refine WA.eq rfl ?_ rfl (ih (i + 1) (by omega) (by omega))
      rw [h8]
      simp only [Int.toNat_natCast] at c21
      first
        | rw [if_pos (by simp; omega)]; rfl
        | rw [if_neg (by simp; omega)]; rfl
    · skip
      refine wi_iinc hX dX6_countOf_24 rfl ?_
      dsimp only [List.set]
      refine wi_iinc hX dX6_countOf_27 rfl ?_
      dsimp only [List.set]
      refine wa_goto hX (tgt := 4) dX6_countOf_30 (by decide) ?_
      have h8 : cnt (fun s => sf s &&& so != 0) (i + 1) = cnt (fun s => sf s &&& so != 0) i + (if (sf i &&& so != 0) = true then 1 else 0) := rfl
      refine WA.eq rfl ?_ rfl (ih (i + 1) (by omega) (by omega))
      rw [h8]
      simp only [Int.toNat_natCast] at c21
      first
        | rw [if_pos (by simp; omega)]; rfl
        | rw [if_neg (by simp; omega)]; rfl
/-- .. of a set of its own -/
theorem c_X6_sort (hW : WOK l D S0) (d : Nat) {h : AH} {a la e full rq hq tq lt so : Nat} {sym : Int} {s : Nat} {v2 v3 : Value} {sf : Nat → Nat} (h1 : h a = some (la, oMat e full rq hq tq sym v2 v3)) (h2 : h tq = some (lt, aB e sf)) (he : e ≤ 10) (hs : s < 2 ^ e) (hsf : ∀ j, j < 2 ^ e → sf j < 32) : MA l D S0 yX6_isSort cX6_isSort 3 (some .boolean) d [.ref a, I (s : Int), I so] h 0 0 (fun r h' => r = some (I (if sf s &&& so ≠ 0 then 1 else 0)) ∧ h' = h) (fun _ _ => False) := by
  have hp := p2_le he
  have hp0 := p2_pos e
  have h := c_X6_isSort hW d h1 h2 (so := so) he (i := (s : Int)) (by omega) hsf
  have e9 : (if 0 ≤ (s : Int) ∧ (s : Int) < ((2 ^ e : Nat) : Int) ∧ sf (s : Int).toNat &&& so ≠ 0 then 1 else 0) = (if sf s &&& so ≠ 0 then (1 : Int) else 0) := by
    rw [Int.toNat_natCast]
    by_cases q : sf s &&& so ≠ 0
    · rw [if_pos q, if_pos ⟨by omega, by omega, q⟩]
    · rw [if_neg q, if_neg (fun z => q z.2.2)]
  rw [e9] at h
  exact h
/-- the index-th of the numbers below n that p holds of, -1 if there is none -/
def nth (p : Nat → Bool) (n : Nat) (k : Int) : Int := match fst (fun s => p s && decide (((cnt p s : Nat) : Int) = k)) n with
  | some s => (s : Int)
  | none => -1
theorem ofI_zero {z : Int} (h : -4294967296 < z ∧ z < 4294967296) : Int32.ofInt z = 0 ↔ z = 0 := by
  constructor
  · intro e
    have h2 := congrArg Int32.toInt e
    rw [Int32.toInt_ofInt] at h2
    have h3 : (0 : Int32).toInt = 0 := rfl
    rw [h3] at h2
    unfold Int.bmod at h2
    have h4 : ((2 ^ 32 : Nat) : Int) = 4294967296 := by decide
    simp only [h4] at h2
    split at h2 <;> omega
  · intro e; subst e; rfl
set_option maxRecDepth 100000 in
theorem c_X6_setOf (hW : WOK l D S0) (d : Nat) {h : AH} {a la e full rq hq tq lt so : Nat} {sym i : Int} {v2 v3 : Value} {sf : Nat → Nat} (h1 : h a = some (la, oMat e full rq hq tq sym v2 v3)) (h2 : h tq = some (lt, aB e sf)) (he : e ≤ 10) (hi : inR i) (hsf : ∀ j, j < 2 ^ e → sf j < 32) : MA l D S0 yX6_setOf cX6_setOf 5 (some .int) d [.ref a, I so, I i] h 0 0 (fun r h' => r = some (I (nth (fun s => sf s &&& so != 0) (2 ^ e) i)) ∧ h' = h) (fun _ _ => False) := by
  have hp := p2_le he
  have hp0 := p2_pos e
  obtain ⟨hi1, hi2⟩ := hi
  refine MA.start hW (by decide) [.val (.ref a), .val (I so), .val (I i), .unset, .unset] rfl ?_
  rintro X rfl rfl rfl hX
  refine wa_iload_n hX (i := 2) dX6_setOf_0 rfl rfl ?_
  refine wa_istore_n hX (i := 3) dX6_setOf_1 rfl rfl ?_
  dsimp only [List.set]
  refine wi_iconst hX dX6_setOf_2 ?_
  refine wa_istore hX dX6_setOf_3 rfl ?_
  dsimp only [List.set]
  refine WA.eq rfl (by simp [cnt]) rfl (WA.loop (σ := Nat) (fun j => 2 ^ e - j) (fun j => j ≤ 2 ^ e ∧ ∀ t, t < j → (sf t &&& so != 0 && decide (((cnt (fun s => sf s &&& so != 0) t : Nat) : Int) = i)) = false) (fun _ => h) (fun j => [.val (.ref a), .val (I so), .val (I i), .val (I (i - (cnt (fun s => sf s &&& so != 0) j : Nat))), .val (I (j : Nat))]) ?_ 0 ⟨Nat.zero_le _, fun t ht => absurd ht (Nat.not_lt_zero t)⟩)
  rintro j ⟨hj, hf⟩ ih
  have hc := cnt_le (fun s => sf s &&& so != 0) j
  refine wa_iload hX dX6_setOf_5 rfl ?_
  refine wa_aload_n hX (i := 0) dX6_setOf_7 rfl rfl ?_
  refine wa_get hX 5 (by assumption) (by rfl) (by decide +kernel) dX6_setOf_8 ?_
  refine wa_len hX (by assumption) dX6_setOf_11 ?_
  refine wi_icmp_ge hX (tgt := 43) dX6_setOf_12 (by decide) (by omega) (by omega) (fun c12 => ?_) (fun c12 => ?_)
  · skip
    refine wi_iconst hX dX6_setOf_43 ?_
    refine wa_iret hX dX6_setOf_44 ?_
    refine ⟨?_, rfl⟩
    have h8 : fst (fun s => sf s &&& so != 0 && decide (((cnt (fun s => sf s &&& so != 0) s : Nat) : Int) = i)) (2 ^ e) = none := fst_none (fun t ht => hf t (by omega))
    unfold nth
    rw [h8]
  · skip
    refine wa_aload_n hX (i := 0) dX6_setOf_15 rfl rfl ?_
    refine wa_get hX 5 (by assumption) (by rfl) (by decide +kernel) dX6_setOf_16 ?_
    refine wa_iload hX dX6_setOf_19 rfl ?_
    refine wi_baload hX (by assumption) (by omega) (by omega) (by omega) dX6_setOf_21 ?_
    refine wa_iload_n hX (i := 1) dX6_setOf_22 rfl rfl ?_
    refine wn_iand hX dX6_setOf_23 (by rfl) (by rfl) ?_
    refine wi_if_eq hX (tgt := 37) dX6_setOf_24 (by decide) (by
        have h9 := Nat.lt_of_le_of_lt (Nat.and_le_left (n := sf j) (m := so)) (hsf j (by omega))
        simp only [Int.toNat_natCast]
        omega) (fun c24 => ?_) (fun c24 => ?_)
    · skip
      refine wi_iinc hX dX6_setOf_37 rfl ?_
      dsimp only [List.set]
      refine wa_goto hX (tgt := 5) dX6_setOf_40 (by decide) ?_
      have c24' : ¬ (sf j &&& so != 0) = true := by
        simp only [Int.toNat_natCast] at c24
        simp; omega
      refine WA.eq rfl ?_ rfl (ih (j + 1) ⟨by omega, fun t ht => ?_⟩ (by omega))
      · rw [cnt_n (p := fun s => sf s &&& so != 0) c24']
        rfl
      · rcases Nat.lt_succ_iff_lt_or_eq.mp ht with q | q
        · exact hf t q
        · subst q
          rw [Bool.eq_false_iff.mpr c24', Bool.false_and]
    · skip
      refine wa_iload_n hX (i := 3) dX6_setOf_27 rfl rfl ?_
      simp only [Int.toNat_natCast] at c24
      have c24' : (sf j &&& so != 0) = true := by simp; omega
      refine wr_if_ne hX (tgt := 34) dX6_setOf_28 (by decide) (fun c28 => ?_) (fun c28 => ?_)
      · rw [ofI_zero (by omega)] at c28
        refine wi_iinc hX dX6_setOf_34 rfl ?_
        dsimp only [List.set]
        refine wi_iinc hX dX6_setOf_37 rfl ?_
        dsimp only [List.set]
        refine wa_goto hX (tgt := 5) dX6_setOf_40 (by decide) ?_
        refine WA.eq rfl ?_ rfl (ih (j + 1) ⟨by omega, fun t ht => ?_⟩ (by omega))
        · rw [cnt_y (p := fun s => sf s &&& so != 0) c24']
          congr 4
          congr 2
          omega
        · rcases Nat.lt_succ_iff_lt_or_eq.mp ht with q | q
          · exact hf t q
          · subst q
            rw [decide_eq_false (by omega), Bool.and_false]
      · rw [ofI_zero (by omega)] at c28
        refine wa_iload hX dX6_setOf_31 rfl ?_
        refine wa_iret hX dX6_setOf_33 ?_
        refine ⟨?_, rfl⟩
        have h8 : fst (fun s => sf s &&& so != 0 && decide (((cnt (fun s => sf s &&& so != 0) s : Nat) : Int) = i)) (2 ^ e) = some j := fst_some (by omega) hf (by rw [c24', decide_eq_true (by omega)]; rfl)
        unfold nth
        rw [h8]
/-- the closure -/
def cloN (rk : Nat → Nat) (e s : Nat) : Nat := s ||| orB (fun el => rk (s ||| 2 ^ el) == rk s) e
set_option maxRecDepth 100000 in
theorem c_X6_closureOf (hW : WOK l D S0) (d : Nat) {h : AH} {a la e full rq hq tq lr s : Nat} {sym : Int} {v2 v3 : Value} {rk : Nat → Nat} (h1 : h a = some (la, oMat e full rq hq tq sym v2 v3)) (h2 : h rq = some (lr, aB e rk)) (he : e ≤ 10) (hs : s < 2 ^ e) (hrk : ∀ j, j < 2 ^ e → rk j ≤ 10) : MA l D S0 yX6_closureOf cX6_closureOf 4 (some .int) (d + 2) [.ref a, I (s : Int)] h 0 0 (fun r h' => r = some (I (cloN rk e s : Nat)) ∧ h' = h) (fun _ _ => False) := by
  have hp := p2_le he
  refine MA.start hW (by decide) [.val (.ref a), .val (I (s : Int)), .unset, .unset] rfl ?_
  rintro X rfl rfl rfl hX
  refine wa_iload_n hX (i := 1) dX6_closureOf_0 rfl rfl ?_
  refine wa_istore_n hX (i := 2) dX6_closureOf_1 rfl rfl ?_
  dsimp only [List.set]
  refine wi_iconst hX dX6_closureOf_2 ?_
  refine wa_istore_n hX (i := 3) dX6_closureOf_3 rfl rfl ?_
  dsimp only [List.set]
  refine WA.eq rfl (by simp [orB]) rfl (WA.loop (σ := Nat) (fun j => e - j) (fun j => j ≤ e) (fun _ => h) (fun j => [.val (.ref a), .val (I (s : Int)), .val (I (s ||| orB (fun el => rk (s ||| 2 ^ el) == rk s) j : Nat)), .val (I (j : Nat))]) ?_ 0 (Nat.zero_le _))
  intro j hj ih
  refine wa_iload_n hX (i := 3) dX6_closureOf_4 rfl rfl ?_
  refine wa_aload_n hX (i := 0) dX6_closureOf_5 rfl rfl ?_
  refine wa_get hX 0 (by assumption) (by rfl) (by decide +kernel) dX6_closureOf_6 ?_
  refine wi_icmp_ge hX (tgt := 41) dX6_closureOf_9 (by decide) (by omega) (by omega) (fun c9 => ?_) (fun c9 => ?_)
  · skip
    refine wa_iload_n hX (i := 2) dX6_closureOf_41 rfl rfl ?_
    refine wa_iret hX dX6_closureOf_42 ?_
    refine ⟨?_, rfl⟩
    rw [show j = e by omega]
    rfl
  · skip
    refine wa_aload_n hX (i := 0) dX6_closureOf_12 rfl rfl ?_
    refine wa_iload_n hX (i := 1) dX6_closureOf_13 rfl rfl ?_
    refine wi_iconst hX dX6_closureOf_14 ?_
    refine wa_iload_n hX (i := 3) dX6_closureOf_15 rfl rfl ?_
    refine wn_shl1 hX dX6_closureOf_16 (by rfl) (by omega) ?_
    refine wn_ior hX dX6_closureOf_17 (by rfl) (by rfl) ?_
    refine wa_callV hX (c_X6_rank hW d h1 h2 he (s := s ||| 2 ^ j) (or_lt hs (bit_lt (by omega)))) (by assumption) (by rfl) (by rfl) (by omega) (nA := 1) (by rfl) (by decide +kernel) rfl (by exact Nat.le_of_ble_eq_true rfl) dX6_closureOf_18 (fun r18 h18 p18 => ?_) (fun _ _ q => q.elim)
    obtain ⟨rfl, rfl⟩ := p18
    have hr1 := hrk (s ||| 2 ^ j) (or_lt hs (bit_lt (by omega)))
    dsimp only [Option.toList, List.cons_append, List.nil_append]
    refine wa_aload_n hX (i := 0) dX6_closureOf_21 rfl rfl ?_
    refine wa_iload_n hX (i := 1) dX6_closureOf_22 rfl rfl ?_
    refine wa_callV hX (c_X6_rank hW d h1 h2 he hs) (by assumption) (by rfl) (by rfl) (by omega) (nA := 1) (by rfl) (by decide +kernel) rfl (by exact Nat.le_of_ble_eq_true rfl) dX6_closureOf_23 (fun r23 h23 p23 => ?_) (fun _ _ q => q.elim)
    obtain ⟨rfl, rfl⟩ := p23
    have hr2 := hrk s hs
    dsimp only [Option.toList, List.cons_append, List.nil_append]
    refine wi_icmp_ne hX (tgt := 35) dX6_closureOf_26 (by decide) (by omega) (by omega) (fun c26 => ?_) (fun c26 => ?_)
    · skip
      refine wi_iinc hX dX6_closureOf_35 rfl ?_
      dsimp only [List.set]
      refine wa_goto hX (tgt := 4) dX6_closureOf_38 (by decide) ?_
      refine WA.eq rfl ?_ rfl (ih (j + 1) (by omega) (by omega))
      first
        | rw [orB_y (by simp; omega), ← Nat.or_assoc]; rfl
        | rw [orB_n (by simp; omega)]; rfl
    · skip
      refine wa_iload_n hX (i := 2) dX6_closureOf_29 rfl rfl ?_
      refine wi_iconst hX dX6_closureOf_30 ?_
      refine wa_iload_n hX (i := 3) dX6_closureOf_31 rfl rfl ?_
      refine wn_shl1 hX dX6_closureOf_32 (by rfl) (by omega) ?_
      refine wn_ior hX dX6_closureOf_33 (by rfl) (by rfl) ?_
      refine wa_istore_n hX (i := 2) dX6_closureOf_34 rfl rfl ?_
      dsimp only [List.set]
      refine wi_iinc hX dX6_closureOf_35 rfl ?_
      dsimp only [List.set]
      refine wa_goto hX (tgt := 4) dX6_closureOf_38 (by decide) ?_
      refine WA.eq rfl ?_ rfl (ih (j + 1) (by omega) (by omega))
      first
        | rw [orB_y (by simp; omega), ← Nat.or_assoc]; rfl
        | rw [orB_n (by simp; omega)]; rfl
end C22
