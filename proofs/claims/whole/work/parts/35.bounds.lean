/-! Circuitfold$Bounds (X0) -/
/-- the first number below n of greatest v among those that p holds of, beginning with b0 and v0 -/
def amx (p : Nat → Bool) (v : Nat → Nat) (b0 v0 : Nat) : Nat → Nat × Nat
  | 0 => (b0, v0)
  | n + 1 => if p n = true ∧ (amx p v b0 v0 n).2 < v n then (n, v n) else amx p v b0 v0 n
def amn (p : Nat → Bool) (v : Nat → Nat) (b0 v0 : Nat) : Nat → Nat × Nat
  | 0 => (b0, v0)
  | n + 1 => if p n = true ∧ v n < (amn p v b0 v0 n).2 then (n, v n) else amn p v b0 v0 n
def pfN (rk : Nat → Nat) (s : Nat) : Nat := if rk s = 0 then 0 else (bc s + rk s - 1) / rk s
def bbN (rk : Nat → Nat) (e full s : Nat) : Nat := if full ≤ rk s then 0 else (e - bc s) / (full - rk s)
def hvN (w : Nat → Nat) (seen : Nat) : Nat → Int
  | 0 => -1
  | n + 1 => if seen.testBit n = false ∧ (hvN w seen n < 0 ∨ w (hvN w seen n).toNat < w n) then (n : Int) else hvN w seen n
def grdN (sf w : Nat → Nat) (e : Nat) : Nat → Nat × Nat
  | 0 => (0, 0)
  | k + 1 => (if (sf ((grdN sf w e k).1 ||| (if hvN w (grdN sf w e k).2 e < 0 then 0 else 2 ^ (hvN w (grdN sf w e k).2 e).toNat)) &&& 1 != 0) = true then (grdN sf w e k).1 ||| (if hvN w (grdN sf w e k).2 e < 0 then 0 else 2 ^ (hvN w (grdN sf w e k).2 e).toNat) else (grdN sf w e k).1, (grdN sf w e k).2 ||| (if hvN w (grdN sf w e k).2 e < 0 then 0 else 2 ^ (hvN w (grdN sf w e k).2 e).toNat))
theorem hvN_rng (w : Nat → Nat) (seen n : Nat) : -1 ≤ hvN w seen n ∧ hvN w seen n < n ∨ hvN w seen n = -1 := by
  induction n with
  | zero => exact Or.inr rfl
  | succ n ih =>
    unfold hvN
    split <;> omega
theorem amx_lt {p : Nat → Bool} {v : Nat → Nat} {b0 v0 n N : Nat} (h0 : b0 < N) (hn : n ≤ N) : (amx p v b0 v0 n).1 < N := by
  induction n with
  | zero => exact h0
  | succ n ih =>
    unfold amx
    split
    · show n < N; omega
    · exact ih (by omega)
theorem amx_v {p : Nat → Bool} {v : Nat → Nat} {b0 n : Nat} : (amx p v b0 (v b0) n).2 = v (amx p v b0 (v b0) n).1 := by
  induction n with
  | zero => rfl
  | succ n ih =>
    unfold amx
    split
    · rfl
    · exact ih
theorem amx_le {p : Nat → Bool} {v : Nat → Nat} {b0 v0 n B : Nat} (h0 : v0 ≤ B) (hv : ∀ j, j < n → v j ≤ B) : (amx p v b0 v0 n).2 ≤ B := by
  induction n with
  | zero => exact h0
  | succ n ih =>
    unfold amx
    split
    · exact hv n (by omega)
    · exact ih (fun j hj => hv j (by omega))
theorem amn_le {p : Nat → Bool} {v : Nat → Nat} {b0 v0 n B : Nat} (h0 : v0 ≤ B) (hv : ∀ j, j < n → v j ≤ B) : (amn p v b0 v0 n).2 ≤ B := by
  induction n with
  | zero => exact h0
  | succ n ih =>
    unfold amn
    split
    · exact hv n (by omega)
    · exact ih (fun j hj => hv j (by omega))
theorem pfN_le {rk : Nat → Nat} {s : Nat} : pfN rk s ≤ 10 := by
  have hb := bc_le s
  unfold pfN
  split
  · omega
  · rename_i h
    have : (bc s + rk s - 1) / rk s < 11 := by
      rw [Nat.div_lt_iff_lt_mul (by omega)]
      omega
    omega
theorem bbN_le {rk : Nat → Nat} {e full s : Nat} (he : e ≤ 10) : bbN rk e full s ≤ 10 := by
  unfold bbN
  split
  · omega
  · have := Nat.div_le_self (e - bc s) (full - rk s)
    omega
section C35
variable {l : Launch} {D : va_G} {S0 : State}
set_option maxRecDepth 100000 in
theorem c_X0_partsFor (hW : WOK l D S0) (d : Nat) {h : AH} {a la e full rq hq tq lr s : Nat} {sym : Int} {v2 v3 : Value} {rk : Nat → Nat} (h1 : h a = some (la, oMat e full rq hq tq sym v2 v3)) (h2 : h rq = some (lr, aB e rk)) (he : e ≤ 10) (hs : s < 2 ^ e) (hrk : ∀ s, s < 2 ^ e → rk s ≤ 10) : MA l D S0 yX0_partsFor cX0_partsFor 3 (some .int) (d + 2) [.ref a, I (s : Int)] h 0 0 (fun r h' => r = some (I (pfN rk s : Nat)) ∧ h' = h) (fun _ _ => False) := by
  have hp := p2_le he
  have hr1 := hrk s hs
  have hb := bc_le s
  refine MA.start hW (by decide) [.val (.ref a), .val (I (s : Int)), .unset] rfl ?_
  rintro X rfl rfl rfl hX
  refine wa_aload_n hX (i := 0) dX0_partsFor_0 rfl rfl ?_
  refine wa_iload_n hX (i := 1) dX0_partsFor_1 rfl rfl ?_
  refine wa_callV hX (c_X6_rank hW d h1 h2 he hs) (by assumption) (by rfl) (by rfl) (by omega) (nA := 1) (by rfl) (by decide +kernel) rfl (by exact Nat.le_of_ble_eq_true rfl) dX0_partsFor_2 (fun r2 h2 p2 => ?_) (fun _ _ q => q.elim)
  obtain ⟨rfl, qq2⟩ := p2; subst h2
  dsimp only [Option.toList, List.cons_append, List.nil_append]
  refine wa_istore_n hX (i := 2) dX0_partsFor_5 rfl rfl ?_
  dsimp only [List.set]
  refine wa_iload_n hX (i := 2) dX0_partsFor_6 rfl rfl ?_
  refine wi_if_gt hX (tgt := 14) dX0_partsFor_7 (by decide) (by omega) (fun c7 => ?_) (fun c7 => ?_)
  · skip
    refine wa_iload_n hX (i := 1) dX0_partsFor_14 rfl rfl ?_
    refine wa_callS hX (c_J6_bitCount hW d (s := s) (by omega)) (by rfl) (by omega) (nA := 1) (by rfl) (by decide +kernel) rfl (by exact Nat.le_of_ble_eq_true rfl) dX0_partsFor_15 (fun r15 h15 p15 => ?_) (fun _ _ q => q.elim)
    obtain ⟨rfl, qq15⟩ := p15; subst h15
    dsimp only [Option.toList, List.cons_append, List.nil_append]
    refine wa_iload_n hX (i := 2) dX0_partsFor_18 rfl rfl ?_
    refine wi_iadd hX dX0_partsFor_19 ?_
    refine wi_iconst hX dX0_partsFor_20 ?_
    refine wi_isub hX dX0_partsFor_21 ?_
    refine wa_iload_n hX (i := 2) dX0_partsFor_22 rfl rfl ?_
    refine wn_idiv hX (a := bc s + rk s - 1) (b := rk s) dX0_partsFor_23 (by omega) rfl (by omega) (by omega) (by omega) ?_
    refine wa_iret hX dX0_partsFor_24 ?_
    refine ⟨?_, rfl⟩
    unfold pfN
    first
      | (rw [if_pos (by omega)]; rfl)
      | rw [if_neg (by omega)]
  · skip
    refine wi_iconst hX dX0_partsFor_10 ?_
    refine wa_goto hX (tgt := 24) dX0_partsFor_11 (by decide) ?_
    refine wa_iret hX dX0_partsFor_24 ?_
    refine ⟨?_, rfl⟩
    unfold pfN
    first
      | (rw [if_pos (by omega)]; rfl)
      | rw [if_neg (by omega)]
set_option maxRecDepth 100000 in
theorem c_X0_basesBeside (hW : WOK l D S0) (d : Nat) {h : AH} {a la e full rq hq tq lr s : Nat} {sym : Int} {v2 v3 : Value} {rk : Nat → Nat} (h1 : h a = some (la, oMat e full rq hq tq sym v2 v3)) (h2 : h rq = some (lr, aB e rk)) (he : e ≤ 10) (hs : s < 2 ^ e) (hrk : ∀ s, s < 2 ^ e → rk s ≤ 10) (hfu : full ≤ 10) : MA l D S0 yX0_basesBeside cX0_basesBeside 3 (some .int) (d + 2) [.ref a, I (s : Int)] h 0 0 (fun r h' => r = some (I (bbN rk e full s : Nat)) ∧ h' = h) (fun _ _ => False) := by
  have hp := p2_le he
  have hr1 := hrk s hs
  have hb := bc_le2 e (by omega) s hs
  refine MA.start hW (by decide) [.val (.ref a), .val (I (s : Int)), .unset] rfl ?_
  rintro X rfl rfl rfl hX
  refine wa_aload_n hX (i := 0) dX0_basesBeside_0 rfl rfl ?_
  refine wa_get hX 2 (by assumption) (by rfl) (by decide +kernel) dX0_basesBeside_1 ?_
  refine wa_aload_n hX (i := 0) dX0_basesBeside_4 rfl rfl ?_
  refine wa_iload_n hX (i := 1) dX0_basesBeside_5 rfl rfl ?_
  refine wa_callV hX (c_X6_rank hW d h1 h2 he hs) (by assumption) (by rfl) (by rfl) (by omega) (nA := 1) (by rfl) (by decide +kernel) rfl (by exact Nat.le_of_ble_eq_true rfl) dX0_basesBeside_6 (fun r6 h6 p6 => ?_) (fun _ _ q => q.elim)
  obtain ⟨rfl, qq6⟩ := p6; subst h6
  dsimp only [Option.toList, List.cons_append, List.nil_append]
  refine wi_isub hX dX0_basesBeside_9 ?_
  refine wa_istore_n hX (i := 2) dX0_basesBeside_10 rfl rfl ?_
  dsimp only [List.set]
  refine wa_iload_n hX (i := 2) dX0_basesBeside_11 rfl rfl ?_
  refine wi_if_gt hX (tgt := 19) dX0_basesBeside_12 (by decide) (by omega) (fun c12 => ?_) (fun c12 => ?_)
  · skip
    refine wa_aload_n hX (i := 0) dX0_basesBeside_19 rfl rfl ?_
    refine wa_get hX 0 (by assumption) (by rfl) (by decide +kernel) dX0_basesBeside_20 ?_
    refine wa_iload_n hX (i := 1) dX0_basesBeside_23 rfl rfl ?_
    refine wa_callS hX (c_J6_bitCount hW d (s := s) (by omega)) (by rfl) (by omega) (nA := 1) (by rfl) (by decide +kernel) rfl (by exact Nat.le_of_ble_eq_true rfl) dX0_basesBeside_24 (fun r24 h24 p24 => ?_) (fun _ _ q => q.elim)
    obtain ⟨rfl, qq24⟩ := p24; subst h24
    dsimp only [Option.toList, List.cons_append, List.nil_append]
    refine wi_isub hX dX0_basesBeside_27 ?_
    refine wa_iload_n hX (i := 2) dX0_basesBeside_28 rfl rfl ?_
    refine wn_idiv hX (a := e - bc s) (b := full - rk s) dX0_basesBeside_29 (by omega) (by omega) (by omega) (by omega) (by omega) ?_
    refine wa_iret hX dX0_basesBeside_30 ?_
    refine ⟨?_, rfl⟩
    unfold bbN
    first
      | (rw [if_pos (by omega)]; rfl)
      | rw [if_neg (by omega)]
  · skip
    refine wi_iconst hX dX0_basesBeside_15 ?_
    refine wa_goto hX (tgt := 30) dX0_basesBeside_16 (by decide) ?_
    refine wa_iret hX dX0_basesBeside_30 ?_
    refine ⟨?_, rfl⟩
    unfold bbN
    first
      | (rw [if_pos (by omega)]; rfl)
      | rw [if_neg (by omega)]
set_option maxRecDepth 100000 in
theorem c_X0_hardestToCover (hW : WOK l D S0) (d : Nat) {h : AH} {a la e full rq hq tq lr : Nat} {sym : Int} {v2 v3 : Value} {rk : Nat → Nat} (h1 : h a = some (la, oMat e full rq hq tq sym v2 v3)) (h2 : h rq = some (lr, aB e rk)) (he : e ≤ 10) (hrk : ∀ s, s < 2 ^ e → rk s ≤ 10) (hz : rk 0 = 0) : MA l D S0 yX0_hardestToCover cX0_hardestToCover 5 (some .int) (d + 3) [.ref a] h 0 0 (fun r h' => r = some (I ((amx (fun _ => true) (pfN rk) 0 0 (2 ^ e)).1 : Nat)) ∧ h' = h) (fun _ _ => False) := by
  have hp := p2_le he
  have hp0 := p2_pos e
  refine MA.start hW (by decide) [.val (.ref a), .unset, .unset, .unset, .unset] rfl ?_
  rintro X rfl rfl rfl hX
  have hz1 : amx (fun _ => true) (pfN rk) 0 0 1 = (0, 0) := by
    have e9 : amx (fun _ => true) (pfN rk) 0 0 1 = (if true = true ∧ 0 < pfN rk 0 then (0, pfN rk 0) else (0, 0)) := rfl
    rw [e9, if_neg (fun q => by have := q.2; unfold pfN at this; rw [if_pos hz] at this; omega)]
  refine wi_iconst hX dX0_hardestToCover_0 ?_
  refine wa_istore_n hX (i := 1) dX0_hardestToCover_1 rfl (by first | rfl | exact hu1 | exact hu2 | exact hu3 | exact hu4) ?_
  dsimp only [List.set]
  refine wi_iconst hX dX0_hardestToCover_2 ?_
  refine wa_istore_n hX (i := 2) dX0_hardestToCover_3 rfl (by first | rfl | exact hu1 | exact hu2 | exact hu3 | exact hu4) ?_
  dsimp only [List.set]
  refine wi_iconst hX dX0_hardestToCover_4 ?_
  refine wa_istore_n hX (i := 3) dX0_hardestToCover_5 rfl (by first | rfl | exact hu1 | exact hu2 | exact hu3 | exact hu4) ?_
  dsimp only [List.set]
  refine WA.eq rfl (by simp [hz1]) rfl (WA.loop (σ := Nat × Slot) (fun z => 2 ^ e - z.1) (fun z => z.1 + 1 ≤ 2 ^ e ∧ okS [z.2] 0 = true) (fun _ => h) (fun z => [.val (.ref a), .val (I ((amx (fun _ => true) (pfN rk) 0 0 (z.1 + 1)).1 : Nat)), .val (I ((amx (fun _ => true) (pfN rk) 0 0 (z.1 + 1)).2 : Nat)), .val (I ((z.1 + 1 : Nat) : Int)), z.2]) ?_ (0, .unset) ⟨by show 0 + 1 ≤ 2 ^ e; omega, rfl⟩)
  rintro ⟨i, u1⟩ ⟨hi, hu1⟩ ih
  dsimp only at hi hu1 ⊢
  have hv := pfN_le (rk := rk) (s := i + 1)
  have hm := amx_le (p := fun _ => true) (v := pfN rk) (b0 := 0) (v0 := 0) (n := i + 1) (B := 10) (by omega) (fun j _ => pfN_le)
  have hstep : amx (fun _ => true) (pfN rk) 0 0 (i + 1 + 1) = (if true = true ∧ (amx (fun _ => true) (pfN rk) 0 0 (i + 1)).2 < pfN rk (i + 1) then (i + 1, pfN rk (i + 1)) else amx (fun _ => true) (pfN rk) 0 0 (i + 1)) := rfl
  refine wa_iload_n hX (i := 3) dX0_hardestToCover_6 rfl rfl ?_
  refine wa_aload_n hX (i := 0) dX0_hardestToCover_7 rfl rfl ?_
  refine wa_get hX 1 (by assumption) (by rfl) (by decide +kernel) dX0_hardestToCover_8 ?_
  refine wi_icmp_gt hX (tgt := 38) dX0_hardestToCover_11 (by decide) (by omega) (by omega) (fun c11 => ?_) (fun c11 => ?_)
  · skip
    refine wa_iload_n hX (i := 1) dX0_hardestToCover_38 rfl rfl ?_
    refine wa_iret hX dX0_hardestToCover_39 ?_
    refine ⟨?_, rfl⟩
    rw [show i + 1 = 2 ^ e by omega]
  · skip
    refine wa_aload_n hX (i := 0) dX0_hardestToCover_14 rfl rfl ?_
    refine wa_iload_n hX (i := 3) dX0_hardestToCover_15 rfl rfl ?_
    refine wa_callS hX (c_X0_partsFor hW d h1 h2 he (s := i + 1) (by omega) hrk) (by rfl) (by omega) (nA := 2) (by rfl) (by decide +kernel) rfl (by exact Nat.le_of_ble_eq_true rfl) dX0_hardestToCover_16 (fun r16 h16 p16 => ?_) (fun _ _ q => q.elim)
    obtain ⟨rfl, qq16⟩ := p16; subst h16
    dsimp only [Option.toList, List.cons_append, List.nil_append]
    refine wa_istore hX dX0_hardestToCover_19 (by first | rfl | exact hu1 | exact hu2 | exact hu3 | exact hu4) ?_
    dsimp only [List.set]
    refine wa_iload hX dX0_hardestToCover_21 rfl ?_
    refine wa_iload_n hX (i := 2) dX0_hardestToCover_23 rfl rfl ?_
    refine wi_icmp_le hX (tgt := 32) dX0_hardestToCover_24 (by decide) (by omega) (by omega) (fun c24 => ?_) (fun c24 => ?_)
    · skip
      refine wi_iinc hX dX0_hardestToCover_32 rfl ?_
      dsimp only [List.set]
      refine wa_goto hX (tgt := 6) dX0_hardestToCover_35 (by decide) ?_
      first
        | (rw [if_pos ⟨rfl, by omega⟩] at hstep
           refine WA.eq rfl ?_ rfl (ih (i + 1, .val (I ((pfN rk (i + 1) : Nat) : Int))) ⟨by show i + 1 + 1 ≤ 2 ^ e; omega, rfl⟩ (by show 2 ^ e - (i + 1) < 2 ^ e - i; omega))
           dsimp only
           rw [hstep]; rfl)
        | (rw [if_neg (fun q => by have := q.2; omega)] at hstep
           refine WA.eq rfl ?_ rfl (ih (i + 1, .val (I ((pfN rk (i + 1) : Nat) : Int))) ⟨by show i + 1 + 1 ≤ 2 ^ e; omega, rfl⟩ (by show 2 ^ e - (i + 1) < 2 ^ e - i; omega))
           dsimp only
           rw [hstep]; rfl)
    · skip
      refine wa_iload_n hX (i := 3) dX0_hardestToCover_27 rfl rfl ?_
      refine wa_istore_n hX (i := 1) dX0_hardestToCover_28 rfl (by first | rfl | exact hu1 | exact hu2 | exact hu3 | exact hu4) ?_
      dsimp only [List.set]
      refine wa_iload hX dX0_hardestToCover_29 rfl ?_
      refine wa_istore_n hX (i := 2) dX0_hardestToCover_31 rfl (by first | rfl | exact hu1 | exact hu2 | exact hu3 | exact hu4) ?_
      dsimp only [List.set]
      refine wi_iinc hX dX0_hardestToCover_32 rfl ?_
      dsimp only [List.set]
      refine wa_goto hX (tgt := 6) dX0_hardestToCover_35 (by decide) ?_
      first
        | (rw [if_pos ⟨rfl, by omega⟩] at hstep
           refine WA.eq rfl ?_ rfl (ih (i + 1, .val (I ((pfN rk (i + 1) : Nat) : Int))) ⟨by show i + 1 + 1 ≤ 2 ^ e; omega, rfl⟩ (by show 2 ^ e - (i + 1) < 2 ^ e - i; omega))
           dsimp only
           rw [hstep]; rfl)
        | (rw [if_neg (fun q => by have := q.2; omega)] at hstep
           refine WA.eq rfl ?_ rfl (ih (i + 1, .val (I ((pfN rk (i + 1) : Nat) : Int))) ⟨by show i + 1 + 1 ≤ 2 ^ e; omega, rfl⟩ (by show 2 ^ e - (i + 1) < 2 ^ e - i; omega))
           dsimp only
           rw [hstep]; rfl)
set_option maxRecDepth 100000 in
theorem c_X0_hardestToPack (hW : WOK l D S0) (d : Nat) {h : AH} {a la e full rq hq tq lr : Nat} {sym : Int} {v2 v3 : Value} {rk : Nat → Nat} (h1 : h a = some (la, oMat e full rq hq tq sym v2 v3)) (h2 : h rq = some (lr, aB e rk)) (he : e ≤ 10) (hrk : ∀ s, s < 2 ^ e → rk s ≤ 10) (hfu : full ≤ 10) : MA l D S0 yX0_hardestToPack cX0_hardestToPack 5 (some .int) (d + 3) [.ref a] h 0 0 (fun r h' => r = some (I ((amn (fun s => decide (rk s < full)) (bbN rk e full) 0 (bbN rk e full 0) (2 ^ e)).1 : Nat)) ∧ h' = h) (fun _ _ => False) := by
  have hp := p2_le he
  have hp0 := p2_pos e
  refine MA.start hW (by decide) [.val (.ref a), .unset, .unset, .unset, .unset] rfl ?_
  rintro X rfl rfl rfl hX
  have hz1 : amn (fun s => decide (rk s < full)) (bbN rk e full) 0 (bbN rk e full 0) 1 = (0, bbN rk e full 0) := by
    have e9 : amn (fun s => decide (rk s < full)) (bbN rk e full) 0 (bbN rk e full 0) 1 = (if decide (rk 0 < full) = true ∧ bbN rk e full 0 < bbN rk e full 0 then (0, bbN rk e full 0) else (0, bbN rk e full 0)) := rfl
    rw [e9, if_neg (fun q => Nat.lt_irrefl _ q.2)]
  refine wi_iconst hX dX0_hardestToPack_0 ?_
  refine wa_istore_n hX (i := 1) dX0_hardestToPack_1 rfl (by first | rfl | exact hu1 | exact hu2 | exact hu3 | exact hu4) ?_
  dsimp only [List.set]
  refine wa_aload_n hX (i := 0) dX0_hardestToPack_2 rfl rfl ?_
  refine wi_iconst hX dX0_hardestToPack_3 ?_
  refine wa_callS hX (c_X0_basesBeside hW d h1 h2 he (s := 0) hp0 hrk hfu) (by rfl) (by omega) (nA := 2) (by rfl) (by decide +kernel) rfl (by exact Nat.le_of_ble_eq_true rfl) dX0_hardestToPack_4 (fun r4 h4 p4 => ?_) (fun _ _ q => q.elim)
  obtain ⟨rfl, qq4⟩ := p4; subst h4
  dsimp only [Option.toList, List.cons_append, List.nil_append]
  refine wa_istore_n hX (i := 2) dX0_hardestToPack_7 rfl (by first | rfl | exact hu1 | exact hu2 | exact hu3 | exact hu4) ?_
  dsimp only [List.set]
  refine wi_iconst hX dX0_hardestToPack_8 ?_
  refine wa_istore_n hX (i := 3) dX0_hardestToPack_9 rfl (by first | rfl | exact hu1 | exact hu2 | exact hu3 | exact hu4) ?_
  dsimp only [List.set]
  refine WA.eq rfl (by simp [hz1]) rfl (WA.loop (σ := Nat × Slot) (fun z => 2 ^ e - z.1) (fun z => z.1 + 1 ≤ 2 ^ e ∧ okS [z.2] 0 = true) (fun _ => h) (fun z => [.val (.ref a), .val (I ((amn (fun s => decide (rk s < full)) (bbN rk e full) 0 (bbN rk e full 0) (z.1 + 1)).1 : Nat)), .val (I ((amn (fun s => decide (rk s < full)) (bbN rk e full) 0 (bbN rk e full 0) (z.1 + 1)).2 : Nat)), .val (I ((z.1 + 1 : Nat) : Int)), z.2]) ?_ (0, .unset) ⟨by show 0 + 1 ≤ 2 ^ e; omega, rfl⟩)
  rintro ⟨i, u1⟩ ⟨hi, hu1⟩ ih
  dsimp only at hi hu1 ⊢
  have hv := bbN_le (rk := rk) (full := full) (s := i + 1) he
  have hm := amn_le (p := fun s => decide (rk s < full)) (v := bbN rk e full) (b0 := 0) (v0 := bbN rk e full 0) (n := i + 1) (B := 10) (bbN_le he) (fun j _ => bbN_le he)
  have hr9 := hrk (i + 1)
  have hstep : amn (fun s => decide (rk s < full)) (bbN rk e full) 0 (bbN rk e full 0) (i + 1 + 1) = (if decide (rk (i + 1) < full) = true ∧ bbN rk e full (i + 1) < (amn (fun s => decide (rk s < full)) (bbN rk e full) 0 (bbN rk e full 0) (i + 1)).2 then (i + 1, bbN rk e full (i + 1)) else amn (fun s => decide (rk s < full)) (bbN rk e full) 0 (bbN rk e full 0) (i + 1)) := rfl
  refine wa_iload_n hX (i := 3) dX0_hardestToPack_10 rfl rfl ?_
  refine wa_aload_n hX (i := 0) dX0_hardestToPack_11 rfl rfl ?_
  refine wa_get hX 1 (by assumption) (by rfl) (by decide +kernel) dX0_hardestToPack_12 ?_
  refine wi_icmp_gt hX (tgt := 54) dX0_hardestToPack_15 (by decide) (by omega) (by omega) (fun c15 => ?_) (fun c15 => ?_)
  · skip
    refine wa_iload_n hX (i := 1) dX0_hardestToPack_54 rfl rfl ?_
    refine wa_iret hX dX0_hardestToPack_55 ?_
    refine ⟨?_, rfl⟩
    rw [show i + 1 = 2 ^ e by omega]
  · skip
    refine wa_aload_n hX (i := 0) dX0_hardestToPack_18 rfl rfl ?_
    refine wa_iload_n hX (i := 3) dX0_hardestToPack_19 rfl rfl ?_
    refine wa_callV hX (c_X6_rank hW (d + 1) h1 h2 he (s := i + 1) (by omega)) (by assumption) (by rfl) (by rfl) (by omega) (nA := 1) (by rfl) (by decide +kernel) rfl (by exact Nat.le_of_ble_eq_true rfl) dX0_hardestToPack_20 (fun r20 h20 p20 => ?_) (fun _ _ q => q.elim)
    obtain ⟨rfl, qq20⟩ := p20; subst h20
    dsimp only [Option.toList, List.cons_append, List.nil_append]
    refine wa_aload_n hX (i := 0) dX0_hardestToPack_23 rfl rfl ?_
    refine wa_get hX 2 (by assumption) (by rfl) (by decide +kernel) dX0_hardestToPack_24 ?_
    refine wi_icmp_ge hX (tgt := 48) dX0_hardestToPack_27 (by decide) (by omega) (by omega) (fun c27 => ?_) (fun c27 => ?_)
    · skip
      refine wi_iinc hX dX0_hardestToPack_48 rfl ?_
      dsimp only [List.set]
      refine wa_goto hX (tgt := 10) dX0_hardestToPack_51 (by decide) ?_
      first
        | (rw [if_pos ⟨decide_eq_true (by omega), by omega⟩] at hstep
           refine WA.eq rfl ?_ rfl (ih (i + 1, .val (I ((bbN rk e full (i + 1) : Nat) : Int))) ⟨by show i + 1 + 1 ≤ 2 ^ e; omega, rfl⟩ (by show 2 ^ e - (i + 1) < 2 ^ e - i; omega))
           dsimp only
           rw [hstep]; rfl)
        | (rw [if_neg (fun q => by have q2 := q.2; have q1 := of_decide_eq_true q.1; omega)] at hstep
           first
             | (refine WA.eq rfl ?_ rfl (ih (i + 1, .val (I ((bbN rk e full (i + 1) : Nat) : Int))) ⟨by show i + 1 + 1 ≤ 2 ^ e; omega, rfl⟩ (by show 2 ^ e - (i + 1) < 2 ^ e - i; omega))
                dsimp only
                rw [hstep]; rfl)
             | (refine WA.eq rfl ?_ rfl (ih (i + 1, u1) ⟨by show i + 1 + 1 ≤ 2 ^ e; omega, hu1⟩ (by show 2 ^ e - (i + 1) < 2 ^ e - i; omega))
                dsimp only
                rw [hstep]; rfl))
    · skip
      refine wa_aload_n hX (i := 0) dX0_hardestToPack_30 rfl rfl ?_
      refine wa_iload_n hX (i := 3) dX0_hardestToPack_31 rfl rfl ?_
      refine wa_callS hX (c_X0_basesBeside hW d h1 h2 he (s := i + 1) (by omega) hrk hfu) (by rfl) (by omega) (nA := 2) (by rfl) (by decide +kernel) rfl (by exact Nat.le_of_ble_eq_true rfl) dX0_hardestToPack_32 (fun r32 h32 p32 => ?_) (fun _ _ q => q.elim)
      obtain ⟨rfl, qq32⟩ := p32; subst h32
      dsimp only [Option.toList, List.cons_append, List.nil_append]
      refine wa_istore hX dX0_hardestToPack_35 (by first | rfl | exact hu1 | exact hu2 | exact hu3 | exact hu4) ?_
      dsimp only [List.set]
      refine wa_iload hX dX0_hardestToPack_37 rfl ?_
      refine wa_iload_n hX (i := 2) dX0_hardestToPack_39 rfl rfl ?_
      refine wi_icmp_ge hX (tgt := 48) dX0_hardestToPack_40 (by decide) (by omega) (by omega) (fun c40 => ?_) (fun c40 => ?_)
      · skip
        refine wi_iinc hX dX0_hardestToPack_48 rfl ?_
        dsimp only [List.set]
        refine wa_goto hX (tgt := 10) dX0_hardestToPack_51 (by decide) ?_
        first
          | (rw [if_pos ⟨decide_eq_true (by omega), by omega⟩] at hstep
             refine WA.eq rfl ?_ rfl (ih (i + 1, .val (I ((bbN rk e full (i + 1) : Nat) : Int))) ⟨by show i + 1 + 1 ≤ 2 ^ e; omega, rfl⟩ (by show 2 ^ e - (i + 1) < 2 ^ e - i; omega))
             dsimp only
             rw [hstep]; rfl)
          | (rw [if_neg (fun q => by have q2 := q.2; have q1 := of_decide_eq_true q.1; omega)] at hstep
             first
               | (refine WA.eq rfl ?_ rfl (ih (i + 1, .val (I ((bbN rk e full (i + 1) : Nat) : Int))) ⟨by show i + 1 + 1 ≤ 2 ^ e; omega, rfl⟩ (by show 2 ^ e - (i + 1) < 2 ^ e - i; omega))
                  dsimp only
                  rw [hstep]; rfl)
               | (refine WA.eq rfl ?_ rfl (ih (i + 1, u1) ⟨by show i + 1 + 1 ≤ 2 ^ e; omega, hu1⟩ (by show 2 ^ e - (i + 1) < 2 ^ e - i; omega))
                  dsimp only
                  rw [hstep]; rfl))
      · skip
        refine wa_iload_n hX (i := 3) dX0_hardestToPack_43 rfl rfl ?_
        refine wa_istore_n hX (i := 1) dX0_hardestToPack_44 rfl (by first | rfl | exact hu1 | exact hu2 | exact hu3 | exact hu4) ?_
        dsimp only [List.set]
        refine wa_iload hX dX0_hardestToPack_45 rfl ?_
        refine wa_istore_n hX (i := 2) dX0_hardestToPack_47 rfl (by first | rfl | exact hu1 | exact hu2 | exact hu3 | exact hu4) ?_
        dsimp only [List.set]
        refine wi_iinc hX dX0_hardestToPack_48 rfl ?_
        dsimp only [List.set]
        refine wa_goto hX (tgt := 10) dX0_hardestToPack_51 (by decide) ?_
        first
          | (rw [if_pos ⟨decide_eq_true (by omega), by omega⟩] at hstep
             refine WA.eq rfl ?_ rfl (ih (i + 1, .val (I ((bbN rk e full (i + 1) : Nat) : Int))) ⟨by show i + 1 + 1 ≤ 2 ^ e; omega, rfl⟩ (by show 2 ^ e - (i + 1) < 2 ^ e - i; omega))
             dsimp only
             rw [hstep]; rfl)
          | (rw [if_neg (fun q => by have q2 := q.2; have q1 := of_decide_eq_true q.1; omega)] at hstep
             first
               | (refine WA.eq rfl ?_ rfl (ih (i + 1, .val (I ((bbN rk e full (i + 1) : Nat) : Int))) ⟨by show i + 1 + 1 ≤ 2 ^ e; omega, rfl⟩ (by show 2 ^ e - (i + 1) < 2 ^ e - i; omega))
                  dsimp only
                  rw [hstep]; rfl)
               | (refine WA.eq rfl ?_ rfl (ih (i + 1, u1) ⟨by show i + 1 + 1 ≤ 2 ^ e; omega, hu1⟩ (by show 2 ^ e - (i + 1) < 2 ^ e - i; omega))
                  dsimp only
                  rw [hstep]; rfl))
set_option maxRecDepth 100000 in
theorem c_X0_leastForBoth (hW : WOK l D S0) (d : Nat) {h : AH} {a1 la1 a2 la2 e f1 f2 rq1 hq1 tq1 lr1 rq2 hq2 tq2 lr2 : Nat} {s1 s2 : Int} {v12 v13 v22 v23 : Value} {rk1 rk2 : Nat → Nat} (h1 : h a1 = some (la1, oMat e f1 rq1 hq1 tq1 s1 v12 v13)) (h3 : h rq1 = some (lr1, aB e rk1)) (h4 : h a2 = some (la2, oMat e f2 rq2 hq2 tq2 s2 v22 v23)) (h5 : h rq2 = some (lr2, aB e rk2)) (he : e ≤ 10) (hr1 : ∀ j, j < 2 ^ e → rk1 j ≤ 10) (hr2 : ∀ j, j < 2 ^ e → rk2 j ≤ 10) (hf2 : f2 ≤ 10) : MA l D S0 yX0_leastForBoth cX0_leastForBoth 6 (some .int) (d + 2) [.ref a1, .ref a2] h 0 0 (fun r h' => r = some (I ((amn (fun _ => true) (fun s => rk1 s + rk2 (sdf (2 ^ e - 1) s)) 0 f2 (2 ^ e)).1 : Nat)) ∧ h' = h) (fun _ _ => False) := by
  have hp := p2_le he
  have hp0 := p2_pos e
  refine MA.start hW (by decide) [.val (.ref a1), .val (.ref a2), .unset, .unset, .unset, .unset] rfl ?_
  rintro X rfl rfl rfl hX
  refine wi_iconst hX dX0_leastForBoth_0 ?_
  refine wa_istore_n hX (i := 2) dX0_leastForBoth_1 rfl (by first | rfl | exact hu1 | exact hu2 | exact hu3 | exact hu4) ?_
  dsimp only [List.set]
  refine wa_aload_n hX (i := 1) dX0_leastForBoth_2 rfl rfl ?_
  refine wa_get hX 2 (by assumption) (by rfl) (by decide +kernel) dX0_leastForBoth_3 ?_
  refine wa_istore_n hX (i := 3) dX0_leastForBoth_6 rfl (by first | rfl | exact hu1 | exact hu2 | exact hu3 | exact hu4) ?_
  dsimp only [List.set]
  refine wi_iconst hX dX0_leastForBoth_7 ?_
  refine wa_istore hX dX0_leastForBoth_8 (by first | rfl | exact hu1 | exact hu2 | exact hu3 | exact hu4) ?_
  dsimp only [List.set]
  refine WA.loop (σ := Nat × Slot) (fun z => 2 ^ e - z.1) (fun z => z.1 ≤ 2 ^ e ∧ okS [z.2] 0 = true) (fun _ => h) (fun z => [.val (.ref a1), .val (.ref a2), .val (I ((amn (fun _ => true) (fun s => rk1 s + rk2 (sdf (2 ^ e - 1) s)) 0 f2 z.1).1 : Nat)), .val (I ((amn (fun _ => true) (fun s => rk1 s + rk2 (sdf (2 ^ e - 1) s)) 0 f2 z.1).2 : Nat)), .val (I (z.1 : Nat)), z.2]) ?_ (0, .unset) ⟨Nat.zero_le _, rfl⟩
  rintro ⟨i, u1⟩ ⟨hi, hu1⟩ ih
  dsimp only at hi hu1 ⊢
  have hx := sdf_lt (a := 2 ^ e - 1) (b := i) (show 2 ^ e - 1 < 2 ^ e by omega)
  have hx2 := hr2 _ hx
  have hx1 := hr1 i
  have hm := amn_le (p := fun _ => true) (v := fun s => rk1 s + rk2 (sdf (2 ^ e - 1) s)) (b0 := 0) (v0 := f2) (n := i) (B := 20) (by omega) (fun j hj => by
    have q1 := hr1 j (by omega)
    have q2 := hr2 _ (sdf_lt (a := 2 ^ e - 1) (b := j) (show 2 ^ e - 1 < 2 ^ e by omega))
    show rk1 j + rk2 (sdf (2 ^ e - 1) j) ≤ 20
    omega)
  have hstep : amn (fun _ => true) (fun s => rk1 s + rk2 (sdf (2 ^ e - 1) s)) 0 f2 (i + 1) = (if true = true ∧ rk1 i + rk2 (sdf (2 ^ e - 1) i) < (amn (fun _ => true) (fun s => rk1 s + rk2 (sdf (2 ^ e - 1) s)) 0 f2 i).2 then (i, rk1 i + rk2 (sdf (2 ^ e - 1) i)) else amn (fun _ => true) (fun s => rk1 s + rk2 (sdf (2 ^ e - 1) s)) 0 f2 i) := rfl
  refine wa_iload hX dX0_leastForBoth_10 rfl ?_
  refine wa_aload_n hX (i := 0) dX0_leastForBoth_12 rfl rfl ?_
  refine wa_get hX 1 (by assumption) (by rfl) (by decide +kernel) dX0_leastForBoth_13 ?_
  refine wi_icmp_gt hX (tgt := 59) dX0_leastForBoth_16 (by decide) (by omega) (by omega) (fun c16 => ?_) (fun c16 => ?_)
  · skip
    refine wa_iload_n hX (i := 2) dX0_leastForBoth_59 rfl rfl ?_
    refine wa_iret hX dX0_leastForBoth_60 ?_
    refine ⟨?_, rfl⟩
    rw [show i = 2 ^ e by omega]
  · skip
    refine wa_aload_n hX (i := 0) dX0_leastForBoth_19 rfl rfl ?_
    refine wa_iload hX dX0_leastForBoth_20 rfl ?_
    refine wa_callV hX (c_X6_rank hW d h1 h3 he (s := i) (by omega)) (by assumption) (by rfl) (by rfl) (by omega) (nA := 1) (by rfl) (by decide +kernel) rfl (by exact Nat.le_of_ble_eq_true rfl) dX0_leastForBoth_22 (fun r22 h22 p22 => ?_) (fun _ _ q => q.elim)
    obtain ⟨rfl, qq22⟩ := p22; subst h22
    dsimp only [Option.toList, List.cons_append, List.nil_append]
    refine wa_aload_n hX (i := 1) dX0_leastForBoth_25 rfl rfl ?_
    refine wa_aload_n hX (i := 1) dX0_leastForBoth_26 rfl rfl ?_
    refine wa_get hX 1 (by assumption) (by rfl) (by decide +kernel) dX0_leastForBoth_27 ?_
    refine wa_iload hX dX0_leastForBoth_30 rfl ?_
    refine wi_iconst hX dX0_leastForBoth_32 ?_
    refine wa_ixor hX dX0_leastForBoth_33 ?_
    refine wn_andn hX dX0_leastForBoth_34 (by rfl) (by rfl) ?_
    refine wa_callV hX (c_X6_rank hW d h4 h5 he (s := sdf (2 ^ e - 1) i) hx) (by assumption) (by rfl) (by rfl) (by omega) (nA := 1) (by rfl) (by decide +kernel) rfl (by exact Nat.le_of_ble_eq_true rfl) dX0_leastForBoth_35 (fun r35 h35 p35 => ?_) (fun _ _ q => q.elim)
    obtain ⟨rfl, qq35⟩ := p35; subst h35
    dsimp only [Option.toList, List.cons_append, List.nil_append]
    refine wi_iadd hX dX0_leastForBoth_38 ?_
    refine wa_istore hX dX0_leastForBoth_39 (by first | rfl | exact hu1 | exact hu2 | exact hu3 | exact hu4) ?_
    dsimp only [List.set]
    refine wa_iload hX dX0_leastForBoth_41 rfl ?_
    refine wa_iload_n hX (i := 3) dX0_leastForBoth_43 rfl rfl ?_
    refine wi_icmp_ge hX (tgt := 53) dX0_leastForBoth_44 (by decide) (by omega) (by omega) (fun c44 => ?_) (fun c44 => ?_)
    · skip
      refine wi_iinc hX dX0_leastForBoth_53 rfl ?_
      dsimp only [List.set]
      refine wa_goto hX (tgt := 10) dX0_leastForBoth_56 (by decide) ?_
      first
        | (rw [if_pos ⟨rfl, by omega⟩] at hstep
           refine WA.eq rfl ?_ rfl (ih (i + 1, .val (I ((rk1 i + rk2 (sdf (2 ^ e - 1) i) : Nat) : Int))) ⟨by show i + 1 ≤ 2 ^ e; omega, rfl⟩ (by show 2 ^ e - (i + 1) < 2 ^ e - i; omega))
           dsimp only
           rw [hstep]; rfl)
        | (rw [if_neg (fun q => by have := q.2; omega)] at hstep
           refine WA.eq rfl ?_ rfl (ih (i + 1, .val (I ((rk1 i + rk2 (sdf (2 ^ e - 1) i) : Nat) : Int))) ⟨by show i + 1 ≤ 2 ^ e; omega, rfl⟩ (by show 2 ^ e - (i + 1) < 2 ^ e - i; omega))
           dsimp only
           rw [hstep]; rfl)
    · skip
      refine wa_iload hX dX0_leastForBoth_47 rfl ?_
      refine wa_istore_n hX (i := 2) dX0_leastForBoth_49 rfl (by first | rfl | exact hu1 | exact hu2 | exact hu3 | exact hu4) ?_
      dsimp only [List.set]
      refine wa_iload hX dX0_leastForBoth_50 rfl ?_
      refine wa_istore_n hX (i := 3) dX0_leastForBoth_52 rfl (by first | rfl | exact hu1 | exact hu2 | exact hu3 | exact hu4) ?_
      dsimp only [List.set]
      refine wi_iinc hX dX0_leastForBoth_53 rfl ?_
      dsimp only [List.set]
      refine wa_goto hX (tgt := 10) dX0_leastForBoth_56 (by decide) ?_
      first
        | (rw [if_pos ⟨rfl, by omega⟩] at hstep
           refine WA.eq rfl ?_ rfl (ih (i + 1, .val (I ((rk1 i + rk2 (sdf (2 ^ e - 1) i) : Nat) : Int))) ⟨by show i + 1 ≤ 2 ^ e; omega, rfl⟩ (by show 2 ^ e - (i + 1) < 2 ^ e - i; omega))
           dsimp only
           rw [hstep]; rfl)
        | (rw [if_neg (fun q => by have := q.2; omega)] at hstep
           refine WA.eq rfl ?_ rfl (ih (i + 1, .val (I ((rk1 i + rk2 (sdf (2 ^ e - 1) i) : Nat) : Int))) ⟨by show i + 1 ≤ 2 ^ e; omega, rfl⟩ (by show 2 ^ e - (i + 1) < 2 ^ e - i; omega))
           dsimp only
           rw [hstep]; rfl)
set_option maxRecDepth 100000 in
theorem c_X0_greatestInBoth (hW : WOK l D S0) (d : Nat) {h : AH} {a1 la1 a2 la2 e f1 f2 rq1 hq1 tq1 lt1 rq2 hq2 tq2 lt2 : Nat} {s1 s2 : Int} {v12 v13 v22 v23 : Value} {sf1 sf2 : Nat → Nat} (h1 : h a1 = some (la1, oMat e f1 rq1 hq1 tq1 s1 v12 v13)) (h3 : h tq1 = some (lt1, aB e sf1)) (h4 : h a2 = some (la2, oMat e f2 rq2 hq2 tq2 s2 v22 v23)) (h5 : h tq2 = some (lt2, aB e sf2)) (he : e ≤ 10) (hs1 : ∀ j, j < 2 ^ e → sf1 j < 32) (hs2 : ∀ j, j < 2 ^ e → sf2 j < 32) : MA l D S0 yX0_greatestInBoth cX0_greatestInBoth 4 (some .int) (d + 1) [.ref a1, .ref a2] h 0 0 (fun r h' => r = some (I ((amx (fun s => (sf1 s &&& 1 != 0) && (sf2 s &&& 1 != 0)) bc 0 0 (2 ^ e)).1 : Nat)) ∧ h' = h) (fun _ _ => False) := by
  have hp := p2_le he
  have hp0 := p2_pos e
  refine MA.start hW (by decide) [.val (.ref a1), .val (.ref a2), .unset, .unset] rfl ?_
  rintro X rfl rfl rfl hX
  refine wi_iconst hX dX0_greatestInBoth_0 ?_
  refine wa_istore_n hX (i := 2) dX0_greatestInBoth_1 rfl rfl ?_
  dsimp only [List.set]
  refine wi_iconst hX dX0_greatestInBoth_2 ?_
  refine wa_istore_n hX (i := 3) dX0_greatestInBoth_3 rfl rfl ?_
  dsimp only [List.set]
  refine WA.loop (σ := Nat) (fun z => 2 ^ e - z) (fun z => z ≤ 2 ^ e) (fun _ => h) (fun z => [.val (.ref a1), .val (.ref a2), .val (I ((amx (fun s => (sf1 s &&& 1 != 0) && (sf2 s &&& 1 != 0)) bc 0 0 z).1 : Nat)), .val (I (z : Nat))]) ?_ 0 (Nat.zero_le _)
  intro i hi ih
  have hm := amx_lt (p := fun s => (sf1 s &&& 1 != 0) && (sf2 s &&& 1 != 0)) (v := bc) (b0 := 0) (v0 := 0) hp0 hi
  have hm2 : (amx (fun s => (sf1 s &&& 1 != 0) && (sf2 s &&& 1 != 0)) bc 0 0 i).2 = bc (amx (fun s => (sf1 s &&& 1 != 0) && (sf2 s &&& 1 != 0)) bc 0 0 i).1 := amx_v (b0 := 0)
  have hb1 := bc_le i
  have hb2 := bc_le (amx (fun s => (sf1 s &&& 1 != 0) && (sf2 s &&& 1 != 0)) bc 0 0 i).1
  have hstep : amx (fun s => (sf1 s &&& 1 != 0) && (sf2 s &&& 1 != 0)) bc 0 0 (i + 1) = (if ((sf1 i &&& 1 != 0) && (sf2 i &&& 1 != 0)) = true ∧ (amx (fun s => (sf1 s &&& 1 != 0) && (sf2 s &&& 1 != 0)) bc 0 0 i).2 < bc i then (i, bc i) else amx (fun s => (sf1 s &&& 1 != 0) && (sf2 s &&& 1 != 0)) bc 0 0 i) := rfl
  refine wa_iload_n hX (i := 3) dX0_greatestInBoth_4 rfl rfl ?_
  refine wa_aload_n hX (i := 0) dX0_greatestInBoth_5 rfl rfl ?_
  refine wa_get hX 1 (by assumption) (by rfl) (by decide +kernel) dX0_greatestInBoth_6 ?_
  refine wi_icmp_gt hX (tgt := 49) dX0_greatestInBoth_9 (by decide) (by omega) (by omega) (fun c9 => ?_) (fun c9 => ?_)
  · skip
    refine wa_iload_n hX (i := 2) dX0_greatestInBoth_49 rfl rfl ?_
    refine wa_iret hX dX0_greatestInBoth_50 ?_
    refine ⟨?_, rfl⟩
    rw [show i = 2 ^ e by omega]
  · skip
    refine wa_iload_n hX (i := 3) dX0_greatestInBoth_12 rfl rfl ?_
    refine wa_callS hX (c_J6_bitCount hW d (s := i) (by omega)) (by rfl) (by omega) (nA := 1) (by rfl) (by decide +kernel) rfl (by exact Nat.le_of_ble_eq_true rfl) dX0_greatestInBoth_13 (fun r13 h13 p13 => ?_) (fun _ _ q => q.elim)
    obtain ⟨rfl, qq13⟩ := p13; subst h13
    dsimp only [Option.toList, List.cons_append, List.nil_append]
    refine wa_iload_n hX (i := 2) dX0_greatestInBoth_16 rfl rfl ?_
    refine wa_callS hX (c_J6_bitCount hW d (s := (amx (fun s => (sf1 s &&& 1 != 0) && (sf2 s &&& 1 != 0)) bc 0 0 i).1) (by omega)) (by rfl) (by omega) (nA := 1) (by rfl) (by decide +kernel) rfl (by exact Nat.le_of_ble_eq_true rfl) dX0_greatestInBoth_17 (fun r17 h17 p17 => ?_) (fun _ _ q => q.elim)
    obtain ⟨rfl, qq17⟩ := p17; subst h17
    dsimp only [Option.toList, List.cons_append, List.nil_append]
    refine wi_icmp_le hX (tgt := 43) dX0_greatestInBoth_20 (by decide) (by omega) (by omega) (fun c20 => ?_) (fun c20 => ?_)
    · skip
      refine wi_iinc hX dX0_greatestInBoth_43 rfl ?_
      dsimp only [List.set]
      refine wa_goto hX (tgt := 4) dX0_greatestInBoth_46 (by decide) ?_
      first
        | (rw [if_pos ⟨by rw [b2n_t c29, b2n_t c38]; rfl, by omega⟩] at hstep
           refine WA.eq rfl ?_ rfl (ih (i + 1) (by omega) (by omega))
           rw [hstep]; rfl)
        | (rw [if_neg (fun q => by have := q.2; omega)] at hstep
           refine WA.eq rfl ?_ rfl (ih (i + 1) (by omega) (by omega))
           rw [hstep]; rfl)
        | (rw [if_neg (fun q => by have q1 := q.1; rw [b2n_f c29, Bool.false_and] at q1; cases q1)] at hstep
           refine WA.eq rfl ?_ rfl (ih (i + 1) (by omega) (by omega))
           rw [hstep]; rfl)
        | (rw [if_neg (fun q => by have q1 := q.1; rw [b2n_f c38, Bool.and_false] at q1; cases q1)] at hstep
           refine WA.eq rfl ?_ rfl (ih (i + 1) (by omega) (by omega))
           rw [hstep]; rfl)
    · skip
      refine wa_aload_n hX (i := 0) dX0_greatestInBoth_23 rfl rfl ?_
      refine wa_iload_n hX (i := 3) dX0_greatestInBoth_24 rfl rfl ?_
      refine wi_iconst hX dX0_greatestInBoth_25 ?_
      refine wa_callV hX (c_X6_has hW d h1 h3 he (s := i) (by omega) hs1) (by assumption) (by rfl) (by rfl) (by omega) (nA := 2) (by rfl) (by decide +kernel) rfl (by exact Nat.le_of_ble_eq_true rfl) dX0_greatestInBoth_26 (fun r26 h26 p26 => ?_) (fun _ _ q => q.elim)
      obtain ⟨rfl, qq26⟩ := p26; subst h26
      dsimp only [Option.toList, List.cons_append, List.nil_append]
      refine wi_if_eq hX (tgt := 43) dX0_greatestInBoth_29 (by decide) (by exact b2n_inR _) (fun c29 => ?_) (fun c29 => ?_)
      · skip
        refine wi_iinc hX dX0_greatestInBoth_43 rfl ?_
        dsimp only [List.set]
        refine wa_goto hX (tgt := 4) dX0_greatestInBoth_46 (by decide) ?_
        first
          | (rw [if_pos ⟨by rw [b2n_t c29, b2n_t c38]; rfl, by omega⟩] at hstep
             refine WA.eq rfl ?_ rfl (ih (i + 1) (by omega) (by omega))
             rw [hstep]; rfl)
          | (rw [if_neg (fun q => by have := q.2; omega)] at hstep
             refine WA.eq rfl ?_ rfl (ih (i + 1) (by omega) (by omega))
             rw [hstep]; rfl)
          | (rw [if_neg (fun q => by have q1 := q.1; rw [b2n_f c29, Bool.false_and] at q1; cases q1)] at hstep
             refine WA.eq rfl ?_ rfl (ih (i + 1) (by omega) (by omega))
             rw [hstep]; rfl)
          | (rw [if_neg (fun q => by have q1 := q.1; rw [b2n_f c38, Bool.and_false] at q1; cases q1)] at hstep
             refine WA.eq rfl ?_ rfl (ih (i + 1) (by omega) (by omega))
             rw [hstep]; rfl)
      · skip
        refine wa_aload_n hX (i := 1) dX0_greatestInBoth_32 rfl rfl ?_
        refine wa_iload_n hX (i := 3) dX0_greatestInBoth_33 rfl rfl ?_
        refine wi_iconst hX dX0_greatestInBoth_34 ?_
        refine wa_callV hX (c_X6_has hW d h4 h5 he (s := i) (by omega) hs2) (by assumption) (by rfl) (by rfl) (by omega) (nA := 2) (by rfl) (by decide +kernel) rfl (by exact Nat.le_of_ble_eq_true rfl) dX0_greatestInBoth_35 (fun r35 h35 p35 => ?_) (fun _ _ q => q.elim)
        obtain ⟨rfl, qq35⟩ := p35; subst h35
        dsimp only [Option.toList, List.cons_append, List.nil_append]
        refine wi_if_eq hX (tgt := 43) dX0_greatestInBoth_38 (by decide) (by exact b2n_inR _) (fun c38 => ?_) (fun c38 => ?_)
        · skip
          refine wi_iinc hX dX0_greatestInBoth_43 rfl ?_
          dsimp only [List.set]
          refine wa_goto hX (tgt := 4) dX0_greatestInBoth_46 (by decide) ?_
          first
            | (rw [if_pos ⟨by rw [b2n_t c29, b2n_t c38]; rfl, by omega⟩] at hstep
               refine WA.eq rfl ?_ rfl (ih (i + 1) (by omega) (by omega))
               rw [hstep]; rfl)
            | (rw [if_neg (fun q => by have := q.2; omega)] at hstep
               refine WA.eq rfl ?_ rfl (ih (i + 1) (by omega) (by omega))
               rw [hstep]; rfl)
            | (rw [if_neg (fun q => by have q1 := q.1; rw [b2n_f c29, Bool.false_and] at q1; cases q1)] at hstep
               refine WA.eq rfl ?_ rfl (ih (i + 1) (by omega) (by omega))
               rw [hstep]; rfl)
            | (rw [if_neg (fun q => by have q1 := q.1; rw [b2n_f c38, Bool.and_false] at q1; cases q1)] at hstep
               refine WA.eq rfl ?_ rfl (ih (i + 1) (by omega) (by omega))
               rw [hstep]; rfl)
        · skip
          refine wa_iload_n hX (i := 3) dX0_greatestInBoth_41 rfl rfl ?_
          refine wa_istore_n hX (i := 2) dX0_greatestInBoth_42 rfl rfl ?_
          dsimp only [List.set]
          refine wi_iinc hX dX0_greatestInBoth_43 rfl ?_
          dsimp only [List.set]
          refine wa_goto hX (tgt := 4) dX0_greatestInBoth_46 (by decide) ?_
          first
            | (rw [if_pos ⟨by rw [b2n_t c29, b2n_t c38]; rfl, by omega⟩] at hstep
               refine WA.eq rfl ?_ rfl (ih (i + 1) (by omega) (by omega))
               rw [hstep]; rfl)
            | (rw [if_neg (fun q => by have := q.2; omega)] at hstep
               refine WA.eq rfl ?_ rfl (ih (i + 1) (by omega) (by omega))
               rw [hstep]; rfl)
            | (rw [if_neg (fun q => by have q1 := q.1; rw [b2n_f c29, Bool.false_and] at q1; cases q1)] at hstep
               refine WA.eq rfl ?_ rfl (ih (i + 1) (by omega) (by omega))
               rw [hstep]; rfl)
            | (rw [if_neg (fun q => by have q1 := q.1; rw [b2n_f c38, Bool.and_false] at q1; cases q1)] at hstep
               refine WA.eq rfl ?_ rfl (ih (i + 1) (by omega) (by omega))
               rw [hstep]; rfl)
end C35
