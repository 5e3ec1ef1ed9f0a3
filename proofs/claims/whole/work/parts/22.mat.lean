/-! Circuitfold$Matroid (X6): reads -/
/-- a matroid of e elements: its ranks at rq, shapes at hq, sorts at tq -/
abbrev oMat (e full rq hq tq : Nat) (sym : Int) (v2 v3 : Value) : Ob := oF 8 [I e, I ((2 ^ e - 1 : Nat) : Int), I full, .ref rq, .ref hq, .ref tq, I sym, v2, v3]
abbrev aB (e : Nat) (rk : Nat → Nat) : Ob := aI .byte (2 ^ e) (fun s => ((rk s : Nat) : Int))
/-- the numbers below n that p holds of -/
def cnt (p : Nat → Bool) : Nat → Nat
  | 0 => 0
  | n + 1 => cnt p n + (if p n then 1 else 0)
theorem cnt_le (p : Nat → Bool) (n : Nat) : cnt p n ≤ n := by
  induction n with
  | zero => exact Nat.le_refl 0
  | succ n ih => unfold cnt; split <;> omega
section C22
variable {l : Launch} {D : va_G} {S0 : State}
set_option maxRecDepth 100000 in
theorem c_X6_rankOf (hW : WOK l D S0) (d : Nat) {h : AH} {a la e full rq hq tq lr : Nat} {sym : Int} {v2 v3 : Value} {rk : Nat → Nat} {i : Int} (h1 : h a = some (la, oMat e full rq hq tq sym v2 v3)) (h2 : h rq = some (lr, aB e rk)) (he : e ≤ 10) (hi : inR i) : MA l D S0 yX6_rankOf cX6_rankOf 2 (some .int) (d + 1) [.ref a, I i] h 0 0 (fun r h' => r = some (I (atv (2 ^ e) (fun s => ((rk s : Nat) : Int)) i)) ∧ h' = h) (fun _ _ => False) := by
  have hp := p2_le he
  refine MA.start hW (by decide) [.val (.ref a), .val (I i)] rfl ?_
  rintro X rfl rfl rfl hX
  refine wa_aload_n hX (i := 0) dX6_rankOf_0 rfl rfl ?_
  refine wa_get hX 3 (by assumption) (by rfl) (by decide +kernel) dX6_rankOf_1 ?_
  refine wa_iload_n hX (i := 1) dX6_rankOf_4 rfl rfl ?_
  refine wa_callS hX (c_X9_at hW d h2 (by omega) hi) (by rfl) (by omega) (nA := 2) (by rfl) (by decide +kernel) rfl (by exact Nat.le_of_ble_eq_true rfl) dX6_rankOf_5 (fun r5 h5 p5 => ?_) (fun _ _ q => q.elim)
  obtain ⟨rfl, rfl⟩ := p5
  dsimp only [Option.toList, List.cons_append, List.nil_append]
  refine wa_iret hX dX6_rankOf_8 ?_
  exact ⟨rfl, rfl⟩
/-- .. of a set of its own -/
theorem c_X6_rank (hW : WOK l D S0) (d : Nat) {h : AH} {a la e full rq hq tq lr : Nat} {sym : Int} {v2 v3 : Value} {rk : Nat → Nat} {s : Nat} (h1 : h a = some (la, oMat e full rq hq tq sym v2 v3)) (h2 : h rq = some (lr, aB e rk)) (he : e ≤ 10) (hs : s < 2 ^ e) : MA l D S0 yX6_rankOf cX6_rankOf 2 (some .int) (d + 1) [.ref a, I (s : Int)] h 0 0 (fun r h' => r = some (I (rk s : Nat)) ∧ h' = h) (fun _ _ => False) := by
  have hp := p2_le he
  have h := c_X6_rankOf hW d h1 h2 he (i := (s : Int)) (by omega)
  rw [atv_in hs] at h
  exact h
set_option maxRecDepth 100000 in
theorem c_X6_isSort (hW : WOK l D S0) (d : Nat) {h : AH} {a la e full rq hq tq lt so : Nat} {sym i : Int} {v2 v3 : Value} {sf : Nat → Nat} (h1 : h a = some (la, oMat e full rq hq tq sym v2 v3)) (h2 : h tq = some (lt, aB e sf)) (he : e ≤ 10) (hi : inR i) (hsf : ∀ j, j < 2 ^ e → sf j < 32) : MA l D S0 yX6_isSort cX6_isSort 3 (some .boolean) d [.ref a, I i, I so] h 0 0 (fun r h' => r = some (I (if 0 ≤ i ∧ i < (2 ^ e : Nat) ∧ sf i.toNat &&& so ≠ 0 then 1 else 0)) ∧ h' = h) (fun _ _ => False) := by
  have hp := p2_le he
  refine MA.start hW (by decide) [.val (.ref a), .val (I i), .val (I so)] rfl ?_
  rintro X rfl rfl rfl hX
  refine wa_iload_n hX (i := 1) dX6_isSort_0 rfl rfl ?_
  refine wi_if_lt hX (tgt := 28) dX6_isSort_1 (by decide) (by omega) (fun c1 => ?_) (fun c1 => ?_)
  · skip
    refine wi_iconst hX dX6_isSort_28 ?_
    refine wa_zret hX dX6_isSort_29 (by rfl) ?_
    refine ⟨?_, rfl⟩
    first
      | rw [if_pos ⟨by omega, by omega, fun q => by omega⟩]
      | rw [if_neg (fun q => by have := q.1; have := q.2.1; have q3 := q.2.2; omega)]
  · skip
    refine wa_iload_n hX (i := 1) dX6_isSort_4 rfl rfl ?_
    refine wa_aload_n hX (i := 0) dX6_isSort_5 rfl rfl ?_
    refine wa_get hX 5 (by assumption) (by rfl) (by decide +kernel) dX6_isSort_6 ?_
    refine wa_len hX (by assumption) dX6_isSort_9 ?_
    refine wi_icmp_ge hX (tgt := 28) dX6_isSort_10 (by decide) (by omega) (by omega) (fun c10 => ?_) (fun c10 => ?_)
    · skip
      refine wi_iconst hX dX6_isSort_28 ?_
      refine wa_zret hX dX6_isSort_29 (by rfl) ?_
      refine ⟨?_, rfl⟩
      first
        | rw [if_pos ⟨by omega, by omega, fun q => by omega⟩]
        | rw [if_neg (fun q => by have := q.1; have := q.2.1; have q3 := q.2.2; omega)]
    · skip
      refine wa_aload_n hX (i := 0) dX6_isSort_13 rfl rfl ?_
      refine wa_get hX 5 (by assumption) (by rfl) (by decide +kernel) dX6_isSort_14 ?_
      refine wa_iload_n hX (i := 1) dX6_isSort_17 rfl rfl ?_
      refine wi_baload hX (by assumption) (by omega) (by omega) (by omega) dX6_isSort_18 ?_
      refine wa_iload_n hX (i := 2) dX6_isSort_19 rfl rfl ?_
      refine wn_iand hX dX6_isSort_20 (by rfl) (by rfl) ?_
      refine wi_if_eq hX (tgt := 28) dX6_isSort_21 (by decide) (by omega) (fun c21 => ?_) (fun c21 => ?_)
      · skip
        refine wi_iconst hX dX6_isSort_28 ?_
        refine wa_zret hX dX6_isSort_29 (by rfl) ?_
        refine ⟨?_, rfl⟩
        first
          | rw [if_pos ⟨by omega, by omega, fun q => by omega⟩]
          | rw [if_neg (fun q => by have := q.1; have := q.2.1; have q3 := q.2.2; omega)]
      · skip
        refine wi_iconst hX dX6_isSort_24 ?_
        refine wa_goto hX (tgt := 29) dX6_isSort_25 (by decide) ?_
        refine wa_zret hX dX6_isSort_29 (by rfl) ?_
        refine ⟨?_, rfl⟩
        first
          | rw [if_pos ⟨by omega, by omega, fun q => by omega⟩]
          | rw [if_neg (fun q => by have := q.1; have := q.2.1; have q3 := q.2.2; omega)]
set_option maxRecDepth 100000 in
theorem c_X6_countOf (hW : WOK l D S0) (d : Nat) {h : AH} {a la e full rq hq tq lt so : Nat} {sym : Int} {v2 v3 : Value} {sf : Nat → Nat} (h1 : h a = some (la, oMat e full rq hq tq sym v2 v3)) (h2 : h tq = some (lt, aB e sf)) (he : e ≤ 10) (hsf : ∀ j, j < 2 ^ e → sf j < 32) : MA l D S0 yX6_countOf cX6_countOf 4 (some .int) d [.ref a, I so] h 0 0 (fun r h' => r = some (I (cnt (fun s => sf s &&& so != 0) (2 ^ e) : Nat)) ∧ h' = h) (fun _ _ => False) := by
  have hp := p2_le he
  refine MA.start hW (by decide) [.val (.ref a), .val (I so), .unset, .unset] rfl ?_
  rintro X rfl rfl rfl hX
  refine wi_iconst hX dX6_countOf_0 ?_
  refine wa_istore_n hX (i := 2) dX6_countOf_1 rfl rfl ?_
  dsimp only [List.set]
  refine wi_iconst hX dX6_countOf_2 ?_
  refine wa_istore_n hX (i := 3) dX6_countOf_3 rfl rfl ?_
  dsimp only [List.set]
  refine WA.loop (σ := Nat) (fun i => 2 ^ e - i) (fun i => i ≤ 2 ^ e) (fun _ => h) (fun i => [.val (.ref a), .val (I so), .val (I (cnt (fun s => sf s &&& so != 0) i : Nat)), .val (I (i : Nat))]) ?_ 0 (Nat.zero_le _)
  intro i hi ih
  refine wa_iload_n hX (i := 3) dX6_countOf_4 rfl rfl ?_
  refine wa_aload_n hX (i := 0) dX6_countOf_5 rfl rfl ?_
  refine wa_get hX 5 (by assumption) (by rfl) (by decide +kernel) dX6_countOf_6 ?_
  refine wa_len hX (by assumption) dX6_countOf_9 ?_
  refine wi_icmp_ge hX (tgt := 33) dX6_countOf_10 (by decide) (by omega) (by omega) (fun c10 => ?_) (fun c10 => ?_)
  · skip
    refine wa_iload_n hX (i := 2) dX6_countOf_33 rfl rfl ?_
    refine wa_iret hX dX6_countOf_34 ?_
    refine ⟨?_, rfl⟩
    rw [show i = 2 ^ e by omega]
  · skip
    refine wa_aload_n hX (i := 0) dX6_countOf_13 rfl rfl ?_
    refine wa_get hX 5 (by assumption) (by rfl) (by decide +kernel) dX6_countOf_14 ?_
    refine wa_iload_n hX (i := 3) dX6_countOf_17 rfl rfl ?_
    refine wi_baload hX (by assumption) (by omega) (by omega) (by omega) dX6_countOf_18 ?_
    refine wa_iload_n hX (i := 1) dX6_countOf_19 rfl rfl ?_
    refine wn_iand hX dX6_countOf_20 (by rfl) (by rfl) ?_
    refine wi_if_eq hX (tgt := 27) dX6_countOf_21 (by decide) (by
        have h9 := Nat.lt_of_le_of_lt (Nat.and_le_left (n := sf i) (m := so)) (hsf i (by omega))
        simp only [Int.toNat_natCast]
        omega) (fun c21 => ?_) (fun c21 => ?_)
    · skip
      refine wi_iinc hX dX6_countOf_27 rfl ?_
      dsimp only [List.set]
      refine wa_goto hX (tgt := 4) dX6_countOf_30 (by decide) ?_
      have h8 : cnt (fun s => sf s &&& so != 0) (i + 1) = cnt (fun s => sf s &&& so != 0) i + (if (sf i &&& so != 0) = true then 1 else 0) := rfl
      refine WA.eq rfl ?_ rfl (ih (i + 1) (by omega) (by omega))
      rw [h8]
      simp only [Int.toNat_natCast] at c21
      first
        | rw [if_pos (by simp; omega)]; rfl
        | rw [if_neg (by simp; omega)]; rfl
    · skip
      refine wi_iinc hX dX6_countOf_24 rfl ?_
      dsimp only [List.set]
      refine wi_iinc hX dX6_countOf_27 rfl ?_
      dsimp only [List.set]
      refine wa_goto hX (tgt := 4) dX6_countOf_30 (by decide) ?_
      have h8 : cnt (fun s => sf s &&& so != 0) (i + 1) = cnt (fun s => sf s &&& so != 0) i + (if (sf i &&& so != 0) = true then 1 else 0) := rfl
      refine WA.eq rfl ?_ rfl (ih (i + 1) (by omega) (by omega))
      rw [h8]
      simp only [Int.toNat_natCast] at c21
      first
        | rw [if_pos (by simp; omega)]; rfl
        | rw [if_neg (by simp; omega)]; rfl
end C22
