/-! Circuitfold$Row (X8): its methods by contract -/
section C20
variable {l : Launch} {D : va_G} {S0 : State}
/-- a row at a: numbers at q, all but c of them told -/
abbrev oRow (q : Nat) (c : Int) : Ob := oF 10 [.ref q, I c]
set_option maxRecDepth 100000 in
theorem c_X8_length (hW : WOK l D S0) (d : Nat) {h : AH} {a la q : Nat} {c : Int} (h1 : h a = some (la, oRow q c)) : MA l D S0 yX8_length cX8_length 1 (some .int) d [.ref a] h 0 0 (fun r h' => r = some (I c) ∧ h' = h) (fun _ _ => False) := by
  refine MA.start hW (by decide) [.val (.ref a)] rfl ?_
  rintro X rfl rfl rfl hX
  refine wa_aload_n hX (i := 0) dX8_length_0 rfl rfl ?_
  refine wa_get hX 1 (by assumption) (by rfl) (by decide +kernel) dX8_length_1 ?_
  refine wa_iret hX dX8_length_4 ?_
  exact ⟨rfl, rfl⟩
set_option maxRecDepth 100000 in
theorem c_X8_empty (hW : WOK l D S0) (d : Nat) {h : AH} {a la q : Nat} {c : Int} (h1 : h a = some (la, oRow q c)) : MA l D S0 yX8_empty cX8_empty 1 none d [.ref a] h 0 0 (fun r h' => r = none ∧ h' = hset h a (la, oRow q 0)) (fun _ _ => False) := by
  refine MA.start hW (by decide) [.val (.ref a)] rfl ?_
  rintro X rfl rfl rfl hX
  refine wa_aload_n hX (i := 0) dX8_empty_0 rfl rfl ?_
  refine wi_iconst hX dX8_empty_1 ?_
  refine wa_put hX 1 h1 (Nat.le_of_ble_eq_true rfl) (by decide +kernel) (by rfl) (by rfl) (by rfl) dX8_empty_2 ?_
  refine wa_vret hX dX8_empty_5 ?_
  exact ⟨rfl, rfl⟩
set_option maxRecDepth 100000 in
theorem c_X8_at (hW : WOK l D S0) (d : Nat) {h : AH} {a la q lq : Nat} {c i : Int} {g : Nat → Int} (h1 : h a = some (la, oRow q c)) (h2 : h q = some (lq, aI .int 60 g)) (hi : inR i) : MA l D S0 yX8_at cX8_at 2 (some .int) d [.ref a, I i] h 0 0 (fun r h' => r = some (I (if 0 ≤ i ∧ i < 60 then g i.toNat else 0)) ∧ h' = h) (fun _ _ => False) := by
  refine MA.start hW (by decide) [.val (.ref a), .val (I i)] rfl ?_
  rintro X rfl rfl rfl hX
  refine wa_iload_n hX (i := 1) dX8_at_0 rfl rfl ?_
  refine wi_if_lt hX (tgt := 22) dX8_at_1 (by decide) (by omega) (fun c1 => ?_) (fun c1 => ?_)
  · skip
    refine wi_iconst hX dX8_at_22 ?_
    refine wa_iret hX dX8_at_23 ?_
    refine ⟨?_, rfl⟩
    first
      | rw [if_pos (by omega)]
      | rw [if_neg (by omega)]
  · skip
    refine wa_iload_n hX (i := 1) dX8_at_4 rfl rfl ?_
    refine wa_aload_n hX (i := 0) dX8_at_5 rfl rfl ?_
    refine wa_get hX 0 (by assumption) (by rfl) (by decide +kernel) dX8_at_6 ?_
    refine wa_len hX (by assumption) dX8_at_9 ?_
    refine wi_icmp_ge hX (tgt := 22) dX8_at_10 (by decide) (by omega) (by omega) (fun c10 => ?_) (fun c10 => ?_)
    · skip
      refine wi_iconst hX dX8_at_22 ?_
      refine wa_iret hX dX8_at_23 ?_
      refine ⟨?_, rfl⟩
      first
        | rw [if_pos (by omega)]
        | rw [if_neg (by omega)]
    · skip
      refine wa_aload_n hX (i := 0) dX8_at_13 rfl rfl ?_
      refine wa_get hX 0 (by assumption) (by rfl) (by decide +kernel) dX8_at_14 ?_
      refine wa_iload_n hX (i := 1) dX8_at_17 rfl rfl ?_
      refine wi_iaload hX (by assumption) (by omega) (by omega) (by omega) dX8_at_18 ?_
      refine wa_goto hX (tgt := 23) dX8_at_19 (by decide) ?_
      refine wa_iret hX dX8_at_23 ?_
      refine ⟨?_, rfl⟩
      first
        | rw [if_pos (by omega)]
        | rw [if_neg (by omega)]
set_option maxRecDepth 100000 in
theorem c_X8_isFull (hW : WOK l D S0) (d : Nat) {h : AH} {a la q lq : Nat} {c : Int} {g : Nat → Int} (h1 : h a = some (la, oRow q c)) (h2 : h q = some (lq, aI .int 60 g)) (hc : inR c) : MA l D S0 yX8_isFull cX8_isFull 1 (some .boolean) d [.ref a] h 0 0 (fun r h' => r = some (I (if 60 ≤ c then 1 else 0)) ∧ h' = h) (fun _ _ => False) := by
  refine MA.start hW (by decide) [.val (.ref a)] rfl ?_
  rintro X rfl rfl rfl hX
  refine wa_aload_n hX (i := 0) dX8_isFull_0 rfl rfl ?_
  refine wa_get hX 1 (by assumption) (by rfl) (by decide +kernel) dX8_isFull_1 ?_
  refine wa_aload_n hX (i := 0) dX8_isFull_4 rfl rfl ?_
  refine wa_get hX 0 (by assumption) (by rfl) (by decide +kernel) dX8_isFull_5 ?_
  refine wa_len hX (by assumption) dX8_isFull_8 ?_
  refine wi_icmp_lt hX (tgt := 16) dX8_isFull_9 (by decide) (by omega) (by omega) (fun c9 => ?_) (fun c9 => ?_)
  · skip
    refine wi_iconst hX dX8_isFull_16 ?_
    refine wa_zret hX dX8_isFull_17 (by rfl) ?_
    refine ⟨?_, rfl⟩
    first
      | rw [if_pos (by omega)]
      | rw [if_neg (by omega)]
  · skip
    refine wi_iconst hX dX8_isFull_12 ?_
    refine wa_goto hX (tgt := 17) dX8_isFull_13 (by decide) ?_
    refine wa_zret hX dX8_isFull_17 (by rfl) ?_
    refine ⟨?_, rfl⟩
    first
      | rw [if_pos (by omega)]
      | rw [if_neg (by omega)]
end C20
