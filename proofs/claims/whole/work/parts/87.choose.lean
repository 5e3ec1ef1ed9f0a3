/-! The reference (X12): choose, inPower -/
def choN (n : Nat) : Nat → Nat
  | 0 => 1
  | j + 1 => choN n j * (n - j) / (j + 1)
theorem choN_ok : ∀ n, n < 11 → ∀ j, j < 11 → ((choN n j : Nat) : Int) * ((n : Int) - (j : Int)) = ((choN n j * (n - j) : Nat) : Int) ∧ choN n j ≤ 252 ∧ choN n j * (n - j) ≤ 2520 := by decide +kernel
def inpN (n k : Nat) : Int := if (n : Int).tmod 2 = (k : Int).tmod 2 then (if k > n then 0 else (choN n k : Int)) else -(if k > n then 0 else (choN n k : Int))
theorem inp_par : ∀ n : Nat, n < 11 → ∀ k : Nat, k < 11 → (((n : Int) - (k : Int)).tmod 2 = 0 ↔ (n : Int).tmod 2 = (k : Int).tmod 2) ∧ -1 ≤ ((n : Int) - (k : Int)).tmod 2 ∧ ((n : Int) - (k : Int)).tmod 2 ≤ 1 := by decide +kernel
section C87
variable {l : Launch} {D : va_G} {S0 : State}
set_option maxRecDepth 100000 in
theorem c_X12_choose (hW : WOK l D S0) (d : Nat) {h : AH} {n k : Nat} (hn : n ≤ 10) (hk : k ≤ 10) : MA l D S0 yX12_choose cX12_choose 4 (some .int) d [I (n : Int), I (k : Int)] h 0 0 (fun r h' => r = some (I (if k > n then 0 else (choN n k : Int))) ∧ h' = h) (fun _ _ => False) := by
  refine MA.start hW (by decide) [.val (I (n : Int)), .val (I (k : Int)), .unset, .unset] rfl ?_
  rintro X rfl rfl rfl hX
  refine wi_iconst hX dX12_choose_0 ?_
  refine wa_istore_n hX (i := 2) dX12_choose_1 rfl rfl ?_
  dsimp only [List.set]
  refine wi_iconst hX dX12_choose_2 ?_
  refine wa_istore_n hX (i := 3) dX12_choose_3 rfl rfl ?_
  dsimp only [List.set]
  refine WA.loop (σ := Nat) (fun z => k - z) (fun z => z ≤ k) (fun _ => h) (fun z => [.val (I (n : Int)), .val (I (k : Int)), .val (I (choN n z : Nat)), .val (I (z : Nat))]) ?_ 0 (Nat.zero_le _)
  intro z hz ih
  obtain ⟨q1, q2, q3⟩ := choN_ok n (by omega) z (by omega)
  have hst : choN n (z + 1) = choN n z * (n - z) / (z + 1) := rfl
  refine wa_iload_n hX (i := 3) dX12_choose_4 rfl rfl ?_
  refine wa_iload_n hX (i := 1) dX12_choose_5 rfl rfl ?_
  refine wi_icmp_ge hX (tgt := 25) dX12_choose_6 (by decide) (by omega) (by omega) (fun c6 => ?_) (fun c6 => ?_)
  · skip
    refine wa_iload_n hX (i := 1) dX12_choose_25 rfl rfl ?_
    refine wa_iload_n hX (i := 0) dX12_choose_26 rfl rfl ?_
    refine wi_icmp_le hX (tgt := 34) dX12_choose_27 (by decide) (by omega) (by omega) (fun c27 => ?_) (fun c27 => ?_)
    · skip
      refine wa_iload_n hX (i := 2) dX12_choose_34 rfl rfl ?_
      refine wa_iret hX dX12_choose_35 ?_
      refine ⟨?_, rfl⟩
      have hzk : z = k := by omega
      by_cases g : k > n
      · rw [if_pos g] <;> first | (exfalso; omega) | rfl
      · rw [if_neg g]
        first
          | (exfalso; omega)
          | (rw [hzk])
    · skip
      refine wi_iconst hX dX12_choose_30 ?_
      refine wa_goto hX (tgt := 35) dX12_choose_31 (by decide) ?_
      refine wa_iret hX dX12_choose_35 ?_
      refine ⟨?_, rfl⟩
      have hzk : z = k := by omega
      by_cases g : k > n
      · rw [if_pos g] <;> first | (exfalso; omega) | rfl
      · rw [if_neg g]
        first
          | (exfalso; omega)
          | (rw [hzk])
  · skip
    refine wa_iload_n hX (i := 2) dX12_choose_9 rfl rfl ?_
    refine wa_iload_n hX (i := 0) dX12_choose_10 rfl rfl ?_
    refine wa_iload_n hX (i := 3) dX12_choose_11 rfl rfl ?_
    refine wi_isub hX dX12_choose_12 ?_
    refine wi_imul hX dX12_choose_13 ?_
    rw [q1]
    refine wa_iload_n hX (i := 3) dX12_choose_14 rfl rfl ?_
    refine wi_iconst hX dX12_choose_15 ?_
    refine wi_iadd hX dX12_choose_16 ?_
    refine wn_idiv hX (a := choN n z * (n - z)) (b := z + 1) dX12_choose_17 rfl rfl (by omega) (by omega) (by omega) ?_
    refine wa_istore_n hX (i := 2) dX12_choose_18 rfl rfl ?_
    dsimp only [List.set]
    refine wi_iinc hX dX12_choose_19 rfl ?_
    dsimp only [List.set]
    refine wa_goto hX (tgt := 4) dX12_choose_22 (by decide) ?_
    exact ih (z + 1) (by omega) (by omega)
set_option maxRecDepth 100000 in
theorem c_X12_inPower (hW : WOK l D S0) (d : Nat) {h : AH} {n k : Nat} (hn : n ≤ 10) (hk : k ≤ 10) : MA l D S0 yX12_inPower cX12_inPower 3 (some .int) (d + 1) [I (n : Int), I (k : Int)] h 0 0 (fun r h' => r = some (I (inpN n k)) ∧ h' = h) (fun _ _ => False) := by
  obtain ⟨g1, g2, g3⟩ := inp_par n (by omega) k (by omega)
  refine MA.start hW (by decide) [.val (I (n : Int)), .val (I (k : Int)), .unset] rfl ?_
  rintro X rfl rfl rfl hX
  refine wa_iload_n hX (i := 0) dX12_inPower_0 rfl rfl ?_
  refine wa_iload_n hX (i := 1) dX12_inPower_1 rfl rfl ?_
  refine wa_callS hX (c_X12_choose hW d hn hk) (by rfl) (by omega) (nA := 2) (by rfl) (by decide +kernel) rfl (by exact Nat.le_of_ble_eq_true rfl) dX12_inPower_2 (fun r2 h2 p2 => ?_) (fun _ _ q => q.elim)
  obtain ⟨rfl, qq2⟩ := p2; subst h2
  dsimp only [Option.toList, List.cons_append, List.nil_append]
  refine wa_istore_n hX (i := 2) dX12_inPower_5 rfl rfl ?_
  dsimp only [List.set]
  refine wa_iload_n hX (i := 0) dX12_inPower_6 rfl rfl ?_
  refine wa_iload_n hX (i := 1) dX12_inPower_7 rfl rfl ?_
  refine wi_isub hX dX12_inPower_8 ?_
  refine wi_iconst hX dX12_inPower_9 ?_
  refine wi_rem2 hX dX12_inPower_10 (by omega) ?_
  refine wi_if_ne hX (tgt := 18) dX12_inPower_11 (by decide) (by omega) (fun c11 => ?_) (fun c11 => ?_)
  · skip
    refine wa_iload_n hX (i := 2) dX12_inPower_18 rfl rfl ?_
    refine wi_ineg hX dX12_inPower_19 ?_
    refine wa_iret hX dX12_inPower_20 ?_
    refine ⟨?_, rfl⟩
    unfold inpN
    first
      | (have g := g1.mp c11
         rw [if_pos g])
      | (have g := fun z => c11 (g1.mpr z)
         rw [if_neg g])
  · skip
    refine wa_iload_n hX (i := 2) dX12_inPower_14 rfl rfl ?_
    refine wa_goto hX (tgt := 20) dX12_inPower_15 (by decide) ?_
    refine wa_iret hX dX12_inPower_20 ?_
    refine ⟨?_, rfl⟩
    unfold inpN
    first
      | (have g := g1.mp c11
         rw [if_pos g])
      | (have g := fun z => c11 (g1.mpr z)
         rw [if_neg g])
end C87
