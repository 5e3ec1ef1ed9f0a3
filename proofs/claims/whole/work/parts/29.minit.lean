/-! Circuitfold$Matroid's constructor (X6) -/
theorem bc_all : ∀ e, e < 11 → bc (2 ^ e - 1) = e := by decide +kernel
section C29
variable {l : Launch} {D : va_G} {S0 : State}
set_option maxRecDepth 100000 in
theorem c_X6_init (hW : WOK l D S0) (d : Nat) {h : AH} {a la q lq e : Nat} {rk : Nat → Nat} (h1 : h a = some (la, oF 8 [I 0, I 0, I 0, .null, .null, .null, I 0, .null, .null])) (h2 : h q = some (lq, aB e rk)) (hl : la ≠ lq) (hl2 : la ≠ 2) (he : e ≤ 10) (hb : ∀ s, s < 2 ^ e → rk s ≤ bc s ∧ rk s ≤ rk (2 ^ e - 1)) : MA l D S0 yX6_init cX6_init 2 none (d + 3) [.ref a, .ref q] h 2 2048 (fun r h' => r = none ∧ (∃ t1 t2, h' a = some (la, oMat e (rk (2 ^ e - 1)) q t2 t1 0 .null .null) ∧ h' q = some (lq, aB e rk) ∧ h' t1 = some (2, aB e (sortN rk e)) ∧ h' t2 = some (2, aS (shpN rk e))) ∧ Fr (fun l => l = la) h h') (fun _ _ => False) := by
  have hp := p2_le he
  have hp0 := p2_pos e
  have hr : ∀ s, s < 2 ^ e → rk s ≤ 10 := fun s hs => Nat.le_trans (hb s hs).1 (bc_le s)
  have fr : Fr (fun l => l = la) h h := Fr.rf
  have hba := bc_all e (by omega)
  refine MA.start hW (by decide) [.val (.ref a), .val (.ref q)] rfl ?_
  rintro X rfl rfl rfl hX
  refine wa_aload_n hX (i := 0) dX6_init_0 rfl rfl ?_
  refine wa_obj hX (by decide +kernel) rfl (by exact Nat.le_of_ble_eq_true rfl) dX6_init_1 ?_
  refine wa_aload_n hX (i := 0) dX6_init_4 rfl rfl ?_
  refine wa_aload_n hX (i := 1) dX6_init_5 rfl rfl ?_
  refine wa_putF hX 3 h1 (Nat.le_of_ble_eq_true rfl) (by decide +kernel) (by rfl) rfl (by rfl) (by rfl) (by rfl) dX6_init_6 ?_
  refine WA.hgen h1 (fun hh1 hN hK => ?_)
  replace fr := Fr.put fr h1 hK (by first | decide | omega | simp)
  replace h2 := (hK _ (lab_ne h1 h2 (by first | decide | omega))).trans h2
  replace h1 := hN
  clear hN hK
  refine wa_aload_n hX (i := 0) dX6_init_9 rfl rfl ?_
  refine wa_aload_n hX (i := 1) dX6_init_10 rfl rfl ?_
  refine wa_len hX (by assumption) dX6_init_11 ?_
  refine wi_iconst hX dX6_init_12 ?_
  refine wi_isub hX dX6_init_13 ?_
  rw [show (((2 ^ e : Nat) : Int) - 1) = ((2 ^ e - 1 : Nat) : Int) by omega]
  refine wa_putF hX 1 h1 (Nat.le_of_ble_eq_true rfl) (by decide +kernel) (by rfl) rfl (by rfl) (by rfl) (by rfl) dX6_init_14 ?_
  refine WA.hgen h1 (fun hh2 hN hK => ?_)
  replace fr := Fr.put fr h1 hK (by first | decide | omega | simp)
  replace h2 := (hK _ (lab_ne h1 h2 (by first | decide | omega))).trans h2
  replace h1 := hN
  clear hN hK
  refine wa_aload_n hX (i := 0) dX6_init_17 rfl rfl ?_
  refine wa_aload_n hX (i := 0) dX6_init_18 rfl rfl ?_
  refine wa_get hX 1 (by assumption) (by rfl) (by decide +kernel) dX6_init_19 ?_
  refine wa_callS hX (c_J6_bitCount hW (d + 2) (s := 2 ^ e - 1) (by omega)) (by rfl) (by omega) (nA := 1) (by rfl) (by decide +kernel) rfl (by exact Nat.le_of_ble_eq_true rfl) dX6_init_22 (fun r22 h22 p22 => ?_) (fun _ _ q => q.elim)
  obtain ⟨rfl, qq22⟩ := p22; subst h22
  rw [hba]
  dsimp only [Option.toList, List.cons_append, List.nil_append]
  refine wa_putF hX 0 h1 (Nat.le_of_ble_eq_true rfl) (by decide +kernel) (by rfl) rfl (by rfl) (by rfl) (by rfl) dX6_init_25 ?_
  refine WA.hgen h1 (fun hh3 hN hK => ?_)
  replace fr := Fr.put fr h1 hK (by first | decide | omega | simp)
  replace h2 := (hK _ (lab_ne h1 h2 (by first | decide | omega))).trans h2
  replace h1 := hN
  clear hN hK
  refine wa_aload_n hX (i := 0) dX6_init_28 rfl rfl ?_
  refine wa_aload_n hX (i := 1) dX6_init_29 rfl rfl ?_
  refine wa_aload_n hX (i := 0) dX6_init_30 rfl rfl ?_
  refine wa_get hX 1 (by assumption) (by rfl) (by decide +kernel) dX6_init_31 ?_
  refine wa_callS hX (c_X9_rk hW (d + 2) h2 he (s := 2 ^ e - 1) (by omega)) (by rfl) (by omega) (nA := 2) (by rfl) (by decide +kernel) rfl (by exact Nat.le_of_ble_eq_true rfl) dX6_init_34 (fun r34 h34 p34 => ?_) (fun _ _ q => q.elim)
  obtain ⟨rfl, qq34⟩ := p34; subst h34
  dsimp only [Option.toList, List.cons_append, List.nil_append]
  refine wa_putF hX 2 h1 (Nat.le_of_ble_eq_true rfl) (by decide +kernel) (by rfl) rfl (by rfl) (by rfl) (by rfl) dX6_init_37 ?_
  refine WA.hgen h1 (fun hh4 hN hK => ?_)
  replace fr := Fr.put fr h1 hK (by first | decide | omega | simp)
  replace h2 := (hK _ (lab_ne h1 h2 (by first | decide | omega))).trans h2
  replace h1 := hN
  clear hN hK
  refine wa_aload_n hX (i := 0) dX6_init_40 rfl rfl ?_
  refine wa_aload_n hX (i := 1) dX6_init_41 rfl rfl ?_
  refine WA.room (k2 := 1 + 1) (sl2 := 1024 + 1024) (by omega) (by omega) ?_
  refine wa_callS hX (c_X9_sortsOf hW d h2 he hr) (by rfl) (by omega) (nA := 1) (by rfl) (by decide +kernel) rfl (by exact Nat.le_of_ble_eq_true rfl) dX6_init_42 (fun r42 h42 p42 => ?_) (fun _ _ q => q.elim)
  obtain ⟨t1, rfl, t1n, rfl⟩ := p42
  refine WA.hnew t1n (fun hh5 hN hK => ?_)
  replace fr := Fr.mk9 fr hK
  replace h1 := hK _ _ _ h1
  replace h2 := hK _ _ _ h2
  have Ht1 := hN
  clear hN hK
  dsimp only [Option.toList, List.cons_append, List.nil_append]
  refine wa_putF hX 5 h1 (Nat.le_of_ble_eq_true rfl) (by decide +kernel) (by rfl) rfl (by rfl) (by rfl) (by rfl) dX6_init_45 ?_
  refine WA.hgen h1 (fun hh6 hN hK => ?_)
  replace fr := Fr.put fr h1 hK (by first | decide | omega | simp)
  replace h2 := (hK _ (lab_ne h1 h2 (by first | decide | omega))).trans h2
  replace Ht1 := (hK _ (lab_ne h1 Ht1 (by first | decide | omega))).trans Ht1
  replace h1 := hN
  clear hN hK
  refine wa_aload_n hX (i := 0) dX6_init_48 rfl rfl ?_
  refine wa_aload_n hX (i := 1) dX6_init_49 rfl rfl ?_
  refine wa_callS hX (c_X1_shapesOf hW (d + 1) h2 he hb) (by rfl) (by omega) (nA := 1) (by rfl) (by decide +kernel) rfl (by exact Nat.le_of_ble_eq_true rfl) dX6_init_50 (fun r50 h50 p50 => ?_) (fun _ _ q => q.elim)
  obtain ⟨t2, rfl, t2n, rfl⟩ := p50
  refine WA.hnew t2n (fun hh7 hN hK => ?_)
  replace fr := Fr.mk9 fr hK
  replace h1 := hK _ _ _ h1
  replace h2 := hK _ _ _ h2
  replace Ht1 := hK _ _ _ Ht1
  have Ht2 := hN
  clear hN hK
  dsimp only [Option.toList, List.cons_append, List.nil_append]
  refine wa_putF hX 4 h1 (Nat.le_of_ble_eq_true rfl) (by decide +kernel) (by rfl) rfl (by rfl) (by rfl) (by rfl) dX6_init_53 ?_
  refine WA.hgen h1 (fun hh8 hN hK => ?_)
  replace fr := Fr.put fr h1 hK (by first | decide | omega | simp)
  replace h2 := (hK _ (lab_ne h1 h2 (by first | decide | omega))).trans h2
  replace Ht1 := (hK _ (lab_ne h1 Ht1 (by first | decide | omega))).trans Ht1
  replace Ht2 := (hK _ (lab_ne h1 Ht2 (by first | decide | omega))).trans Ht2
  replace h1 := hN
  clear hN hK
  refine wa_vret hX dX6_init_56 ?_
  exact ⟨rfl, ⟨t1, t2, h1, h2, Ht1, Ht2⟩, fr⟩
end C29
