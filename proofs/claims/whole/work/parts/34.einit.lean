/-! Circuitfold$Elimination (X3): constructor; Circuitfold$Tables (X9): graph, columns -/
section C34
variable {l : Launch} {D : va_G} {S0 : State}
set_option maxRecDepth 100000 in
theorem c_X3_init (hW : WOK l D S0) (d : Nat) {h : AH} {a la f rows n : Nat} (lc lr lp : Nat) (h1 : h a = some (la, oF 5 [I 0, I 0, I 0, .null, .null, .null])) (hf : 2 ≤ f) (hf5 : f ≤ 5) (hn : n ≤ 10) (hr : rows ≤ 10) (hl1 : lc ≠ la) (hl2 : lr ≠ la) (hl3 : lp ≠ la) (hl4 : la ≠ 2) : MA l D S0 yX3_init cX3_init 4 none (d + 1) [.ref a, I (f : Int), I (rows : Int), I (n : Int)] h 24 1024 (fun r h' => r = none ∧ (∃ cq rq pq rc rr, h' a = some (la, oElim f rows n cq rq pq) ∧ h' cq = some (2, aRR n rc) ∧ h' rq = some (2, aRR n rr) ∧ h' pq = some (lp, aI .int n (fun _ => 0)) ∧ (∀ j, j < n → h' (rc j) = some (lc, aV rows (fun _ => 0))) ∧ (∀ j, j < n → h' (rr j) = some (lr, aV rows (fun _ => 0))) ∧ (∀ i j, i < n → j < n → rc i = rc j → i = j) ∧ (∀ i j, i < n → j < n → rr i = rr j → i = j)) ∧ Fr (fun x => x = la) h h') (fun _ _ => False) := by
  have fr : Fr (fun x => x = la) h h := Fr.rf
  have hnr : n * rows ≤ 10 * 10 := Nat.mul_le_mul hn hr
  refine MA.start hW (by decide) [.val (.ref a), .val (I (f : Int)), .val (I (rows : Int)), .val (I (n : Int))] rfl ?_
  rintro X rfl rfl rfl hX
  refine wa_aload_n hX (i := 0) dX3_init_0 rfl rfl ?_
  refine wa_obj hX (by decide +kernel) rfl (by exact Nat.le_of_ble_eq_true rfl) dX3_init_1 ?_
  refine wa_aload_n hX (i := 0) dX3_init_4 rfl rfl ?_
  refine wi_iconst hX dX3_init_5 ?_
  refine wa_iload_n hX (i := 1) dX3_init_6 rfl rfl ?_
  refine wi_max hX (by decide +kernel) rfl (by exact Nat.le_of_ble_eq_true rfl) (by omega) (by omega) dX3_init_7 ?_
  rw [show max (2 : Int) (f : Int) = (f : Int) by omega]
  refine wa_putF hX 0 h1 (Nat.le_of_ble_eq_true rfl) (by decide +kernel) (by rfl) rfl (by rfl) (by rfl) (by rfl) dX3_init_10 ?_
  refine WA.hgen h1 (fun hh1 hN hK => ?_)
  replace fr := Fr.put fr h1 hK (by first | decide | omega | simp)
  try replace fr1 := Fr.put fr1 h1 hK (by first | decide | omega | simp)
  try replace fr2 := Fr.put fr2 h1 hK (by first | decide | omega | simp)
  try replace fr3 := Fr.put fr3 h1 hK (by first | decide | omega | simp)
  replace h1 := hN
  clear hN hK
  refine wa_aload_n hX (i := 0) dX3_init_13 rfl rfl ?_
  refine wi_iconst hX dX3_init_14 ?_
  refine wi_bipush hX dX3_init_15 (by decide) ?_
  refine wa_iload_n hX (i := 2) dX3_init_17 rfl rfl ?_
  refine wi_min hX (by decide +kernel) rfl (by exact Nat.le_of_ble_eq_true rfl) (by omega) (by omega) dX3_init_18 ?_
  refine wi_max hX (by decide +kernel) rfl (by exact Nat.le_of_ble_eq_true rfl) (by omega) (by omega) dX3_init_21 ?_
  rw [show max (0 : Int) (min (10 : Int) (rows : Int)) = (rows : Int) by omega]
  refine wa_putF hX 1 h1 (Nat.le_of_ble_eq_true rfl) (by decide +kernel) (by rfl) rfl (by rfl) (by rfl) (by rfl) dX3_init_24 ?_
  refine WA.hgen h1 (fun hh2 hN hK => ?_)
  replace fr := Fr.put fr h1 hK (by first | decide | omega | simp)
  try replace fr1 := Fr.put fr1 h1 hK (by first | decide | omega | simp)
  try replace fr2 := Fr.put fr2 h1 hK (by first | decide | omega | simp)
  try replace fr3 := Fr.put fr3 h1 hK (by first | decide | omega | simp)
  replace h1 := hN
  clear hN hK
  refine wa_aload_n hX (i := 0) dX3_init_27 rfl rfl ?_
  refine wi_iconst hX dX3_init_28 ?_
  refine wi_bipush hX dX3_init_29 (by decide) ?_
  refine wa_iload_n hX (i := 3) dX3_init_31 rfl rfl ?_
  refine wi_min hX (by decide +kernel) rfl (by exact Nat.le_of_ble_eq_true rfl) (by omega) (by omega) dX3_init_32 ?_
  refine wi_max hX (by decide +kernel) rfl (by exact Nat.le_of_ble_eq_true rfl) (by omega) (by omega) dX3_init_35 ?_
  rw [show max (0 : Int) (min (10 : Int) (n : Int)) = (n : Int) by omega]
  refine wa_putF hX 2 h1 (Nat.le_of_ble_eq_true rfl) (by decide +kernel) (by rfl) rfl (by rfl) (by rfl) (by rfl) dX3_init_38 ?_
  refine WA.hgen h1 (fun hh3 hN hK => ?_)
  replace fr := Fr.put fr h1 hK (by first | decide | omega | simp)
  try replace fr1 := Fr.put fr1 h1 hK (by first | decide | omega | simp)
  try replace fr2 := Fr.put fr2 h1 hK (by first | decide | omega | simp)
  try replace fr3 := Fr.put fr3 h1 hK (by first | decide | omega | simp)
  replace h1 := hN
  clear hN hK
  refine wa_aload_n hX (i := 0) dX3_init_41 rfl rfl ?_
  refine wa_aload_n hX (i := 0) dX3_init_42 rfl rfl ?_
  refine wa_get hX 2 (by assumption) (by rfl) (by decide +kernel) dX3_init_43 ?_
  refine wa_aload_n hX (i := 0) dX3_init_46 rfl rfl ?_
  refine wa_get hX 1 (by assumption) (by rfl) (by decide +kernel) dX3_init_47 ?_
  refine WA.room (k2 := (n + 2) + 1 + n) (sl2 := (n + n * rows + n) + n + n * rows) (by omega) (by omega) ?_
  refine wa_mna hX (N := n) (K := rows) 2 lc (by omega) (by omega) (by decide +kernel) dX3_init_50 (fun cq rc h50 hrc e1 e2 e3 => ?_)
  replace h1 := e3 _ _ h1
  replace fr := Fr.mk9 fr (fun b lb ob => e3 b (lb, ob))
  have fr1 : Fr (fun x => x = la) h50 h50 := Fr.rf
  refine wa_putF hX 3 h1 (Nat.le_of_ble_eq_true rfl) (by decide +kernel) (by rfl) rfl (by rfl) (by rfl) (by rfl) dX3_init_54 ?_
  refine WA.hgen h1 (fun hh4 hN hK => ?_)
  replace fr := Fr.put fr h1 hK (by first | decide | omega | simp)
  try replace fr1 := Fr.put fr1 h1 hK (by first | decide | omega | simp)
  try replace fr2 := Fr.put fr2 h1 hK (by first | decide | omega | simp)
  try replace fr3 := Fr.put fr3 h1 hK (by first | decide | omega | simp)
  replace h1 := hN
  clear hN hK
  refine wa_aload_n hX (i := 0) dX3_init_57 rfl rfl ?_
  refine wa_aload_n hX (i := 0) dX3_init_58 rfl rfl ?_
  refine wa_get hX 2 (by assumption) (by rfl) (by decide +kernel) dX3_init_59 ?_
  refine wa_aload_n hX (i := 0) dX3_init_62 rfl rfl ?_
  refine wa_get hX 1 (by assumption) (by rfl) (by decide +kernel) dX3_init_63 ?_
  refine WA.room (k2 := 1 + 1 + n) (sl2 := n + n + n * rows) (by omega) (by omega) ?_
  refine wa_mna hX (N := n) (K := rows) 2 lr (by omega) (by omega) (by decide +kernel) dX3_init_66 (fun rq rr h66 hrr e4 e5 e6 => ?_)
  replace h1 := e6 _ _ h1
  replace fr := Fr.mk9 fr (fun b lb ob => e6 b (lb, ob))
  replace fr1 := Fr.mk9 fr1 (fun b lb ob => e6 b (lb, ob))
  have fr2 : Fr (fun x => x = la) h66 h66 := Fr.rf
  refine wa_putF hX 4 h1 (Nat.le_of_ble_eq_true rfl) (by decide +kernel) (by rfl) rfl (by rfl) (by rfl) (by rfl) dX3_init_70 ?_
  refine WA.hgen h1 (fun hh5 hN hK => ?_)
  replace fr := Fr.put fr h1 hK (by first | decide | omega | simp)
  try replace fr1 := Fr.put fr1 h1 hK (by first | decide | omega | simp)
  try replace fr2 := Fr.put fr2 h1 hK (by first | decide | omega | simp)
  try replace fr3 := Fr.put fr3 h1 hK (by first | decide | omega | simp)
  replace h1 := hN
  clear hN hK
  refine wa_aload_n hX (i := 0) dX3_init_73 rfl rfl ?_
  refine wa_aload_n hX (i := 0) dX3_init_74 rfl rfl ?_
  refine wa_get hX 2 (by assumption) (by rfl) (by decide +kernel) dX3_init_75 ?_
  refine WA.room (k2 := 0 + 1) (sl2 := 0 + n) (by omega) (by omega) ?_
  refine wa_newa hX n lp .int (.inl (fun j => Int32.ofInt ((fun _ => 0 : Nat → Int) j))) rfl (by rfl) (by omega) (fun cA => by rfl) (by decide +kernel) dX3_init_78 (fun pq pqn => ?_)
  refine WA.hnew pqn (fun h78 hN hK => ?_)
  replace fr := Fr.mk9 fr hK
  replace fr1 := Fr.mk9 fr1 hK
  replace fr2 := Fr.mk9 fr2 hK
  replace h1 := hK _ _ _ h1
  have fr3 : Fr (fun x => x = la) h78 h78 := Fr.rf
  refine wa_putF hX 5 h1 (Nat.le_of_ble_eq_true rfl) (by decide +kernel) (by rfl) rfl (by rfl) (by rfl) (by rfl) dX3_init_80 ?_
  refine WA.hgen h1 (fun hh6 hN hK => ?_)
  replace fr := Fr.put fr h1 hK (by first | decide | omega | simp)
  try replace fr1 := Fr.put fr1 h1 hK (by first | decide | omega | simp)
  try replace fr2 := Fr.put fr2 h1 hK (by first | decide | omega | simp)
  try replace fr3 := Fr.put fr3 h1 hK (by first | decide | omega | simp)
  replace h1 := hN
  clear hN hK
  refine wa_vret hX dX3_init_83 ?_
  exact ⟨rfl, ⟨cq, rq, pq, rc, rr, h1, fr1 _ _ _ e1 (by omega), fr2 _ _ _ e4 (by omega), fr3 _ _ _ hN (by omega), fun j hj => fr1 _ _ _ (e2 j hj) (by omega), fun j hj => fr2 _ _ _ (e5 j hj) (by omega), hrc, hrr⟩, fr⟩
end C34
