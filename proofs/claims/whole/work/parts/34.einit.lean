/-! Circuitfold$Elimination (X3): constructor; Circuitfold$Tables (X9): graph, columns -/
/-- the column of an edge, over the field of 2; entries of typed columns -/
def colG (g : Nat → Nat) (n j r : Nat) : Nat := if j < n ∧ g (2 * j) ≠ g (2 * j + 1) ∧ (r = g (2 * j) ∨ r = g (2 * j + 1)) then 1 else 0
def colC (g : Nat → Nat) (rows n j r : Nat) : Nat := if j < n then g (j * rows + r) else 0
theorem div_mod_u {rows j r : Nat} (hr : r < rows) : (j * rows + r) / rows = j ∧ (j * rows + r) % rows = r := by
  constructor
  · rw [Nat.add_comm, Nat.add_mul_div_right _ _ (by omega), Nat.div_eq_of_lt hr, Nat.zero_add]
  · rw [Nat.add_comm, Nat.add_mul_mod_self_right, Nat.mod_eq_of_lt hr]
section C34
variable {l : Launch} {D : va_G} {S0 : State}
set_option maxRecDepth 100000 in
theorem c_X3_init (hW : WOK l D S0) (d : Nat) {h : AH} {a la f rows n : Nat} (lc lr lp : Nat) (h1 : h a = some (la, oF 5 [I 0, I 0, I 0, .null, .null, .null])) (hf : 2 ≤ f) (hf5 : f ≤ 5) (hn : n ≤ 10) (hr : rows ≤ 10) (hl1 : lc ≠ la) (hl2 : lr ≠ la) (hl3 : lp ≠ la) (hl4 : la ≠ 2) : MA l D S0 yX3_init cX3_init 4 none (d + 1) [.ref a, I (f : Int), I (rows : Int), I (n : Int)] h 24 1024 (fun r h' => r = none ∧ (∃ cq rq pq rc rr, h' a = some (la, oElim f rows n cq rq pq) ∧ h' cq = some (2, aRR n rc) ∧ h' rq = some (2, aRR n rr) ∧ h' pq = some (lp, aI .int n (fun _ => 0)) ∧ (∀ j, j < n → h' (rc j) = some (lc, aV rows (fun _ => 0))) ∧ (∀ j, j < n → h' (rr j) = some (lr, aV rows (fun _ => 0))) ∧ (∀ i j, i < n → j < n → rc i = rc j → i = j) ∧ (∀ i j, i < n → j < n → rr i = rr j → i = j)) ∧ Fr (fun x => x = la) h h') (fun _ _ => False) := by
  have fr : Fr (fun x => x = la) h h := Fr.rf
  have hnr : n * rows ≤ 10 * 10 := Nat.mul_le_mul hn hr
  refine MA.start hW (by decide) [.val (.ref a), .val (I (f : Int)), .val (I (rows : Int)), .val (I (n : Int))] rfl ?_
  rintro X rfl rfl rfl hX
  refine wa_aload_n hX (i := 0) dX3_init_0 rfl rfl ?_
  refine wa_obj hX (by decide +kernel) rfl (by exact Nat.le_of_ble_eq_true rfl) dX3_init_1 ?_
  refine wa_aload_n hX (i := 0) dX3_init_4 rfl rfl ?_
  refine wi_iconst hX dX3_init_5 ?_
  refine wa_iload_n hX (i := 1) dX3_init_6 rfl rfl ?_
  refine wi_max hX (by decide +kernel) rfl (by exact Nat.le_of_ble_eq_true rfl) (by omega) (by omega) dX3_init_7 ?_
  rw [show max (2 : Int) (f : Int) = (f : Int) by omega]
  refine wa_putF hX 0 h1 (Nat.le_of_ble_eq_true rfl) (by decide +kernel) (by rfl) rfl (by rfl) (by rfl) (by rfl) dX3_init_10 ?_
  refine WA.hgen h1 (fun hh1 hN hK => ?_)
  replace fr := Fr.put fr h1 hK (by first | decide | omega | simp)
  try replace fr1 := Fr.put fr1 h1 hK (by first | decide | omega | simp)
  try replace fr2 := Fr.put fr2 h1 hK (by first | decide | omega | simp)
  try replace fr3 := Fr.put fr3 h1 hK (by first | decide | omega | simp)
  replace h1 := hN
  clear hN hK
  refine wa_aload_n hX (i := 0) dX3_init_13 rfl rfl ?_
  refine wi_iconst hX dX3_init_14 ?_
  refine wi_bipush hX dX3_init_15 (by decide) ?_
  refine wa_iload_n hX (i := 2) dX3_init_17 rfl rfl ?_
  refine wi_min hX (by decide +kernel) rfl (by exact Nat.le_of_ble_eq_true rfl) (by omega) (by omega) dX3_init_18 ?_
  refine wi_max hX (by decide +kernel) rfl (by exact Nat.le_of_ble_eq_true rfl) (by omega) (by omega) dX3_init_21 ?_
  rw [show max (0 : Int) (min (10 : Int) (rows : Int)) = (rows : Int) by omega]
  refine wa_putF hX 1 h1 (Nat.le_of_ble_eq_true rfl) (by decide +kernel) (by rfl) rfl (by rfl) (by rfl) (by rfl) dX3_init_24 ?_
  refine WA.hgen h1 (fun hh2 hN hK => ?_)
  replace fr := Fr.put fr h1 hK (by first | decide | omega | simp)
  try replace fr1 := Fr.put fr1 h1 hK (by first | decide | omega | simp)
  try replace fr2 := Fr.put fr2 h1 hK (by first | decide | omega | simp)
  try replace fr3 := Fr.put fr3 h1 hK (by first | decide | omega | simp)
  replace h1 := hN
  clear hN hK
  refine wa_aload_n hX (i := 0) dX3_init_27 rfl rfl ?_
  refine wi_iconst hX dX3_init_28 ?_
  refine wi_bipush hX dX3_init_29 (by decide) ?_
  refine wa_iload_n hX (i := 3) dX3_init_31 rfl rfl ?_
  refine wi_min hX (by decide +kernel) rfl (by exact Nat.le_of_ble_eq_true rfl) (by omega) (by omega) dX3_init_32 ?_
  refine wi_max hX (by decide +kernel) rfl (by exact Nat.le_of_ble_eq_true rfl) (by omega) (by omega) dX3_init_35 ?_
  rw [show max (0 : Int) (min (10 : Int) (n : Int)) = (n : Int) by omega]
  refine wa_putF hX 2 h1 (Nat.le_of_ble_eq_true rfl) (by decide +kernel) (by rfl) rfl (by rfl) (by rfl) (by rfl) dX3_init_38 ?_
  refine WA.hgen h1 (fun hh3 hN hK => ?_)
  replace fr := Fr.put fr h1 hK (by first | decide | omega | simp)
  try replace fr1 := Fr.put fr1 h1 hK (by first | decide | omega | simp)
  try replace fr2 := Fr.put fr2 h1 hK (by first | decide | omega | simp)
  try replace fr3 := Fr.put fr3 h1 hK (by first | decide | omega | simp)
  replace h1 := hN
  clear hN hK
  refine wa_aload_n hX (i := 0) dX3_init_41 rfl rfl ?_
  refine wa_aload_n hX (i := 0) dX3_init_42 rfl rfl ?_
  refine wa_get hX 2 (by assumption) (by rfl) (by decide +kernel) dX3_init_43 ?_
  refine wa_aload_n hX (i := 0) dX3_init_46 rfl rfl ?_
  refine wa_get hX 1 (by assumption) (by rfl) (by decide +kernel) dX3_init_47 ?_
  refine WA.room (k2 := (n + 2) + 1 + n) (sl2 := (n + n * rows + n) + n + n * rows) (by omega) (by omega) ?_
  refine wa_mna hX (N := n) (K := rows) 2 lc (by omega) (by omega) (by decide +kernel) dX3_init_50 (fun cq rc h50 hrc e1 e2 e3 => ?_)
  replace h1 := e3 _ _ h1
  replace fr := Fr.mk9 fr (fun b lb ob => e3 b (lb, ob))
  have fr1 : Fr (fun x => x = la) h50 h50 := Fr.rf
  refine wa_putF hX 3 h1 (Nat.le_of_ble_eq_true rfl) (by decide +kernel) (by rfl) rfl (by rfl) (by rfl) (by rfl) dX3_init_54 ?_
  refine WA.hgen h1 (fun hh4 hN hK => ?_)
  replace fr := Fr.put fr h1 hK (by first | decide | omega | simp)
  try replace fr1 := Fr.put fr1 h1 hK (by first | decide | omega | simp)
  try replace fr2 := Fr.put fr2 h1 hK (by first | decide | omega | simp)
  try replace fr3 := Fr.put fr3 h1 hK (by first | decide | omega | simp)
  replace h1 := hN
  clear hN hK
  refine wa_aload_n hX (i := 0) dX3_init_57 rfl rfl ?_
  refine wa_aload_n hX (i := 0) dX3_init_58 rfl rfl ?_
  refine wa_get hX 2 (by assumption) (by rfl) (by decide +kernel) dX3_init_59 ?_
  refine wa_aload_n hX (i := 0) dX3_init_62 rfl rfl ?_
  refine wa_get hX 1 (by assumption) (by rfl) (by decide +kernel) dX3_init_63 ?_
  refine WA.room (k2 := 1 + 1 + n) (sl2 := n + n + n * rows) (by omega) (by omega) ?_
  refine wa_mna hX (N := n) (K := rows) 2 lr (by omega) (by omega) (by decide +kernel) dX3_init_66 (fun rq rr h66 hrr e4 e5 e6 => ?_)
  replace h1 := e6 _ _ h1
  replace fr := Fr.mk9 fr (fun b lb ob => e6 b (lb, ob))
  replace fr1 := Fr.mk9 fr1 (fun b lb ob => e6 b (lb, ob))
  have fr2 : Fr (fun x => x = la) h66 h66 := Fr.rf
  refine wa_putF hX 4 h1 (Nat.le_of_ble_eq_true rfl) (by decide +kernel) (by rfl) rfl (by rfl) (by rfl) (by rfl) dX3_init_70 ?_
  refine WA.hgen h1 (fun hh5 hN hK => ?_)
  replace fr := Fr.put fr h1 hK (by first | decide | omega | simp)
  try replace fr1 := Fr.put fr1 h1 hK (by first | decide | omega | simp)
  try replace fr2 := Fr.put fr2 h1 hK (by first | decide | omega | simp)
  try replace fr3 := Fr.put fr3 h1 hK (by first | decide | omega | simp)
  replace h1 := hN
  clear hN hK
  refine wa_aload_n hX (i := 0) dX3_init_73 rfl rfl ?_
  refine wa_aload_n hX (i := 0) dX3_init_74 rfl rfl ?_
  refine wa_get hX 2 (by assumption) (by rfl) (by decide +kernel) dX3_init_75 ?_
  refine WA.room (k2 := 0 + 1) (sl2 := 0 + n) (by omega) (by omega) ?_
  refine wa_newa hX n lp .int (.inl (fun j => Int32.ofInt ((fun _ => 0 : Nat → Int) j))) rfl (by rfl) (by omega) (fun cA => by rfl) (by decide +kernel) dX3_init_78 (fun pq pqn => ?_)
  refine WA.hnew pqn (fun h78 hN hK => ?_)
  replace fr := Fr.mk9 fr hK
  replace fr1 := Fr.mk9 fr1 hK
  replace fr2 := Fr.mk9 fr2 hK
  replace h1 := hK _ _ _ h1
  have fr3 : Fr (fun x => x = la) h78 h78 := Fr.rf
  refine wa_putF hX 5 h1 (Nat.le_of_ble_eq_true rfl) (by decide +kernel) (by rfl) rfl (by rfl) (by rfl) (by rfl) dX3_init_80 ?_
  refine WA.hgen h1 (fun hh6 hN hK => ?_)
  replace fr := Fr.put fr h1 hK (by first | decide | omega | simp)
  try replace fr1 := Fr.put fr1 h1 hK (by first | decide | omega | simp)
  try replace fr2 := Fr.put fr2 h1 hK (by first | decide | omega | simp)
  try replace fr3 := Fr.put fr3 h1 hK (by first | decide | omega | simp)
  replace h1 := hN
  clear hN hK
  refine wa_vret hX dX3_init_83 ?_
  exact ⟨rfl, ⟨cq, rq, pq, rc, rr, h1, fr1 _ _ _ e1 (by omega), fr2 _ _ _ e4 (by omega), fr3 _ _ _ hN (by omega), fun j hj => fr1 _ _ _ (e2 j hj) (by omega), fun j hj => fr2 _ _ _ (e5 j hj) (by omega), hrc, hrr⟩, fr⟩
set_option maxRecDepth 100000 in
theorem c_X9_ofColumns (hW : WOK l D S0) (d : Nat) {h : AH} {a la q lq c f rows : Nat} {g : Nat → Nat} (h1 : h a = some (la, oRow q (c : Int))) (h3 : h q = some (lq, aI .int 60 (fun j => ((g j : Nat) : Int)))) (hla : 10 ≤ la) (hlq : 10 ≤ lq) (hc : c ≤ 60) (hr1 : 1 ≤ rows) (hr2 : rows ≤ 10) (hm : c % rows = 0) (hn : c / rows ≤ 10) (hf2 : 2 ≤ f) (hf5 : f ≤ 5) (hg : ∀ i, i < c → g i < f) : MA l D S0 yX9_ofColumns cX9_ofColumns 5 (some (.array .byte)) (d + 4) [.ref a, I (f : Int), I (rows : Int)] h 26 2054 (fun r h' => ∃ b, r = some (.ref b) ∧ h' b = some (2, aB (c / rows) (rkE f rows (colC g rows (c / rows)))) ∧ Fr (fun x => x = 3 ∨ x = 4 ∨ x = 5 ∨ x = 6) h h') (fun _ _ => False) := by
  have fr : Fr (fun x => x = 3 ∨ x = 4 ∨ x = 5 ∨ x = 6) h h := Fr.rf
  have hcn : c = c / rows * rows := by
    have := Nat.div_add_mod c rows
    rw [hm, Nat.add_zero, Nat.mul_comm] at this
    exact this.symm
  refine MA.start hW (by decide) [.val (.ref a), .val (I (f : Int)), .val (I (rows : Int)), .unset, .unset] rfl ?_
  rintro X rfl rfl rfl hX
  refine wa_iload_n hX (i := 2) dX9_ofColumns_0 rfl rfl ?_
  refine wi_if_gt hX (tgt := 9) dX9_ofColumns_1 (by decide) (by omega) (fun c1 => ?_) (fun c1 => ?_)
  · skip
    refine wa_new hX 5 6 6 [I 0, I 0, I 0, .null, .null, .null] (by decide +kernel) (by decide +kernel) rfl dX9_ofColumns_9 (fun el eln => ?_)
    refine WA.hnew eln (fun hh7 hN hK => ?_)
    replace fr := Fr.mk9 fr hK
    replace h1 := hK _ _ _ h1
    replace h3 := hK _ _ _ h3
    have Hel := hN
    clear hN hK
    refine wa_dup hX dX9_ofColumns_12 rfl ?_
    refine wa_iload_n hX (i := 1) dX9_ofColumns_13 rfl rfl ?_
    refine wa_iload_n hX (i := 2) dX9_ofColumns_14 rfl rfl ?_
    refine wa_aload_n hX (i := 0) dX9_ofColumns_15 rfl rfl ?_
    refine wa_callV hX (c_X8_length hW (d + 3) h1) (by assumption) (by rfl) (by rfl) (by omega) (nA := 0) (by rfl) (by decide +kernel) rfl (by exact Nat.le_of_ble_eq_true rfl) dX9_ofColumns_16 (fun r16 h16 p16 => ?_) (fun _ _ q => q.elim)
    obtain ⟨rfl, qq16⟩ := p16; subst h16
    dsimp only [Option.toList, List.cons_append, List.nil_append]
    refine wa_iload_n hX (i := 2) dX9_ofColumns_19 rfl rfl ?_
    refine wn_idiv hX (a := c) (b := rows) dX9_ofColumns_20 rfl rfl (by omega) (by omega) (by omega) ?_
    refine wa_callI hX (c_X3_init hW (d + 2) (f := f) (rows := rows) (n := c / rows) 3 4 5 Hel hf2 hf5 hn hr2 (by decide) (by decide) (by decide) (by decide)) (by rfl) (by omega) (nA := 3) (by rfl) (by decide +kernel) rfl (by exact Nat.le_of_ble_eq_true rfl) dX9_ofColumns_21 (fun r21 h21 p21 => ?_) (fun _ _ q => q.elim)
    obtain ⟨rfl, ⟨cq, rq, pq, rc, rr, e1, e2, e3, e4, e5, e6, e7, e8⟩, fr9⟩ := p21
    replace fr := fr.trans (fr9.mono (fun l hl => by omega))
    replace h1 := fr9 _ _ _ h1 (by omega)
    replace h3 := fr9 _ _ _ h3 (by omega)
    dsimp only [Option.toList, List.cons_append, List.nil_append]
    refine wa_astore_n hX (i := 3) dX9_ofColumns_24 rfl rfl ?_
    dsimp only [List.set]
    refine wi_iconst hX dX9_ofColumns_25 ?_
    refine wa_istore hX dX9_ofColumns_26 rfl ?_
    dsimp only [List.set]
    refine WA.loop (σ := Nat × AH) (fun z => c - z.1) (fun z => z.1 ≤ c ∧ Fr (fun x => x = 3) h21 z.2 ∧ ∃ Dd : Nat → Nat → Int, (∀ j, j < c / rows → z.2 (rc j) = some (3, aI .int rows (Dd j))) ∧ ∀ j r, j < c / rows → r < rows → Dd j r = ((if j * rows + r < z.1 then g (j * rows + r) else 0 : Nat) : Int)) (fun z => z.2) (fun z => [.val (.ref a), .val (I (f : Int)), .val (I (rows : Int)), .val (.ref el), .val (I (z.1 : Nat))]) ?_ (0, h21) ⟨Nat.zero_le _, Fr.rf, _, e5, fun j r _ _ => by rw [if_neg (Nat.not_lt_zero _)]⟩
    rintro ⟨i, hh⟩ ⟨hi, hFr, Dd, hD1, hD2⟩ ih
    dsimp only at hi hFr hD1 hD2 ⊢
    have g1 := hFr _ _ _ h1 (by omega)
    have g3 := hFr _ _ _ h3 (by omega)
    have g4 := hFr _ _ _ e1 (by omega)
    have g5 := hFr _ _ _ e2 (by omega)
    have g6 := hFr _ _ _ e3 (by omega)
    have g7 := hFr _ _ _ e4 (by omega)
    have g8 : ∀ j, j < c / rows → hh (rr j) = some (4, aV rows (fun _ => 0)) := fun j hj => hFr _ _ _ (e6 j hj) (by omega)
    refine wa_iload hX dX9_ofColumns_28 rfl ?_
    refine wa_aload_n hX (i := 0) dX9_ofColumns_30 rfl rfl ?_
    refine wa_callV hX (c_X8_length hW (d + 3) g1) (by assumption) (by rfl) (by rfl) (by omega) (nA := 0) (by rfl) (by decide +kernel) rfl (by exact Nat.le_of_ble_eq_true rfl) dX9_ofColumns_31 (fun r31 h31 p31 => ?_) (fun _ _ q => q.elim)
    obtain ⟨rfl, qq31⟩ := p31; subst h31
    dsimp only [Option.toList, List.cons_append, List.nil_append]
    refine wi_icmp_ge hX (tgt := 61) dX9_ofColumns_34 (by decide) (by omega) (by omega) (fun c34 => ?_) (fun c34 => ?_)
    · skip
      refine wa_aload_n hX (i := 3) dX9_ofColumns_61 rfl rfl ?_
      have hcF : ∀ j, j < c / rows → ∃ G, hh (rc j) = some (3, aI .int rows G) ∧ ∀ r, r < rows → G r = ((colC g rows (c / rows) j r : Nat) : Int) := fun j hj => ⟨_, hD1 j hj, fun r hr => by
        rw [hD2 j r hj hr]
        unfold colC
        have v3 : j * rows + r < i := by
          have v4 : (j + 1) * rows ≤ c / rows * rows := Nat.mul_le_mul_right _ hj
          rw [Nat.add_mul] at v4
          omega
        rw [if_pos v3, if_pos hj]⟩
      have hgF : ∀ j, ∀ r, r < rows → colC g rows (c / rows) j r < f := fun j r hr => by
        unfold colC
        by_cases hj : j < c / rows
        · rw [if_pos hj]
          refine hg _ ?_
          have v4 : (j + 1) * rows ≤ c / rows * rows := Nat.mul_le_mul_right _ hj
          rw [Nat.add_mul] at v4
          omega
        · rw [if_neg hj]; omega
      refine wa_callV hX (c_X3_ranks hW d (lc := 3) (lr := 4) (C := colC g rows (c / rows)) g4 g5 g6 g7 hcF g8 hn hr2 hf2 hf5 e8 (by decide) (by decide) (by decide) (by decide) (by decide) (by decide) (by decide) hgF) (by assumption) (by rfl) (by rfl) (by omega) (nA := 0) (by rfl) (by decide +kernel) rfl (by exact Nat.le_of_ble_eq_true rfl) dX9_ofColumns_62 (fun r62 h62 p62 => ?_) (fun _ _ q => q.elim)
      obtain ⟨b, rfl, b1, b2, b3⟩ := p62
      dsimp only [Option.toList, List.cons_append, List.nil_append]
      refine wa_aretR hX dX9_ofColumns_65 (by first | exact Or.inl ⟨_, rfl⟩ | exact Or.inr ⟨_, rfl⟩) ?_
      exact ⟨b, rfl, b2, fr.trans ((hFr.mono (fun l hl => by omega)).trans (b3.mono (fun l hl => by omega)))⟩
    · skip
      have hdm := Nat.div_add_mod i rows
      have hml := Nat.mod_lt i (show 0 < rows by omega)
      have hel : i / rows < c / rows := by
        rw [Nat.div_lt_iff_lt_mul (by omega)]
        omega
      refine wa_aload_n hX (i := 3) dX9_ofColumns_37 rfl rfl ?_
      refine wa_iload hX dX9_ofColumns_38 rfl ?_
      refine wa_iload_n hX (i := 2) dX9_ofColumns_40 rfl rfl ?_
      refine wn_idiv hX (a := i) (b := rows) dX9_ofColumns_41 rfl rfl (by omega) (by omega) (by omega) ?_
      refine wa_iload hX dX9_ofColumns_42 rfl ?_
      refine wa_iload_n hX (i := 2) dX9_ofColumns_44 rfl rfl ?_
      refine wn_irem hX (a := i) (b := rows) dX9_ofColumns_45 rfl rfl (by omega) (by omega) (by omega) ?_
      refine wa_aload_n hX (i := 0) dX9_ofColumns_46 rfl rfl ?_
      refine wa_iload hX dX9_ofColumns_47 rfl ?_
      refine wa_callV hX (c_X8_at hW (d + 3) g1 g3 (i := (i : Int)) (by omega)) (by assumption) (by rfl) (by rfl) (by omega) (nA := 1) (by rfl) (by decide +kernel) rfl (by exact Nat.le_of_ble_eq_true rfl) dX9_ofColumns_49 (fun r49 h49 p49 => ?_) (fun _ _ q => q.elim)
      obtain ⟨rfl, qq49⟩ := p49; subst h49
      rw [if_pos (⟨by omega, by omega⟩ : 0 ≤ (i : Int) ∧ (i : Int) < 60), Int.toNat_natCast]
      dsimp only [Option.toList, List.cons_append, List.nil_append]
      refine wa_callV hX (c_X3_put hW (d + 3) g4 g5 hel (hD1 _ hel) hml (by omega) (by omega)) (by assumption) (by rfl) (by rfl) (by omega) (nA := 3) (by rfl) (by decide +kernel) rfl (by exact Nat.le_of_ble_eq_true rfl) dX9_ofColumns_52 (fun r52 h52 p52 => ?_) (fun _ _ q => q.elim)
      obtain ⟨rfl, rfl⟩ := p52
      dsimp only [Option.toList, List.cons_append, List.nil_append]
      refine wi_iinc hX dX9_ofColumns_55 rfl ?_
      dsimp only [List.set]
      refine wa_goto hX (tgt := 28) dX9_ofColumns_58 (by decide) ?_
      refine ih (i + 1, hset hh (rc (i / rows)) (3, aI .int rows (up (Dd (i / rows)) (i % rows) ((g i : Nat) : Int)))) ⟨by show i + 1 ≤ c; omega, Fr.put hFr (hD1 _ hel) (fun b hb => hset_ne hb) rfl, (fun j => if j = i / rows then up (Dd (i / rows)) (i % rows) ((g i : Nat) : Int) else Dd j), fun j hj => ?_, fun j r hj hr => ?_⟩ (by show c - (i + 1) < c - i; omega)
      · dsimp only
        by_cases e9 : j = i / rows
        · subst e9; rw [if_pos rfl]; exact hset_eq
        · rw [if_neg e9]; exact (hset_ne (fun q => e9 (e7 _ _ hj hel q))).trans (hD1 j hj)
      · dsimp only
        obtain ⟨v1, v2⟩ := div_mod_u (j := j) hr
        by_cases e9 : j * rows + r = i
        · have v3 : j = i / rows := by rw [← e9, v1]
          have v4 : r = i % rows := by rw [← e9, v2]
          rw [if_pos v3, up_is, if_pos v4, if_pos (by omega), e9]
        · have v5 : (if j = i / rows then up (Dd (i / rows)) (i % rows) ((g i : Nat) : Int) else Dd j) r = Dd j r := by
            by_cases v3 : j = i / rows
            · rw [if_pos v3, up_is, if_neg (fun v4 => e9 (by rw [v3, v4, Nat.mul_comm]; omega)), ← v3]
            · rw [if_neg v3]
          rw [v5, hD2 j r hj hr]
          by_cases v6 : j * rows + r < i
          · rw [if_pos v6, if_pos (by omega)]
          · rw [if_neg v6, if_neg (by omega)]
  · skip
    exfalso; omega
set_option maxRecDepth 100000 in
theorem c_X9_ofGraph (hW : WOK l D S0) (d : Nat) {h : AH} {a la q lq n : Nat} {g : Nat → Nat} (h1 : h a = some (la, oRow q ((2 * n : Nat) : Int))) (h3 : h q = some (lq, aI .int 60 (fun j => ((g j : Nat) : Int)))) (hla : 10 ≤ la) (hlq : 10 ≤ lq) (hn : n ≤ 10) (hg : ∀ i, i < 2 * n → g i < 10) : MA l D S0 yX9_ofGraph cX9_ofGraph 6 (some (.array .byte)) (d + 4) [.ref a] h 26 2054 (fun r h' => ∃ b, r = some (.ref b) ∧ h' b = some (2, aB n (rkE 2 10 (colG g n))) ∧ Fr (fun x => x = 3 ∨ x = 4 ∨ x = 5 ∨ x = 6) h h') (fun _ _ => False) := by
  have fr : Fr (fun x => x = 3 ∨ x = 4 ∨ x = 5 ∨ x = 6) h h := Fr.rf
  refine MA.start hW (by decide) [.val (.ref a), .unset, .unset, .unset, .unset, .unset] rfl ?_
  rintro X rfl rfl rfl hX
  refine wa_aload_n hX (i := 0) dX9_ofGraph_0 rfl rfl ?_
  refine wa_callV hX (c_X8_length hW (d + 3) h1) (by assumption) (by rfl) (by rfl) (by omega) (nA := 0) (by rfl) (by decide +kernel) rfl (by exact Nat.le_of_ble_eq_true rfl) dX9_ofGraph_1 (fun r1 h1 p1 => ?_) (fun _ _ q => q.elim)
  obtain ⟨rfl, qq1⟩ := p1; subst h1
  dsimp only [Option.toList, List.cons_append, List.nil_append]
  refine wi_iconst hX dX9_ofGraph_4 ?_
  refine wn_idiv hX (a := 2 * n) (b := 2) dX9_ofGraph_5 rfl rfl (by omega) (by omega) (by omega) ?_
  rw [show 2 * n / 2 = n by omega]
  refine wa_istore_n hX (i := 1) dX9_ofGraph_6 rfl (by first | rfl | exact hu1 | exact hu2 | exact hu3 | exact hu4) ?_
  dsimp only [List.set]
  refine wa_new hX 5 6 6 [I 0, I 0, I 0, .null, .null, .null] (by decide +kernel) (by decide +kernel) rfl dX9_ofGraph_7 (fun el eln => ?_)
  refine WA.hnew eln (fun hh8 hN hK => ?_)
  replace fr := Fr.mk9 fr hK
  replace h1 := hK _ _ _ h1
  replace h3 := hK _ _ _ h3
  have Hel := hN
  clear hN hK
  refine wa_dup hX dX9_ofGraph_10 rfl ?_
  refine wi_iconst hX dX9_ofGraph_11 ?_
  refine wi_bipush hX dX9_ofGraph_12 (by decide) ?_
  refine wa_iload_n hX (i := 1) dX9_ofGraph_14 rfl rfl ?_
  refine wa_callI hX (c_X3_init hW (d + 2) (f := 2) (rows := 10) (n := n) 3 4 5 Hel (by decide) (by decide) hn (by decide) (by decide) (by decide) (by decide) (by decide)) (by rfl) (by omega) (nA := 3) (by rfl) (by decide +kernel) rfl (by exact Nat.le_of_ble_eq_true rfl) dX9_ofGraph_15 (fun r15 h15 p15 => ?_) (fun _ _ q => q.elim)
  obtain ⟨rfl, ⟨cq, rq, pq, rc, rr, e1, e2, e3, e4, e5, e6, e7, e8⟩, fr9⟩ := p15
  replace fr := fr.trans (fr9.mono (fun l hl => by omega))
  replace h1 := fr9 _ _ _ h1 (by omega)
  replace h3 := fr9 _ _ _ h3 (by omega)
  dsimp only [Option.toList, List.cons_append, List.nil_append]
  refine wa_astore_n hX (i := 2) dX9_ofGraph_18 rfl (by first | rfl | exact hu1 | exact hu2 | exact hu3 | exact hu4) ?_
  dsimp only [List.set]
  refine wi_iconst hX dX9_ofGraph_19 ?_
  refine wa_istore_n hX (i := 3) dX9_ofGraph_20 rfl (by first | rfl | exact hu1 | exact hu2 | exact hu3 | exact hu4) ?_
  dsimp only [List.set]
  refine WA.loop (σ := Nat × AH × Slot × Slot) (fun z => n - z.1) (fun z => z.1 ≤ n ∧ okS [z.2.2.1] 0 = true ∧ okS [z.2.2.2] 0 = true ∧ Fr (fun x => x = 3) h15 z.2.1 ∧ ∃ Dd : Nat → Nat → Int, (∀ j, j < n → z.2.1 (rc j) = some (3, aI .int 10 (Dd j))) ∧ ∀ j r, j < n → r < 10 → Dd j r = ((if j < z.1 then colG g n j r else 0 : Nat) : Int)) (fun z => z.2.1) (fun z => [.val (.ref a), .val (I (n : Int)), .val (.ref el), .val (I (z.1 : Nat)), z.2.2.1, z.2.2.2]) ?_ (0, h15, .unset, .unset) ⟨Nat.zero_le _, rfl, rfl, Fr.rf, _, e5, fun j r _ _ => by rw [if_neg (Nat.not_lt_zero _)]⟩
  rintro ⟨i, hh, u1, u2⟩ ⟨hi, hu1, hu2, hFr, Dd, hD1, hD2⟩ ih
  dsimp only at hi hu1 hu2 hFr hD1 hD2 ⊢
  have g1 := hFr _ _ _ h1 (by omega)
  have g3 := hFr _ _ _ h3 (by omega)
  have g4 := hFr _ _ _ e1 (by omega)
  have g5 := hFr _ _ _ e2 (by omega)
  have g6 := hFr _ _ _ e3 (by omega)
  have g7 := hFr _ _ _ e4 (by omega)
  have g8 : ∀ j, j < n → hh (rr j) = some (4, aV 10 (fun _ => 0)) := fun j hj => hFr _ _ _ (e6 j hj) (by omega)
  refine wa_iload_n hX (i := 3) dX9_ofGraph_21 rfl rfl ?_
  refine wa_iload_n hX (i := 1) dX9_ofGraph_22 rfl rfl ?_
  refine wi_icmp_ge hX (tgt := 75) dX9_ofGraph_23 (by decide) (by omega) (by omega) (fun c23 => ?_) (fun c23 => ?_)
  · skip
    refine wa_aload_n hX (i := 2) dX9_ofGraph_75 rfl rfl ?_
    have hin : i = n := by omega
    have hcF : ∀ j, j < n → ∃ G, hh (rc j) = some (3, aI .int 10 G) ∧ ∀ r, r < 10 → G r = ((colG g n j r : Nat) : Int) := fun j hj => ⟨_, hD1 j hj, fun r hr => by
      rw [hD2 j r hj hr, if_pos (by omega)]⟩
    have hgF : ∀ j, ∀ r, r < 10 → colG g n j r < 2 := fun j r hr => by
      unfold colG
      split <;> omega
    refine wa_callV hX (c_X3_ranks hW d (lc := 3) (lr := 4) (C := colG g n) g4 g5 g6 g7 hcF g8 hn (by decide) (by decide) (by decide) e8 (by decide) (by decide) (by decide) (by decide) (by decide) (by decide) (by decide) hgF) (by assumption) (by rfl) (by rfl) (by omega) (nA := 0) (by rfl) (by decide +kernel) rfl (by exact Nat.le_of_ble_eq_true rfl) dX9_ofGraph_76 (fun r76 h76 p76 => ?_) (fun _ _ q => q.elim)
    obtain ⟨b, rfl, b1, b2, b3⟩ := p76
    dsimp only [Option.toList, List.cons_append, List.nil_append]
    refine wa_aretR hX dX9_ofGraph_79 (by first | exact Or.inl ⟨_, rfl⟩ | exact Or.inr ⟨_, rfl⟩) ?_
    exact ⟨b, rfl, b2, fr.trans ((hFr.mono (fun l hl => by omega)).trans (b3.mono (fun l hl => by omega)))⟩
  · skip
    refine wa_aload_n hX (i := 0) dX9_ofGraph_26 rfl rfl ?_
    refine wi_iconst hX dX9_ofGraph_27 ?_
    refine wa_iload_n hX (i := 3) dX9_ofGraph_28 rfl rfl ?_
    refine wi_imul hX dX9_ofGraph_29 ?_
    have hin : i < n := by omega
    have hg1 := hg (2 * i) (by omega)
    have hg2 := hg (2 * i + 1) (by omega)
    rw [show ((2 : Int) * (i : Int)) = ((2 * i : Nat) : Int) by omega]
    refine wa_callV hX (c_X8_at hW (d + 3) g1 g3 (i := ((2 * i : Nat) : Int)) (by omega)) (by assumption) (by rfl) (by rfl) (by omega) (nA := 1) (by rfl) (by decide +kernel) rfl (by exact Nat.le_of_ble_eq_true rfl) dX9_ofGraph_30 (fun r30 h30 p30 => ?_) (fun _ _ q => q.elim)
    obtain ⟨rfl, qq30⟩ := p30; subst h30
    rw [if_pos (⟨by omega, by omega⟩ : 0 ≤ ((2 * i : Nat) : Int) ∧ ((2 * i : Nat) : Int) < 60), Int.toNat_natCast]
    dsimp only [Option.toList, List.cons_append, List.nil_append]
    refine wa_istore hX dX9_ofGraph_33 (by first | rfl | exact hu1 | exact hu2 | exact hu3 | exact hu4) ?_
    dsimp only [List.set]
    refine wa_aload_n hX (i := 0) dX9_ofGraph_35 rfl rfl ?_
    refine wi_iconst hX dX9_ofGraph_36 ?_
    refine wa_iload_n hX (i := 3) dX9_ofGraph_37 rfl rfl ?_
    refine wi_imul hX dX9_ofGraph_38 ?_
    refine wi_iconst hX dX9_ofGraph_39 ?_
    refine wi_iadd hX dX9_ofGraph_40 ?_
    rw [show ((2 : Int) * (i : Int) + 1) = ((2 * i + 1 : Nat) : Int) by omega]
    refine wa_callV hX (c_X8_at hW (d + 3) g1 g3 (i := ((2 * i + 1 : Nat) : Int)) (by omega)) (by assumption) (by rfl) (by rfl) (by omega) (nA := 1) (by rfl) (by decide +kernel) rfl (by exact Nat.le_of_ble_eq_true rfl) dX9_ofGraph_41 (fun r41 h41 p41 => ?_) (fun _ _ q => q.elim)
    obtain ⟨rfl, qq41⟩ := p41; subst h41
    rw [if_pos (⟨by omega, by omega⟩ : 0 ≤ ((2 * i + 1 : Nat) : Int) ∧ ((2 * i + 1 : Nat) : Int) < 60), Int.toNat_natCast]
    dsimp only [Option.toList, List.cons_append, List.nil_append]
    refine wa_istore hX dX9_ofGraph_44 (by first | rfl | exact hu1 | exact hu2 | exact hu3 | exact hu4) ?_
    dsimp only [List.set]
    refine wa_iload hX dX9_ofGraph_46 rfl ?_
    refine wa_iload hX dX9_ofGraph_48 rfl ?_
    refine wi_icmp_eq hX (tgt := 69) dX9_ofGraph_50 (by decide) (by omega) (by omega) (fun c50 => ?_) (fun c50 => ?_)
    · skip
      refine wi_iinc hX dX9_ofGraph_69 rfl ?_
      dsimp only [List.set]
      refine wa_goto hX (tgt := 21) dX9_ofGraph_72 (by decide) ?_
      first
        | (have c50' : g (2 * i) = g (2 * i + 1) := by omega
           refine ih (i + 1, hh, .val (I ((g (2 * i) : Nat) : Int)), .val (I ((g (2 * i + 1) : Nat) : Int))) ⟨by show i + 1 ≤ n; omega, rfl, rfl, hFr, Dd, hD1, fun j r hj hr => ?_⟩ (by show n - (i + 1) < n - i; omega)
           dsimp only
           rw [hD2 j r hj hr]
           by_cases e9 : j = i
           · subst e9
             rw [if_neg (Nat.lt_irrefl j), if_pos (by omega)]
             unfold colG
             rw [if_neg (fun q => q.2.1 c50')]
           · by_cases v6 : j < i
             · rw [if_pos v6, if_pos (by omega)]
             · rw [if_neg v6, if_neg (by omega)])
        | (have c50' : g (2 * i) ≠ g (2 * i + 1) := by omega
           refine ih (i + 1, hset hh (rc i) (3, aI .int 10 (up (up (Dd i) (g (2 * i)) 1) (g (2 * i + 1)) 1)), .val (I ((g (2 * i) : Nat) : Int)), .val (I ((g (2 * i + 1) : Nat) : Int))) ⟨by show i + 1 ≤ n; omega, rfl, rfl, Fr.put hFr (hD1 _ hin) (fun b hb => hset_ne hb) rfl, (fun j => if j = i then up (up (Dd i) (g (2 * i)) 1) (g (2 * i + 1)) 1 else Dd j), fun j hj => ?_, fun j r hj hr => ?_⟩ (by show n - (i + 1) < n - i; omega)
           · dsimp only
             by_cases e9 : j = i
             · subst e9; rw [if_pos rfl]; exact hset_eq
             · rw [if_neg e9]; exact (hset_ne (fun q => e9 (e7 _ _ hj hin q))).trans (hD1 j hj)
           · dsimp only
             by_cases e9 : j = i
             · subst e9
               rw [if_pos rfl, if_pos (by omega), up_is, up_is, hD2 j r hj hr, if_neg (Nat.lt_irrefl j)]
               unfold colG
               by_cases v1 : r = g (2 * j + 1)
               · rw [if_pos v1, if_pos ⟨hj, c50', Or.inr v1⟩]; rfl
               · rw [if_neg v1]
                 by_cases v2 : r = g (2 * j)
                 · rw [if_pos v2, if_pos ⟨hj, c50', Or.inl v2⟩]; rfl
                 · rw [if_neg v2, if_neg (fun q => by rcases q.2.2 with w | w <;> omega)]
             · rw [if_neg e9, hD2 j r hj hr]
               by_cases v6 : j < i
               · rw [if_pos v6, if_pos (by omega)]
               · rw [if_neg v6, if_neg (by omega)])
    · skip
      refine wa_aload_n hX (i := 2) dX9_ofGraph_53 rfl rfl ?_
      refine wa_iload_n hX (i := 3) dX9_ofGraph_54 rfl rfl ?_
      refine wa_iload hX dX9_ofGraph_55 rfl ?_
      refine wi_iconst hX dX9_ofGraph_57 ?_
      refine wa_callV hX (c_X3_put hW (d + 3) g4 g5 hin (hD1 _ hin) hg1 hn (by decide)) (by assumption) (by rfl) (by rfl) (by omega) (nA := 3) (by rfl) (by decide +kernel) rfl (by exact Nat.le_of_ble_eq_true rfl) dX9_ofGraph_58 (fun r58 h58 p58 => ?_) (fun _ _ q => q.elim)
      obtain ⟨rfl, rfl⟩ := p58
      have g9 : hset hh (rc i) (3, aI .int 10 (up (Dd i) (g (2 * i)) 1)) (rc i) = some (3, aI .int 10 (up (Dd i) (g (2 * i)) 1)) := hset_eq
      have k4 : hset hh (rc i) (3, aI .int 10 (up (Dd i) (g (2 * i)) 1)) el = some (6, oElim 2 10 n cq rq pq) := (hset_ne (ne_oa g4 (hD1 _ hin))).trans g4
      have k5 : hset hh (rc i) (3, aI .int 10 (up (Dd i) (g (2 * i)) 1)) cq = some (2, aRR n rc) := (hset_ne (lab_ne (hD1 _ hin) g5 (by decide))).trans g5
      dsimp only [Option.toList, List.cons_append, List.nil_append]
      refine wa_aload_n hX (i := 2) dX9_ofGraph_61 rfl rfl ?_
      refine wa_iload_n hX (i := 3) dX9_ofGraph_62 rfl rfl ?_
      refine wa_iload hX dX9_ofGraph_63 rfl ?_
      refine wi_iconst hX dX9_ofGraph_65 ?_
      refine wa_callV hX (c_X3_put hW (d + 3) k4 k5 hin g9 hg2 hn (by decide)) (by assumption) (by rfl) (by rfl) (by omega) (nA := 3) (by rfl) (by decide +kernel) rfl (by exact Nat.le_of_ble_eq_true rfl) dX9_ofGraph_66 (fun r66 h66 p66 => ?_) (fun _ _ q => q.elim)
      obtain ⟨rfl, rfl⟩ := p66
      rw [hset_hset]
      dsimp only [Option.toList, List.cons_append, List.nil_append]
      refine wi_iinc hX dX9_ofGraph_69 rfl ?_
      dsimp only [List.set]
      refine wa_goto hX (tgt := 21) dX9_ofGraph_72 (by decide) ?_
      first
        | (have c50' : g (2 * i) = g (2 * i + 1) := by omega
           refine ih (i + 1, hh, .val (I ((g (2 * i) : Nat) : Int)), .val (I ((g (2 * i + 1) : Nat) : Int))) ⟨by show i + 1 ≤ n; omega, rfl, rfl, hFr, Dd, hD1, fun j r hj hr => ?_⟩ (by show n - (i + 1) < n - i; omega)
           dsimp only
           rw [hD2 j r hj hr]
           by_cases e9 : j = i
           · subst e9
             rw [if_neg (Nat.lt_irrefl j), if_pos (by omega)]
             unfold colG
             rw [if_neg (fun q => q.2.1 c50')]
           · by_cases v6 : j < i
             · rw [if_pos v6, if_pos (by omega)]
             · rw [if_neg v6, if_neg (by omega)])
        | (have c50' : g (2 * i) ≠ g (2 * i + 1) := by omega
           refine ih (i + 1, hset hh (rc i) (3, aI .int 10 (up (up (Dd i) (g (2 * i)) 1) (g (2 * i + 1)) 1)), .val (I ((g (2 * i) : Nat) : Int)), .val (I ((g (2 * i + 1) : Nat) : Int))) ⟨by show i + 1 ≤ n; omega, rfl, rfl, Fr.put hFr (hD1 _ hin) (fun b hb => hset_ne hb) rfl, (fun j => if j = i then up (up (Dd i) (g (2 * i)) 1) (g (2 * i + 1)) 1 else Dd j), fun j hj => ?_, fun j r hj hr => ?_⟩ (by show n - (i + 1) < n - i; omega)
           · dsimp only
             by_cases e9 : j = i
             · subst e9; rw [if_pos rfl]; exact hset_eq
             · rw [if_neg e9]; exact (hset_ne (fun q => e9 (e7 _ _ hj hin q))).trans (hD1 j hj)
           · dsimp only
             by_cases e9 : j = i
             · subst e9
               rw [if_pos rfl, if_pos (by omega), up_is, up_is, hD2 j r hj hr, if_neg (Nat.lt_irrefl j)]
               unfold colG
               by_cases v1 : r = g (2 * j + 1)
               · rw [if_pos v1, if_pos ⟨hj, c50', Or.inr v1⟩]; rfl
               · rw [if_neg v1]
                 by_cases v2 : r = g (2 * j)
                 · rw [if_pos v2, if_pos ⟨hj, c50', Or.inl v2⟩]; rfl
                 · rw [if_neg v2, if_neg (fun q => by rcases q.2.2 with w | w <;> omega)]
             · rw [if_neg e9, hD2 j r hj hr]
               by_cases v6 : j < i
               · rw [if_pos v6, if_pos (by omega)]
               · rw [if_neg v6, if_neg (by omega)])
end C34
