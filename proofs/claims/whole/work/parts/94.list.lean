/-! ArrayList.add and what it calls -/
/-- a list's array: at first ArrayList's own empty one -/
def LsA (S0 : State) (h : AH) (ed m : Nat) (P : Nat → Nat) : Prop := (m = 0 ∧ zA S0 ed) ∨ ∃ N : Nat, h ed = some (124, aR (.object "java/lang/Object") N (fun j => if j < m then some (P j) else none)) ∧ m ≤ N ∧ N ≤ 100
def LsP (h : AH) (m : Nat) (P : Nat → Nat) : Prop := ∀ j, j < m → ∃ lj ci vs, h (P j) = some (lj, oF ci vs) ∧ castW ci "java/lang/Object" = true
theorem al_up {m v : Nat} {P : Nat → Nat} : up (fun j => if j < m then some (P j) else none) m (some v) = fun j => if j < m + 1 then some (up P m v j) else none := by
  funext j
  unfold up
  by_cases e : j = m
  · subst e
    rw [if_pos rfl, if_pos rfl, if_pos (Nat.lt_succ_self j)]
  · rw [if_neg e, if_neg e]
    show (if j < m then some (P j) else none) = _
    by_cases g : j < m
    · rw [if_pos g, if_pos (by omega)]
    · rw [if_neg g, if_neg (by omega)]
theorem al_cp {m : Nat} {P : Nat → Nat} : (fun j => if j < m then (fun j => if j < m then some (P j) else none) j else none) = fun j => if j < m then some (P j) else none := by
  funext j
  by_cases g : j < m
  · simp only [if_pos g]
  · simp only [if_neg g]
section C94
variable {l : Launch} {D : va_G} {S0 : State}
set_option maxRecDepth 100000 in
theorem c_J8_newLength (hW : WOK l D S0) (d : Nat) {h : AH} {N g : Nat} (hN : N ≤ 1000) (hg : g ≤ 1000) : MA l D S0 yJ8_newLength_cabcc cJ8_newLength_cabcc 4 (some .int) d [I (N : Int), I 1, I (g : Int)] h 0 0 (fun r h' => r = some (I ((N + max 1 g : Nat) : Int)) ∧ h' = h) (fun _ _ => False) := by
  refine MA.startF hW (by decide +kernel) [.val (I (N : Int)), .val (I 1), .val (I (g : Int)), .unset] rfl ?_
  rintro X rfl rfl rfl hX
  refine wa_iload_n hX (i := 0) dJ8_newLength_cabcc_0 rfl rfl ?_
  refine wa_iload_n hX (i := 1) dJ8_newLength_cabcc_1 rfl rfl ?_
  refine wa_iload_n hX (i := 2) dJ8_newLength_cabcc_2 rfl rfl ?_
  refine wi_max hX (by decide +kernel) rfl (by exact Nat.le_of_ble_eq_true rfl) (by omega) (by omega) dJ8_newLength_cabcc_3 ?_
  rw [show max (1 : Int) (g : Int) = ((max 1 g : Nat) : Int) by omega]
  refine wi_iadd hX dJ8_newLength_cabcc_6 ?_
  refine wa_istore_n hX (i := 3) dJ8_newLength_cabcc_7 rfl rfl ?_
  dsimp only [List.set]
  refine wi_iconst hX dJ8_newLength_cabcc_8 ?_
  refine wa_iload_n hX (i := 3) dJ8_newLength_cabcc_9 rfl rfl ?_
  refine wi_icmp_ge hX (tgt := 21) dJ8_newLength_cabcc_10 (by decide) (by omega) (by omega) (fun c10 => ?_) (fun c10 => ?_)
  · skip
    exfalso; omega
  · skip
    refine wa_iload_n hX (i := 3) dJ8_newLength_cabcc_13 rfl rfl ?_
    refine wa_ldc hX (2147483639) (by decide +kernel) dJ8_newLength_cabcc_14 ?_
    refine WA.eq (st2 := [I 2147483639, _]) rfl rfl rfl ?_
    refine wi_icmp_gt hX (tgt := 21) dJ8_newLength_cabcc_16 (by decide) (by omega) (by omega) (fun c16 => ?_) (fun c16 => ?_)
    · skip
      exfalso; omega
    · skip
      refine wa_iload_n hX (i := 3) dJ8_newLength_cabcc_19 rfl rfl ?_
      refine wa_iret hX dJ8_newLength_cabcc_20 ?_
      exact ⟨rfl, rfl⟩
set_option maxRecDepth 100000 in
theorem c_J7_copyOf3 (hW : WOK l D S0) (d : Nat) {h : AH} {a la n0 mi N : Nat} {f : Nat → Option Nat} (lb : Nat) (hm : va_Mi "[Ljava/lang/Object;" mi S0) (h1 : h a = some (la, aR (.object "java/lang/Object") n0 f)) (hel : ∀ i, i < n0 → ∀ y, f i = some y → ∃ ly ci vs, h y = some (ly, oF ci vs) ∧ castW ci "java/lang/Object" = true) (hn : n0 ≤ N) (hN : N ≤ 1000) : MA l D S0 yJ7_copyOf_6403c cJ7_copyOf_6403c 4 (some (.array (.object "java/lang/Object"))) d [.ref a, I (N : Int), .ref mi] h 1 N (postNew h lb (aR (.object "java/lang/Object") N (fun j => if j < n0 then f j else none))) (fun _ _ => False) := by
  refine MA.startF hW (by decide +kernel) [.val (.ref a), .val (I (N : Int)), .val (.ref mi), .unset] rfl ?_
  rintro X rfl rfl rfl hX
  refine wa_aload_n hX (i := 2) dJ7_copyOf_6403c_0 rfl rfl ?_
  refine wa_ldcM hX "[Ljava/lang/Object;" hm (by decide +kernel) dJ7_copyOf_6403c_1 ?_
  refine WA.eq (pc2 := 3) (st2 := [va_rf (some mi), va_rf (some mi)]) rfl rfl rfl ?_
  refine wa_acmp_ne hX (tgt := 13) dJ7_copyOf_6403c_3 (by decide) (fun q => absurd rfl q) (fun _ => ?_)
  refine wa_iload_n hX (i := 1) dJ7_copyOf_6403c_6 rfl rfl ?_
  refine WA.room (k2 := 0 + 1) (sl2 := 0 + N) (by omega) (by omega) ?_
  refine wa_ana hX (N := N) "java/lang/Object" lb hN (by decide +kernel) dJ7_copyOf_6403c_7 (fun q qn => ?_)
  have g1 := hset_new (x := (lb, aR (.object "java/lang/Object") N (fun _ => none))) qn h1
  have g2 : hset h q (lb, aR (.object "java/lang/Object") N (fun _ => none)) q = some (lb, aR (.object "java/lang/Object") N (fun _ => none)) := hset_eq
  refine wa_goto hX (tgt := 24) dJ7_copyOf_6403c_10 (by decide) ?_
  refine wa_astore_n hX (i := 3) dJ7_copyOf_6403c_24 rfl rfl ?_
  dsimp only [List.set]
  refine wa_aload_n hX (i := 0) dJ7_copyOf_6403c_25 rfl rfl ?_
  refine wi_iconst hX dJ7_copyOf_6403c_26 ?_
  refine wa_aload_n hX (i := 3) dJ7_copyOf_6403c_27 rfl rfl ?_
  refine wi_iconst hX dJ7_copyOf_6403c_28 ?_
  refine wa_aload_n hX (i := 0) dJ7_copyOf_6403c_29 rfl rfl ?_
  refine wa_len hX (by assumption) dJ7_copyOf_6403c_30 ?_
  refine wa_iload_n hX (i := 1) dJ7_copyOf_6403c_31 rfl rfl ?_
  refine wi_min hX (by decide +kernel) rfl (by exact Nat.le_of_ble_eq_true rfl) (by omega) (by omega) dJ7_copyOf_6403c_32 ?_
  rw [Int.min_eq_left (by omega)]
  refine wa_copyR hX n0 g1 g2 (fun i hi y hy => ?_) (Nat.le_refl n0) hn (by omega) (by decide +kernel) rfl (by exact Nat.le_of_ble_eq_true rfl) dJ7_copyOf_6403c_35 ?_
  · obtain ⟨ly, ci, vs, z1, z2⟩ := hel i hi y hy
    exact ⟨ly, ci, vs, hset_new qn z1, z2⟩
  rw [hset_hset]
  refine wa_aload_n hX (i := 3) dJ7_copyOf_6403c_38 rfl rfl ?_
  refine wa_aretR hX dJ7_copyOf_6403c_39 (by first | exact Or.inl ⟨_, rfl⟩ | exact Or.inr ⟨_, rfl⟩) ?_
  exact ⟨q, rfl, qn, rfl⟩
set_option maxRecDepth 100000 in
theorem c_J7_copyOf2 (hW : WOK l D S0) (d : Nat) {h : AH} {a la n0 N : Nat} {f : Nat → Option Nat} (lb : Nat) (h1 : h a = some (la, aR (.object "java/lang/Object") n0 f)) (hel : ∀ i, i < n0 → ∀ y, f i = some y → ∃ ly ci vs, h y = some (ly, oF ci vs) ∧ castW ci "java/lang/Object" = true) (hn : n0 ≤ N) (hN : N ≤ 1000) : MA l D S0 yJ7_copyOf_1904c cJ7_copyOf_1904c 2 (some (.array (.object "java/lang/Object"))) (d + 1) [.ref a, I (N : Int)] h 1 N (postNew h lb (aR (.object "java/lang/Object") N (fun j => if j < n0 then f j else none))) (fun _ _ => False) := by
  obtain ⟨mi, hm⟩ := miO_of hW
  refine MA.startF hW (by decide +kernel) [.val (.ref a), .val (I (N : Int))] rfl ?_
  rintro X rfl rfl rfl hX
  refine wa_aload_n hX (i := 0) dJ7_copyOf_1904c_0 rfl rfl ?_
  refine wa_iload_n hX (i := 1) dJ7_copyOf_1904c_1 rfl rfl ?_
  refine wa_aload_n hX (i := 0) dJ7_copyOf_1904c_2 rfl rfl ?_
  refine wa_getC hX hm h1 (by decide +kernel) rfl (by exact Nat.le_of_ble_eq_true rfl) dJ7_copyOf_1904c_3 ?_
  refine WA.room (k2 := 0 + 1) (sl2 := 0 + N) (by omega) (by omega) ?_
  refine wa_callS hX (c_J7_copyOf3 hW d lb hm h1 hel hn hN) (by rfl) (by omega) (nA := 3) (by rfl) (by decide +kernel) rfl (by exact Nat.le_of_ble_eq_true rfl) dJ7_copyOf_1904c_6 (fun r6 h6 p6 => ?_) (fun _ _ q => q.elim)
  obtain ⟨q, rfl, qn, rfl⟩ := p6
  dsimp only [Option.toList, List.cons_append, List.nil_append]
  refine wa_aretR hX dJ7_copyOf_1904c_9 (by first | exact Or.inl ⟨_, rfl⟩ | exact Or.inr ⟨_, rfl⟩) ?_
  exact ⟨q, rfl, qn, rfl⟩
set_option maxRecDepth 100000 in
theorem c_AL_grow0 (hW : WOK l D S0) (d : Nat) {h : AH} {a la z : Nat} {mc : Int} (lb : Nat) (h1 : h a = some (la, oAL mc z 0)) (hz : zA S0 z) : MA l D S0 yJx4a65c_grow_92f84 cJx4a65c_grow_92f84 4 (some (.array (.object "java/lang/Object"))) d [.ref a, I 1] h 1 10 (fun r h' => ∃ q, r = some (.ref q) ∧ h q = none ∧ h' = hset (hset h q (lb, aR (.object "java/lang/Object") 10 (fun _ => none))) a (la, oAL mc q 0)) (fun _ _ => False) := by
  refine MA.startF hW (by decide +kernel) [.val (.ref a), .val (I 1), .unset, .unset] rfl ?_
  rintro X rfl rfl rfl hX
  refine wa_aload_n hX (i := 0) dJx4a65c_grow_92f84_0 rfl rfl ?_
  refine wa_get hX 1 (by assumption) (by rfl) (by decide +kernel) dJx4a65c_grow_92f84_1 ?_
  refine wa_lenZ hX hz dJx4a65c_grow_92f84_4 ?_
  refine wa_istore_n hX (i := 2) dJx4a65c_grow_92f84_5 rfl rfl ?_
  dsimp only [List.set]
  refine wa_iload_n hX (i := 2) dJx4a65c_grow_92f84_6 rfl rfl ?_
  refine wi_if_gt hX (tgt := 20) dJx4a65c_grow_92f84_7 (by decide) (by omega) (fun c7 => ?_) (fun c7 => ?_)
  · skip
    exfalso; omega
  · skip
    refine wa_aload_n hX (i := 0) dJx4a65c_grow_92f84_10 rfl rfl ?_
    refine wa_get hX 1 (by assumption) (by rfl) (by decide +kernel) dJx4a65c_grow_92f84_11 ?_
    refine wa_getsZ hX hz (by decide +kernel) dJx4a65c_grow_92f84_14 ?_
    refine WA.eq (pc2 := 17) (st2 := [va_rf (some z), va_rf (some z)]) rfl rfl rfl ?_
    refine wa_acmp_eq hX (tgt := 45) dJx4a65c_grow_92f84_17 (by decide) (fun _ => ?_) (fun q => absurd rfl q)
    refine wa_aload_n hX (i := 0) dJx4a65c_grow_92f84_45 rfl rfl ?_
    refine wi_bipush hX dJx4a65c_grow_92f84_46 (by decide) ?_
    refine wa_iload_n hX (i := 1) dJx4a65c_grow_92f84_48 rfl rfl ?_
    refine wi_max hX (by decide +kernel) rfl (by exact Nat.le_of_ble_eq_true rfl) (by omega) (by omega) dJx4a65c_grow_92f84_49 ?_
    rw [show max (10 : Int) 1 = ((10 : Nat) : Int) by decide]
    refine WA.room (k2 := 0 + 1) (sl2 := 0 + 10) (by omega) (by omega) ?_
    refine wa_ana hX (N := 10) "java/lang/Object" lb (by omega) (by decide +kernel) dJx4a65c_grow_92f84_52 (fun q qn => ?_)
    have g1 := hset_new (x := (lb, aR (.object "java/lang/Object") 10 (fun _ => none))) qn h1
    refine wa_dup_x1 hX dJx4a65c_grow_92f84_55 rfl rfl ?_
    refine wa_put hX 1 g1 (Nat.le_of_ble_eq_true rfl) (by decide +kernel) (by rfl) (by rfl) (by rfl) dJx4a65c_grow_92f84_56 ?_
    refine wa_aretR hX dJx4a65c_grow_92f84_59 (by first | exact Or.inl ⟨_, rfl⟩ | exact Or.inr ⟨_, rfl⟩) ?_
    exact ⟨q, rfl, qn, rfl⟩
set_option maxRecDepth 100000 in
theorem c_AL_grow1 (hW : WOK l D S0) (d : Nat) {h : AH} {a la ed le m : Nat} {mc : Int} {f : Nat → Option Nat} (lb : Nat) (h1 : h a = some (la, oAL mc ed (m : Int))) (h2 : h ed = some (le, aR (.object "java/lang/Object") m f)) (hel : ∀ i, i < m → ∀ y, f i = some y → ∃ ly ci vs, h y = some (ly, oF ci vs) ∧ castW ci "java/lang/Object" = true) (hm : m ≤ 100) : MA l D S0 yJx4a65c_grow_92f84 cJx4a65c_grow_92f84 4 (some (.array (.object "java/lang/Object"))) (d + 2) [.ref a, I ((m : Int) + 1)] h 1 (m + max 1 (m / 2)) (fun r h' => ∃ q, r = some (.ref q) ∧ h q = none ∧ h' = hset (hset h q (lb, aR (.object "java/lang/Object") (m + max 1 (m / 2)) (fun j => if j < m then f j else none))) a (la, oAL mc q (m : Int))) (fun _ _ => False) := by
  obtain ⟨z, hz⟩ := zA_of hW
  refine MA.startF hW (by decide +kernel) [.val (.ref a), .val (I ((m : Int) + 1)), .unset, .unset] rfl ?_
  rintro X rfl rfl rfl hX
  refine wa_aload_n hX (i := 0) dJx4a65c_grow_92f84_0 rfl rfl ?_
  refine wa_get hX 1 (by assumption) (by rfl) (by decide +kernel) dJx4a65c_grow_92f84_1 ?_
  refine wa_len hX (by assumption) dJx4a65c_grow_92f84_4 ?_
  refine wa_istore_n hX (i := 2) dJx4a65c_grow_92f84_5 rfl rfl ?_
  dsimp only [List.set]
  refine wa_iload_n hX (i := 2) dJx4a65c_grow_92f84_6 rfl rfl ?_
  refine wi_if_gt hX (tgt := 20) dJx4a65c_grow_92f84_7 (by decide) (by omega) (fun c7 => ?_) (fun c7 => ?_)
  · skip
    refine wa_iload_n hX (i := 2) dJx4a65c_grow_92f84_20 rfl rfl ?_
    refine wa_iload_n hX (i := 1) dJx4a65c_grow_92f84_21 rfl rfl ?_
    refine wa_iload_n hX (i := 2) dJx4a65c_grow_92f84_22 rfl rfl ?_
    refine wi_isub hX dJx4a65c_grow_92f84_23 ?_
    refine wa_iload_n hX (i := 2) dJx4a65c_grow_92f84_24 rfl rfl ?_
    refine wi_iconst hX dJx4a65c_grow_92f84_25 ?_
    rw [show (m : Int) + 1 - (m : Int) = 1 by omega]
    refine wn_ishr hX (b := 1) dJx4a65c_grow_92f84_26 (by rfl) (by rfl) (by omega) (by omega) ?_
    rw [show m >>> 1 = m / 2 from Nat.shiftRight_eq_div_pow m 1]
    refine wa_callS hX (c_J8_newLength hW d (N := m) (g := m / 2) (by omega) (by omega)) (by rfl) (by omega) (nA := 3) (by rfl) (by decide +kernel) rfl (by exact Nat.le_of_ble_eq_true rfl) dJx4a65c_grow_92f84_27 (fun r27 h27 p27 => ?_) (fun _ _ q => q.elim)
    obtain ⟨rfl, qq27⟩ := p27; subst h27
    dsimp only [Option.toList, List.cons_append, List.nil_append]
    refine wa_istore_n hX (i := 3) dJx4a65c_grow_92f84_30 rfl rfl ?_
    dsimp only [List.set]
    refine wa_aload_n hX (i := 0) dJx4a65c_grow_92f84_31 rfl rfl ?_
    refine wa_aload_n hX (i := 0) dJx4a65c_grow_92f84_32 rfl rfl ?_
    refine wa_get hX 1 (by assumption) (by rfl) (by decide +kernel) dJx4a65c_grow_92f84_33 ?_
    refine wa_iload_n hX (i := 3) dJx4a65c_grow_92f84_36 rfl rfl ?_
    refine WA.room (k2 := 0 + 1) (sl2 := 0 + (m + max 1 (m / 2))) (by omega) (Nat.le_of_eq (Nat.zero_add _)) ?_
    refine wa_callS hX (c_J7_copyOf2 hW d lb h2 hel (N := m + max 1 (m / 2)) (by omega) (by omega)) (by rfl) (by omega) (nA := 2) (by rfl) (by decide +kernel) rfl (by exact Nat.le_of_ble_eq_true rfl) dJx4a65c_grow_92f84_37 (fun r37 h37 p37 => ?_) (fun _ _ q => q.elim)
    obtain ⟨q, rfl, qn, rfl⟩ := p37
    have g1 := hset_new (x := (lb, aR (.object "java/lang/Object") (m + max 1 (m / 2)) (fun j => if j < m then f j else none))) qn h1
    dsimp only [Option.toList, List.cons_append, List.nil_append]
    refine wa_dup_x1 hX dJx4a65c_grow_92f84_40 rfl rfl ?_
    refine wa_put hX 1 g1 (Nat.le_of_ble_eq_true rfl) (by decide +kernel) (by rfl) (by rfl) (by rfl) dJx4a65c_grow_92f84_41 ?_
    refine wa_aretR hX dJx4a65c_grow_92f84_44 (by first | exact Or.inl ⟨_, rfl⟩ | exact Or.inr ⟨_, rfl⟩) ?_
    exact ⟨q, rfl, qn, rfl⟩
  · skip
    refine wa_aload_n hX (i := 0) dJx4a65c_grow_92f84_10 rfl rfl ?_
    refine wa_get hX 1 (by assumption) (by rfl) (by decide +kernel) dJx4a65c_grow_92f84_11 ?_
    refine wa_getsZ hX hz (by decide +kernel) dJx4a65c_grow_92f84_14 ?_
    refine WA.eq (pc2 := 17) (st2 := [va_rf (some z), va_rf (some ed)]) rfl rfl rfl ?_
    refine wa_acmp_eq hX (tgt := 45) dJx4a65c_grow_92f84_17 (by decide) (fun q => ?_) (fun _ => ?_)
    · exact WA.neZ hX hz h2 (fun q2 => absurd (Option.some.inj q) q2)
    refine wa_iload_n hX (i := 2) dJx4a65c_grow_92f84_20 rfl rfl ?_
    refine wa_iload_n hX (i := 1) dJx4a65c_grow_92f84_21 rfl rfl ?_
    refine wa_iload_n hX (i := 2) dJx4a65c_grow_92f84_22 rfl rfl ?_
    refine wi_isub hX dJx4a65c_grow_92f84_23 ?_
    refine wa_iload_n hX (i := 2) dJx4a65c_grow_92f84_24 rfl rfl ?_
    refine wi_iconst hX dJx4a65c_grow_92f84_25 ?_
    rw [show (m : Int) + 1 - (m : Int) = 1 by omega]
    refine wn_ishr hX (b := 1) dJx4a65c_grow_92f84_26 (by rfl) (by rfl) (by omega) (by omega) ?_
    rw [show m >>> 1 = m / 2 from Nat.shiftRight_eq_div_pow m 1]
    refine wa_callS hX (c_J8_newLength hW d (N := m) (g := m / 2) (by omega) (by omega)) (by rfl) (by omega) (nA := 3) (by rfl) (by decide +kernel) rfl (by exact Nat.le_of_ble_eq_true rfl) dJx4a65c_grow_92f84_27 (fun r27 h27 p27 => ?_) (fun _ _ q => q.elim)
    obtain ⟨rfl, qq27⟩ := p27; subst h27
    dsimp only [Option.toList, List.cons_append, List.nil_append]
    refine wa_istore_n hX (i := 3) dJx4a65c_grow_92f84_30 rfl rfl ?_
    dsimp only [List.set]
    refine wa_aload_n hX (i := 0) dJx4a65c_grow_92f84_31 rfl rfl ?_
    refine wa_aload_n hX (i := 0) dJx4a65c_grow_92f84_32 rfl rfl ?_
    refine wa_get hX 1 (by assumption) (by rfl) (by decide +kernel) dJx4a65c_grow_92f84_33 ?_
    refine wa_iload_n hX (i := 3) dJx4a65c_grow_92f84_36 rfl rfl ?_
    refine WA.room (k2 := 0 + 1) (sl2 := 0 + (m + max 1 (m / 2))) (by omega) (Nat.le_of_eq (Nat.zero_add _)) ?_
    refine wa_callS hX (c_J7_copyOf2 hW d lb h2 hel (N := m + max 1 (m / 2)) (by omega) (by omega)) (by rfl) (by omega) (nA := 2) (by rfl) (by decide +kernel) rfl (by exact Nat.le_of_ble_eq_true rfl) dJx4a65c_grow_92f84_37 (fun r37 h37 p37 => ?_) (fun _ _ q => q.elim)
    obtain ⟨q, rfl, qn, rfl⟩ := p37
    have g1 := hset_new (x := (lb, aR (.object "java/lang/Object") (m + max 1 (m / 2)) (fun j => if j < m then f j else none))) qn h1
    dsimp only [Option.toList, List.cons_append, List.nil_append]
    refine wa_dup_x1 hX dJx4a65c_grow_92f84_40 rfl rfl ?_
    refine wa_put hX 1 g1 (Nat.le_of_ble_eq_true rfl) (by decide +kernel) (by rfl) (by rfl) (by rfl) dJx4a65c_grow_92f84_41 ?_
    refine wa_aretR hX dJx4a65c_grow_92f84_44 (by first | exact Or.inl ⟨_, rfl⟩ | exact Or.inr ⟨_, rfl⟩) ?_
    exact ⟨q, rfl, qn, rfl⟩
set_option maxRecDepth 100000 in
theorem c_AL_g0 (hW : WOK l D S0) (d : Nat) {h : AH} {a la z : Nat} {mc : Int} (lb : Nat) (h1 : h a = some (la, oAL mc z 0)) (hz : zA S0 z) : MA l D S0 yJx4a65c_grow_d5877 cJx4a65c_grow_d5877 1 (some (.array (.object "java/lang/Object"))) (d + 1) [.ref a] h 1 10 (fun r h' => ∃ q, r = some (.ref q) ∧ h q = none ∧ h' = hset (hset h q (lb, aR (.object "java/lang/Object") 10 (fun _ => none))) a (la, oAL mc q 0)) (fun _ _ => False) := by
  refine MA.startF hW (by decide +kernel) [.val (.ref a)] rfl ?_
  rintro X rfl rfl rfl hX
  refine wa_aload_n hX (i := 0) dJx4a65c_grow_d5877_0 rfl rfl ?_
  refine wa_aload_n hX (i := 0) dJx4a65c_grow_d5877_1 rfl rfl ?_
  refine wa_get hX 2 (by assumption) (by rfl) (by decide +kernel) dJx4a65c_grow_d5877_2 ?_
  refine wi_iconst hX dJx4a65c_grow_d5877_5 ?_
  refine wi_iadd hX dJx4a65c_grow_d5877_6 ?_
  rw [show (0 : Int) + 1 = 1 by decide]
  refine WA.room (k2 := 0 + 1) (sl2 := 0 + 10) (by omega) (by omega) ?_
  refine wa_callV hX (c_AL_grow0 hW d lb h1 hz) (by assumption) (by rfl) (by rfl) (by omega) (nA := 1) (by rfl) (by decide +kernel) rfl (by exact Nat.le_of_ble_eq_true rfl) dJx4a65c_grow_d5877_7 (fun r7 h7 p7 => ?_) (fun _ _ q => q.elim)
  obtain ⟨q, rfl, qn, rfl⟩ := p7
  dsimp only [Option.toList, List.cons_append, List.nil_append]
  refine wa_aretR hX dJx4a65c_grow_d5877_10 (by first | exact Or.inl ⟨_, rfl⟩ | exact Or.inr ⟨_, rfl⟩) ?_
  exact ⟨q, rfl, qn, rfl⟩
set_option maxRecDepth 100000 in
theorem c_AL_g1 (hW : WOK l D S0) (d : Nat) {h : AH} {a la ed le m : Nat} {mc : Int} {f : Nat → Option Nat} (lb : Nat) (h1 : h a = some (la, oAL mc ed (m : Int))) (h2 : h ed = some (le, aR (.object "java/lang/Object") m f)) (hel : ∀ i, i < m → ∀ y, f i = some y → ∃ ly ci vs, h y = some (ly, oF ci vs) ∧ castW ci "java/lang/Object" = true) (hm : m ≤ 100) : MA l D S0 yJx4a65c_grow_d5877 cJx4a65c_grow_d5877 1 (some (.array (.object "java/lang/Object"))) (d + 3) [.ref a] h 1 (m + max 1 (m / 2)) (fun r h' => ∃ q, r = some (.ref q) ∧ h q = none ∧ h' = hset (hset h q (lb, aR (.object "java/lang/Object") (m + max 1 (m / 2)) (fun j => if j < m then f j else none))) a (la, oAL mc q (m : Int))) (fun _ _ => False) := by
  refine MA.startF hW (by decide +kernel) [.val (.ref a)] rfl ?_
  rintro X rfl rfl rfl hX
  refine wa_aload_n hX (i := 0) dJx4a65c_grow_d5877_0 rfl rfl ?_
  refine wa_aload_n hX (i := 0) dJx4a65c_grow_d5877_1 rfl rfl ?_
  refine wa_get hX 2 (by assumption) (by rfl) (by decide +kernel) dJx4a65c_grow_d5877_2 ?_
  refine wi_iconst hX dJx4a65c_grow_d5877_5 ?_
  refine wi_iadd hX dJx4a65c_grow_d5877_6 ?_
  refine WA.room (k2 := 0 + 1) (sl2 := 0 + (m + max 1 (m / 2))) (by omega) (Nat.le_of_eq (Nat.zero_add _)) ?_
  refine wa_callV hX (c_AL_grow1 hW d lb h1 h2 hel hm) (by assumption) (by rfl) (by rfl) (by omega) (nA := 1) (by rfl) (by decide +kernel) rfl (by exact Nat.le_of_ble_eq_true rfl) dJx4a65c_grow_d5877_7 (fun r7 h7 p7 => ?_) (fun _ _ q => q.elim)
  obtain ⟨q, rfl, qn, rfl⟩ := p7
  dsimp only [Option.toList, List.cons_append, List.nil_append]
  refine wa_aretR hX dJx4a65c_grow_d5877_10 (by first | exact Or.inl ⟨_, rfl⟩ | exact Or.inr ⟨_, rfl⟩) ?_
  exact ⟨q, rfl, qn, rfl⟩
set_option maxHeartbeats 1000000 in
set_option maxRecDepth 100000 in
theorem c_AL_addH (hW : WOK l D S0) (d : Nat) {h : AH} {a ed m v lv cv : Nat} {vs : List Value} {mc : Int} {P : Nat → Nat} (h1 : h a = some (123, oAL mc ed (m : Int))) (h2 : LsA S0 h ed m P) (hP : LsP h m P) (hm : m ≤ 24) (hv9 : h v = some (lv, oF cv vs)) (hvl : ¬ (123 ≤ lv ∧ lv ≤ 124)) (hvc : castW cv "java/lang/Object" = true) : MA l D S0 yJx4a65c_add_72be8 cJx4a65c_add_72be8 4 none (d + 4) [.ref a, .ref v, .ref ed, I (m : Int)] h 1 40 (fun r h' => r = none ∧ Fr (fun x => 123 ≤ x ∧ x ≤ 124) h h' ∧ ∃ ed' N', h' a = some (123, oAL mc ed' ((m : Int) + 1)) ∧ h' ed' = some (124, aR (.object "java/lang/Object") N' (fun j => if j < m + 1 then some (up P m v j) else none)) ∧ m + 1 ≤ N' ∧ N' ≤ 100) (fun _ _ => False) := by
  have k1 := h1
  rcases h2 with ⟨rfl, hz⟩ | ⟨N, h2, hN1, hN2⟩
  · refine MA.startF hW (by decide +kernel) [.val (.ref a), .val (.ref v), .val (.ref ed), .val (I ((0 : Nat) : Int))] rfl ?_
    rintro X rfl rfl rfl hX
    refine wa_iload_n hX (i := 3) dJx4a65c_add_72be8_0 rfl rfl ?_
    refine wa_aload_n hX (i := 2) dJx4a65c_add_72be8_1 rfl rfl ?_
    refine wa_lenZ hX hz dJx4a65c_add_72be8_2 ?_
    refine wi_icmp_ne hX (tgt := 11) dJx4a65c_add_72be8_3 (by decide) (by omega) (by omega) (fun c3 => ?_) (fun c3 => ?_)
    · skip
      first | exact t11 | (exfalso; omega)
    · skip
      refine wa_aload_n hX (i := 0) dJx4a65c_add_72be8_6 rfl rfl ?_
      refine WA.room (k2 := 0 + 1) (sl2 := 0 + 10) (by omega) (by omega) ?_
      refine wa_callV hX (c_AL_g0 hW d 124 h1 hz) (by assumption) (by rfl) (by rfl) (by omega) (nA := 0) (by rfl) (by decide +kernel) rfl (by exact Nat.le_of_ble_eq_true rfl) dJx4a65c_add_72be8_7 (fun r7 h7 p7 => ?_) (fun _ _ q => q.elim)
      obtain ⟨q, rfl, qn, hh7⟩ := p7
      have f1 : Fr (fun x => x = 123) h h7 := by rw [hh7]; exact Fr.hset (fun b lb ob z _ => hset_new qn z) (hset_new qn h1) rfl
      replace k1 : h7 a = some (123, oAL mc q ((0 : Nat) : Int)) := by rw [hh7]; exact hset_eq
      have KQ : h7 q = some (124, aR (.object "java/lang/Object") 10 (fun j => if j < 0 then some (P j) else none)) := by
        rw [hh7, hset_ne (fun e9 => by rw [e9, h1] at qn; cases qn), hset_eq, show (fun j => if j < 0 then some (P j) else none) = (fun _ => none : Nat → Option Nat) from funext (fun j => if_neg (Nat.not_lt_zero j))]
      replace hv9 := f1 _ _ _ hv9 (by omega)
      clear hh7
      have t11 : WA X h7 0 0 11 [.val (.ref a), .val (.ref v), .val (.ref q), .val (I ((0 : Nat) : Int))] [] := by
        refine wa_aload_n hX (i := 2) dJx4a65c_add_72be8_11 rfl rfl ?_
        refine wa_iload_n hX (i := 3) dJx4a65c_add_72be8_12 rfl rfl ?_
        refine wa_aload_n hX (i := 1) dJx4a65c_add_72be8_13 rfl rfl ?_
        refine wi_aastoreC hX KQ hv9 hvc (by omega) (by omega) (by omega) dJx4a65c_add_72be8_14 ?_
        refine WA.hgq (fun hB hhB => ?_)
        have f2 : Fr (fun x => x = 124) h7 hB := by rw [hhB]; exact Fr.hset Fr.rf KQ rfl
        replace k1 := f2 _ _ _ k1 (by omega)
        have K2 : hB q = some (124, aR (.object "java/lang/Object") 10 (fun j => if j < 0 + 1 then some (up P 0 v j) else none)) := by rw [hhB, Int.toNat_natCast, al_up]; exact hset_eq
        clear hhB
        refine wa_aload_n hX (i := 0) dJx4a65c_add_72be8_15 rfl rfl ?_
        refine wa_iload_n hX (i := 3) dJx4a65c_add_72be8_16 rfl rfl ?_
        refine wi_iconst hX dJx4a65c_add_72be8_17 ?_
        refine wi_iadd hX dJx4a65c_add_72be8_18 ?_
        refine wa_put hX 2 k1 (Nat.le_of_ble_eq_true rfl) (by decide +kernel) (by rfl) (by rfl) (by rfl) dJx4a65c_add_72be8_19 ?_
        refine WA.heap (h2 := hset hB a (123, oAL mc q (((0 : Nat) : Int) + 1))) rfl ?_
        refine WA.hgq (fun hC hhC => ?_)
        have f3 : Fr (fun x => x = 123) hB hC := by rw [hhC]; exact Fr.hset Fr.rf k1 rfl
        have K1 : hC a = some (123, oAL mc q (((0 : Nat) : Int) + 1)) := by rw [hhC]; exact hset_eq
        replace K2 := f3 _ _ _ K2 (by omega)
        clear hhC
        refine wa_vret hX dJx4a65c_add_72be8_22 ?_
        exact ⟨rfl, ((f1.mono (fun x hx => by omega)).trans (f2.mono (fun x hx => by omega))).trans (f3.mono (fun x hx => by omega)), q, 10, K1, K2, by omega, by omega⟩
      dsimp only [Option.toList, List.cons_append, List.nil_append]
      refine wa_astore_n hX (i := 2) dJx4a65c_add_72be8_10 rfl rfl ?_
      dsimp only [List.set]
      first | exact t11 | (exfalso; omega)
  · refine MA.startF hW (by decide +kernel) [.val (.ref a), .val (.ref v), .val (.ref ed), .val (I (m : Int))] rfl ?_
    rintro X rfl rfl rfl hX
    have t11 : ∀ (h7 : AH) (q NN k9 s9 : Nat), Fr (fun x => x = 123) h h7 → h7 a = some (123, oAL mc q (m : Int)) → h7 q = some (124, aR (.object "java/lang/Object") NN (fun j => if j < m then some (P j) else none)) → m < NN → NN ≤ 100 → WA X h7 k9 s9 11 [.val (.ref a), .val (.ref v), .val (.ref q), .val (I (m : Int))] [] := by
      intro h7 q NN k9 s9 f1 k1 KQ hNN hN9
      replace hv9 := f1 _ _ _ hv9 (by omega)
      refine wa_aload_n hX (i := 2) dJx4a65c_add_72be8_11 rfl rfl ?_
      refine wa_iload_n hX (i := 3) dJx4a65c_add_72be8_12 rfl rfl ?_
      refine wa_aload_n hX (i := 1) dJx4a65c_add_72be8_13 rfl rfl ?_
      refine wi_aastoreC hX KQ hv9 hvc (by omega) (by omega) (by omega) dJx4a65c_add_72be8_14 ?_
      refine WA.hgq (fun hB hhB => ?_)
      have f2 : Fr (fun x => x = 124) h7 hB := by rw [hhB]; exact Fr.hset Fr.rf KQ rfl
      replace k1 := f2 _ _ _ k1 (by omega)
      have K2 : hB q = some (124, aR (.object "java/lang/Object") NN (fun j => if j < m + 1 then some (up P m v j) else none)) := by rw [hhB, Int.toNat_natCast, al_up]; exact hset_eq
      clear hhB
      refine wa_aload_n hX (i := 0) dJx4a65c_add_72be8_15 rfl rfl ?_
      refine wa_iload_n hX (i := 3) dJx4a65c_add_72be8_16 rfl rfl ?_
      refine wi_iconst hX dJx4a65c_add_72be8_17 ?_
      refine wi_iadd hX dJx4a65c_add_72be8_18 ?_
      refine wa_put hX 2 k1 (Nat.le_of_ble_eq_true rfl) (by decide +kernel) (by rfl) (by rfl) (by rfl) dJx4a65c_add_72be8_19 ?_
      refine WA.heap (h2 := hset hB a (123, oAL mc q (((m : Nat) : Int) + 1))) rfl ?_
      refine WA.hgq (fun hC hhC => ?_)
      have f3 : Fr (fun x => x = 123) hB hC := by rw [hhC]; exact Fr.hset Fr.rf k1 rfl
      have K1 : hC a = some (123, oAL mc q ((m : Int) + 1)) := by rw [hhC]; exact hset_eq
      replace K2 := f3 _ _ _ K2 (by omega)
      clear hhC
      refine wa_vret hX dJx4a65c_add_72be8_22 ?_
      exact ⟨rfl, ((f1.mono (fun x hx => by omega)).trans (f2.mono (fun x hx => by omega))).trans (f3.mono (fun x hx => by omega)), q, NN, K1, K2, by omega, by omega⟩
    refine wa_iload_n hX (i := 3) dJx4a65c_add_72be8_0 rfl rfl ?_
    refine wa_aload_n hX (i := 2) dJx4a65c_add_72be8_1 rfl rfl ?_
    refine wa_len hX (by assumption) dJx4a65c_add_72be8_2 ?_
    refine wi_icmp_ne hX (tgt := 11) dJx4a65c_add_72be8_3 (by decide) (by omega) (by omega) (fun c3 => ?_) (fun c3 => ?_)
    · skip
      first
        | exact t11 h ed N _ _ Fr.rf h1 h2 (by omega) hN2
        | (refine t11 h7 q (m + max 1 (m / 2)) _ _ (by rw [hh7]; exact Fr.hset (fun b lb ob z _ => hset_new qn z) (hset_new qn h1) rfl) (by rw [hh7]; exact hset_eq) ?_ (by omega) (by omega)
           rw [hh7, hset_ne (fun e9 => by rw [e9, h1] at qn; cases qn), hset_eq])
    · skip
      refine wa_aload_n hX (i := 0) dJx4a65c_add_72be8_6 rfl rfl ?_
      have hmN : m = N := by omega
      subst hmN
      have hel : ∀ i, i < m → ∀ y, (fun j => if j < m then some (P j) else none) i = some y → ∃ ly ci vs, h y = some (ly, oF ci vs) ∧ castW ci "java/lang/Object" = true := fun i hi y hy => by
        have hy2 : (if i < m then some (P i) else none) = some y := hy
        rw [if_pos hi] at hy2
        cases hy2
        exact hP i hi
      refine WA.room (k2 := 0 + 1) (sl2 := 0 + (m + max 1 (m / 2))) (by omega) (by omega) ?_
      refine wa_callV hX (c_AL_g1 hW d 124 h1 h2 hel hN2) (by assumption) (by rfl) (by rfl) (by omega) (nA := 0) (by rfl) (by decide +kernel) rfl (by exact Nat.le_of_ble_eq_true rfl) dJx4a65c_add_72be8_7 (fun r7 h7 p7 => ?_) (fun _ _ q => q.elim)
      obtain ⟨q, rfl, qn, hh7⟩ := p7
      dsimp only [Option.toList, List.cons_append, List.nil_append]
      refine wa_astore_n hX (i := 2) dJx4a65c_add_72be8_10 rfl (by rfl) ?_
      dsimp only [List.set]
      rw [al_cp] at hh7
      first
        | exact t11 h ed N _ _ Fr.rf h1 h2 (by omega) hN2
        | (refine t11 h7 q (m + max 1 (m / 2)) _ _ (by rw [hh7]; exact Fr.hset (fun b lb ob z _ => hset_new qn z) (hset_new qn h1) rfl) (by rw [hh7]; exact hset_eq) ?_ (by omega) (by omega)
           rw [hh7, hset_ne (fun e9 => by rw [e9, h1] at qn; cases qn), hset_eq])
set_option maxHeartbeats 1000000 in
set_option maxRecDepth 100000 in
theorem c_AL_add (hW : WOK l D S0) (d : Nat) {h : AH} {a ed m v lv cv : Nat} {vs : List Value} {P : Nat → Nat} (h1 : h a = some (123, oAL (m : Int) ed (m : Int))) (h2 : LsA S0 h ed m P) (hP : LsP h m P) (hm : m ≤ 24) (hv9 : h v = some (lv, oF cv vs)) (hvl : ¬ (123 ≤ lv ∧ lv ≤ 124)) (hvc : castW cv "java/lang/Object" = true) (hPl : ∀ j, j < m → P j ≠ a) : MA l D S0 yJx4a65c_add_9ea2d cJx4a65c_add_9ea2d 2 (some .boolean) (d + 5) [.ref a, .ref v] h 1 40 (fun r h' => (∃ z, r = some (I z)) ∧ Fr (fun x => 123 ≤ x ∧ x ≤ 124) h h' ∧ ∃ ed' N', h' a = some (123, oAL ((m + 1 : Nat) : Int) ed' ((m + 1 : Nat) : Int)) ∧ h' ed' = some (124, aR (.object "java/lang/Object") N' (fun j => if j < m + 1 then some (up P m v j) else none)) ∧ m + 1 ≤ N' ∧ N' ≤ 100) (fun _ _ => False) := by
  refine MA.startF hW (by decide +kernel) [.val (.ref a), .val (.ref v)] rfl ?_
  rintro X rfl rfl rfl hX
  have k1 := h1
  refine wa_aload_n hX (i := 0) dJx4a65c_add_9ea2d_0 rfl rfl ?_
  refine wa_dup hX dJx4a65c_add_9ea2d_1 rfl ?_
  refine wa_getS hX "java/util/ArrayList" 0 k1 (by rfl) (by decide +kernel) dJx4a65c_add_9ea2d_2 ?_
  refine wi_iconst hX dJx4a65c_add_9ea2d_5 ?_
  refine wi_iadd hX dJx4a65c_add_9ea2d_6 ?_
  refine wa_putS hX "java/util/ArrayList" 0 k1 (Nat.le_of_ble_eq_true rfl) (by decide +kernel) (by rfl) (by rfl) (by rfl) dJx4a65c_add_9ea2d_7 ?_
  refine WA.heap (h2 := hset h a (123, oAL ((m : Int) + 1) ed (m : Int))) rfl ?_
  refine WA.hgq (fun hB hhB => ?_)
  have f2 : Fr (fun x => x = 123) h hB := by rw [hhB]; exact Fr.hset Fr.rf h1 rfl
  replace k1 : hB a = some (123, oAL ((m : Int) + 1) ed (m : Int)) := by rw [hhB]; exact hset_eq
  have l2 : LsA (cxS X) hB ed m P := by
    rcases h2 with z | ⟨N, z, z2⟩
    · exact Or.inl z
    · exact Or.inr ⟨N, f2 _ _ _ z (by omega), z2⟩
  have p2 : LsP hB m P := fun j hj => by
    obtain ⟨lj, ci, ws, z1, z2⟩ := hP j hj
    exact ⟨lj, ci, ws, by rw [hhB, hset_ne (hPl j hj)]; exact z1, z2⟩
  replace hv9 := f2 _ _ _ hv9 (by omega)
  clear hhB
  refine wa_aload_n hX (i := 0) dJx4a65c_add_9ea2d_10 rfl rfl ?_
  refine wa_aload_n hX (i := 1) dJx4a65c_add_9ea2d_11 rfl rfl ?_
  refine wa_aload_n hX (i := 0) dJx4a65c_add_9ea2d_12 rfl rfl ?_
  refine wa_get hX 1 (by assumption) (by rfl) (by decide +kernel) dJx4a65c_add_9ea2d_13 ?_
  refine wa_aload_n hX (i := 0) dJx4a65c_add_9ea2d_16 rfl rfl ?_
  refine wa_get hX 2 (by assumption) (by rfl) (by decide +kernel) dJx4a65c_add_9ea2d_17 ?_
  refine WA.room (k2 := 0 + 1) (sl2 := 0 + 40) (by omega) (by omega) ?_
  refine wa_callV hX (c_AL_addH hW d k1 l2 p2 hm hv9 hvl hvc) (by assumption) (by rfl) (by rfl) (by omega) (nA := 3) (by rfl) (by decide +kernel) rfl (by exact Nat.le_of_ble_eq_true rfl) dJx4a65c_add_9ea2d_20 (fun r20 h20 p20 => ?_) (fun _ _ q => q.elim)
  obtain ⟨rfl, f3, ed', N', z1, z2, z3, z4⟩ := p20
  dsimp only [Option.toList, List.cons_append, List.nil_append]
  refine wi_iconst hX dJx4a65c_add_9ea2d_23 ?_
  refine wa_zret hX dJx4a65c_add_9ea2d_24 (by rfl) ?_
  exact ⟨⟨_, rfl⟩, (f2.mono (fun x hx => by omega)).trans f3, ed', N', z1, z2, z3, z4⟩
end C94
