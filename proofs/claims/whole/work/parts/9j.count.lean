/-! The reference (X12): count, setAt, broken -/
def ibcfh : List Int := [105, 98, 99, 102, 104]
def abxL : List Int := [97, 98, 120]
theorem ib_ok : ∀ j, j < 5 → 0 ≤ ibcfh.getD j 0 ∧ ibcfh.getD j 0 < 128 := by decide +kernel
theorem ax_ok : ∀ j, j < 3 → 0 ≤ abxL.getD j 0 ∧ abxL.getD j 0 < 128 := by decide +kernel
abbrev srtC (ch : Int) : Prop := ch = 105 ∨ ch = 98 ∨ ch = 99 ∨ ch = 102 ∨ ch = 104
theorem ib_ix {ch z : Int} (h : ixP (fun j => ibcfh.getD j 0) 5 ch z) : 0 ≤ z ↔ srtC ch := by
  have e0 : ibcfh.getD 0 0 = 105 := rfl
  have e1 : ibcfh.getD 1 0 = 98 := rfl
  have e2 : ibcfh.getD 2 0 = 99 := rfl
  have e3 : ibcfh.getD 3 0 = 102 := rfl
  have e4 : ibcfh.getD 4 0 = 104 := rfl
  rcases h with ⟨i, h1, h2, -, rfl⟩ | ⟨h1, rfl⟩
  · have h3 : ibcfh.getD i 0 = ch := h2
    refine ⟨fun _ => ?_, fun _ => by omega⟩
    unfold srtC
    rcases (by omega : i = 0 ∨ i = 1 ∨ i = 2 ∨ i = 3 ∨ i = 4) with rfl | rfl | rfl | rfl | rfl <;> omega
  · have q0 : ibcfh.getD 0 0 ≠ ch := h1 0 (by omega)
    have q1 : ibcfh.getD 1 0 ≠ ch := h1 1 (by omega)
    have q2 : ibcfh.getD 2 0 ≠ ch := h1 2 (by omega)
    have q3 : ibcfh.getD 3 0 ≠ ch := h1 3 (by omega)
    have q4 : ibcfh.getD 4 0 ≠ ch := h1 4 (by omega)
    constructor
    · intro q; omega
    · intro q
      unfold srtC at q
      omega
theorem ax_ix {ch z : Int} (h : ixP (fun j => abxL.getD j 0) 3 ch z) : (ch = 97 ∧ z = 0) ∨ (ch = 98 ∧ z = 1) ∨ (ch = 120 ∧ z = 2) ∨ (ch ≠ 97 ∧ ch ≠ 98 ∧ ch ≠ 120 ∧ z = -1) := by
  have e0 : abxL.getD 0 0 = 97 := rfl
  have e1 : abxL.getD 1 0 = 98 := rfl
  have e2 : abxL.getD 2 0 = 120 := rfl
  rcases h with ⟨i, h1, h2, -, rfl⟩ | ⟨h1, rfl⟩
  · have h3 : abxL.getD i 0 = ch := h2
    rcases (by omega : i = 0 ∨ i = 1 ∨ i = 2) with rfl | rfl | rfl <;> omega
  · have q0 : abxL.getD 0 0 ≠ ch := h1 0 (by omega)
    have q1 : abxL.getD 1 0 ≠ ch := h1 1 (by omega)
    have q2 : abxL.getD 2 0 ≠ ch := h1 2 (by omega)
    omega
section C9j
variable {l : Launch} {D : va_G} {S0 : State} {Z : Nat → Prop} {DR : (Nat → Nat) → Nat → Nat → Option (Nat → Nat) → Prop}
set_option maxHeartbeats 2000000 in
set_option maxRecDepth 100000 in
theorem c_X12_count (hW : WOK l D S0) (d : Nat) {h : AH} {a th : Nat} {c m : Nat} {w : Nat → Nat} {E : Nat → Nat} {R : Nat → Nat → Nat} {b0 b1 b2 : Int} (hI : RI Z DR h a th c w m E R b0 b1 b2) {n ch : Int} (hn : inR n) (hch : inR ch) : MA l D S0 yX12_count cX12_count 3 (some .int) (d + 5) [.ref a, I n, I ch] h 0 0 (fun r h' => Fr (fun x => x = 120) h h' ∧ ((noM n m ∧ (∃ z, r = some (I z)) ∧ RI Z DR h' a 1 c w m E R b0 b1 b2) ∨ ∃ i, i < m ∧ n = (i : Int) ∧ ((¬ srtC ch ∧ (∃ z, r = some (I z)) ∧ RI Z DR h' a 2 c w m E R b0 b1 b2) ∨ (srtC ch ∧ r = some (I (cnt (isB (R i) (E i) ch) (2 ^ E i) : Nat)) ∧ RI Z DR h' a 0 c w m E R b0 b1 b2)))) (fun _ _ => False) := by
  obtain ⟨sa, sv, hz⟩ := StrZ_of hW "CircuitfoldModel" 171 "ibcfh" ibcfh (by decide) (by decide +kernel)
  obtain ⟨row, brk, al, wk, us, kp, pt, k1, kJ⟩ := hI
  refine MA.start hW (by decide) [.val (.ref a), .val (I n), .val (I ch)] rfl ?_
  rintro X rfl rfl rfl hX
  refine wa_aload_n hX (i := 0) dX12_count_0 rfl rfl ?_
  refine wi_iconst hX dX12_count_1 ?_
  refine wa_put hX 0 k1 (Nat.le_of_ble_eq_true rfl) (by decide +kernel) (by rfl) (by rfl) (by rfl) dX12_count_2 ?_
  refine WA.heap (h2 := hset h a (120, oMod ((0 : Nat) : Int) (c : Int) row brk al wk us kp pt)) rfl ?_
  refine WA.hgq (fun hA hh2 => ?_)
  have ff : Fr (fun x => x = 120) h hA := by rw [hh2]; exact Fr.hset Fr.rf k1 rfl
  replace k1 : hA a = some (120, oMod ((0 : Nat) : Int) (c : Int) row brk al wk us kp pt) := by rw [hh2]; exact hset_eq
  replace kJ := kJ.fr ff (fun x hx => by omega)
  clear hh2
  obtain ⟨⟨hc60, hw, hm24, hMt⟩, kr, kb, kwk, kus, kkp, kpt, ed, N, P, ka, ke, kI, kMat⟩ := id kJ
  refine wa_aload_n hX (i := 0) dX12_count_5 rfl rfl ?_
  refine wa_aload_n hX (i := 0) dX12_count_6 rfl rfl ?_
  refine wa_iload_n hX (i := 1) dX12_count_7 rfl rfl ?_
  refine wa_callV hX (c_X12_no hW (d + 1) k1 ka hm24 hn) (by assumption) (by rfl) (by rfl) (by omega) (nA := 1) (by rfl) (by decide +kernel) rfl (by exact Nat.le_of_ble_eq_true rfl) dX12_count_8 (fun r8 h8 p8 => ?_) (fun _ _ q => q.elim)
  obtain ⟨rfl, qq8⟩ := p8; subst h8
  dsimp only [Option.toList, List.cons_append, List.nil_append]
  refine wi_iconst hX dX12_count_11 ?_
  refine wa_callV hX (c_X12_fails hW d (th := 0) (k := 1) (b := (!decide (0 ≤ n ∧ n < (m : Int)))) k1 (by omega) (by omega)) (by assumption) (by rfl) (by rfl) (by omega) (nA := 2) (by rfl) (by decide +kernel) rfl (by exact Nat.le_of_ble_eq_true rfl) dX12_count_12 (fun r12 h12 p12 => ?_) (fun _ _ q => q.elim)
  obtain ⟨rfl, hh12⟩ := p12
  have f12 : Fr (fun x => x = 120) hA h12 := by rw [hh12]; exact Fr.hset Fr.rf k1 rfl
  replace k1 : h12 a = some (120, oMod ((if ((!decide (0 ≤ n ∧ n < (m : Int)))) = true ∧ (0 : Nat) = 0 then 1 else 0 : Nat) : Int) (c : Int) row brk al wk us kp pt) := by rw [hh12]; exact hset_eq
  replace kJ := kJ.fr f12 (fun x hx => by omega)
  replace ff := ff.trans f12
  clear hh12 f12
  rw [show (((!decide (0 ≤ n ∧ n < (m : Int)))) || (0 : Nat) != 0) = ((!decide (0 ≤ n ∧ n < (m : Int)))) from Bool.or_false _]
  clear kr kb kwk kus kkp kpt ka ke kI kMat hc60 hw hm24 hMt
  obtain ⟨⟨hc60, hw, hm24, hMt⟩, kr, kb, kwk, kus, kkp, kpt, ed, N, P, ka, ke, kI, kMat⟩ := id kJ
  dsimp only [Option.toList, List.cons_append, List.nil_append]
  refine wi_if_ne hX (tgt := 40) dX12_count_15 (by decide) (by exact b2n_inR _) (fun c15 => ?_) (fun c15 => ?_)
  · skip
    refine wi_iconst hX dX12_count_40 ?_
    refine wa_goto hX (tgt := 59) dX12_count_41 (by decide) ?_
    refine wa_iret hX dX12_count_59 ?_
    have z := b2n_t c15
    rw [z, if_pos ⟨rfl, rfl⟩] at k1
    rw [Bool.not_eq_true', decide_eq_false_iff_not] at z
    exact ⟨ff, Or.inl ⟨z, ⟨_, rfl⟩, row, brk, al, wk, us, kp, pt, k1, kJ⟩⟩
  · skip
    have hv15 := b2n_f c15
    rw [hv15, if_neg (fun z => Bool.false_ne_true z.1)] at k1
    rw [Bool.not_eq_false', decide_eq_true_eq] at hv15
    obtain ⟨i, rfl⟩ := Int.eq_ofNat_of_zero_le hv15.1
    have hi : i < m := by omega
    refine wa_aload_n hX (i := 0) dX12_count_18 rfl rfl ?_
    have t33 : WA X h12 0 0 33 [.val (.ref a), .val (I (i : Int)), .val (I ch)] [I ((b2n (!decide (srtC ch)) : Nat) : Int), .ref a] := by
      refine wi_iconst hX dX12_count_33 ?_
      refine wa_callV hX (c_X12_fails hW d (th := 0) (k := 2) (b := (!decide (srtC ch))) k1 (by omega) (by omega)) (by assumption) (by rfl) (by rfl) (by omega) (nA := 2) (by rfl) (by decide +kernel) rfl (by exact Nat.le_of_ble_eq_true rfl) dX12_count_34 (fun r34 h34 p34 => ?_) (fun _ _ q => q.elim)
      obtain ⟨rfl, hh34⟩ := p34
      have f34 : Fr (fun x => x = 120) h12 h34 := by rw [hh34]; exact Fr.hset Fr.rf k1 rfl
      replace k1 : h34 a = some (120, oMod ((if ((!decide (srtC ch))) = true ∧ (0 : Nat) = 0 then 2 else 0 : Nat) : Int) (c : Int) row brk al wk us kp pt) := by rw [hh34]; exact hset_eq
      replace kJ := kJ.fr f34 (fun x hx => by omega)
      replace ff := ff.trans f34
      clear hh34 f34
      rw [show (((!decide (srtC ch))) || (0 : Nat) != 0) = ((!decide (srtC ch))) from Bool.or_false _]
      clear kr kb kwk kus kkp kpt ka ke kI kMat hc60 hw hm24 hMt
      obtain ⟨⟨hc60, hw, hm24, hMt⟩, kr, kb, kwk, kus, kkp, kpt, ed, N, P, ka, ke, kI, kMat⟩ := id kJ
      dsimp only [Option.toList, List.cons_append, List.nil_append]
      refine wi_if_eq hX (tgt := 44) dX12_count_37 (by decide) (by exact b2n_inR _) (fun c37 => ?_) (fun c37 => ?_)
      · skip
        have hv37 := b2n_f c37
        rw [hv37, if_neg (fun z => Bool.false_ne_true z.1)] at k1
        rw [Bool.not_eq_false', decide_eq_true_eq] at hv37
        obtain ⟨e3, hN1, hN2⟩ : h34 ed = some (124, aR (.object "java/lang/Object") N (fun j => if j < m then some (P j) else none)) ∧ m ≤ N ∧ N ≤ 100 := by
          rcases ke with z | z
          · exfalso; omega
          · exact z
        obtain ⟨rq, m2, m3, l2, l3, G, g1, g2, g3, g4, g5⟩ := id (kMat i hi)
        have hMi := hMt i hi
        have he := hMi.1
        have hp := p2_le he
        have hp0 := p2_pos (E i)
        refine wa_aload_n hX (i := 0) dX12_count_44 rfl rfl ?_
        refine wa_get hX 4 (by assumption) (by rfl) (by decide +kernel) dX12_count_45 ?_
        refine wa_iload_n hX (i := 1) dX12_count_48 rfl rfl ?_
        refine wa_callV hX (c_AL_get hW d ka e3 (i := i) (q := P i) hi hN1 (by omega) (if_pos hi)) (by assumption) (by rfl) (by rfl) (by omega) (nA := 1) (by rfl) (by decide +kernel) rfl (by exact Nat.le_of_ble_eq_true rfl) dX12_count_49 (fun r49 h49 p49 => ?_) (fun _ _ q => q.elim)
        obtain ⟨rfl, qq49⟩ := p49; subst h49
        dsimp only [Option.toList, List.cons_append, List.nil_append]
        refine wa_ccast hX g1 (by rfl) (by decide +kernel) dX12_count_52 ?_
        refine wa_iload_n hX (i := 2) dX12_count_55 rfl rfl ?_
        refine wa_callS hX (c_X12_many hW d g1 g2 g3 he (fun s hs => hMi.le10 hs) hch) (by rfl) (by omega) (nA := 2) (by rfl) (by decide +kernel) rfl (by exact Nat.le_of_ble_eq_true rfl) dX12_count_56 (fun r56 h56 p56 => ?_) (fun _ _ q => q.elim)
        obtain ⟨rfl, qq56⟩ := p56; subst h56
        dsimp only [Option.toList, List.cons_append, List.nil_append]
        refine wa_iret hX dX12_count_59 ?_
        first
          | (have z := b2n_t c37
             rw [z, if_pos ⟨rfl, rfl⟩] at k1
             rw [Bool.not_eq_true', decide_eq_false_iff_not] at z
             exact ⟨ff, Or.inr ⟨i, hi, rfl, Or.inl ⟨z, ⟨_, rfl⟩, row, brk, al, wk, us, kp, pt, k1, kJ⟩⟩⟩)
          | exact ⟨ff, Or.inr ⟨i, hi, rfl, Or.inr ⟨hv37, rfl, row, brk, al, wk, us, kp, pt, k1, kJ⟩⟩⟩
      · skip
        refine wi_iconst hX dX12_count_40 ?_
        refine wa_goto hX (tgt := 59) dX12_count_41 (by decide) ?_
        refine wa_iret hX dX12_count_59 ?_
        first
          | (have z := b2n_t c37
             rw [z, if_pos ⟨rfl, rfl⟩] at k1
             rw [Bool.not_eq_true', decide_eq_false_iff_not] at z
             exact ⟨ff, Or.inr ⟨i, hi, rfl, Or.inl ⟨z, ⟨_, rfl⟩, row, brk, al, wk, us, kp, pt, k1, kJ⟩⟩⟩)
          | exact ⟨ff, Or.inr ⟨i, hi, rfl, Or.inr ⟨hv37, rfl, row, brk, al, wk, us, kp, pt, k1, kJ⟩⟩⟩
    refine wa_ldcZ hX hz.1 dX12_count_19 ?_
    refine wa_iload_n hX (i := 2) dX12_count_21 rfl rfl ?_
    refine wa_callVZ hX (c_J0_indexOf hW d hz (by decide) (by decide) hch ib_ok) hz.2.1 (by rfl) (by omega) (nA := 1) (by rfl) (by decide +kernel) rfl (by exact Nat.le_of_ble_eq_true rfl) dX12_count_22 (fun r22 h22 p22 => ?_) (fun _ _ q => q.elim)
    obtain ⟨⟨zi, rfl, hz1, hz2⟩, qq22⟩ := p22
    subst h22
    have hix := ib_ix hz1
    dsimp only [Option.toList, List.cons_append, List.nil_append]
    refine wi_if_ge hX (tgt := 32) dX12_count_25 (by decide) (by omega) (fun c25 => ?_) (fun c25 => ?_)
    · skip
      refine wi_iconst hX dX12_count_32 ?_
      refine WA.eq rfl rfl ?_ t33
      first
        | (rw [show (!decide (srtC ch)) = true by rw [decide_eq_false (fun q => by have := hix.mpr q; omega)]; rfl]; rfl)
        | (rw [show (!decide (srtC ch)) = false by rw [decide_eq_true (hix.mp (by omega))]; rfl]; rfl)
    · skip
      refine wi_iconst hX dX12_count_28 ?_
      refine wa_goto hX (tgt := 33) dX12_count_29 (by decide) ?_
      refine WA.eq rfl rfl ?_ t33
      first
        | (rw [show (!decide (srtC ch)) = true by rw [decide_eq_false (fun q => by have := hix.mpr q; omega)]; rfl]; rfl)
        | (rw [show (!decide (srtC ch)) = false by rw [decide_eq_true (hix.mp (by omega))]; rfl]; rfl)
set_option maxHeartbeats 2000000 in
set_option maxRecDepth 100000 in
theorem c_X12_setAt (hW : WOK l D S0) (d : Nat) {h : AH} {a th : Nat} {c m : Nat} {w : Nat → Nat} {E : Nat → Nat} {R : Nat → Nat → Nat} {b0 b1 b2 : Int} (hI : RI Z DR h a th c w m E R b0 b1 b2) {n ch at9 : Int} (hn : inR n) (hch : inR ch) (hat : inR at9) : MA l D S0 yX12_setAt cX12_setAt 7 (some .int) (d + 5) [.ref a, I n, I ch, I at9] h 0 0 (fun r h' => Fr (fun x => x = 120) h h' ∧ ((noM n m ∧ (∃ z, r = some (I z)) ∧ RI Z DR h' a 1 c w m E R b0 b1 b2) ∨ ∃ i, i < m ∧ n = (i : Int) ∧ ((¬ srtC ch ∧ (∃ z, r = some (I z)) ∧ RI Z DR h' a 2 c w m E R b0 b1 b2) ∨ (srtC ch ∧ ((∃ z : Nat, z < 2 ^ E i ∧ isB (R i) (E i) ch z = true ∧ ((cnt (isB (R i) (E i) ch) z : Nat) : Int) = at9 ∧ r = some (I (z : Int)) ∧ RI Z DR h' a 0 c w m E R b0 b1 b2) ∨ ((0 ≤ at9 → ∀ z : Nat, z < 2 ^ E i → isB (R i) (E i) ch z = true → ((cnt (isB (R i) (E i) ch) z : Nat) : Int) = at9 → False) ∧ (∃ z, r = some (I z)) ∧ RI Z DR h' a 3 c w m E R b0 b1 b2)))))) (fun _ _ => False) := by
  obtain ⟨sa, sv, hz⟩ := StrZ_of hW "CircuitfoldModel" 171 "ibcfh" ibcfh (by decide) (by decide +kernel)
  obtain ⟨row, brk, al, wk, us, kp, pt, k1, kJ⟩ := hI
  refine MA.start hW (by decide) [.val (.ref a), .val (I n), .val (I ch), .val (I at9), .unset, .unset, .unset] rfl ?_
  rintro X rfl rfl rfl hX
  refine wa_aload_n hX (i := 0) dX12_setAt_0 rfl rfl ?_
  refine wi_iconst hX dX12_setAt_1 ?_
  refine wa_put hX 0 k1 (Nat.le_of_ble_eq_true rfl) (by decide +kernel) (by rfl) (by rfl) (by rfl) dX12_setAt_2 ?_
  refine WA.heap (h2 := hset h a (120, oMod ((0 : Nat) : Int) (c : Int) row brk al wk us kp pt)) rfl ?_
  refine WA.hgq (fun hA hh2 => ?_)
  have ff : Fr (fun x => x = 120) h hA := by rw [hh2]; exact Fr.hset Fr.rf k1 rfl
  replace k1 : hA a = some (120, oMod ((0 : Nat) : Int) (c : Int) row brk al wk us kp pt) := by rw [hh2]; exact hset_eq
  replace kJ := kJ.fr ff (fun x hx => by omega)
  clear hh2
  obtain ⟨⟨hc60, hw, hm24, hMt⟩, kr, kb, kwk, kus, kkp, kpt, ed, N, P, ka, ke, kI, kMat⟩ := id kJ
  refine wa_aload_n hX (i := 0) dX12_setAt_5 rfl rfl ?_
  refine wa_aload_n hX (i := 0) dX12_setAt_6 rfl rfl ?_
  refine wa_iload_n hX (i := 1) dX12_setAt_7 rfl rfl ?_
  refine wa_callV hX (c_X12_no hW (d + 1) k1 ka hm24 hn) (by assumption) (by rfl) (by rfl) (by omega) (nA := 1) (by rfl) (by decide +kernel) rfl (by exact Nat.le_of_ble_eq_true rfl) dX12_setAt_8 (fun r8 h8 p8 => ?_) (fun _ _ q => q.elim)
  obtain ⟨rfl, qq8⟩ := p8; subst h8
  dsimp only [Option.toList, List.cons_append, List.nil_append]
  refine wi_iconst hX dX12_setAt_11 ?_
  refine wa_callV hX (c_X12_fails hW d (th := 0) (k := 1) (b := (!decide (0 ≤ n ∧ n < (m : Int)))) k1 (by omega) (by omega)) (by assumption) (by rfl) (by rfl) (by omega) (nA := 2) (by rfl) (by decide +kernel) rfl (by exact Nat.le_of_ble_eq_true rfl) dX12_setAt_12 (fun r12 h12 p12 => ?_) (fun _ _ q => q.elim)
  obtain ⟨rfl, hh12⟩ := p12
  have f12 : Fr (fun x => x = 120) hA h12 := by rw [hh12]; exact Fr.hset Fr.rf k1 rfl
  replace k1 : h12 a = some (120, oMod ((if ((!decide (0 ≤ n ∧ n < (m : Int)))) = true ∧ (0 : Nat) = 0 then 1 else 0 : Nat) : Int) (c : Int) row brk al wk us kp pt) := by rw [hh12]; exact hset_eq
  replace kJ := kJ.fr f12 (fun x hx => by omega)
  replace ff := ff.trans f12
  clear hh12 f12
  rw [show (((!decide (0 ≤ n ∧ n < (m : Int)))) || (0 : Nat) != 0) = ((!decide (0 ≤ n ∧ n < (m : Int)))) from Bool.or_false _]
  clear kr kb kwk kus kkp kpt ka ke kI kMat hc60 hw hm24 hMt
  obtain ⟨⟨hc60, hw, hm24, hMt⟩, kr, kb, kwk, kus, kkp, kpt, ed, N, P, ka, ke, kI, kMat⟩ := id kJ
  dsimp only [Option.toList, List.cons_append, List.nil_append]
  refine wi_if_ne hX (tgt := 40) dX12_setAt_15 (by decide) (by exact b2n_inR _) (fun c15 => ?_) (fun c15 => ?_)
  · skip
    refine wi_iconst hX dX12_setAt_40 ?_
    refine wa_iret hX dX12_setAt_41 ?_
    have z := b2n_t c15
    rw [z, if_pos ⟨rfl, rfl⟩] at k1
    rw [Bool.not_eq_true', decide_eq_false_iff_not] at z
    exact ⟨ff, Or.inl ⟨z, ⟨_, rfl⟩, row, brk, al, wk, us, kp, pt, k1, kJ⟩⟩
  · skip
    have hv15 := b2n_f c15
    rw [hv15, if_neg (fun z => Bool.false_ne_true z.1)] at k1
    rw [Bool.not_eq_false', decide_eq_true_eq] at hv15
    obtain ⟨i, rfl⟩ := Int.eq_ofNat_of_zero_le hv15.1
    have hi : i < m := by omega
    refine wa_aload_n hX (i := 0) dX12_setAt_18 rfl rfl ?_
    have t33 : WA X h12 0 0 33 [.val (.ref a), .val (I (i : Int)), .val (I ch), .val (I at9), .unset, .unset, .unset] [I ((b2n (!decide (srtC ch)) : Nat) : Int), .ref a] := by
      refine wi_iconst hX dX12_setAt_33 ?_
      refine wa_callV hX (c_X12_fails hW d (th := 0) (k := 2) (b := (!decide (srtC ch))) k1 (by omega) (by omega)) (by assumption) (by rfl) (by rfl) (by omega) (nA := 2) (by rfl) (by decide +kernel) rfl (by exact Nat.le_of_ble_eq_true rfl) dX12_setAt_34 (fun r34 h34 p34 => ?_) (fun _ _ q => q.elim)
      obtain ⟨rfl, hh34⟩ := p34
      have f34 : Fr (fun x => x = 120) h12 h34 := by rw [hh34]; exact Fr.hset Fr.rf k1 rfl
      replace k1 : h34 a = some (120, oMod ((if ((!decide (srtC ch))) = true ∧ (0 : Nat) = 0 then 2 else 0 : Nat) : Int) (c : Int) row brk al wk us kp pt) := by rw [hh34]; exact hset_eq
      replace kJ := kJ.fr f34 (fun x hx => by omega)
      replace ff := ff.trans f34
      clear hh34 f34
      rw [show (((!decide (srtC ch))) || (0 : Nat) != 0) = ((!decide (srtC ch))) from Bool.or_false _]
      clear kr kb kwk kus kkp kpt ka ke kI kMat hc60 hw hm24 hMt
      obtain ⟨⟨hc60, hw, hm24, hMt⟩, kr, kb, kwk, kus, kkp, kpt, ed, N, P, ka, ke, kI, kMat⟩ := id kJ
      dsimp only [Option.toList, List.cons_append, List.nil_append]
      refine wi_if_eq hX (tgt := 42) dX12_setAt_37 (by decide) (by exact b2n_inR _) (fun c37 => ?_) (fun c37 => ?_)
      · skip
        have hv37 := b2n_f c37
        rw [hv37, if_neg (fun z => Bool.false_ne_true z.1)] at k1
        rw [Bool.not_eq_false', decide_eq_true_eq] at hv37
        obtain ⟨e3, hN1, hN2⟩ : h34 ed = some (124, aR (.object "java/lang/Object") N (fun j => if j < m then some (P j) else none)) ∧ m ≤ N ∧ N ≤ 100 := by
          rcases ke with z | z
          · exfalso; omega
          · exact z
        obtain ⟨rq, m2, m3, l2, l3, G, g1, g2, g3, g4, g5⟩ := id (kMat i hi)
        have hMi := hMt i hi
        have he := hMi.1
        have hp := p2_le he
        have hp0 := p2_pos (E i)
        refine wa_aload_n hX (i := 0) dX12_setAt_42 rfl rfl ?_
        refine wa_get hX 4 (by assumption) (by rfl) (by decide +kernel) dX12_setAt_43 ?_
        refine wa_iload_n hX (i := 1) dX12_setAt_46 rfl rfl ?_
        refine wa_callV hX (c_AL_get hW d ka e3 (i := i) (q := P i) hi hN1 (by omega) (if_pos hi)) (by assumption) (by rfl) (by rfl) (by omega) (nA := 1) (by rfl) (by decide +kernel) rfl (by exact Nat.le_of_ble_eq_true rfl) dX12_setAt_47 (fun r47 h47 p47 => ?_) (fun _ _ q => q.elim)
        obtain ⟨rfl, qq47⟩ := p47; subst h47
        dsimp only [Option.toList, List.cons_append, List.nil_append]
        refine wa_ccast hX g1 (by rfl) (by decide +kernel) dX12_setAt_50 ?_
        refine wa_astore hX dX12_setAt_53 rfl ?_
        dsimp only [List.set]
        refine wa_iload_n hX (i := 3) dX12_setAt_55 rfl rfl ?_
        refine wa_istore hX dX12_setAt_56 rfl ?_
        dsimp only [List.set]
        refine wi_iconst hX dX12_setAt_58 ?_
        refine wa_istore hX dX12_setAt_59 rfl ?_
        dsimp only [List.set]
        refine WA.eq rfl (by rw [show at9 - ((cnt (isB (R i) (E i) ch) 0 : Nat) : Int) = at9 by show at9 - 0 = at9; omega]; rfl) rfl (WA.loop (σ := Nat) (fun z => 2 ^ E i - z) (fun z => z ≤ 2 ^ E i ∧ (0 ≤ at9 → ((cnt (isB (R i) (E i) ch) z : Nat) : Int) ≤ at9)) (fun _ => h34) (fun z => [.val (.ref a), .val (I (i : Int)), .val (I ch), .val (I at9), .val (.ref (P i)), .val (I (at9 - ((cnt (isB (R i) (E i) ch) z : Nat) : Int))), .val (I (z : Nat))]) ?_ 0 ⟨Nat.zero_le _, fun q => q⟩)
        rintro z ⟨hzn, hle⟩ ih
        have hcl := cnt_le (isB (R i) (E i) ch) z
        refine wa_iload hX dX12_setAt_61 rfl ?_
        refine wa_aload hX dX12_setAt_63 rfl ?_
        refine wa_callV hX (c_X11_full hW d g1 he) (by assumption) (by rfl) (by rfl) (by omega) (nA := 0) (by rfl) (by decide +kernel) rfl (by exact Nat.le_of_ble_eq_true rfl) dX12_setAt_65 (fun r65 h65 p65 => ?_) (fun _ _ q => q.elim)
        obtain ⟨rfl, qq65⟩ := p65; subst h65
        dsimp only [Option.toList, List.cons_append, List.nil_append]
        refine wi_icmp_gt hX (tgt := 103) dX12_setAt_68 (by decide) (by omega) (by omega) (fun c68 => ?_) (fun c68 => ?_)
        · skip
          refine wa_aload_n hX (i := 0) dX12_setAt_103 rfl rfl ?_
          refine wi_iconst hX dX12_setAt_104 ?_
          refine wa_put hX 0 k1 (Nat.le_of_ble_eq_true rfl) (by decide +kernel) (by rfl) (by rfl) (by rfl) dX12_setAt_105 ?_
          refine WA.heap (h2 := hset h34 a (120, oMod ((3 : Nat) : Int) (c : Int) row brk al wk us kp pt)) rfl ?_
          refine WA.hgq (fun hB hhB => ?_)
          have f2 : Fr (fun x => x = 120) h34 hB := by rw [hhB]; exact Fr.hset Fr.rf k1 rfl
          have k1B : hB a = some (120, oMod ((3 : Nat) : Int) (c : Int) row brk al wk us kp pt) := by rw [hhB]; exact hset_eq
          have kJB := kJ.fr f2 (fun x hx => by omega)
          clear hhB
          refine wi_iconst hX dX12_setAt_108 ?_
          refine wa_iret hX dX12_setAt_109 ?_
          refine ⟨ff.trans f2, Or.inr ⟨i, hi, rfl, Or.inr ⟨hv37, Or.inr ⟨?_, ⟨_, rfl⟩, row, brk, al, wk, us, kp, pt, k1B, kJB⟩⟩⟩⟩
          intro hp z9 hz9 hb9 hc9
          have hz8 : z = 2 ^ E i := by omega
          have h1 := hle hp
          have h2 : cnt (isB (R i) (E i) ch) (z9 + 1) ≤ cnt (isB (R i) (E i) ch) z := cnt_mono (by omega)
          rw [cnt_y hb9] at h2
          omega
        · skip
          refine wa_iload_n hX (i := 3) dX12_setAt_71 rfl rfl ?_
          refine wi_if_lt hX (tgt := 103) dX12_setAt_72 (by decide) (by omega) (fun c72 => ?_) (fun c72 => ?_)
          · skip
            refine wa_aload_n hX (i := 0) dX12_setAt_103 rfl rfl ?_
            refine wi_iconst hX dX12_setAt_104 ?_
            refine wa_put hX 0 k1 (Nat.le_of_ble_eq_true rfl) (by decide +kernel) (by rfl) (by rfl) (by rfl) dX12_setAt_105 ?_
            refine WA.heap (h2 := hset h34 a (120, oMod ((3 : Nat) : Int) (c : Int) row brk al wk us kp pt)) rfl ?_
            refine WA.hgq (fun hB hhB => ?_)
            have f2 : Fr (fun x => x = 120) h34 hB := by rw [hhB]; exact Fr.hset Fr.rf k1 rfl
            have k1B : hB a = some (120, oMod ((3 : Nat) : Int) (c : Int) row brk al wk us kp pt) := by rw [hhB]; exact hset_eq
            have kJB := kJ.fr f2 (fun x hx => by omega)
            clear hhB
            refine wi_iconst hX dX12_setAt_108 ?_
            refine wa_iret hX dX12_setAt_109 ?_
            refine ⟨ff.trans f2, Or.inr ⟨i, hi, rfl, Or.inr ⟨hv37, Or.inr ⟨?_, ⟨_, rfl⟩, row, brk, al, wk, us, kp, pt, k1B, kJB⟩⟩⟩⟩
            intro hp z9 hz9 hb9 hc9
            have hz8 : z = 2 ^ E i := by omega
            have h1 := hle hp
            have h2 : cnt (isB (R i) (E i) ch) (z9 + 1) ≤ cnt (isB (R i) (E i) ch) z := cnt_mono (by omega)
            rw [cnt_y hb9] at h2
            omega
          · skip
            refine wa_aload hX dX12_setAt_75 rfl ?_
            refine wa_iload_n hX (i := 2) dX12_setAt_77 rfl rfl ?_
            refine wa_iload hX dX12_setAt_78 rfl ?_
            refine wa_callV hX (c_X11_is hW d g1 g2 g3 he (fun s hs => hMi.le10 hs) (s := z) (by omega) hch) (by assumption) (by rfl) (by rfl) (by omega) (nA := 2) (by rfl) (by decide +kernel) rfl (by exact Nat.le_of_ble_eq_true rfl) dX12_setAt_80 (fun r80 h80 p80 => ?_) (fun _ _ q => q.elim)
            obtain ⟨rfl, qq80⟩ := p80; subst h80
            dsimp only [Option.toList, List.cons_append, List.nil_append]
            refine wi_if_eq hX (tgt := 97) dX12_setAt_83 (by decide) (by exact b2n_inR _) (fun c83 => ?_) (fun c83 => ?_)
            · skip
              refine wi_iinc hX dX12_setAt_97 rfl ?_
              dsimp only [List.set]
              refine wa_goto hX (tgt := 61) dX12_setAt_100 (by decide) ?_
              first
                | (have q := b2n_f c83
                   refine WA.eq rfl ?_ rfl (ih (z + 1) ⟨by omega, fun q9 => by rw [cnt_n (by rw [q]; exact Bool.false_ne_true)]; exact hle q9⟩ (by omega))
                   rw [cnt_n (by rw [q]; exact Bool.false_ne_true)]
                   rfl)
                | (have q := b2n_t c83
                   refine WA.eq rfl ?_ rfl (ih (z + 1) ⟨by omega, fun q9 => by rw [cnt_y q]; have := hle q9; omega⟩ (by omega))
                   rw [cnt_y q, show at9 - (((cnt (isB (R i) (E i) ch) z + 1 : Nat)) : Int) = at9 - ((cnt (isB (R i) (E i) ch) z : Nat) : Int) - 1 by omega]
                   rfl)
            · skip
              refine wa_iload hX dX12_setAt_86 rfl ?_
              refine wi_if_ne hX (tgt := 94) dX12_setAt_88 (by decide) (by omega) (fun c88 => ?_) (fun c88 => ?_)
              · skip
                refine wi_iinc hX dX12_setAt_94 rfl ?_
                dsimp only [List.set]
                refine wi_iinc hX dX12_setAt_97 rfl ?_
                dsimp only [List.set]
                refine wa_goto hX (tgt := 61) dX12_setAt_100 (by decide) ?_
                first
                  | (have q := b2n_f c83
                     refine WA.eq rfl ?_ rfl (ih (z + 1) ⟨by omega, fun q9 => by rw [cnt_n (by rw [q]; exact Bool.false_ne_true)]; exact hle q9⟩ (by omega))
                     rw [cnt_n (by rw [q]; exact Bool.false_ne_true)]
                     rfl)
                  | (have q := b2n_t c83
                     refine WA.eq rfl ?_ rfl (ih (z + 1) ⟨by omega, fun q9 => by rw [cnt_y q]; have := hle q9; omega⟩ (by omega))
                     rw [cnt_y q, show at9 - (((cnt (isB (R i) (E i) ch) z + 1 : Nat)) : Int) = at9 - ((cnt (isB (R i) (E i) ch) z : Nat) : Int) - 1 by omega]
                     rfl)
              · skip
                refine wa_iload hX dX12_setAt_91 rfl ?_
                refine wa_iret hX dX12_setAt_93 ?_
                have q := b2n_t c83
                exact ⟨ff, Or.inr ⟨i, hi, rfl, Or.inr ⟨hv37, Or.inl ⟨z, by omega, q, by omega, rfl, row, brk, al, wk, us, kp, pt, k1, kJ⟩⟩⟩⟩
      · skip
        refine wi_iconst hX dX12_setAt_40 ?_
        refine wa_iret hX dX12_setAt_41 ?_
        have z := b2n_t c37
        rw [z, if_pos ⟨rfl, rfl⟩] at k1
        rw [Bool.not_eq_true', decide_eq_false_iff_not] at z
        exact ⟨ff, Or.inr ⟨i, hi, rfl, Or.inl ⟨z, ⟨_, rfl⟩, row, brk, al, wk, us, kp, pt, k1, kJ⟩⟩⟩
    refine wa_ldcZ hX hz.1 dX12_setAt_19 ?_
    refine wa_iload_n hX (i := 2) dX12_setAt_21 rfl rfl ?_
    refine wa_callVZ hX (c_J0_indexOf hW d hz (by decide) (by decide) hch ib_ok) hz.2.1 (by rfl) (by omega) (nA := 1) (by rfl) (by decide +kernel) rfl (by exact Nat.le_of_ble_eq_true rfl) dX12_setAt_22 (fun r22 h22 p22 => ?_) (fun _ _ q => q.elim)
    obtain ⟨⟨zi, rfl, hz1, hz2⟩, qq22⟩ := p22
    subst h22
    have hix := ib_ix hz1
    dsimp only [Option.toList, List.cons_append, List.nil_append]
    refine wi_if_ge hX (tgt := 32) dX12_setAt_25 (by decide) (by omega) (fun c25 => ?_) (fun c25 => ?_)
    · skip
      refine wi_iconst hX dX12_setAt_32 ?_
      refine WA.eq rfl rfl ?_ t33
      first
        | (rw [show (!decide (srtC ch)) = true by rw [decide_eq_false (fun q => by have := hix.mpr q; omega)]; rfl]; rfl)
        | (rw [show (!decide (srtC ch)) = false by rw [decide_eq_true (hix.mp (by omega))]; rfl]; rfl)
    · skip
      refine wi_iconst hX dX12_setAt_28 ?_
      refine wa_goto hX (tgt := 33) dX12_setAt_29 (by decide) ?_
      refine WA.eq rfl rfl ?_ t33
      first
        | (rw [show (!decide (srtC ch)) = true by rw [decide_eq_false (fun q => by have := hix.mpr q; omega)]; rfl]; rfl)
        | (rw [show (!decide (srtC ch)) = false by rw [decide_eq_true (hix.mp (by omega))]; rfl]; rfl)
set_option maxHeartbeats 2000000 in
set_option maxRecDepth 100000 in
theorem c_X12_broken (hW : WOK l D S0) (d : Nat) {h : AH} {a th : Nat} {c m : Nat} {w : Nat → Nat} {E : Nat → Nat} {R : Nat → Nat → Nat} {b0 b1 b2 : Int} (hI : RI Z DR h a th c w m E R b0 b1 b2) {ch : Int} (hch : inR ch) (hb : (-1 ≤ b0 ∧ b0 ≤ 1023) ∧ (-1 ≤ b1 ∧ b1 ≤ 1023) ∧ (-1 ≤ b2 ∧ b2 ≤ 1023)) : MA l D S0 yX12_broken cX12_broken 3 (some .int) (d + 5) [.ref a, I ch] h 0 0 (fun r h' => Fr (fun x => x = 120) h h' ∧ ((ch ≠ 97 ∧ ch ≠ 98 ∧ ch ≠ 120 ∧ (∃ z, r = some (I z)) ∧ RI Z DR h' a 1 c w m E R b0 b1 b2) ∨ ∃ zi : Int, ((ch = 97 ∧ zi = 0) ∨ (ch = 98 ∧ zi = 1) ∨ (ch = 120 ∧ zi = 2) ∨ (ch ≠ 97 ∧ ch ≠ 98 ∧ ch ≠ 120 ∧ zi = -1)) ∧ 0 ≤ zi ∧ (((if zi = 0 then b0 else if zi = 1 then b1 else b2) = -1 ∧ (∃ z, r = some (I z)) ∧ RI Z DR h' a 2 c w m E R b0 b1 b2) ∨ ((if zi = 0 then b0 else if zi = 1 then b1 else b2) ≠ -1 ∧ r = some (I (if zi = 0 then b0 else if zi = 1 then b1 else b2)) ∧ RI Z DR h' a 0 c w m E R b0 b1 b2)))) (fun _ _ => False) := by
  obtain ⟨sa, sv, hz⟩ := StrZ_of hW "CircuitfoldModel" 128 "abx" abxL (by decide) (by decide +kernel)
  obtain ⟨row, brk, al, wk, us, kp, pt, k1, kJ⟩ := hI
  refine MA.start hW (by decide) [.val (.ref a), .val (I ch), .unset] rfl ?_
  rintro X rfl rfl rfl hX
  refine wa_aload_n hX (i := 0) dX12_broken_0 rfl rfl ?_
  refine wi_iconst hX dX12_broken_1 ?_
  refine wa_put hX 0 k1 (Nat.le_of_ble_eq_true rfl) (by decide +kernel) (by rfl) (by rfl) (by rfl) dX12_broken_2 ?_
  refine WA.heap (h2 := hset h a (120, oMod ((0 : Nat) : Int) (c : Int) row brk al wk us kp pt)) rfl ?_
  refine WA.hgq (fun hA hh2 => ?_)
  have ff : Fr (fun x => x = 120) h hA := by rw [hh2]; exact Fr.hset Fr.rf k1 rfl
  replace k1 : hA a = some (120, oMod ((0 : Nat) : Int) (c : Int) row brk al wk us kp pt) := by rw [hh2]; exact hset_eq
  replace kJ := kJ.fr ff (fun x hx => by omega)
  clear hh2
  obtain ⟨⟨hc60, hw, hm24, hMt⟩, kr, kb, kwk, kus, kkp, kpt, ed, N, P, ka, ke, kI, kMat⟩ := id kJ
  refine wa_ldcZ hX hz.1 dX12_broken_5 ?_
  refine wa_iload_n hX (i := 1) dX12_broken_7 rfl rfl ?_
  refine wa_callVZ hX (c_J0_indexOf hW d hz (by decide) (by decide) hch ax_ok) hz.2.1 (by rfl) (by omega) (nA := 1) (by rfl) (by decide +kernel) rfl (by exact Nat.le_of_ble_eq_true rfl) dX12_broken_8 (fun r8 h8 p8 => ?_) (fun _ _ q => q.elim)
  obtain ⟨⟨zi, rfl, hz1, hz2⟩, qq8⟩ := p8
  subst h8
  have hax := ax_ix hz1
  dsimp only [Option.toList, List.cons_append, List.nil_append]
  have t22 : WA X hA 0 0 22 [.val (.ref a), .val (I ch), .val (I zi)] [I ((b2n (decide (zi < 0)) : Nat) : Int), .ref a] := by
    refine wi_iconst hX dX12_broken_22 ?_
    refine wa_callV hX (c_X12_fails hW d (th := 0) (k := 1) (b := (decide (zi < 0))) k1 (by omega) (by omega)) (by assumption) (by rfl) (by rfl) (by omega) (nA := 2) (by rfl) (by decide +kernel) rfl (by exact Nat.le_of_ble_eq_true rfl) dX12_broken_23 (fun r23 h23 p23 => ?_) (fun _ _ q => q.elim)
    obtain ⟨rfl, hh23⟩ := p23
    have f23 : Fr (fun x => x = 120) hA h23 := by rw [hh23]; exact Fr.hset Fr.rf k1 rfl
    replace k1 : h23 a = some (120, oMod ((if ((decide (zi < 0))) = true ∧ (0 : Nat) = 0 then 1 else 0 : Nat) : Int) (c : Int) row brk al wk us kp pt) := by rw [hh23]; exact hset_eq
    replace kJ := kJ.fr f23 (fun x hx => by omega)
    replace ff := ff.trans f23
    clear hh23 f23
    rw [show (((decide (zi < 0))) || (0 : Nat) != 0) = ((decide (zi < 0))) from Bool.or_false _]
    clear kr kb kwk kus kkp kpt ka ke kI kMat hc60 hw hm24 hMt
    obtain ⟨⟨hc60, hw, hm24, hMt⟩, kr, kb, kwk, kus, kkp, kpt, ed, N, P, ka, ke, kI, kMat⟩ := id kJ
    dsimp only [Option.toList, List.cons_append, List.nil_append]
    refine wi_if_ne hX (tgt := 52) dX12_broken_26 (by decide) (by exact b2n_inR _) (fun c26 => ?_) (fun c26 => ?_)
    · skip
      refine wi_iconst hX dX12_broken_52 ?_
      refine wa_goto hX (tgt := 62) dX12_broken_53 (by decide) ?_
      refine wa_iret hX dX12_broken_62 ?_
      have z := b2n_t c26
      rw [z, if_pos ⟨rfl, rfl⟩] at k1
      rw [decide_eq_true_eq] at z
      exact ⟨ff, Or.inl ⟨by rcases hax with q | q | q | q <;> omega, by rcases hax with q | q | q | q <;> omega, by rcases hax with q | q | q | q <;> omega, ⟨_, rfl⟩, row, brk, al, wk, us, kp, pt, k1, kJ⟩⟩
    · skip
      have hv26 := b2n_f c26
      rw [hv26, if_neg (fun z => Bool.false_ne_true z.1)] at k1
      have hz3 : 0 ≤ zi := by
        have := of_decide_eq_false hv26
        omega
      have hzl : zi < 3 := by rcases hax with q | q | q | q <;> omega
      have hbv : (if zi.toNat = 0 then b0 else if zi.toNat = 1 then b1 else b2) = (if zi = 0 then b0 else if zi = 1 then b1 else b2) := by
        rcases (by omega : zi = 0 ∨ zi = 1 ∨ zi = 2) with rfl | rfl | rfl <;> rfl
      have hbr : -1 ≤ (if zi = 0 then b0 else if zi = 1 then b1 else b2) ∧ (if zi = 0 then b0 else if zi = 1 then b1 else b2) ≤ 1023 := by
        rcases (by omega : zi = 0 ∨ zi = 1 ∨ zi = 2) with rfl | rfl | rfl
        · exact hb.1
        · exact hb.2.1
        · exact hb.2.2
      refine wa_aload_n hX (i := 0) dX12_broken_29 rfl rfl ?_
      refine wa_aload_n hX (i := 0) dX12_broken_30 rfl rfl ?_
      refine wa_get hX 3 (by assumption) (by rfl) (by decide +kernel) dX12_broken_31 ?_
      refine wa_iload_n hX (i := 2) dX12_broken_34 rfl rfl ?_
      have t45 : WA X h23 0 0 45 [.val (.ref a), .val (I ch), .val (I zi)] [I ((b2n ((if zi = 0 then b0 else if zi = 1 then b1 else b2) == -1) : Nat) : Int), .ref a] := by
        refine wi_iconst hX dX12_broken_45 ?_
        refine wa_callV hX (c_X12_fails hW d (th := 0) (k := 2) (b := ((if zi = 0 then b0 else if zi = 1 then b1 else b2) == -1)) k1 (by omega) (by omega)) (by assumption) (by rfl) (by rfl) (by omega) (nA := 2) (by rfl) (by decide +kernel) rfl (by exact Nat.le_of_ble_eq_true rfl) dX12_broken_46 (fun r46 h46 p46 => ?_) (fun _ _ q => q.elim)
        obtain ⟨rfl, hh46⟩ := p46
        have f46 : Fr (fun x => x = 120) h23 h46 := by rw [hh46]; exact Fr.hset Fr.rf k1 rfl
        replace k1 : h46 a = some (120, oMod ((if (((if zi = 0 then b0 else if zi = 1 then b1 else b2) == -1)) = true ∧ (0 : Nat) = 0 then 2 else 0 : Nat) : Int) (c : Int) row brk al wk us kp pt) := by rw [hh46]; exact hset_eq
        replace kJ := kJ.fr f46 (fun x hx => by omega)
        replace ff := ff.trans f46
        clear hh46 f46
        rw [show ((((if zi = 0 then b0 else if zi = 1 then b1 else b2) == -1)) || (0 : Nat) != 0) = (((if zi = 0 then b0 else if zi = 1 then b1 else b2) == -1)) from Bool.or_false _]
        clear kr kb kwk kus kkp kpt ka ke kI kMat hc60 hw hm24 hMt
        obtain ⟨⟨hc60, hw, hm24, hMt⟩, kr, kb, kwk, kus, kkp, kpt, ed, N, P, ka, ke, kI, kMat⟩ := id kJ
        dsimp only [Option.toList, List.cons_append, List.nil_append]
        refine wi_if_eq hX (tgt := 56) dX12_broken_49 (by decide) (by exact b2n_inR _) (fun c49 => ?_) (fun c49 => ?_)
        · skip
          have hv49 := b2n_f c49
          rw [hv49, if_neg (fun z => Bool.false_ne_true z.1)] at k1
          have hbne : (if zi = 0 then b0 else if zi = 1 then b1 else b2) ≠ -1 := beq_eq_false_iff_ne.mp hv49
          refine wa_aload_n hX (i := 0) dX12_broken_56 rfl rfl ?_
          refine wa_get hX 3 (by assumption) (by rfl) (by decide +kernel) dX12_broken_57 ?_
          refine wa_iload_n hX (i := 2) dX12_broken_60 rfl rfl ?_
          refine wi_iaload hX kb (by omega) (by omega) (by omega) dX12_broken_61 ?_
          rw [show (if zi.toNat = 0 then b0 else if zi.toNat = 1 then b1 else b2) = (if zi = 0 then b0 else if zi = 1 then b1 else b2) from hbv]
          refine wa_iret hX dX12_broken_62 ?_
          first
            | (have z := b2n_t c49
               rw [z, if_pos ⟨rfl, rfl⟩] at k1
               exact ⟨ff, Or.inr ⟨zi, hax, hz3, Or.inl ⟨beq_iff_eq.mp z, ⟨_, rfl⟩, row, brk, al, wk, us, kp, pt, k1, kJ⟩⟩⟩)
            | exact ⟨ff, Or.inr ⟨zi, hax, hz3, Or.inr ⟨hbne, rfl, row, brk, al, wk, us, kp, pt, k1, kJ⟩⟩⟩
        · skip
          refine wi_iconst hX dX12_broken_52 ?_
          refine wa_goto hX (tgt := 62) dX12_broken_53 (by decide) ?_
          refine wa_iret hX dX12_broken_62 ?_
          first
            | (have z := b2n_t c49
               rw [z, if_pos ⟨rfl, rfl⟩] at k1
               exact ⟨ff, Or.inr ⟨zi, hax, hz3, Or.inl ⟨beq_iff_eq.mp z, ⟨_, rfl⟩, row, brk, al, wk, us, kp, pt, k1, kJ⟩⟩⟩)
            | exact ⟨ff, Or.inr ⟨zi, hax, hz3, Or.inr ⟨hbne, rfl, row, brk, al, wk, us, kp, pt, k1, kJ⟩⟩⟩
      refine wi_iaload hX kb (by omega) (by omega) (by omega) dX12_broken_35 ?_
      rw [show (if zi.toNat = 0 then b0 else if zi.toNat = 1 then b1 else b2) = (if zi = 0 then b0 else if zi = 1 then b1 else b2) from hbv]
      refine wi_iconst hX dX12_broken_36 ?_
      refine wi_icmp_ne hX (tgt := 44) dX12_broken_37 (by decide) (by omega) (by omega) (fun c37 => ?_) (fun c37 => ?_)
      · skip
        refine wi_iconst hX dX12_broken_44 ?_
        refine WA.eq rfl rfl ?_ t45
        first
          | (rw [show ((if zi = 0 then b0 else if zi = 1 then b1 else b2) == -1) = true from beq_iff_eq.mpr (by omega)]; rfl)
          | (rw [show ((if zi = 0 then b0 else if zi = 1 then b1 else b2) == -1) = false from beq_eq_false_iff_ne.mpr (by omega)]; rfl)
      · skip
        refine wi_iconst hX dX12_broken_40 ?_
        refine wa_goto hX (tgt := 45) dX12_broken_41 (by decide) ?_
        refine WA.eq rfl rfl ?_ t45
        first
          | (rw [show ((if zi = 0 then b0 else if zi = 1 then b1 else b2) == -1) = true from beq_iff_eq.mpr (by omega)]; rfl)
          | (rw [show ((if zi = 0 then b0 else if zi = 1 then b1 else b2) == -1) = false from beq_eq_false_iff_ne.mpr (by omega)]; rfl)
  refine wa_istore_n hX (i := 2) dX12_broken_11 rfl rfl ?_
  dsimp only [List.set]
  refine wa_aload_n hX (i := 0) dX12_broken_12 rfl rfl ?_
  refine wa_iload_n hX (i := 2) dX12_broken_13 rfl rfl ?_
  refine wi_if_ge hX (tgt := 21) dX12_broken_14 (by decide) (by omega) (fun c14 => ?_) (fun c14 => ?_)
  · skip
    refine wi_iconst hX dX12_broken_21 ?_
    refine WA.eq rfl rfl ?_ t22
    first
      | (rw [decide_eq_true (show zi < 0 by omega)]; rfl)
      | (rw [decide_eq_false (show ¬ zi < 0 by omega)]; rfl)
  · skip
    refine wi_iconst hX dX12_broken_17 ?_
    refine wa_goto hX (tgt := 22) dX12_broken_18 (by decide) ?_
    refine WA.eq rfl rfl ?_ t22
    first
      | (rw [decide_eq_true (show zi < 0 by omega)]; rfl)
      | (rw [decide_eq_false (show ¬ zi < 0 by omega)]; rfl)
end C9j
