/-! The reference (X12): cannotMeet -/
section C89
variable {l : Launch} {D : va_G} {S0 : State} {Z : Nat → Prop} {DR : (Nat → Nat) → Nat → Nat → Option (Nat → Nat) → Prop}
set_option maxHeartbeats 2000000 in
set_option maxRecDepth 100000 in
theorem c_X12_cannotMeet (hW : WOK l D S0) (d : Nat) {h : AH} {a th : Nat} {c m : Nat} {w : Nat → Nat} {E : Nat → Nat} {R : Nat → Nat → Nat} {b0 b1 b2 : Int} (hI : RI Z DR h a th c w m E R b0 b1 b2) {n v : Int} (hn : inR n) (hv : inR v) : MA l D S0 yX12_cannotMeet cX12_cannotMeet 3 (some .boolean) (d + 5) [.ref a, I n, I v] h 0 0 (fun r h' => Fr (fun x => x = 120) h h' ∧ (((noM n m ∨ noM v m) ∧ r = some (I 1) ∧ RI Z DR h' a 1 c w m E R b0 b1 b2) ∨ ∃ i j : Nat, i < m ∧ n = (i : Int) ∧ j < m ∧ v = (j : Int) ∧ ((E i ≠ E j ∧ r = some (I 1) ∧ RI Z DR h' a 2 c w m E R b0 b1 b2) ∨ (E i = E j ∧ r = some (I 0) ∧ RI Z DR h' a 0 c w m E R b0 b1 b2)))) (fun _ _ => False) := by
  obtain ⟨row, brk, al, wk, us, kp, pt, k1, kJ⟩ := hI
  refine MA.start hW (by decide) [.val (.ref a), .val (I n), .val (I v)] rfl ?_
  rintro X rfl rfl rfl hX
  refine wa_aload_n hX (i := 0) dX12_cannotMeet_0 rfl rfl ?_
  refine wi_iconst hX dX12_cannotMeet_1 ?_
  refine wa_put hX 0 k1 (Nat.le_of_ble_eq_true rfl) (by decide +kernel) (by rfl) (by rfl) (by rfl) dX12_cannotMeet_2 ?_
  refine WA.heap (h2 := hset h a (120, oMod ((0 : Nat) : Int) (c : Int) row brk al wk us kp pt)) rfl ?_
  refine WA.hgq (fun hA hh2 => ?_)
  have ff : Fr (fun x => x = 120) h hA := by rw [hh2]; exact Fr.hset Fr.rf k1 rfl
  replace k1 : hA a = some (120, oMod ((0 : Nat) : Int) (c : Int) row brk al wk us kp pt) := by rw [hh2]; exact hset_eq
  replace kJ := kJ.fr ff (fun x hx => by omega)
  clear hh2
  obtain ⟨⟨hc60, hw, hm24, hMt⟩, kr, kb, kwk, kus, kkp, kpt, ed, N, P, ka, ke, kI, kMat⟩ := id kJ
  refine wa_aload_n hX (i := 0) dX12_cannotMeet_5 rfl rfl ?_
  refine wa_aload_n hX (i := 0) dX12_cannotMeet_6 rfl rfl ?_
  refine wa_iload_n hX (i := 1) dX12_cannotMeet_7 rfl rfl ?_
  refine wa_callV hX (c_X12_no hW (d + 1) k1 ka hm24 hn) (by assumption) (by rfl) (by rfl) (by omega) (nA := 1) (by rfl) (by decide +kernel) rfl (by exact Nat.le_of_ble_eq_true rfl) dX12_cannotMeet_8 (fun r8 h8 p8 => ?_) (fun _ _ q => q.elim)
  obtain ⟨rfl, qq8⟩ := p8; subst h8
  dsimp only [Option.toList, List.cons_append, List.nil_append]
  refine wi_if_ne hX (tgt := 22) dX12_cannotMeet_11 (by decide) (by exact b2n_inR _) (fun c11 => ?_) (fun c11 => ?_)
  · skip
    refine wi_iconst hX dX12_cannotMeet_22 ?_
    refine wa_goto hX (tgt := 27) dX12_cannotMeet_23 (by decide) ?_
    refine WA.eq (pc2 := 27) (st2 := [I ((b2n (!decide (0 ≤ n ∧ n < (m : Int)) || !decide (0 ≤ v ∧ v < (m : Int))) : Nat) : Int), .ref a]) rfl rfl (by
      first
        | (have q := b2n_t c11; rw [q]; rfl)
        | (have q := b2n_f c11; have q2 := b2n_t c19; rw [q, q2]; rfl)
        | (have q := b2n_f c11; have q2 := b2n_f c19; rw [q, q2]; rfl)) ?_
    clear c11
    refine wi_iconst hX dX12_cannotMeet_27 ?_
    refine wa_callV hX (c_X12_fails hW d (th := 0) (k := 1) (b := (!decide (0 ≤ n ∧ n < (m : Int)) || !decide (0 ≤ v ∧ v < (m : Int)))) k1 (by omega) (by omega)) (by assumption) (by rfl) (by rfl) (by omega) (nA := 2) (by rfl) (by decide +kernel) rfl (by exact Nat.le_of_ble_eq_true rfl) dX12_cannotMeet_28 (fun r28 h28 p28 => ?_) (fun _ _ q => q.elim)
    obtain ⟨rfl, hh28⟩ := p28
    have f28 : Fr (fun x => x = 120) hA h28 := by rw [hh28]; exact Fr.hset Fr.rf k1 rfl
    replace k1 : h28 a = some (120, oMod ((if ((!decide (0 ≤ n ∧ n < (m : Int)) || !decide (0 ≤ v ∧ v < (m : Int)))) = true ∧ (0 : Nat) = 0 then 1 else 0 : Nat) : Int) (c : Int) row brk al wk us kp pt) := by rw [hh28]; exact hset_eq
    replace kJ := kJ.fr f28 (fun x hx => by omega)
    replace ff := ff.trans f28
    clear hh28 f28
    rw [show (((!decide (0 ≤ n ∧ n < (m : Int)) || !decide (0 ≤ v ∧ v < (m : Int)))) || (0 : Nat) != 0) = ((!decide (0 ≤ n ∧ n < (m : Int)) || !decide (0 ≤ v ∧ v < (m : Int)))) from Bool.or_false _]
    clear kr kb kwk kus kkp kpt ka ke kI kMat hc60 hw hm24 hMt
    obtain ⟨⟨hc60, hw, hm24, hMt⟩, kr, kb, kwk, kus, kkp, kpt, ed, N, P, ka, ke, kI, kMat⟩ := id kJ
    dsimp only [Option.toList, List.cons_append, List.nil_append]
    refine wi_if_ne hX (tgt := 48) dX12_cannotMeet_31 (by decide) (by exact b2n_inR _) (fun c31 => ?_) (fun c31 => ?_)
    · skip
      refine wi_iconst hX dX12_cannotMeet_48 ?_
      refine wa_goto hX (tgt := 53) dX12_cannotMeet_49 (by decide) ?_
      refine wa_zret hX dX12_cannotMeet_53 (by rfl) ?_
      first
        | (have z := b2n_t c31
           rw [z, if_pos ⟨rfl, rfl⟩] at k1
           refine ⟨ff, Or.inl ⟨?_, rfl, row, brk, al, wk, us, kp, pt, k1, kJ⟩⟩
           rw [Bool.or_eq_true, Bool.not_eq_true', decide_eq_false_iff_not, Bool.not_eq_true', decide_eq_false_iff_not] at z
           exact z)
        | (have z := b2n_t c45
           rw [z, if_pos ⟨rfl, rfl⟩] at k1
           exact ⟨ff, Or.inr ⟨i, j, hi, rfl, hj, rfl, Or.inl ⟨bne_iff_ne.mp z, rfl, row, brk, al, wk, us, kp, pt, k1, kJ⟩⟩⟩)
        | (have z := b2n_f c45
           rw [z, if_neg (fun z => Bool.false_ne_true z.1)] at k1
           rw [bne_eq_false_iff_eq] at z
           exact ⟨ff, Or.inr ⟨i, j, hi, rfl, hj, rfl, Or.inr ⟨z, rfl, row, brk, al, wk, us, kp, pt, k1, kJ⟩⟩⟩)
    · skip
      have hv31 := b2n_f c31
      rw [hv31, if_neg (fun z => Bool.false_ne_true z.1)] at k1
      rw [Bool.or_eq_false_iff, Bool.not_eq_false', decide_eq_true_eq, Bool.not_eq_false', decide_eq_true_eq] at hv31
      obtain ⟨i, rfl⟩ := Int.eq_ofNat_of_zero_le hv31.1.1
      obtain ⟨j, rfl⟩ := Int.eq_ofNat_of_zero_le hv31.2.1
      have hi : i < m := by omega
      have hj : j < m := by omega
      obtain ⟨e3, hN1, hN2⟩ : h28 ed = some (124, aR (.object "java/lang/Object") N (fun j => if j < m then some (P j) else none)) ∧ m ≤ N ∧ N ≤ 100 := by
        rcases ke with z | z
        · exfalso; omega
        · exact z
      obtain ⟨rq, m2, m3, l2, l3, G, g1, g2, g3, g4, g5⟩ := id (kMat i hi)
      have hMi := hMt i hi
      have he := hMi.1
      have hp := p2_le he
      have hp0 := p2_pos (E i)
      obtain ⟨rq', m2', m3', l2', l3', G', u1, u2⟩ := id (kMat j hj)
      refine wa_aload_n hX (i := 0) dX12_cannotMeet_34 rfl rfl ?_
      refine wa_aload_n hX (i := 0) dX12_cannotMeet_35 rfl rfl ?_
      refine wa_iload_n hX (i := 1) dX12_cannotMeet_36 rfl rfl ?_
      refine wa_iload_n hX (i := 2) dX12_cannotMeet_37 rfl rfl ?_
      refine wa_callV hX (c_X12_areUnlike hW d k1 ka e3 hN1 hN2 hi g1 he hj u1 (hMt j hj).1) (by assumption) (by rfl) (by rfl) (by omega) (nA := 2) (by rfl) (by decide +kernel) rfl (by exact Nat.le_of_ble_eq_true rfl) dX12_cannotMeet_38 (fun r38 h38 p38 => ?_) (fun _ _ q => q.elim)
      obtain ⟨rfl, qq38⟩ := p38; subst h38
      dsimp only [Option.toList, List.cons_append, List.nil_append]
      refine wi_iconst hX dX12_cannotMeet_41 ?_
      refine wa_callV hX (c_X12_fails hW d (th := 0) (k := 2) (b := (E i != E j)) k1 (by omega) (by omega)) (by assumption) (by rfl) (by rfl) (by omega) (nA := 2) (by rfl) (by decide +kernel) rfl (by exact Nat.le_of_ble_eq_true rfl) dX12_cannotMeet_42 (fun r42 h42 p42 => ?_) (fun _ _ q => q.elim)
      obtain ⟨rfl, hh42⟩ := p42
      have f42 : Fr (fun x => x = 120) h28 h42 := by rw [hh42]; exact Fr.hset Fr.rf k1 rfl
      replace k1 : h42 a = some (120, oMod ((if ((E i != E j)) = true ∧ (0 : Nat) = 0 then 2 else 0 : Nat) : Int) (c : Int) row brk al wk us kp pt) := by rw [hh42]; exact hset_eq
      replace kJ := kJ.fr f42 (fun x hx => by omega)
      replace ff := ff.trans f42
      clear hh42 f42
      rw [show (((E i != E j)) || (0 : Nat) != 0) = ((E i != E j)) from Bool.or_false _]
      clear kr kb kwk kus kkp kpt ka ke kI kMat hc60 hw hm24 hMt
      obtain ⟨⟨hc60, hw, hm24, hMt⟩, kr, kb, kwk, kus, kkp, kpt, ed, N, P, ka, ke, kI, kMat⟩ := id kJ
      dsimp only [Option.toList, List.cons_append, List.nil_append]
      refine wi_if_eq hX (tgt := 52) dX12_cannotMeet_45 (by decide) (by exact b2n_inR _) (fun c45 => ?_) (fun c45 => ?_)
      · skip
        refine wi_iconst hX dX12_cannotMeet_52 ?_
        refine wa_zret hX dX12_cannotMeet_53 (by rfl) ?_
        first
          | (have z := b2n_t c31
             rw [z, if_pos ⟨rfl, rfl⟩] at k1
             refine ⟨ff, Or.inl ⟨?_, rfl, row, brk, al, wk, us, kp, pt, k1, kJ⟩⟩
             rw [Bool.or_eq_true, Bool.not_eq_true', decide_eq_false_iff_not, Bool.not_eq_true', decide_eq_false_iff_not] at z
             exact z)
          | (have z := b2n_t c45
             rw [z, if_pos ⟨rfl, rfl⟩] at k1
             exact ⟨ff, Or.inr ⟨i, j, hi, rfl, hj, rfl, Or.inl ⟨bne_iff_ne.mp z, rfl, row, brk, al, wk, us, kp, pt, k1, kJ⟩⟩⟩)
          | (have z := b2n_f c45
             rw [z, if_neg (fun z => Bool.false_ne_true z.1)] at k1
             rw [bne_eq_false_iff_eq] at z
             exact ⟨ff, Or.inr ⟨i, j, hi, rfl, hj, rfl, Or.inr ⟨z, rfl, row, brk, al, wk, us, kp, pt, k1, kJ⟩⟩⟩)
      · skip
        refine wi_iconst hX dX12_cannotMeet_48 ?_
        refine wa_goto hX (tgt := 53) dX12_cannotMeet_49 (by decide) ?_
        refine wa_zret hX dX12_cannotMeet_53 (by rfl) ?_
        first
          | (have z := b2n_t c31
             rw [z, if_pos ⟨rfl, rfl⟩] at k1
             refine ⟨ff, Or.inl ⟨?_, rfl, row, brk, al, wk, us, kp, pt, k1, kJ⟩⟩
             rw [Bool.or_eq_true, Bool.not_eq_true', decide_eq_false_iff_not, Bool.not_eq_true', decide_eq_false_iff_not] at z
             exact z)
          | (have z := b2n_t c45
             rw [z, if_pos ⟨rfl, rfl⟩] at k1
             exact ⟨ff, Or.inr ⟨i, j, hi, rfl, hj, rfl, Or.inl ⟨bne_iff_ne.mp z, rfl, row, brk, al, wk, us, kp, pt, k1, kJ⟩⟩⟩)
          | (have z := b2n_f c45
             rw [z, if_neg (fun z => Bool.false_ne_true z.1)] at k1
             rw [bne_eq_false_iff_eq] at z
             exact ⟨ff, Or.inr ⟨i, j, hi, rfl, hj, rfl, Or.inr ⟨z, rfl, row, brk, al, wk, us, kp, pt, k1, kJ⟩⟩⟩)
  · skip
    refine wa_aload_n hX (i := 0) dX12_cannotMeet_14 rfl rfl ?_
    refine wa_iload_n hX (i := 2) dX12_cannotMeet_15 rfl rfl ?_
    refine wa_callV hX (c_X12_no hW (d + 1) k1 ka hm24 hv) (by assumption) (by rfl) (by rfl) (by omega) (nA := 1) (by rfl) (by decide +kernel) rfl (by exact Nat.le_of_ble_eq_true rfl) dX12_cannotMeet_16 (fun r16 h16 p16 => ?_) (fun _ _ q => q.elim)
    obtain ⟨rfl, qq16⟩ := p16; subst h16
    dsimp only [Option.toList, List.cons_append, List.nil_append]
    refine wi_if_eq hX (tgt := 26) dX12_cannotMeet_19 (by decide) (by exact b2n_inR _) (fun c19 => ?_) (fun c19 => ?_)
    · skip
      refine wi_iconst hX dX12_cannotMeet_26 ?_
      refine WA.eq (pc2 := 27) (st2 := [I ((b2n (!decide (0 ≤ n ∧ n < (m : Int)) || !decide (0 ≤ v ∧ v < (m : Int))) : Nat) : Int), .ref a]) rfl rfl (by
        first
          | (have q := b2n_t c11; rw [q]; rfl)
          | (have q := b2n_f c11; have q2 := b2n_t c19; rw [q, q2]; rfl)
          | (have q := b2n_f c11; have q2 := b2n_f c19; rw [q, q2]; rfl)) ?_
      clear c11
      refine wi_iconst hX dX12_cannotMeet_27 ?_
      refine wa_callV hX (c_X12_fails hW d (th := 0) (k := 1) (b := (!decide (0 ≤ n ∧ n < (m : Int)) || !decide (0 ≤ v ∧ v < (m : Int)))) k1 (by omega) (by omega)) (by assumption) (by rfl) (by rfl) (by omega) (nA := 2) (by rfl) (by decide +kernel) rfl (by exact Nat.le_of_ble_eq_true rfl) dX12_cannotMeet_28 (fun r28 h28 p28 => ?_) (fun _ _ q => q.elim)
      obtain ⟨rfl, hh28⟩ := p28
      have f28 : Fr (fun x => x = 120) hA h28 := by rw [hh28]; exact Fr.hset Fr.rf k1 rfl
      replace k1 : h28 a = some (120, oMod ((if ((!decide (0 ≤ n ∧ n < (m : Int)) || !decide (0 ≤ v ∧ v < (m : Int)))) = true ∧ (0 : Nat) = 0 then 1 else 0 : Nat) : Int) (c : Int) row brk al wk us kp pt) := by rw [hh28]; exact hset_eq
      replace kJ := kJ.fr f28 (fun x hx => by omega)
      replace ff := ff.trans f28
      clear hh28 f28
      rw [show (((!decide (0 ≤ n ∧ n < (m : Int)) || !decide (0 ≤ v ∧ v < (m : Int)))) || (0 : Nat) != 0) = ((!decide (0 ≤ n ∧ n < (m : Int)) || !decide (0 ≤ v ∧ v < (m : Int)))) from Bool.or_false _]
      clear kr kb kwk kus kkp kpt ka ke kI kMat hc60 hw hm24 hMt
      obtain ⟨⟨hc60, hw, hm24, hMt⟩, kr, kb, kwk, kus, kkp, kpt, ed, N, P, ka, ke, kI, kMat⟩ := id kJ
      dsimp only [Option.toList, List.cons_append, List.nil_append]
      refine wi_if_ne hX (tgt := 48) dX12_cannotMeet_31 (by decide) (by exact b2n_inR _) (fun c31 => ?_) (fun c31 => ?_)
      · skip
        refine wi_iconst hX dX12_cannotMeet_48 ?_
        refine wa_goto hX (tgt := 53) dX12_cannotMeet_49 (by decide) ?_
        refine wa_zret hX dX12_cannotMeet_53 (by rfl) ?_
        first
          | (have z := b2n_t c31
             rw [z, if_pos ⟨rfl, rfl⟩] at k1
             refine ⟨ff, Or.inl ⟨?_, rfl, row, brk, al, wk, us, kp, pt, k1, kJ⟩⟩
             rw [Bool.or_eq_true, Bool.not_eq_true', decide_eq_false_iff_not, Bool.not_eq_true', decide_eq_false_iff_not] at z
             exact z)
          | (have z := b2n_t c45
             rw [z, if_pos ⟨rfl, rfl⟩] at k1
             exact ⟨ff, Or.inr ⟨i, j, hi, rfl, hj, rfl, Or.inl ⟨bne_iff_ne.mp z, rfl, row, brk, al, wk, us, kp, pt, k1, kJ⟩⟩⟩)
          | (have z := b2n_f c45
             rw [z, if_neg (fun z => Bool.false_ne_true z.1)] at k1
             rw [bne_eq_false_iff_eq] at z
             exact ⟨ff, Or.inr ⟨i, j, hi, rfl, hj, rfl, Or.inr ⟨z, rfl, row, brk, al, wk, us, kp, pt, k1, kJ⟩⟩⟩)
      · skip
        have hv31 := b2n_f c31
        rw [hv31, if_neg (fun z => Bool.false_ne_true z.1)] at k1
        rw [Bool.or_eq_false_iff, Bool.not_eq_false', decide_eq_true_eq, Bool.not_eq_false', decide_eq_true_eq] at hv31
        obtain ⟨i, rfl⟩ := Int.eq_ofNat_of_zero_le hv31.1.1
        obtain ⟨j, rfl⟩ := Int.eq_ofNat_of_zero_le hv31.2.1
        have hi : i < m := by omega
        have hj : j < m := by omega
        obtain ⟨e3, hN1, hN2⟩ : h28 ed = some (124, aR (.object "java/lang/Object") N (fun j => if j < m then some (P j) else none)) ∧ m ≤ N ∧ N ≤ 100 := by
          rcases ke with z | z
          · exfalso; omega
          · exact z
        obtain ⟨rq, m2, m3, l2, l3, G, g1, g2, g3, g4, g5⟩ := id (kMat i hi)
        have hMi := hMt i hi
        have he := hMi.1
        have hp := p2_le he
        have hp0 := p2_pos (E i)
        obtain ⟨rq', m2', m3', l2', l3', G', u1, u2⟩ := id (kMat j hj)
        refine wa_aload_n hX (i := 0) dX12_cannotMeet_34 rfl rfl ?_
        refine wa_aload_n hX (i := 0) dX12_cannotMeet_35 rfl rfl ?_
        refine wa_iload_n hX (i := 1) dX12_cannotMeet_36 rfl rfl ?_
        refine wa_iload_n hX (i := 2) dX12_cannotMeet_37 rfl rfl ?_
        refine wa_callV hX (c_X12_areUnlike hW d k1 ka e3 hN1 hN2 hi g1 he hj u1 (hMt j hj).1) (by assumption) (by rfl) (by rfl) (by omega) (nA := 2) (by rfl) (by decide +kernel) rfl (by exact Nat.le_of_ble_eq_true rfl) dX12_cannotMeet_38 (fun r38 h38 p38 => ?_) (fun _ _ q => q.elim)
        obtain ⟨rfl, qq38⟩ := p38; subst h38
        dsimp only [Option.toList, List.cons_append, List.nil_append]
        refine wi_iconst hX dX12_cannotMeet_41 ?_
        refine wa_callV hX (c_X12_fails hW d (th := 0) (k := 2) (b := (E i != E j)) k1 (by omega) (by omega)) (by assumption) (by rfl) (by rfl) (by omega) (nA := 2) (by rfl) (by decide +kernel) rfl (by exact Nat.le_of_ble_eq_true rfl) dX12_cannotMeet_42 (fun r42 h42 p42 => ?_) (fun _ _ q => q.elim)
        obtain ⟨rfl, hh42⟩ := p42
        have f42 : Fr (fun x => x = 120) h28 h42 := by rw [hh42]; exact Fr.hset Fr.rf k1 rfl
        replace k1 : h42 a = some (120, oMod ((if ((E i != E j)) = true ∧ (0 : Nat) = 0 then 2 else 0 : Nat) : Int) (c : Int) row brk al wk us kp pt) := by rw [hh42]; exact hset_eq
        replace kJ := kJ.fr f42 (fun x hx => by omega)
        replace ff := ff.trans f42
        clear hh42 f42
        rw [show (((E i != E j)) || (0 : Nat) != 0) = ((E i != E j)) from Bool.or_false _]
        clear kr kb kwk kus kkp kpt ka ke kI kMat hc60 hw hm24 hMt
        obtain ⟨⟨hc60, hw, hm24, hMt⟩, kr, kb, kwk, kus, kkp, kpt, ed, N, P, ka, ke, kI, kMat⟩ := id kJ
        dsimp only [Option.toList, List.cons_append, List.nil_append]
        refine wi_if_eq hX (tgt := 52) dX12_cannotMeet_45 (by decide) (by exact b2n_inR _) (fun c45 => ?_) (fun c45 => ?_)
        · skip
          refine wi_iconst hX dX12_cannotMeet_52 ?_
          refine wa_zret hX dX12_cannotMeet_53 (by rfl) ?_
          first
            | (have z := b2n_t c31
               rw [z, if_pos ⟨rfl, rfl⟩] at k1
               refine ⟨ff, Or.inl ⟨?_, rfl, row, brk, al, wk, us, kp, pt, k1, kJ⟩⟩
               rw [Bool.or_eq_true, Bool.not_eq_true', decide_eq_false_iff_not, Bool.not_eq_true', decide_eq_false_iff_not] at z
               exact z)
            | (have z := b2n_t c45
               rw [z, if_pos ⟨rfl, rfl⟩] at k1
               exact ⟨ff, Or.inr ⟨i, j, hi, rfl, hj, rfl, Or.inl ⟨bne_iff_ne.mp z, rfl, row, brk, al, wk, us, kp, pt, k1, kJ⟩⟩⟩)
            | (have z := b2n_f c45
               rw [z, if_neg (fun z => Bool.false_ne_true z.1)] at k1
               rw [bne_eq_false_iff_eq] at z
               exact ⟨ff, Or.inr ⟨i, j, hi, rfl, hj, rfl, Or.inr ⟨z, rfl, row, brk, al, wk, us, kp, pt, k1, kJ⟩⟩⟩)
        · skip
          refine wi_iconst hX dX12_cannotMeet_48 ?_
          refine wa_goto hX (tgt := 53) dX12_cannotMeet_49 (by decide) ?_
          refine wa_zret hX dX12_cannotMeet_53 (by rfl) ?_
          first
            | (have z := b2n_t c31
               rw [z, if_pos ⟨rfl, rfl⟩] at k1
               refine ⟨ff, Or.inl ⟨?_, rfl, row, brk, al, wk, us, kp, pt, k1, kJ⟩⟩
               rw [Bool.or_eq_true, Bool.not_eq_true', decide_eq_false_iff_not, Bool.not_eq_true', decide_eq_false_iff_not] at z
               exact z)
            | (have z := b2n_t c45
               rw [z, if_pos ⟨rfl, rfl⟩] at k1
               exact ⟨ff, Or.inr ⟨i, j, hi, rfl, hj, rfl, Or.inl ⟨bne_iff_ne.mp z, rfl, row, brk, al, wk, us, kp, pt, k1, kJ⟩⟩⟩)
            | (have z := b2n_f c45
               rw [z, if_neg (fun z => Bool.false_ne_true z.1)] at k1
               rw [bne_eq_false_iff_eq] at z
               exact ⟨ff, Or.inr ⟨i, j, hi, rfl, hj, rfl, Or.inr ⟨z, rfl, row, brk, al, wk, us, kp, pt, k1, kJ⟩⟩⟩)
    · skip
      refine wi_iconst hX dX12_cannotMeet_22 ?_
      refine wa_goto hX (tgt := 27) dX12_cannotMeet_23 (by decide) ?_
      refine WA.eq (pc2 := 27) (st2 := [I ((b2n (!decide (0 ≤ n ∧ n < (m : Int)) || !decide (0 ≤ v ∧ v < (m : Int))) : Nat) : Int), .ref a]) rfl rfl (by
        first
          | (have q := b2n_t c11; rw [q]; rfl)
          | (have q := b2n_f c11; have q2 := b2n_t c19; rw [q, q2]; rfl)
          | (have q := b2n_f c11; have q2 := b2n_f c19; rw [q, q2]; rfl)) ?_
      clear c11
      refine wi_iconst hX dX12_cannotMeet_27 ?_
      refine wa_callV hX (c_X12_fails hW d (th := 0) (k := 1) (b := (!decide (0 ≤ n ∧ n < (m : Int)) || !decide (0 ≤ v ∧ v < (m : Int)))) k1 (by omega) (by omega)) (by assumption) (by rfl) (by rfl) (by omega) (nA := 2) (by rfl) (by decide +kernel) rfl (by exact Nat.le_of_ble_eq_true rfl) dX12_cannotMeet_28 (fun r28 h28 p28 => ?_) (fun _ _ q => q.elim)
      obtain ⟨rfl, hh28⟩ := p28
      have f28 : Fr (fun x => x = 120) hA h28 := by rw [hh28]; exact Fr.hset Fr.rf k1 rfl
      replace k1 : h28 a = some (120, oMod ((if ((!decide (0 ≤ n ∧ n < (m : Int)) || !decide (0 ≤ v ∧ v < (m : Int)))) = true ∧ (0 : Nat) = 0 then 1 else 0 : Nat) : Int) (c : Int) row brk al wk us kp pt) := by rw [hh28]; exact hset_eq
      replace kJ := kJ.fr f28 (fun x hx => by omega)
      replace ff := ff.trans f28
      clear hh28 f28
      rw [show (((!decide (0 ≤ n ∧ n < (m : Int)) || !decide (0 ≤ v ∧ v < (m : Int)))) || (0 : Nat) != 0) = ((!decide (0 ≤ n ∧ n < (m : Int)) || !decide (0 ≤ v ∧ v < (m : Int)))) from Bool.or_false _]
      clear kr kb kwk kus kkp kpt ka ke kI kMat hc60 hw hm24 hMt
      obtain ⟨⟨hc60, hw, hm24, hMt⟩, kr, kb, kwk, kus, kkp, kpt, ed, N, P, ka, ke, kI, kMat⟩ := id kJ
      dsimp only [Option.toList, List.cons_append, List.nil_append]
      refine wi_if_ne hX (tgt := 48) dX12_cannotMeet_31 (by decide) (by exact b2n_inR _) (fun c31 => ?_) (fun c31 => ?_)
      · skip
        refine wi_iconst hX dX12_cannotMeet_48 ?_
        refine wa_goto hX (tgt := 53) dX12_cannotMeet_49 (by decide) ?_
        refine wa_zret hX dX12_cannotMeet_53 (by rfl) ?_
        first
          | (have z := b2n_t c31
             rw [z, if_pos ⟨rfl, rfl⟩] at k1
             refine ⟨ff, Or.inl ⟨?_, rfl, row, brk, al, wk, us, kp, pt, k1, kJ⟩⟩
             rw [Bool.or_eq_true, Bool.not_eq_true', decide_eq_false_iff_not, Bool.not_eq_true', decide_eq_false_iff_not] at z
             exact z)
          | (have z := b2n_t c45
             rw [z, if_pos ⟨rfl, rfl⟩] at k1
             exact ⟨ff, Or.inr ⟨i, j, hi, rfl, hj, rfl, Or.inl ⟨bne_iff_ne.mp z, rfl, row, brk, al, wk, us, kp, pt, k1, kJ⟩⟩⟩)
          | (have z := b2n_f c45
             rw [z, if_neg (fun z => Bool.false_ne_true z.1)] at k1
             rw [bne_eq_false_iff_eq] at z
             exact ⟨ff, Or.inr ⟨i, j, hi, rfl, hj, rfl, Or.inr ⟨z, rfl, row, brk, al, wk, us, kp, pt, k1, kJ⟩⟩⟩)
      · skip
        have hv31 := b2n_f c31
        rw [hv31, if_neg (fun z => Bool.false_ne_true z.1)] at k1
        rw [Bool.or_eq_false_iff, Bool.not_eq_false', decide_eq_true_eq, Bool.not_eq_false', decide_eq_true_eq] at hv31
        obtain ⟨i, rfl⟩ := Int.eq_ofNat_of_zero_le hv31.1.1
        obtain ⟨j, rfl⟩ := Int.eq_ofNat_of_zero_le hv31.2.1
        have hi : i < m := by omega
        have hj : j < m := by omega
        obtain ⟨e3, hN1, hN2⟩ : h28 ed = some (124, aR (.object "java/lang/Object") N (fun j => if j < m then some (P j) else none)) ∧ m ≤ N ∧ N ≤ 100 := by
          rcases ke with z | z
          · exfalso; omega
          · exact z
        obtain ⟨rq, m2, m3, l2, l3, G, g1, g2, g3, g4, g5⟩ := id (kMat i hi)
        have hMi := hMt i hi
        have he := hMi.1
        have hp := p2_le he
        have hp0 := p2_pos (E i)
        obtain ⟨rq', m2', m3', l2', l3', G', u1, u2⟩ := id (kMat j hj)
        refine wa_aload_n hX (i := 0) dX12_cannotMeet_34 rfl rfl ?_
        refine wa_aload_n hX (i := 0) dX12_cannotMeet_35 rfl rfl ?_
        refine wa_iload_n hX (i := 1) dX12_cannotMeet_36 rfl rfl ?_
        refine wa_iload_n hX (i := 2) dX12_cannotMeet_37 rfl rfl ?_
        refine wa_callV hX (c_X12_areUnlike hW d k1 ka e3 hN1 hN2 hi g1 he hj u1 (hMt j hj).1) (by assumption) (by rfl) (by rfl) (by omega) (nA := 2) (by rfl) (by decide +kernel) rfl (by exact Nat.le_of_ble_eq_true rfl) dX12_cannotMeet_38 (fun r38 h38 p38 => ?_) (fun _ _ q => q.elim)
        obtain ⟨rfl, qq38⟩ := p38; subst h38
        dsimp only [Option.toList, List.cons_append, List.nil_append]
        refine wi_iconst hX dX12_cannotMeet_41 ?_
        refine wa_callV hX (c_X12_fails hW d (th := 0) (k := 2) (b := (E i != E j)) k1 (by omega) (by omega)) (by assumption) (by rfl) (by rfl) (by omega) (nA := 2) (by rfl) (by decide +kernel) rfl (by exact Nat.le_of_ble_eq_true rfl) dX12_cannotMeet_42 (fun r42 h42 p42 => ?_) (fun _ _ q => q.elim)
        obtain ⟨rfl, hh42⟩ := p42
        have f42 : Fr (fun x => x = 120) h28 h42 := by rw [hh42]; exact Fr.hset Fr.rf k1 rfl
        replace k1 : h42 a = some (120, oMod ((if ((E i != E j)) = true ∧ (0 : Nat) = 0 then 2 else 0 : Nat) : Int) (c : Int) row brk al wk us kp pt) := by rw [hh42]; exact hset_eq
        replace kJ := kJ.fr f42 (fun x hx => by omega)
        replace ff := ff.trans f42
        clear hh42 f42
        rw [show (((E i != E j)) || (0 : Nat) != 0) = ((E i != E j)) from Bool.or_false _]
        clear kr kb kwk kus kkp kpt ka ke kI kMat hc60 hw hm24 hMt
        obtain ⟨⟨hc60, hw, hm24, hMt⟩, kr, kb, kwk, kus, kkp, kpt, ed, N, P, ka, ke, kI, kMat⟩ := id kJ
        dsimp only [Option.toList, List.cons_append, List.nil_append]
        refine wi_if_eq hX (tgt := 52) dX12_cannotMeet_45 (by decide) (by exact b2n_inR _) (fun c45 => ?_) (fun c45 => ?_)
        · skip
          refine wi_iconst hX dX12_cannotMeet_52 ?_
          refine wa_zret hX dX12_cannotMeet_53 (by rfl) ?_
          first
            | (have z := b2n_t c31
               rw [z, if_pos ⟨rfl, rfl⟩] at k1
               refine ⟨ff, Or.inl ⟨?_, rfl, row, brk, al, wk, us, kp, pt, k1, kJ⟩⟩
               rw [Bool.or_eq_true, Bool.not_eq_true', decide_eq_false_iff_not, Bool.not_eq_true', decide_eq_false_iff_not] at z
               exact z)
            | (have z := b2n_t c45
               rw [z, if_pos ⟨rfl, rfl⟩] at k1
               exact ⟨ff, Or.inr ⟨i, j, hi, rfl, hj, rfl, Or.inl ⟨bne_iff_ne.mp z, rfl, row, brk, al, wk, us, kp, pt, k1, kJ⟩⟩⟩)
            | (have z := b2n_f c45
               rw [z, if_neg (fun z => Bool.false_ne_true z.1)] at k1
               rw [bne_eq_false_iff_eq] at z
               exact ⟨ff, Or.inr ⟨i, j, hi, rfl, hj, rfl, Or.inr ⟨z, rfl, row, brk, al, wk, us, kp, pt, k1, kJ⟩⟩⟩)
        · skip
          refine wi_iconst hX dX12_cannotMeet_48 ?_
          refine wa_goto hX (tgt := 53) dX12_cannotMeet_49 (by decide) ?_
          refine wa_zret hX dX12_cannotMeet_53 (by rfl) ?_
          first
            | (have z := b2n_t c31
               rw [z, if_pos ⟨rfl, rfl⟩] at k1
               refine ⟨ff, Or.inl ⟨?_, rfl, row, brk, al, wk, us, kp, pt, k1, kJ⟩⟩
               rw [Bool.or_eq_true, Bool.not_eq_true', decide_eq_false_iff_not, Bool.not_eq_true', decide_eq_false_iff_not] at z
               exact z)
            | (have z := b2n_t c45
               rw [z, if_pos ⟨rfl, rfl⟩] at k1
               exact ⟨ff, Or.inr ⟨i, j, hi, rfl, hj, rfl, Or.inl ⟨bne_iff_ne.mp z, rfl, row, brk, al, wk, us, kp, pt, k1, kJ⟩⟩⟩)
            | (have z := b2n_f c45
               rw [z, if_neg (fun z => Bool.false_ne_true z.1)] at k1
               rw [bne_eq_false_iff_eq] at z
               exact ⟨ff, Or.inr ⟨i, j, hi, rfl, hj, rfl, Or.inr ⟨z, rfl, row, brk, al, wk, us, kp, pt, k1, kJ⟩⟩⟩)
end C89
