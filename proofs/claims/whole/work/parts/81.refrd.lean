/-! The reference (X12): reads; type, erase -/
section C81
variable {l : Launch} {D : va_G} {S0 : State} {Z : Nat → Prop} {DR : (Nat → Nat) → Nat → Nat → Option (Nat → Nat) → Prop}
set_option maxHeartbeats 2000000 in
set_option maxRecDepth 100000 in
theorem c_X12_rank (hW : WOK l D S0) (d : Nat) {h : AH} {a th : Nat} {c m : Nat} {w : Nat → Nat} {E : Nat → Nat} {R : Nat → Nat → Nat} {b0 b1 b2 : Int} (hI : RI Z DR h a th c w m E R b0 b1 b2) {n s : Int} (hn : inR n) (hs : inR s) : MA l D S0 yX12_rank cX12_rank 3 (some .int) (d + 4) [.ref a, I n, I s] h 0 0 (fun r h' => Fr (fun x => x = 120) h h' ∧ ((noM n m ∧ (∃ z, r = some (I z)) ∧ RI Z DR h' a 1 c w m E R b0 b1 b2) ∨ ∃ i, i < m ∧ n = (i : Int) ∧ ((¬ (0 ≤ s ∧ s < ((2 ^ E i : Nat) : Int)) ∧ (∃ z, r = some (I z)) ∧ RI Z DR h' a 2 c w m E R b0 b1 b2) ∨ ∃ t : Nat, t < 2 ^ E i ∧ s = (t : Int) ∧ r = some (I (R i t : Nat)) ∧ RI Z DR h' a 0 c w m E R b0 b1 b2))) (fun _ _ => False) := by
  obtain ⟨row, brk, al, wk, us, kp, pt, k1, kJ⟩ := hI
  refine MA.start hW (by decide) [.val (.ref a), .val (I n), .val (I s)] rfl ?_
  rintro X rfl rfl rfl hX
  refine wa_aload_n hX (i := 0) dX12_rank_0 rfl rfl ?_
  refine wi_iconst hX dX12_rank_1 ?_
  refine wa_put hX 0 k1 (Nat.le_of_ble_eq_true rfl) (by decide +kernel) (by rfl) (by rfl) (by rfl) dX12_rank_2 ?_
  refine WA.heap (h2 := hset h a (120, oMod ((0 : Nat) : Int) (c : Int) row brk al wk us kp pt)) rfl ?_
  refine WA.hgq (fun hA hh2 => ?_)
  have ff : Fr (fun x => x = 120) h hA := by rw [hh2]; exact Fr.hset Fr.rf k1 rfl
  replace k1 : hA a = some (120, oMod ((0 : Nat) : Int) (c : Int) row brk al wk us kp pt) := by rw [hh2]; exact hset_eq
  replace kJ := kJ.fr ff (fun x hx => by omega)
  clear hh2
  obtain ⟨⟨hc60, hw, hm24, hMt⟩, kr, kb, kwk, kus, kkp, kpt, ed, N, P, ka, ke, kI, kMat⟩ := id kJ
  refine wa_aload_n hX (i := 0) dX12_rank_5 rfl rfl ?_
  refine wa_aload_n hX (i := 0) dX12_rank_6 rfl rfl ?_
  refine wa_iload_n hX (i := 1) dX12_rank_7 rfl rfl ?_
  refine wa_callV hX (c_X12_no hW (d + 1) k1 ka hm24 hn) (by assumption) (by rfl) (by rfl) (by omega) (nA := 1) (by rfl) (by decide +kernel) rfl (by exact Nat.le_of_ble_eq_true rfl) dX12_rank_8 (fun r8 h8 p8 => ?_) (fun _ _ q => q.elim)
  obtain ⟨rfl, qq8⟩ := p8; subst h8
  dsimp only [Option.toList, List.cons_append, List.nil_append]
  refine wi_iconst hX dX12_rank_11 ?_
  refine wa_callV hX (c_X12_fails hW d (th := 0) (k := 1) (b := (!decide (0 ≤ n ∧ n < (m : Int)))) k1 (by omega) (by omega)) (by assumption) (by rfl) (by rfl) (by omega) (nA := 2) (by rfl) (by decide +kernel) rfl (by exact Nat.le_of_ble_eq_true rfl) dX12_rank_12 (fun r12 h12 p12 => ?_) (fun _ _ q => q.elim)
  obtain ⟨rfl, hh12⟩ := p12
  have f12 : Fr (fun x => x = 120) hA h12 := by rw [hh12]; exact Fr.hset Fr.rf k1 rfl
  replace k1 : h12 a = some (120, oMod ((if ((!decide (0 ≤ n ∧ n < (m : Int)))) = true ∧ (0 : Nat) = 0 then 1 else 0 : Nat) : Int) (c : Int) row brk al wk us kp pt) := by rw [hh12]; exact hset_eq
  replace kJ := kJ.fr f12 (fun x hx => by omega)
  replace ff := ff.trans f12
  clear hh12 f12
  rw [show (((!decide (0 ≤ n ∧ n < (m : Int)))) || (0 : Nat) != 0) = ((!decide (0 ≤ n ∧ n < (m : Int)))) from Bool.or_false _]
  clear kr kb kwk kus kkp kpt ka ke kI kMat hc60 hw hm24 hMt
  obtain ⟨⟨hc60, hw, hm24, hMt⟩, kr, kb, kwk, kus, kkp, kpt, ed, N, P, ka, ke, kI, kMat⟩ := id kJ
  dsimp only [Option.toList, List.cons_append, List.nil_append]
  refine wi_if_ne hX (tgt := 32) dX12_rank_15 (by decide) (by exact b2n_inR _) (fun c15 => ?_) (fun c15 => ?_)
  · skip
    refine wi_iconst hX dX12_rank_32 ?_
    refine wa_goto hX (tgt := 52) dX12_rank_33 (by decide) ?_
    first
      | rw [Int.toNat_natCast, g3 t ht]
      | skip
    refine wa_iret hX dX12_rank_52 ?_
    first
      | (have z := b2n_t c15
         rw [z, if_pos ⟨rfl, rfl⟩] at k1
         rw [Bool.not_eq_true', decide_eq_false_iff_not] at z
         exact ⟨ff, Or.inl ⟨z, ⟨_, rfl⟩, row, brk, al, wk, us, kp, pt, k1, kJ⟩⟩)
      | (have z := b2n_t c29
         rw [z, if_pos ⟨rfl, rfl⟩] at k1
         rw [Bool.not_eq_true', decide_eq_false_iff_not] at z
         exact ⟨ff, Or.inr ⟨i, hi, rfl, Or.inl ⟨z, ⟨_, rfl⟩, row, brk, al, wk, us, kp, pt, k1, kJ⟩⟩⟩)
      | exact ⟨ff, Or.inr ⟨i, hi, rfl, Or.inr ⟨t, ht, rfl, rfl, row, brk, al, wk, us, kp, pt, k1, kJ⟩⟩⟩
  · skip
    have hv := b2n_f c15
    rw [hv, if_neg (fun z => Bool.false_ne_true z.1)] at k1
    rw [Bool.not_eq_false', decide_eq_true_eq] at hv
    obtain ⟨i, rfl⟩ := Int.eq_ofNat_of_zero_le hv.1
    have hi : i < m := by omega
    obtain ⟨e3, hN1, hN2⟩ : h12 ed = some (124, aR (.object "java/lang/Object") N (fun j => if j < m then some (P j) else none)) ∧ m ≤ N ∧ N ≤ 100 := by
      rcases ke with z | z
      · exfalso; omega
      · exact z
    obtain ⟨rq, m2, m3, l2, l3, G, g1, g2, g3, g4, g5⟩ := id (kMat i hi)
    have hMi := hMt i hi
    have he := hMi.1
    have hp := p2_le he
    have hp0 := p2_pos (E i)
    refine wa_aload_n hX (i := 0) dX12_rank_18 rfl rfl ?_
    refine wa_aload_n hX (i := 0) dX12_rank_19 rfl rfl ?_
    refine wa_iload_n hX (i := 1) dX12_rank_20 rfl rfl ?_
    refine wa_iload_n hX (i := 2) dX12_rank_21 rfl rfl ?_
    refine wa_callV hX (c_X12_noSet hW d k1 ka e3 hN1 hN2 hi g1 he hs) (by assumption) (by rfl) (by rfl) (by omega) (nA := 2) (by rfl) (by decide +kernel) rfl (by exact Nat.le_of_ble_eq_true rfl) dX12_rank_22 (fun r22 h22 p22 => ?_) (fun _ _ q => q.elim)
    obtain ⟨rfl, qq22⟩ := p22; subst h22
    dsimp only [Option.toList, List.cons_append, List.nil_append]
    refine wi_iconst hX dX12_rank_25 ?_
    refine wa_callV hX (c_X12_fails hW d (th := 0) (k := 2) (b := (!decide (0 ≤ s ∧ s < ((2 ^ E i : Nat) : Int)))) k1 (by omega) (by omega)) (by assumption) (by rfl) (by rfl) (by omega) (nA := 2) (by rfl) (by decide +kernel) rfl (by exact Nat.le_of_ble_eq_true rfl) dX12_rank_26 (fun r26 h26 p26 => ?_) (fun _ _ q => q.elim)
    obtain ⟨rfl, hh26⟩ := p26
    have f26 : Fr (fun x => x = 120) h12 h26 := by rw [hh26]; exact Fr.hset Fr.rf k1 rfl
    replace k1 : h26 a = some (120, oMod ((if ((!decide (0 ≤ s ∧ s < ((2 ^ E i : Nat) : Int)))) = true ∧ (0 : Nat) = 0 then 2 else 0 : Nat) : Int) (c : Int) row brk al wk us kp pt) := by rw [hh26]; exact hset_eq
    replace kJ := kJ.fr f26 (fun x hx => by omega)
    replace ff := ff.trans f26
    clear hh26 f26
    rw [show (((!decide (0 ≤ s ∧ s < ((2 ^ E i : Nat) : Int)))) || (0 : Nat) != 0) = ((!decide (0 ≤ s ∧ s < ((2 ^ E i : Nat) : Int)))) from Bool.or_false _]
    clear kr kb kwk kus kkp kpt ka ke kI kMat hc60 hw hm24 hMt
    obtain ⟨⟨hc60, hw, hm24, hMt⟩, kr, kb, kwk, kus, kkp, kpt, ed, N, P, ka, ke, kI, kMat⟩ := id kJ
    dsimp only [Option.toList, List.cons_append, List.nil_append]
    refine wi_if_eq hX (tgt := 36) dX12_rank_29 (by decide) (by exact b2n_inR _) (fun c29 => ?_) (fun c29 => ?_)
    · skip
      have hv2 := b2n_f c29
      rw [hv2, if_neg (fun z => Bool.false_ne_true z.1)] at k1
      rw [Bool.not_eq_false', decide_eq_true_eq] at hv2
      obtain ⟨t, rfl⟩ := Int.eq_ofNat_of_zero_le hv2.1
      have ht : t < 2 ^ E i := by omega
      obtain ⟨e3, hN1, hN2⟩ : h26 ed = some (124, aR (.object "java/lang/Object") N (fun j => if j < m then some (P j) else none)) ∧ m ≤ N ∧ N ≤ 100 := by
        rcases ke with z | z
        · exfalso; omega
        · exact z
      obtain ⟨rq, m2, m3, l2, l3, G, g1, g2, g3, g4, g5⟩ := id (kMat i hi)
      have hMi := hMt i hi
      have he := hMi.1
      have hp := p2_le he
      have hp0 := p2_pos (E i)
      refine wa_aload_n hX (i := 0) dX12_rank_36 rfl rfl ?_
      refine wa_get hX 4 (by assumption) (by rfl) (by decide +kernel) dX12_rank_37 ?_
      refine wa_iload_n hX (i := 1) dX12_rank_40 rfl rfl ?_
      refine wa_callV hX (c_AL_get hW d ka e3 (i := i) (q := P i) hi hN1 (by omega) (if_pos hi)) (by assumption) (by rfl) (by rfl) (by omega) (nA := 1) (by rfl) (by decide +kernel) rfl (by exact Nat.le_of_ble_eq_true rfl) dX12_rank_41 (fun r41 h41 p41 => ?_) (fun _ _ q => q.elim)
      obtain ⟨rfl, qq41⟩ := p41; subst h41
      dsimp only [Option.toList, List.cons_append, List.nil_append]
      refine wa_ccast hX g1 (by rfl) (by decide +kernel) dX12_rank_44 ?_
      refine wa_get hX 1 (by assumption) (by rfl) (by decide +kernel) dX12_rank_47 ?_
      refine wa_iload_n hX (i := 2) dX12_rank_50 rfl rfl ?_
      refine wi_iaload hX (by assumption) (by omega) (by omega) (by omega) dX12_rank_51 ?_
      first
        | rw [Int.toNat_natCast, g3 t ht]
        | skip
      refine wa_iret hX dX12_rank_52 ?_
      first
        | (have z := b2n_t c15
           rw [z, if_pos ⟨rfl, rfl⟩] at k1
           rw [Bool.not_eq_true', decide_eq_false_iff_not] at z
           exact ⟨ff, Or.inl ⟨z, ⟨_, rfl⟩, row, brk, al, wk, us, kp, pt, k1, kJ⟩⟩)
        | (have z := b2n_t c29
           rw [z, if_pos ⟨rfl, rfl⟩] at k1
           rw [Bool.not_eq_true', decide_eq_false_iff_not] at z
           exact ⟨ff, Or.inr ⟨i, hi, rfl, Or.inl ⟨z, ⟨_, rfl⟩, row, brk, al, wk, us, kp, pt, k1, kJ⟩⟩⟩)
        | exact ⟨ff, Or.inr ⟨i, hi, rfl, Or.inr ⟨t, ht, rfl, rfl, row, brk, al, wk, us, kp, pt, k1, kJ⟩⟩⟩
    · skip
      refine wi_iconst hX dX12_rank_32 ?_
      refine wa_goto hX (tgt := 52) dX12_rank_33 (by decide) ?_
      first
        | rw [Int.toNat_natCast, g3 t ht]
        | skip
      refine wa_iret hX dX12_rank_52 ?_
      first
        | (have z := b2n_t c15
           rw [z, if_pos ⟨rfl, rfl⟩] at k1
           rw [Bool.not_eq_true', decide_eq_false_iff_not] at z
           exact ⟨ff, Or.inl ⟨z, ⟨_, rfl⟩, row, brk, al, wk, us, kp, pt, k1, kJ⟩⟩)
        | (have z := b2n_t c29
           rw [z, if_pos ⟨rfl, rfl⟩] at k1
           rw [Bool.not_eq_true', decide_eq_false_iff_not] at z
           exact ⟨ff, Or.inr ⟨i, hi, rfl, Or.inl ⟨z, ⟨_, rfl⟩, row, brk, al, wk, us, kp, pt, k1, kJ⟩⟩⟩)
        | exact ⟨ff, Or.inr ⟨i, hi, rfl, Or.inr ⟨t, ht, rfl, rfl, row, brk, al, wk, us, kp, pt, k1, kJ⟩⟩⟩
set_option maxHeartbeats 2000000 in
set_option maxRecDepth 100000 in
theorem c_X12_closure (hW : WOK l D S0) (d : Nat) {h : AH} {a th : Nat} {c m : Nat} {w : Nat → Nat} {E : Nat → Nat} {R : Nat → Nat → Nat} {b0 b1 b2 : Int} (hI : RI Z DR h a th c w m E R b0 b1 b2) {n s : Int} (hn : inR n) (hs : inR s) : MA l D S0 yX12_closure cX12_closure 3 (some .int) (d + 4) [.ref a, I n, I s] h 0 0 (fun r h' => Fr (fun x => x = 120) h h' ∧ ((noM n m ∧ (∃ z, r = some (I z)) ∧ RI Z DR h' a 1 c w m E R b0 b1 b2) ∨ ∃ i, i < m ∧ n = (i : Int) ∧ ((¬ (0 ≤ s ∧ s < ((2 ^ E i : Nat) : Int)) ∧ (∃ z, r = some (I z)) ∧ RI Z DR h' a 2 c w m E R b0 b1 b2) ∨ ∃ t : Nat, t < 2 ^ E i ∧ s = (t : Int) ∧ r = some (I (cloN (R i) (E i) t : Nat)) ∧ RI Z DR h' a 0 c w m E R b0 b1 b2))) (fun _ _ => False) := by
  obtain ⟨row, brk, al, wk, us, kp, pt, k1, kJ⟩ := hI
  refine MA.start hW (by decide) [.val (.ref a), .val (I n), .val (I s)] rfl ?_
  rintro X rfl rfl rfl hX
  refine wa_aload_n hX (i := 0) dX12_closure_0 rfl rfl ?_
  refine wi_iconst hX dX12_closure_1 ?_
  refine wa_put hX 0 k1 (Nat.le_of_ble_eq_true rfl) (by decide +kernel) (by rfl) (by rfl) (by rfl) dX12_closure_2 ?_
  refine WA.heap (h2 := hset h a (120, oMod ((0 : Nat) : Int) (c : Int) row brk al wk us kp pt)) rfl ?_
  refine WA.hgq (fun hA hh2 => ?_)
  have ff : Fr (fun x => x = 120) h hA := by rw [hh2]; exact Fr.hset Fr.rf k1 rfl
  replace k1 : hA a = some (120, oMod ((0 : Nat) : Int) (c : Int) row brk al wk us kp pt) := by rw [hh2]; exact hset_eq
  replace kJ := kJ.fr ff (fun x hx => by omega)
  clear hh2
  obtain ⟨⟨hc60, hw, hm24, hMt⟩, kr, kb, kwk, kus, kkp, kpt, ed, N, P, ka, ke, kI, kMat⟩ := id kJ
  refine wa_aload_n hX (i := 0) dX12_closure_5 rfl rfl ?_
  refine wa_aload_n hX (i := 0) dX12_closure_6 rfl rfl ?_
  refine wa_iload_n hX (i := 1) dX12_closure_7 rfl rfl ?_
  refine wa_callV hX (c_X12_no hW (d + 1) k1 ka hm24 hn) (by assumption) (by rfl) (by rfl) (by omega) (nA := 1) (by rfl) (by decide +kernel) rfl (by exact Nat.le_of_ble_eq_true rfl) dX12_closure_8 (fun r8 h8 p8 => ?_) (fun _ _ q => q.elim)
  obtain ⟨rfl, qq8⟩ := p8; subst h8
  dsimp only [Option.toList, List.cons_append, List.nil_append]
  refine wi_iconst hX dX12_closure_11 ?_
  refine wa_callV hX (c_X12_fails hW d (th := 0) (k := 1) (b := (!decide (0 ≤ n ∧ n < (m : Int)))) k1 (by omega) (by omega)) (by assumption) (by rfl) (by rfl) (by omega) (nA := 2) (by rfl) (by decide +kernel) rfl (by exact Nat.le_of_ble_eq_true rfl) dX12_closure_12 (fun r12 h12 p12 => ?_) (fun _ _ q => q.elim)
  obtain ⟨rfl, hh12⟩ := p12
  have f12 : Fr (fun x => x = 120) hA h12 := by rw [hh12]; exact Fr.hset Fr.rf k1 rfl
  replace k1 : h12 a = some (120, oMod ((if ((!decide (0 ≤ n ∧ n < (m : Int)))) = true ∧ (0 : Nat) = 0 then 1 else 0 : Nat) : Int) (c : Int) row brk al wk us kp pt) := by rw [hh12]; exact hset_eq
  replace kJ := kJ.fr f12 (fun x hx => by omega)
  replace ff := ff.trans f12
  clear hh12 f12
  rw [show (((!decide (0 ≤ n ∧ n < (m : Int)))) || (0 : Nat) != 0) = ((!decide (0 ≤ n ∧ n < (m : Int)))) from Bool.or_false _]
  clear kr kb kwk kus kkp kpt ka ke kI kMat hc60 hw hm24 hMt
  obtain ⟨⟨hc60, hw, hm24, hMt⟩, kr, kb, kwk, kus, kkp, kpt, ed, N, P, ka, ke, kI, kMat⟩ := id kJ
  dsimp only [Option.toList, List.cons_append, List.nil_append]
  refine wi_if_ne hX (tgt := 32) dX12_closure_15 (by decide) (by exact b2n_inR _) (fun c15 => ?_) (fun c15 => ?_)
  · skip
    refine wi_iconst hX dX12_closure_32 ?_
    refine wa_goto hX (tgt := 51) dX12_closure_33 (by decide) ?_
    refine wa_iret hX dX12_closure_51 ?_
    first
      | (have z := b2n_t c15
         rw [z, if_pos ⟨rfl, rfl⟩] at k1
         rw [Bool.not_eq_true', decide_eq_false_iff_not] at z
         exact ⟨ff, Or.inl ⟨z, ⟨_, rfl⟩, row, brk, al, wk, us, kp, pt, k1, kJ⟩⟩)
      | (have z := b2n_t c29
         rw [z, if_pos ⟨rfl, rfl⟩] at k1
         rw [Bool.not_eq_true', decide_eq_false_iff_not] at z
         exact ⟨ff, Or.inr ⟨i, hi, rfl, Or.inl ⟨z, ⟨_, rfl⟩, row, brk, al, wk, us, kp, pt, k1, kJ⟩⟩⟩)
      | exact ⟨ff, Or.inr ⟨i, hi, rfl, Or.inr ⟨t, ht, rfl, rfl, row, brk, al, wk, us, kp, pt, k1, kJ⟩⟩⟩
  · skip
    have hv := b2n_f c15
    rw [hv, if_neg (fun z => Bool.false_ne_true z.1)] at k1
    rw [Bool.not_eq_false', decide_eq_true_eq] at hv
    obtain ⟨i, rfl⟩ := Int.eq_ofNat_of_zero_le hv.1
    have hi : i < m := by omega
    obtain ⟨e3, hN1, hN2⟩ : h12 ed = some (124, aR (.object "java/lang/Object") N (fun j => if j < m then some (P j) else none)) ∧ m ≤ N ∧ N ≤ 100 := by
      rcases ke with z | z
      · exfalso; omega
      · exact z
    obtain ⟨rq, m2, m3, l2, l3, G, g1, g2, g3, g4, g5⟩ := id (kMat i hi)
    have hMi := hMt i hi
    have he := hMi.1
    have hp := p2_le he
    have hp0 := p2_pos (E i)
    refine wa_aload_n hX (i := 0) dX12_closure_18 rfl rfl ?_
    refine wa_aload_n hX (i := 0) dX12_closure_19 rfl rfl ?_
    refine wa_iload_n hX (i := 1) dX12_closure_20 rfl rfl ?_
    refine wa_iload_n hX (i := 2) dX12_closure_21 rfl rfl ?_
    refine wa_callV hX (c_X12_noSet hW d k1 ka e3 hN1 hN2 hi g1 he hs) (by assumption) (by rfl) (by rfl) (by omega) (nA := 2) (by rfl) (by decide +kernel) rfl (by exact Nat.le_of_ble_eq_true rfl) dX12_closure_22 (fun r22 h22 p22 => ?_) (fun _ _ q => q.elim)
    obtain ⟨rfl, qq22⟩ := p22; subst h22
    dsimp only [Option.toList, List.cons_append, List.nil_append]
    refine wi_iconst hX dX12_closure_25 ?_
    refine wa_callV hX (c_X12_fails hW d (th := 0) (k := 2) (b := (!decide (0 ≤ s ∧ s < ((2 ^ E i : Nat) : Int)))) k1 (by omega) (by omega)) (by assumption) (by rfl) (by rfl) (by omega) (nA := 2) (by rfl) (by decide +kernel) rfl (by exact Nat.le_of_ble_eq_true rfl) dX12_closure_26 (fun r26 h26 p26 => ?_) (fun _ _ q => q.elim)
    obtain ⟨rfl, hh26⟩ := p26
    have f26 : Fr (fun x => x = 120) h12 h26 := by rw [hh26]; exact Fr.hset Fr.rf k1 rfl
    replace k1 : h26 a = some (120, oMod ((if ((!decide (0 ≤ s ∧ s < ((2 ^ E i : Nat) : Int)))) = true ∧ (0 : Nat) = 0 then 2 else 0 : Nat) : Int) (c : Int) row brk al wk us kp pt) := by rw [hh26]; exact hset_eq
    replace kJ := kJ.fr f26 (fun x hx => by omega)
    replace ff := ff.trans f26
    clear hh26 f26
    rw [show (((!decide (0 ≤ s ∧ s < ((2 ^ E i : Nat) : Int)))) || (0 : Nat) != 0) = ((!decide (0 ≤ s ∧ s < ((2 ^ E i : Nat) : Int)))) from Bool.or_false _]
    clear kr kb kwk kus kkp kpt ka ke kI kMat hc60 hw hm24 hMt
    obtain ⟨⟨hc60, hw, hm24, hMt⟩, kr, kb, kwk, kus, kkp, kpt, ed, N, P, ka, ke, kI, kMat⟩ := id kJ
    dsimp only [Option.toList, List.cons_append, List.nil_append]
    refine wi_if_eq hX (tgt := 36) dX12_closure_29 (by decide) (by exact b2n_inR _) (fun c29 => ?_) (fun c29 => ?_)
    · skip
      have hv2 := b2n_f c29
      rw [hv2, if_neg (fun z => Bool.false_ne_true z.1)] at k1
      rw [Bool.not_eq_false', decide_eq_true_eq] at hv2
      obtain ⟨t, rfl⟩ := Int.eq_ofNat_of_zero_le hv2.1
      have ht : t < 2 ^ E i := by omega
      obtain ⟨e3, hN1, hN2⟩ : h26 ed = some (124, aR (.object "java/lang/Object") N (fun j => if j < m then some (P j) else none)) ∧ m ≤ N ∧ N ≤ 100 := by
        rcases ke with z | z
        · exfalso; omega
        · exact z
      obtain ⟨rq, m2, m3, l2, l3, G, g1, g2, g3, g4, g5⟩ := id (kMat i hi)
      have hMi := hMt i hi
      have he := hMi.1
      have hp := p2_le he
      have hp0 := p2_pos (E i)
      refine wa_aload_n hX (i := 0) dX12_closure_36 rfl rfl ?_
      refine wa_get hX 4 (by assumption) (by rfl) (by decide +kernel) dX12_closure_37 ?_
      refine wa_iload_n hX (i := 1) dX12_closure_40 rfl rfl ?_
      refine wa_callV hX (c_AL_get hW d ka e3 (i := i) (q := P i) hi hN1 (by omega) (if_pos hi)) (by assumption) (by rfl) (by rfl) (by omega) (nA := 1) (by rfl) (by decide +kernel) rfl (by exact Nat.le_of_ble_eq_true rfl) dX12_closure_41 (fun r41 h41 p41 => ?_) (fun _ _ q => q.elim)
      obtain ⟨rfl, qq41⟩ := p41; subst h41
      dsimp only [Option.toList, List.cons_append, List.nil_append]
      refine wa_ccast hX g1 (by rfl) (by decide +kernel) dX12_closure_44 ?_
      refine wa_iload_n hX (i := 2) dX12_closure_47 rfl rfl ?_
      refine wa_callV hX (c_X11_closure hW d g1 g2 g3 he (fun s hs => hMi.le10 hs) ht) (by assumption) (by rfl) (by rfl) (by omega) (nA := 1) (by rfl) (by decide +kernel) rfl (by exact Nat.le_of_ble_eq_true rfl) dX12_closure_48 (fun r48 h48 p48 => ?_) (fun _ _ q => q.elim)
      obtain ⟨rfl, qq48⟩ := p48; subst h48
      dsimp only [Option.toList, List.cons_append, List.nil_append]
      refine wa_iret hX dX12_closure_51 ?_
      first
        | (have z := b2n_t c15
           rw [z, if_pos ⟨rfl, rfl⟩] at k1
           rw [Bool.not_eq_true', decide_eq_false_iff_not] at z
           exact ⟨ff, Or.inl ⟨z, ⟨_, rfl⟩, row, brk, al, wk, us, kp, pt, k1, kJ⟩⟩)
        | (have z := b2n_t c29
           rw [z, if_pos ⟨rfl, rfl⟩] at k1
           rw [Bool.not_eq_true', decide_eq_false_iff_not] at z
           exact ⟨ff, Or.inr ⟨i, hi, rfl, Or.inl ⟨z, ⟨_, rfl⟩, row, brk, al, wk, us, kp, pt, k1, kJ⟩⟩⟩)
        | exact ⟨ff, Or.inr ⟨i, hi, rfl, Or.inr ⟨t, ht, rfl, rfl, row, brk, al, wk, us, kp, pt, k1, kJ⟩⟩⟩
    · skip
      refine wi_iconst hX dX12_closure_32 ?_
      refine wa_goto hX (tgt := 51) dX12_closure_33 (by decide) ?_
      refine wa_iret hX dX12_closure_51 ?_
      first
        | (have z := b2n_t c15
           rw [z, if_pos ⟨rfl, rfl⟩] at k1
           rw [Bool.not_eq_true', decide_eq_false_iff_not] at z
           exact ⟨ff, Or.inl ⟨z, ⟨_, rfl⟩, row, brk, al, wk, us, kp, pt, k1, kJ⟩⟩)
        | (have z := b2n_t c29
           rw [z, if_pos ⟨rfl, rfl⟩] at k1
           rw [Bool.not_eq_true', decide_eq_false_iff_not] at z
           exact ⟨ff, Or.inr ⟨i, hi, rfl, Or.inl ⟨z, ⟨_, rfl⟩, row, brk, al, wk, us, kp, pt, k1, kJ⟩⟩⟩)
        | exact ⟨ff, Or.inr ⟨i, hi, rfl, Or.inr ⟨t, ht, rfl, rfl, row, brk, al, wk, us, kp, pt, k1, kJ⟩⟩⟩
set_option maxHeartbeats 2000000 in
set_option maxRecDepth 100000 in
theorem c_X12_matroids (hW : WOK l D S0) (d : Nat) {h : AH} {a th : Nat} {c m : Nat} {w : Nat → Nat} {E : Nat → Nat} {R : Nat → Nat → Nat} {b0 b1 b2 : Int} (hI : RI Z DR h a th c w m E R b0 b1 b2)  : MA l D S0 yX12_matroids cX12_matroids 1 (some .int) (d + 4) [.ref a] h 0 0 (fun r h' => Fr (fun x => x = 120) h h' ∧ r = some (I (m : Nat)) ∧ RI Z DR h' a 0 c w m E R b0 b1 b2) (fun _ _ => False) := by
  obtain ⟨row, brk, al, wk, us, kp, pt, k1, kJ⟩ := hI
  refine MA.start hW (by decide) [.val (.ref a)] rfl ?_
  rintro X rfl rfl rfl hX
  refine wa_aload_n hX (i := 0) dX12_matroids_0 rfl rfl ?_
  refine wi_iconst hX dX12_matroids_1 ?_
  refine wa_put hX 0 k1 (Nat.le_of_ble_eq_true rfl) (by decide +kernel) (by rfl) (by rfl) (by rfl) dX12_matroids_2 ?_
  refine WA.heap (h2 := hset h a (120, oMod ((0 : Nat) : Int) (c : Int) row brk al wk us kp pt)) rfl ?_
  refine WA.hgq (fun hA hh2 => ?_)
  have ff : Fr (fun x => x = 120) h hA := by rw [hh2]; exact Fr.hset Fr.rf k1 rfl
  replace k1 : hA a = some (120, oMod ((0 : Nat) : Int) (c : Int) row brk al wk us kp pt) := by rw [hh2]; exact hset_eq
  replace kJ := kJ.fr ff (fun x hx => by omega)
  clear hh2
  obtain ⟨⟨hc60, hw, hm24, hMt⟩, kr, kb, kwk, kus, kkp, kpt, ed, N, P, ka, ke, kI, kMat⟩ := id kJ
  refine wa_aload_n hX (i := 0) dX12_matroids_5 rfl rfl ?_
  refine wa_get hX 4 (by assumption) (by rfl) (by decide +kernel) dX12_matroids_6 ?_
  refine wa_callV hX (c_AL_size hW d ka) (by assumption) (by rfl) (by rfl) (by omega) (nA := 0) (by rfl) (by decide +kernel) rfl (by exact Nat.le_of_ble_eq_true rfl) dX12_matroids_9 (fun r9 h9 p9 => ?_) (fun _ _ q => q.elim)
  obtain ⟨rfl, qq9⟩ := p9; subst h9
  dsimp only [Option.toList, List.cons_append, List.nil_append]
  refine wa_iret hX dX12_matroids_12 ?_
  exact ⟨ff, rfl, row, brk, al, wk, us, kp, pt, k1, kJ⟩
set_option maxHeartbeats 2000000 in
set_option maxRecDepth 100000 in
theorem c_X12_isSound (hW : WOK l D S0) (d : Nat) {h : AH} {a th : Nat} {c m : Nat} {w : Nat → Nat} {E : Nat → Nat} {R : Nat → Nat → Nat} {b0 b1 b2 : Int} (hI : RI Z DR h a th c w m E R b0 b1 b2)  : MA l D S0 yX12_isSound cX12_isSound 1 (some .boolean) (d + 4) [.ref a] h 0 0 (fun r h' => Fr (fun x => x = 120) h h' ∧ r = some (I 1) ∧ RI Z DR h' a 0 c w m E R b0 b1 b2) (fun _ _ => False) := by
  obtain ⟨row, brk, al, wk, us, kp, pt, k1, kJ⟩ := hI
  refine MA.start hW (by decide) [.val (.ref a)] rfl ?_
  rintro X rfl rfl rfl hX
  refine wa_aload_n hX (i := 0) dX12_isSound_0 rfl rfl ?_
  refine wi_iconst hX dX12_isSound_1 ?_
  refine wa_put hX 0 k1 (Nat.le_of_ble_eq_true rfl) (by decide +kernel) (by rfl) (by rfl) (by rfl) dX12_isSound_2 ?_
  refine WA.heap (h2 := hset h a (120, oMod ((0 : Nat) : Int) (c : Int) row brk al wk us kp pt)) rfl ?_
  refine WA.hgq (fun hA hh2 => ?_)
  have ff : Fr (fun x => x = 120) h hA := by rw [hh2]; exact Fr.hset Fr.rf k1 rfl
  replace k1 : hA a = some (120, oMod ((0 : Nat) : Int) (c : Int) row brk al wk us kp pt) := by rw [hh2]; exact hset_eq
  replace kJ := kJ.fr ff (fun x hx => by omega)
  clear hh2
  obtain ⟨⟨hc60, hw, hm24, hMt⟩, kr, kb, kwk, kus, kkp, kpt, ed, N, P, ka, ke, kI, kMat⟩ := id kJ
  refine wi_iconst hX dX12_isSound_5 ?_
  refine wa_zret hX dX12_isSound_6 (by rfl) ?_
  exact ⟨ff, rfl, row, brk, al, wk, us, kp, pt, k1, kJ⟩
set_option maxHeartbeats 2000000 in
set_option maxRecDepth 100000 in
theorem c_X12_erase (hW : WOK l D S0) (d : Nat) {h : AH} {a th : Nat} {c m : Nat} {w : Nat → Nat} {E : Nat → Nat} {R : Nat → Nat → Nat} {b0 b1 b2 : Int} (hI : RI Z DR h a th c w m E R b0 b1 b2)  : MA l D S0 yX12_erase cX12_erase 2 (some .int) (d + 4) [.ref a] h 0 0 (fun r h' => Fr (fun x => x = 120) h h' ∧ r = some (I (c : Nat)) ∧ RI Z DR h' a 0 0 w m E R b0 b1 b2) (fun _ _ => False) := by
  obtain ⟨row, brk, al, wk, us, kp, pt, k1, kJ⟩ := hI
  refine MA.start hW (by decide) [.val (.ref a), .unset] rfl ?_
  rintro X rfl rfl rfl hX
  refine wa_aload_n hX (i := 0) dX12_erase_0 rfl rfl ?_
  refine wi_iconst hX dX12_erase_1 ?_
  refine wa_put hX 0 k1 (Nat.le_of_ble_eq_true rfl) (by decide +kernel) (by rfl) (by rfl) (by rfl) dX12_erase_2 ?_
  refine WA.heap (h2 := hset h a (120, oMod ((0 : Nat) : Int) (c : Int) row brk al wk us kp pt)) rfl ?_
  refine WA.hgq (fun hA hh2 => ?_)
  have ff : Fr (fun x => x = 120) h hA := by rw [hh2]; exact Fr.hset Fr.rf k1 rfl
  replace k1 : hA a = some (120, oMod ((0 : Nat) : Int) (c : Int) row brk al wk us kp pt) := by rw [hh2]; exact hset_eq
  replace kJ := kJ.fr ff (fun x hx => by omega)
  clear hh2
  obtain ⟨⟨hc60, hw, hm24, hMt⟩, kr, kb, kwk, kus, kkp, kpt, ed, N, P, ka, ke, kI, kMat⟩ := id kJ
  refine wa_aload_n hX (i := 0) dX12_erase_5 rfl rfl ?_
  refine wa_get hX 1 (by assumption) (by rfl) (by decide +kernel) dX12_erase_6 ?_
  refine wa_istore_n hX (i := 1) dX12_erase_9 rfl rfl ?_
  dsimp only [List.set]
  refine wa_aload_n hX (i := 0) dX12_erase_10 rfl rfl ?_
  refine wi_iconst hX dX12_erase_11 ?_
  refine wa_put hX 1 k1 (Nat.le_of_ble_eq_true rfl) (by decide +kernel) (by rfl) (by rfl) (by rfl) dX12_erase_12 ?_
  refine WA.heap (h2 := hset hA a (120, oMod ((0 : Nat) : Int) ((0 : Nat) : Int) row brk al wk us kp pt)) rfl ?_
  refine WA.hgq (fun hB hhB => ?_)
  have f2 : Fr (fun x => x = 120) hA hB := by rw [hhB]; exact Fr.hset Fr.rf k1 rfl
  replace k1 : hB a = some (120, oMod ((0 : Nat) : Int) ((0 : Nat) : Int) row brk al wk us kp pt) := by rw [hhB]; exact hset_eq
  replace kJ := kJ.fr f2 (fun x hx => by omega)
  have kJ0 : RJ Z DR hB row brk al wk us kp pt 0 w m E R b0 b1 b2 := ⟨⟨Nat.zero_le _, kJ.1.2⟩, kJ.2⟩
  refine wa_iload_n hX (i := 1) dX12_erase_15 rfl rfl ?_
  refine wa_iret hX dX12_erase_16 ?_
  exact ⟨ff.trans f2, rfl, row, brk, al, wk, us, kp, pt, k1, kJ0⟩
set_option maxHeartbeats 2000000 in
set_option maxRecDepth 100000 in
theorem c_X12_type (hW : WOK l D S0) (d : Nat) {h : AH} {a th : Nat} {c m : Nat} {w : Nat → Nat} {E : Nat → Nat} {R : Nat → Nat → Nat} {b0 b1 b2 : Int} (hI : RI Z DR h a th c w m E R b0 b1 b2) {n : Int} (hn : inR n) : MA l D S0 yX12_type cX12_type 2 (some .int) (d + 4) [.ref a, I n] h 0 0 (fun r h' => Fr (fun x => 120 ≤ x ∧ x ≤ 121) h h' ∧ ((¬ (0 ≤ n ∧ n ≤ 1023) ∧ (∃ z, r = some (I z)) ∧ RI Z DR h' a 1 c w m E R b0 b1 b2) ∨ (0 ≤ n ∧ n ≤ 1023 ∧ c = 60 ∧ (∃ z, r = some (I z)) ∧ RI Z DR h' a 2 c w m E R b0 b1 b2) ∨ ∃ t : Nat, t ≤ 1023 ∧ n = (t : Int) ∧ c < 60 ∧ r = some (I (c + 1 : Nat)) ∧ RI Z DR h' a 0 (c + 1) (up w c t) m E R b0 b1 b2)) (fun _ _ => False) := by
  obtain ⟨row, brk, al, wk, us, kp, pt, k1, kJ⟩ := hI
  refine MA.start hW (by decide) [.val (.ref a), .val (I n)] rfl ?_
  rintro X rfl rfl rfl hX
  refine wa_aload_n hX (i := 0) dX12_type_0 rfl rfl ?_
  refine wi_iconst hX dX12_type_1 ?_
  refine wa_put hX 0 k1 (Nat.le_of_ble_eq_true rfl) (by decide +kernel) (by rfl) (by rfl) (by rfl) dX12_type_2 ?_
  refine WA.heap (h2 := hset h a (120, oMod ((0 : Nat) : Int) (c : Int) row brk al wk us kp pt)) rfl ?_
  refine WA.hgq (fun hA hh2 => ?_)
  have ff : Fr (fun x => x = 120) h hA := by rw [hh2]; exact Fr.hset Fr.rf k1 rfl
  replace k1 : hA a = some (120, oMod ((0 : Nat) : Int) (c : Int) row brk al wk us kp pt) := by rw [hh2]; exact hset_eq
  replace kJ := kJ.fr ff (fun x hx => by omega)
  clear hh2
  obtain ⟨⟨hc60, hw, hm24, hMt⟩, kr, kb, kwk, kus, kkp, kpt, ed, N, P, ka, ke, kI, kMat⟩ := id kJ
  refine wa_aload_n hX (i := 0) dX12_type_5 rfl rfl ?_
  refine wa_iload_n hX (i := 1) dX12_type_6 rfl rfl ?_
  refine wi_iconst hX dX12_type_7 ?_
  refine wi_sipush hX dX12_type_8 (by decide) ?_
  refine wa_callS hX (c_X12_in hW d (v := n) (lo := 0) (hi := 1023) hn (by omega) (by omega)) (by rfl) (by omega) (nA := 3) (by rfl) (by decide +kernel) rfl (by exact Nat.le_of_ble_eq_true rfl) dX12_type_11 (fun r11 h11 p11 => ?_) (fun _ _ q => q.elim)
  obtain ⟨rfl, qq11⟩ := p11; subst h11
  dsimp only [Option.toList, List.cons_append, List.nil_append]
  refine wi_if_ne hX (tgt := 21) dX12_type_14 (by decide) (by exact b2n_inR _) (fun c14 => ?_) (fun c14 => ?_)
  · skip
    refine wi_iconst hX dX12_type_21 ?_
    refine WA.eq (pc2 := 22) (st2 := [I ((b2n (!decide ((0 : Int) ≤ n ∧ n ≤ 1023)) : Nat) : Int), .ref a]) rfl rfl (by
      first
        | (have q := b2n_t c14; rw [q]; rfl)
        | (have q := b2n_f c14; rw [q]; rfl)) ?_
    clear c14
    refine wi_iconst hX dX12_type_22 ?_
    refine wa_callV hX (c_X12_fails hW d (th := 0) (k := 1) (b := (!decide ((0 : Int) ≤ n ∧ n ≤ 1023))) k1 (by omega) (by omega)) (by assumption) (by rfl) (by rfl) (by omega) (nA := 2) (by rfl) (by decide +kernel) rfl (by exact Nat.le_of_ble_eq_true rfl) dX12_type_23 (fun r23 h23 p23 => ?_) (fun _ _ q => q.elim)
    obtain ⟨rfl, hh23⟩ := p23
    have f23 : Fr (fun x => x = 120) hA h23 := by rw [hh23]; exact Fr.hset Fr.rf k1 rfl
    replace k1 : h23 a = some (120, oMod ((if ((!decide ((0 : Int) ≤ n ∧ n ≤ 1023))) = true ∧ (0 : Nat) = 0 then 1 else 0 : Nat) : Int) (c : Int) row brk al wk us kp pt) := by rw [hh23]; exact hset_eq
    replace kJ := kJ.fr f23 (fun x hx => by omega)
    replace ff := ff.trans f23
    clear hh23 f23
    rw [show (((!decide ((0 : Int) ≤ n ∧ n ≤ 1023))) || (0 : Nat) != 0) = ((!decide ((0 : Int) ≤ n ∧ n ≤ 1023))) from Bool.or_false _]
    clear kr kb kwk kus kkp kpt ka ke kI kMat hc60 hw hm24 hMt
    obtain ⟨⟨hc60, hw, hm24, hMt⟩, kr, kb, kwk, kus, kkp, kpt, ed, N, P, ka, ke, kI, kMat⟩ := id kJ
    dsimp only [Option.toList, List.cons_append, List.nil_append]
    refine wi_if_ne hX (tgt := 51) dX12_type_26 (by decide) (by exact b2n_inR _) (fun c26 => ?_) (fun c26 => ?_)
    · skip
      refine wi_iconst hX dX12_type_51 ?_
      refine wa_iret hX dX12_type_52 ?_
      have z := b2n_t c26
      rw [z, if_pos ⟨rfl, rfl⟩] at k1
      rw [Bool.not_eq_true', decide_eq_false_iff_not] at z
      exact ⟨ff.mono (fun x hx => by omega), Or.inl ⟨z, ⟨_, rfl⟩, row, brk, al, wk, us, kp, pt, k1, kJ⟩⟩
    · skip
      have hv := b2n_f c26
      rw [hv, if_neg (fun z => Bool.false_ne_true z.1)] at k1
      rw [Bool.not_eq_false', decide_eq_true_eq] at hv
      refine wa_aload_n hX (i := 0) dX12_type_29 rfl rfl ?_
      refine wa_aload_n hX (i := 0) dX12_type_30 rfl rfl ?_
      refine wa_get hX 1 (by assumption) (by rfl) (by decide +kernel) dX12_type_31 ?_
      refine wi_bipush hX dX12_type_34 (by decide) ?_
      refine wi_icmp_ne hX (tgt := 43) dX12_type_36 (by decide) (by omega) (by omega) (fun c36 => ?_) (fun c36 => ?_)
      · skip
        refine wi_iconst hX dX12_type_43 ?_
        refine WA.eq (pc2 := 44) (st2 := [I ((b2n (c == 60) : Nat) : Int), .ref a]) rfl rfl (by
          first
            | (rw [show (c == 60) = true from beq_iff_eq.mpr (by omega)]; rfl)
            | (rw [show (c == 60) = false from beq_eq_false_iff_ne.mpr (by omega)]; rfl)) ?_
        clear c36
        refine wi_iconst hX dX12_type_44 ?_
        refine wa_callV hX (c_X12_fails hW d (th := 0) (k := 2) (b := (c == 60)) k1 (by omega) (by omega)) (by assumption) (by rfl) (by rfl) (by omega) (nA := 2) (by rfl) (by decide +kernel) rfl (by exact Nat.le_of_ble_eq_true rfl) dX12_type_45 (fun r45 h45 p45 => ?_) (fun _ _ q => q.elim)
        obtain ⟨rfl, hh45⟩ := p45
        have f45 : Fr (fun x => x = 120) h23 h45 := by rw [hh45]; exact Fr.hset Fr.rf k1 rfl
        replace k1 : h45 a = some (120, oMod ((if ((c == 60)) = true ∧ (0 : Nat) = 0 then 2 else 0 : Nat) : Int) (c : Int) row brk al wk us kp pt) := by rw [hh45]; exact hset_eq
        replace kJ := kJ.fr f45 (fun x hx => by omega)
        replace ff := ff.trans f45
        clear hh45 f45
        rw [show (((c == 60)) || (0 : Nat) != 0) = ((c == 60)) from Bool.or_false _]
        clear kr kb kwk kus kkp kpt ka ke kI kMat hc60 hw hm24 hMt
        obtain ⟨⟨hc60, hw, hm24, hMt⟩, kr, kb, kwk, kus, kkp, kpt, ed, N, P, ka, ke, kI, kMat⟩ := id kJ
        dsimp only [Option.toList, List.cons_append, List.nil_append]
        refine wi_if_eq hX (tgt := 53) dX12_type_48 (by decide) (by exact b2n_inR _) (fun c48 => ?_) (fun c48 => ?_)
        · skip
          have hv2 := b2n_f c48
          rw [hv2, if_neg (fun z => Bool.false_ne_true z.1)] at k1
          have hc9 : c < 60 := by
            have := beq_eq_false_iff_ne.mp hv2
            omega
          obtain ⟨t, rfl⟩ := Int.eq_ofNat_of_zero_le hv.1
          refine wa_aload_n hX (i := 0) dX12_type_53 rfl rfl ?_
          refine wa_get hX 2 (by assumption) (by rfl) (by decide +kernel) dX12_type_54 ?_
          refine wa_aload_n hX (i := 0) dX12_type_57 rfl rfl ?_
          refine wa_get hX 1 (by assumption) (by rfl) (by decide +kernel) dX12_type_58 ?_
          refine wa_iload_n hX (i := 1) dX12_type_61 rfl rfl ?_
          refine wi_iastore hX kr (by omega) (by omega) (by omega) dX12_type_62 ?_
          rw [Int.toNat_natCast, up_castN]
          refine WA.hgq (fun hB hhB => ?_)
          have f2 : Fr (fun x => x = 121) h45 hB := by rw [hhB]; exact Fr.hset Fr.rf kr rfl
          have kr2 : hB row = some (121, aI .int 60 (fun j => ((up w c t j : Nat) : Int))) := by rw [hhB]; exact hset_eq
          replace k1 := f2 _ _ _ k1 (by omega)
          obtain ⟨q3, q4, q5, q6, q7⟩ : hB brk = some (122, aI .int 3 (fun j => if j = 0 then b0 else if j = 1 then b1 else b2)) ∧ (∃ WK : Nat → Int, hB wk = some (125, aI .int 100 WK)) ∧ (∃ US : Nat → Bool, hB us = some (126, aI .boolean 10 (fun j => ((b2n (US j) : Nat) : Int)))) ∧ (∃ KP : Nat → Int, hB kp = some (127, aI .int 10 KP)) ∧ (∃ (e0 rq : Nat) (m2 m3 : Value) (l2 l3 : Int) (G0 : Nat → Int), hB pt = some (128, oRef e0 rq m2 m3 l2 l3) ∧ hB rq = some (129, aI .int 1024 G0)) := by
            obtain ⟨WK, z1⟩ := kwk
            obtain ⟨US, z2⟩ := kus
            obtain ⟨KP, z3⟩ := kkp
            obtain ⟨e0, rq, m2, m3, l2, l3, G0, z4, z5⟩ := kpt
            exact ⟨f2 _ _ _ kb (by omega), ⟨WK, f2 _ _ _ z1 (by omega)⟩, ⟨US, f2 _ _ _ z2 (by omega)⟩, ⟨KP, f2 _ _ _ z3 (by omega)⟩, ⟨e0, rq, m2, m3, l2, l3, G0, f2 _ _ _ z4 (by omega), f2 _ _ _ z5 (by omega)⟩⟩
          have kJ2 : RJ Z DR hB row brk al wk us kp pt (c + 1) (up w c t) m E R b0 b1 b2 := by
            refine ⟨⟨by omega, up_lt hw (by omega), hm24, hMt⟩, kr2, q3, q4, q5, q6, q7, ed, N, P, f2 _ _ _ ka (by omega), ?_, kI, fun j hj => (kMat j hj).fr f2 (fun x hx => by omega)⟩
            rcases ke with z | ⟨z, z2⟩
            · exact Or.inl z
            · exact Or.inr ⟨f2 _ _ _ z (by omega), z2⟩
          refine wa_aload_n hX (i := 0) dX12_type_63 rfl rfl ?_
          refine wa_dup hX dX12_type_64 rfl ?_
          refine wa_get hX 1 (by assumption) (by rfl) (by decide +kernel) dX12_type_65 ?_
          refine wi_iconst hX dX12_type_68 ?_
          refine wi_iadd hX dX12_type_69 ?_
          refine wa_put hX 1 k1 (Nat.le_of_ble_eq_true rfl) (by decide +kernel) (by rfl) (by rfl) (by rfl) dX12_type_70 ?_
          refine WA.heap (h2 := hset hB a (120, oMod ((0 : Nat) : Int) ((c + 1 : Nat) : Int) row brk al wk us kp pt)) rfl ?_
          refine WA.hgq (fun hC hhC => ?_)
          have f3 : Fr (fun x => x = 120) hB hC := by rw [hhC]; exact Fr.hset Fr.rf k1 rfl
          replace k1 : hC a = some (120, oMod ((0 : Nat) : Int) ((c + 1 : Nat) : Int) row brk al wk us kp pt) := by rw [hhC]; exact hset_eq
          replace kJ2 := kJ2.fr f3 (fun x hx => by omega)
          refine wa_aload_n hX (i := 0) dX12_type_73 rfl rfl ?_
          refine wa_get hX 1 (by assumption) (by rfl) (by decide +kernel) dX12_type_74 ?_
          refine wa_iret hX dX12_type_77 ?_
          exact ⟨((ff.mono (fun x hx => by omega)).trans (f2.mono (fun x hx => by omega))).trans (f3.mono (fun x hx => by omega)), Or.inr (Or.inr ⟨t, by omega, rfl, hc9, rfl, row, brk, al, wk, us, kp, pt, k1, kJ2⟩)⟩
        · skip
          refine wi_iconst hX dX12_type_51 ?_
          refine wa_iret hX dX12_type_52 ?_
          have z := b2n_t c48
          rw [z, if_pos ⟨rfl, rfl⟩] at k1
          exact ⟨ff.mono (fun x hx => by omega), Or.inr (Or.inl ⟨hv.1, hv.2, beq_iff_eq.mp z, ⟨_, rfl⟩, row, brk, al, wk, us, kp, pt, k1, kJ⟩)⟩
      · skip
        refine wi_iconst hX dX12_type_39 ?_
        refine wa_goto hX (tgt := 44) dX12_type_40 (by decide) ?_
        refine WA.eq (pc2 := 44) (st2 := [I ((b2n (c == 60) : Nat) : Int), .ref a]) rfl rfl (by
          first
            | (rw [show (c == 60) = true from beq_iff_eq.mpr (by omega)]; rfl)
            | (rw [show (c == 60) = false from beq_eq_false_iff_ne.mpr (by omega)]; rfl)) ?_
        clear c36
        refine wi_iconst hX dX12_type_44 ?_
        refine wa_callV hX (c_X12_fails hW d (th := 0) (k := 2) (b := (c == 60)) k1 (by omega) (by omega)) (by assumption) (by rfl) (by rfl) (by omega) (nA := 2) (by rfl) (by decide +kernel) rfl (by exact Nat.le_of_ble_eq_true rfl) dX12_type_45 (fun r45 h45 p45 => ?_) (fun _ _ q => q.elim)
        obtain ⟨rfl, hh45⟩ := p45
        have f45 : Fr (fun x => x = 120) h23 h45 := by rw [hh45]; exact Fr.hset Fr.rf k1 rfl
        replace k1 : h45 a = some (120, oMod ((if ((c == 60)) = true ∧ (0 : Nat) = 0 then 2 else 0 : Nat) : Int) (c : Int) row brk al wk us kp pt) := by rw [hh45]; exact hset_eq
        replace kJ := kJ.fr f45 (fun x hx => by omega)
        replace ff := ff.trans f45
        clear hh45 f45
        rw [show (((c == 60)) || (0 : Nat) != 0) = ((c == 60)) from Bool.or_false _]
        clear kr kb kwk kus kkp kpt ka ke kI kMat hc60 hw hm24 hMt
        obtain ⟨⟨hc60, hw, hm24, hMt⟩, kr, kb, kwk, kus, kkp, kpt, ed, N, P, ka, ke, kI, kMat⟩ := id kJ
        dsimp only [Option.toList, List.cons_append, List.nil_append]
        refine wi_if_eq hX (tgt := 53) dX12_type_48 (by decide) (by exact b2n_inR _) (fun c48 => ?_) (fun c48 => ?_)
        · skip
          have hv2 := b2n_f c48
          rw [hv2, if_neg (fun z => Bool.false_ne_true z.1)] at k1
          have hc9 : c < 60 := by
            have := beq_eq_false_iff_ne.mp hv2
            omega
          obtain ⟨t, rfl⟩ := Int.eq_ofNat_of_zero_le hv.1
          refine wa_aload_n hX (i := 0) dX12_type_53 rfl rfl ?_
          refine wa_get hX 2 (by assumption) (by rfl) (by decide +kernel) dX12_type_54 ?_
          refine wa_aload_n hX (i := 0) dX12_type_57 rfl rfl ?_
          refine wa_get hX 1 (by assumption) (by rfl) (by decide +kernel) dX12_type_58 ?_
          refine wa_iload_n hX (i := 1) dX12_type_61 rfl rfl ?_
          refine wi_iastore hX kr (by omega) (by omega) (by omega) dX12_type_62 ?_
          rw [Int.toNat_natCast, up_castN]
          refine WA.hgq (fun hB hhB => ?_)
          have f2 : Fr (fun x => x = 121) h45 hB := by rw [hhB]; exact Fr.hset Fr.rf kr rfl
          have kr2 : hB row = some (121, aI .int 60 (fun j => ((up w c t j : Nat) : Int))) := by rw [hhB]; exact hset_eq
          replace k1 := f2 _ _ _ k1 (by omega)
          obtain ⟨q3, q4, q5, q6, q7⟩ : hB brk = some (122, aI .int 3 (fun j => if j = 0 then b0 else if j = 1 then b1 else b2)) ∧ (∃ WK : Nat → Int, hB wk = some (125, aI .int 100 WK)) ∧ (∃ US : Nat → Bool, hB us = some (126, aI .boolean 10 (fun j => ((b2n (US j) : Nat) : Int)))) ∧ (∃ KP : Nat → Int, hB kp = some (127, aI .int 10 KP)) ∧ (∃ (e0 rq : Nat) (m2 m3 : Value) (l2 l3 : Int) (G0 : Nat → Int), hB pt = some (128, oRef e0 rq m2 m3 l2 l3) ∧ hB rq = some (129, aI .int 1024 G0)) := by
            obtain ⟨WK, z1⟩ := kwk
            obtain ⟨US, z2⟩ := kus
            obtain ⟨KP, z3⟩ := kkp
            obtain ⟨e0, rq, m2, m3, l2, l3, G0, z4, z5⟩ := kpt
            exact ⟨f2 _ _ _ kb (by omega), ⟨WK, f2 _ _ _ z1 (by omega)⟩, ⟨US, f2 _ _ _ z2 (by omega)⟩, ⟨KP, f2 _ _ _ z3 (by omega)⟩, ⟨e0, rq, m2, m3, l2, l3, G0, f2 _ _ _ z4 (by omega), f2 _ _ _ z5 (by omega)⟩⟩
          have kJ2 : RJ Z DR hB row brk al wk us kp pt (c + 1) (up w c t) m E R b0 b1 b2 := by
            refine ⟨⟨by omega, up_lt hw (by omega), hm24, hMt⟩, kr2, q3, q4, q5, q6, q7, ed, N, P, f2 _ _ _ ka (by omega), ?_, kI, fun j hj => (kMat j hj).fr f2 (fun x hx => by omega)⟩
            rcases ke with z | ⟨z, z2⟩
            · exact Or.inl z
            · exact Or.inr ⟨f2 _ _ _ z (by omega), z2⟩
          refine wa_aload_n hX (i := 0) dX12_type_63 rfl rfl ?_
          refine wa_dup hX dX12_type_64 rfl ?_
          refine wa_get hX 1 (by assumption) (by rfl) (by decide +kernel) dX12_type_65 ?_
          refine wi_iconst hX dX12_type_68 ?_
          refine wi_iadd hX dX12_type_69 ?_
          refine wa_put hX 1 k1 (Nat.le_of_ble_eq_true rfl) (by decide +kernel) (by rfl) (by rfl) (by rfl) dX12_type_70 ?_
          refine WA.heap (h2 := hset hB a (120, oMod ((0 : Nat) : Int) ((c + 1 : Nat) : Int) row brk al wk us kp pt)) rfl ?_
          refine WA.hgq (fun hC hhC => ?_)
          have f3 : Fr (fun x => x = 120) hB hC := by rw [hhC]; exact Fr.hset Fr.rf k1 rfl
          replace k1 : hC a = some (120, oMod ((0 : Nat) : Int) ((c + 1 : Nat) : Int) row brk al wk us kp pt) := by rw [hhC]; exact hset_eq
          replace kJ2 := kJ2.fr f3 (fun x hx => by omega)
          refine wa_aload_n hX (i := 0) dX12_type_73 rfl rfl ?_
          refine wa_get hX 1 (by assumption) (by rfl) (by decide +kernel) dX12_type_74 ?_
          refine wa_iret hX dX12_type_77 ?_
          exact ⟨((ff.mono (fun x hx => by omega)).trans (f2.mono (fun x hx => by omega))).trans (f3.mono (fun x hx => by omega)), Or.inr (Or.inr ⟨t, by omega, rfl, hc9, rfl, row, brk, al, wk, us, kp, pt, k1, kJ2⟩)⟩
        · skip
          refine wi_iconst hX dX12_type_51 ?_
          refine wa_iret hX dX12_type_52 ?_
          have z := b2n_t c48
          rw [z, if_pos ⟨rfl, rfl⟩] at k1
          exact ⟨ff.mono (fun x hx => by omega), Or.inr (Or.inl ⟨hv.1, hv.2, beq_iff_eq.mp z, ⟨_, rfl⟩, row, brk, al, wk, us, kp, pt, k1, kJ⟩)⟩
  · skip
    refine wi_iconst hX dX12_type_17 ?_
    refine wa_goto hX (tgt := 22) dX12_type_18 (by decide) ?_
    refine WA.eq (pc2 := 22) (st2 := [I ((b2n (!decide ((0 : Int) ≤ n ∧ n ≤ 1023)) : Nat) : Int), .ref a]) rfl rfl (by
      first
        | (have q := b2n_t c14; rw [q]; rfl)
        | (have q := b2n_f c14; rw [q]; rfl)) ?_
    clear c14
    refine wi_iconst hX dX12_type_22 ?_
    refine wa_callV hX (c_X12_fails hW d (th := 0) (k := 1) (b := (!decide ((0 : Int) ≤ n ∧ n ≤ 1023))) k1 (by omega) (by omega)) (by assumption) (by rfl) (by rfl) (by omega) (nA := 2) (by rfl) (by decide +kernel) rfl (by exact Nat.le_of_ble_eq_true rfl) dX12_type_23 (fun r23 h23 p23 => ?_) (fun _ _ q => q.elim)
    obtain ⟨rfl, hh23⟩ := p23
    have f23 : Fr (fun x => x = 120) hA h23 := by rw [hh23]; exact Fr.hset Fr.rf k1 rfl
    replace k1 : h23 a = some (120, oMod ((if ((!decide ((0 : Int) ≤ n ∧ n ≤ 1023))) = true ∧ (0 : Nat) = 0 then 1 else 0 : Nat) : Int) (c : Int) row brk al wk us kp pt) := by rw [hh23]; exact hset_eq
    replace kJ := kJ.fr f23 (fun x hx => by omega)
    replace ff := ff.trans f23
    clear hh23 f23
    rw [show (((!decide ((0 : Int) ≤ n ∧ n ≤ 1023))) || (0 : Nat) != 0) = ((!decide ((0 : Int) ≤ n ∧ n ≤ 1023))) from Bool.or_false _]
    clear kr kb kwk kus kkp kpt ka ke kI kMat hc60 hw hm24 hMt
    obtain ⟨⟨hc60, hw, hm24, hMt⟩, kr, kb, kwk, kus, kkp, kpt, ed, N, P, ka, ke, kI, kMat⟩ := id kJ
    dsimp only [Option.toList, List.cons_append, List.nil_append]
    refine wi_if_ne hX (tgt := 51) dX12_type_26 (by decide) (by exact b2n_inR _) (fun c26 => ?_) (fun c26 => ?_)
    · skip
      refine wi_iconst hX dX12_type_51 ?_
      refine wa_iret hX dX12_type_52 ?_
      have z := b2n_t c26
      rw [z, if_pos ⟨rfl, rfl⟩] at k1
      rw [Bool.not_eq_true', decide_eq_false_iff_not] at z
      exact ⟨ff.mono (fun x hx => by omega), Or.inl ⟨z, ⟨_, rfl⟩, row, brk, al, wk, us, kp, pt, k1, kJ⟩⟩
    · skip
      have hv := b2n_f c26
      rw [hv, if_neg (fun z => Bool.false_ne_true z.1)] at k1
      rw [Bool.not_eq_false', decide_eq_true_eq] at hv
      refine wa_aload_n hX (i := 0) dX12_type_29 rfl rfl ?_
      refine wa_aload_n hX (i := 0) dX12_type_30 rfl rfl ?_
      refine wa_get hX 1 (by assumption) (by rfl) (by decide +kernel) dX12_type_31 ?_
      refine wi_bipush hX dX12_type_34 (by decide) ?_
      refine wi_icmp_ne hX (tgt := 43) dX12_type_36 (by decide) (by omega) (by omega) (fun c36 => ?_) (fun c36 => ?_)
      · skip
        refine wi_iconst hX dX12_type_43 ?_
        refine WA.eq (pc2 := 44) (st2 := [I ((b2n (c == 60) : Nat) : Int), .ref a]) rfl rfl (by
          first
            | (rw [show (c == 60) = true from beq_iff_eq.mpr (by omega)]; rfl)
            | (rw [show (c == 60) = false from beq_eq_false_iff_ne.mpr (by omega)]; rfl)) ?_
        clear c36
        refine wi_iconst hX dX12_type_44 ?_
        refine wa_callV hX (c_X12_fails hW d (th := 0) (k := 2) (b := (c == 60)) k1 (by omega) (by omega)) (by assumption) (by rfl) (by rfl) (by omega) (nA := 2) (by rfl) (by decide +kernel) rfl (by exact Nat.le_of_ble_eq_true rfl) dX12_type_45 (fun r45 h45 p45 => ?_) (fun _ _ q => q.elim)
        obtain ⟨rfl, hh45⟩ := p45
        have f45 : Fr (fun x => x = 120) h23 h45 := by rw [hh45]; exact Fr.hset Fr.rf k1 rfl
        replace k1 : h45 a = some (120, oMod ((if ((c == 60)) = true ∧ (0 : Nat) = 0 then 2 else 0 : Nat) : Int) (c : Int) row brk al wk us kp pt) := by rw [hh45]; exact hset_eq
        replace kJ := kJ.fr f45 (fun x hx => by omega)
        replace ff := ff.trans f45
        clear hh45 f45
        rw [show (((c == 60)) || (0 : Nat) != 0) = ((c == 60)) from Bool.or_false _]
        clear kr kb kwk kus kkp kpt ka ke kI kMat hc60 hw hm24 hMt
        obtain ⟨⟨hc60, hw, hm24, hMt⟩, kr, kb, kwk, kus, kkp, kpt, ed, N, P, ka, ke, kI, kMat⟩ := id kJ
        dsimp only [Option.toList, List.cons_append, List.nil_append]
        refine wi_if_eq hX (tgt := 53) dX12_type_48 (by decide) (by exact b2n_inR _) (fun c48 => ?_) (fun c48 => ?_)
        · skip
          have hv2 := b2n_f c48
          rw [hv2, if_neg (fun z => Bool.false_ne_true z.1)] at k1
          have hc9 : c < 60 := by
            have := beq_eq_false_iff_ne.mp hv2
            omega
          obtain ⟨t, rfl⟩ := Int.eq_ofNat_of_zero_le hv.1
          refine wa_aload_n hX (i := 0) dX12_type_53 rfl rfl ?_
          refine wa_get hX 2 (by assumption) (by rfl) (by decide +kernel) dX12_type_54 ?_
          refine wa_aload_n hX (i := 0) dX12_type_57 rfl rfl ?_
          refine wa_get hX 1 (by assumption) (by rfl) (by decide +kernel) dX12_type_58 ?_
          refine wa_iload_n hX (i := 1) dX12_type_61 rfl rfl ?_
          refine wi_iastore hX kr (by omega) (by omega) (by omega) dX12_type_62 ?_
          rw [Int.toNat_natCast, up_castN]
          refine WA.hgq (fun hB hhB => ?_)
          have f2 : Fr (fun x => x = 121) h45 hB := by rw [hhB]; exact Fr.hset Fr.rf kr rfl
          have kr2 : hB row = some (121, aI .int 60 (fun j => ((up w c t j : Nat) : Int))) := by rw [hhB]; exact hset_eq
          replace k1 := f2 _ _ _ k1 (by omega)
          obtain ⟨q3, q4, q5, q6, q7⟩ : hB brk = some (122, aI .int 3 (fun j => if j = 0 then b0 else if j = 1 then b1 else b2)) ∧ (∃ WK : Nat → Int, hB wk = some (125, aI .int 100 WK)) ∧ (∃ US : Nat → Bool, hB us = some (126, aI .boolean 10 (fun j => ((b2n (US j) : Nat) : Int)))) ∧ (∃ KP : Nat → Int, hB kp = some (127, aI .int 10 KP)) ∧ (∃ (e0 rq : Nat) (m2 m3 : Value) (l2 l3 : Int) (G0 : Nat → Int), hB pt = some (128, oRef e0 rq m2 m3 l2 l3) ∧ hB rq = some (129, aI .int 1024 G0)) := by
            obtain ⟨WK, z1⟩ := kwk
            obtain ⟨US, z2⟩ := kus
            obtain ⟨KP, z3⟩ := kkp
            obtain ⟨e0, rq, m2, m3, l2, l3, G0, z4, z5⟩ := kpt
            exact ⟨f2 _ _ _ kb (by omega), ⟨WK, f2 _ _ _ z1 (by omega)⟩, ⟨US, f2 _ _ _ z2 (by omega)⟩, ⟨KP, f2 _ _ _ z3 (by omega)⟩, ⟨e0, rq, m2, m3, l2, l3, G0, f2 _ _ _ z4 (by omega), f2 _ _ _ z5 (by omega)⟩⟩
          have kJ2 : RJ Z DR hB row brk al wk us kp pt (c + 1) (up w c t) m E R b0 b1 b2 := by
            refine ⟨⟨by omega, up_lt hw (by omega), hm24, hMt⟩, kr2, q3, q4, q5, q6, q7, ed, N, P, f2 _ _ _ ka (by omega), ?_, kI, fun j hj => (kMat j hj).fr f2 (fun x hx => by omega)⟩
            rcases ke with z | ⟨z, z2⟩
            · exact Or.inl z
            · exact Or.inr ⟨f2 _ _ _ z (by omega), z2⟩
          refine wa_aload_n hX (i := 0) dX12_type_63 rfl rfl ?_
          refine wa_dup hX dX12_type_64 rfl ?_
          refine wa_get hX 1 (by assumption) (by rfl) (by decide +kernel) dX12_type_65 ?_
          refine wi_iconst hX dX12_type_68 ?_
          refine wi_iadd hX dX12_type_69 ?_
          refine wa_put hX 1 k1 (Nat.le_of_ble_eq_true rfl) (by decide +kernel) (by rfl) (by rfl) (by rfl) dX12_type_70 ?_
          refine WA.heap (h2 := hset hB a (120, oMod ((0 : Nat) : Int) ((c + 1 : Nat) : Int) row brk al wk us kp pt)) rfl ?_
          refine WA.hgq (fun hC hhC => ?_)
          have f3 : Fr (fun x => x = 120) hB hC := by rw [hhC]; exact Fr.hset Fr.rf k1 rfl
          replace k1 : hC a = some (120, oMod ((0 : Nat) : Int) ((c + 1 : Nat) : Int) row brk al wk us kp pt) := by rw [hhC]; exact hset_eq
          replace kJ2 := kJ2.fr f3 (fun x hx => by omega)
          refine wa_aload_n hX (i := 0) dX12_type_73 rfl rfl ?_
          refine wa_get hX 1 (by assumption) (by rfl) (by decide +kernel) dX12_type_74 ?_
          refine wa_iret hX dX12_type_77 ?_
          exact ⟨((ff.mono (fun x hx => by omega)).trans (f2.mono (fun x hx => by omega))).trans (f3.mono (fun x hx => by omega)), Or.inr (Or.inr ⟨t, by omega, rfl, hc9, rfl, row, brk, al, wk, us, kp, pt, k1, kJ2⟩)⟩
        · skip
          refine wi_iconst hX dX12_type_51 ?_
          refine wa_iret hX dX12_type_52 ?_
          have z := b2n_t c48
          rw [z, if_pos ⟨rfl, rfl⟩] at k1
          exact ⟨ff.mono (fun x hx => by omega), Or.inr (Or.inl ⟨hv.1, hv.2, beq_iff_eq.mp z, ⟨_, rfl⟩, row, brk, al, wk, us, kp, pt, k1, kJ⟩)⟩
      · skip
        refine wi_iconst hX dX12_type_39 ?_
        refine wa_goto hX (tgt := 44) dX12_type_40 (by decide) ?_
        refine WA.eq (pc2 := 44) (st2 := [I ((b2n (c == 60) : Nat) : Int), .ref a]) rfl rfl (by
          first
            | (rw [show (c == 60) = true from beq_iff_eq.mpr (by omega)]; rfl)
            | (rw [show (c == 60) = false from beq_eq_false_iff_ne.mpr (by omega)]; rfl)) ?_
        clear c36
        refine wi_iconst hX dX12_type_44 ?_
        refine wa_callV hX (c_X12_fails hW d (th := 0) (k := 2) (b := (c == 60)) k1 (by omega) (by omega)) (by assumption) (by rfl) (by rfl) (by omega) (nA := 2) (by rfl) (by decide +kernel) rfl (by exact Nat.le_of_ble_eq_true rfl) dX12_type_45 (fun r45 h45 p45 => ?_) (fun _ _ q => q.elim)
        obtain ⟨rfl, hh45⟩ := p45
        have f45 : Fr (fun x => x = 120) h23 h45 := by rw [hh45]; exact Fr.hset Fr.rf k1 rfl
        replace k1 : h45 a = some (120, oMod ((if ((c == 60)) = true ∧ (0 : Nat) = 0 then 2 else 0 : Nat) : Int) (c : Int) row brk al wk us kp pt) := by rw [hh45]; exact hset_eq
        replace kJ := kJ.fr f45 (fun x hx => by omega)
        replace ff := ff.trans f45
        clear hh45 f45
        rw [show (((c == 60)) || (0 : Nat) != 0) = ((c == 60)) from Bool.or_false _]
        clear kr kb kwk kus kkp kpt ka ke kI kMat hc60 hw hm24 hMt
        obtain ⟨⟨hc60, hw, hm24, hMt⟩, kr, kb, kwk, kus, kkp, kpt, ed, N, P, ka, ke, kI, kMat⟩ := id kJ
        dsimp only [Option.toList, List.cons_append, List.nil_append]
        refine wi_if_eq hX (tgt := 53) dX12_type_48 (by decide) (by exact b2n_inR _) (fun c48 => ?_) (fun c48 => ?_)
        · skip
          have hv2 := b2n_f c48
          rw [hv2, if_neg (fun z => Bool.false_ne_true z.1)] at k1
          have hc9 : c < 60 := by
            have := beq_eq_false_iff_ne.mp hv2
            omega
          obtain ⟨t, rfl⟩ := Int.eq_ofNat_of_zero_le hv.1
          refine wa_aload_n hX (i := 0) dX12_type_53 rfl rfl ?_
          refine wa_get hX 2 (by assumption) (by rfl) (by decide +kernel) dX12_type_54 ?_
          refine wa_aload_n hX (i := 0) dX12_type_57 rfl rfl ?_
          refine wa_get hX 1 (by assumption) (by rfl) (by decide +kernel) dX12_type_58 ?_
          refine wa_iload_n hX (i := 1) dX12_type_61 rfl rfl ?_
          refine wi_iastore hX kr (by omega) (by omega) (by omega) dX12_type_62 ?_
          rw [Int.toNat_natCast, up_castN]
          refine WA.hgq (fun hB hhB => ?_)
          have f2 : Fr (fun x => x = 121) h45 hB := by rw [hhB]; exact Fr.hset Fr.rf kr rfl
          have kr2 : hB row = some (121, aI .int 60 (fun j => ((up w c t j : Nat) : Int))) := by rw [hhB]; exact hset_eq
          replace k1 := f2 _ _ _ k1 (by omega)
          obtain ⟨q3, q4, q5, q6, q7⟩ : hB brk = some (122, aI .int 3 (fun j => if j = 0 then b0 else if j = 1 then b1 else b2)) ∧ (∃ WK : Nat → Int, hB wk = some (125, aI .int 100 WK)) ∧ (∃ US : Nat → Bool, hB us = some (126, aI .boolean 10 (fun j => ((b2n (US j) : Nat) : Int)))) ∧ (∃ KP : Nat → Int, hB kp = some (127, aI .int 10 KP)) ∧ (∃ (e0 rq : Nat) (m2 m3 : Value) (l2 l3 : Int) (G0 : Nat → Int), hB pt = some (128, oRef e0 rq m2 m3 l2 l3) ∧ hB rq = some (129, aI .int 1024 G0)) := by
            obtain ⟨WK, z1⟩ := kwk
            obtain ⟨US, z2⟩ := kus
            obtain ⟨KP, z3⟩ := kkp
            obtain ⟨e0, rq, m2, m3, l2, l3, G0, z4, z5⟩ := kpt
            exact ⟨f2 _ _ _ kb (by omega), ⟨WK, f2 _ _ _ z1 (by omega)⟩, ⟨US, f2 _ _ _ z2 (by omega)⟩, ⟨KP, f2 _ _ _ z3 (by omega)⟩, ⟨e0, rq, m2, m3, l2, l3, G0, f2 _ _ _ z4 (by omega), f2 _ _ _ z5 (by omega)⟩⟩
          have kJ2 : RJ Z DR hB row brk al wk us kp pt (c + 1) (up w c t) m E R b0 b1 b2 := by
            refine ⟨⟨by omega, up_lt hw (by omega), hm24, hMt⟩, kr2, q3, q4, q5, q6, q7, ed, N, P, f2 _ _ _ ka (by omega), ?_, kI, fun j hj => (kMat j hj).fr f2 (fun x hx => by omega)⟩
            rcases ke with z | ⟨z, z2⟩
            · exact Or.inl z
            · exact Or.inr ⟨f2 _ _ _ z (by omega), z2⟩
          refine wa_aload_n hX (i := 0) dX12_type_63 rfl rfl ?_
          refine wa_dup hX dX12_type_64 rfl ?_
          refine wa_get hX 1 (by assumption) (by rfl) (by decide +kernel) dX12_type_65 ?_
          refine wi_iconst hX dX12_type_68 ?_
          refine wi_iadd hX dX12_type_69 ?_
          refine wa_put hX 1 k1 (Nat.le_of_ble_eq_true rfl) (by decide +kernel) (by rfl) (by rfl) (by rfl) dX12_type_70 ?_
          refine WA.heap (h2 := hset hB a (120, oMod ((0 : Nat) : Int) ((c + 1 : Nat) : Int) row brk al wk us kp pt)) rfl ?_
          refine WA.hgq (fun hC hhC => ?_)
          have f3 : Fr (fun x => x = 120) hB hC := by rw [hhC]; exact Fr.hset Fr.rf k1 rfl
          replace k1 : hC a = some (120, oMod ((0 : Nat) : Int) ((c + 1 : Nat) : Int) row brk al wk us kp pt) := by rw [hhC]; exact hset_eq
          replace kJ2 := kJ2.fr f3 (fun x hx => by omega)
          refine wa_aload_n hX (i := 0) dX12_type_73 rfl rfl ?_
          refine wa_get hX 1 (by assumption) (by rfl) (by decide +kernel) dX12_type_74 ?_
          refine wa_iret hX dX12_type_77 ?_
          exact ⟨((ff.mono (fun x hx => by omega)).trans (f2.mono (fun x hx => by omega))).trans (f3.mono (fun x hx => by omega)), Or.inr (Or.inr ⟨t, by omega, rfl, hc9, rfl, row, brk, al, wk, us, kp, pt, k1, kJ2⟩)⟩
        · skip
          refine wi_iconst hX dX12_type_51 ?_
          refine wa_iret hX dX12_type_52 ?_
          have z := b2n_t c48
          rw [z, if_pos ⟨rfl, rfl⟩] at k1
          exact ⟨ff.mono (fun x hx => by omega), Or.inr (Or.inl ⟨hv.1, hv.2, beq_iff_eq.mp z, ⟨_, rfl⟩, row, brk, al, wk, us, kp, pt, k1, kJ⟩)⟩
end C81
