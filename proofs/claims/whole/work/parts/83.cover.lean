/-! The reference (X12): covers, packings -/
theorem Mtr.noLoop {e : Nat} {rk : Nat → Nat} (hM : Mtr e rk) (hl : loopB rk e = false) {s : Nat} (h0 : 0 < s) (hs : s < 2 ^ e) : rk s ≠ 0 := by
  intro q
  have : s = 0 := by
    apply Nat.eq_of_testBit_eq
    intro x
    rw [Nat.zero_testBit, ← Bool.not_eq_true]
    intro hx
    have hxe : x < e := by
      apply Classical.byContradiction
      intro g
      rw [Nat.testBit_lt_two_pow (Nat.lt_of_lt_of_le hs (Nat.pow_le_pow_right (by decide) (by omega)))] at hx
      cases hx
    have hm := hM.mono (s := 2 ^ x) hs (fun i hi => by
      rw [p2_testBit, decide_eq_true_eq] at hi
      subst hi
      exact hx)
    rw [← Bool.not_eq_true] at hl
    exact hl (anyB_iff.mpr ⟨x, hxe, beq_iff_eq.mpr (by omega)⟩)
  omega
theorem cvM_some {rk : Nat → Nat} : ∀ n, 2 ≤ n → ∃ s, 1 ≤ s ∧ s < n ∧ ndN rk s = cvM rk n := by
  intro n
  induction n with
  | zero => intro h; omega
  | succ n ih =>
    intro h
    have hst : cvM rk (n + 1) = max (cvM rk n) (ndN rk n) := if_neg (by omega)
    by_cases g : n = 1
    · subst g
      refine ⟨1, Nat.le_refl 1, by omega, ?_⟩
      rw [hst, show cvM rk 1 = 0 from rfl]
      omega
    · by_cases q : cvM rk n ≤ ndN rk n
      · exact ⟨n, by omega, by omega, by rw [hst]; omega⟩
      · obtain ⟨s, s1, s2, s3⟩ := ih (by omega)
        exact ⟨s, s1, by omega, by rw [hst]; omega⟩
theorem pkM_some {rk : Nat → Nat} {e : Nat} (he : e ≤ 10) : ∀ n, 1 ≤ n → ∃ s, s < n ∧ alwN rk e s = pkM rk e n := by
  intro n
  induction n with
  | zero => intro h; omega
  | succ n ih =>
    intro h
    have hst : pkM rk e (n + 1) = min (pkM rk e n) (alwN rk e n) := rfl
    have hal := alwN_le rk e n he
    by_cases q : alwN rk e n ≤ pkM rk e n
    · exact ⟨n, by omega, by rw [hst]; omega⟩
    · by_cases g : n = 0
      · subst g
        exfalso
        exact q hal
      · obtain ⟨s, s2, s3⟩ := ih (by omega)
        exact ⟨s, by omega, by rw [hst]; omega⟩
section C83
variable {l : Launch} {D : va_G} {S0 : State} {Z : Nat → Prop} {DR : (Nat → Nat) → Nat → Nat → Option (Nat → Nat) → Prop}
set_option maxHeartbeats 2000000 in
set_option maxRecDepth 100000 in
theorem c_X12_cover (hW : WOK l D S0) (d : Nat) {h : AH} {a th : Nat} {c m : Nat} {w : Nat → Nat} {E : Nat → Nat} {R : Nat → Nat → Nat} {b0 b1 b2 : Int} (hI : RI Z DR h a th c w m E R b0 b1 b2) {n : Int} (hn : inR n) : MA l D S0 yX12_cover cX12_cover 2 (some .int) (d + 4) [.ref a, I n] h 0 0 (fun r h' => Fr (fun x => x = 120) h h' ∧ ((noM n m ∧ (∃ z, r = some (I z)) ∧ RI Z DR h' a 1 c w m E R b0 b1 b2) ∨ ∃ i, i < m ∧ n = (i : Int) ∧ ((loopB (R i) (E i) = true ∧ (∃ z, r = some (I z)) ∧ RI Z DR h' a 2 c w m E R b0 b1 b2) ∨ (loopB (R i) (E i) = false ∧ r = some (I (cvM (R i) (2 ^ E i) : Nat)) ∧ RI Z DR h' a 0 c w m E R b0 b1 b2)))) (fun _ _ => False) := by
  obtain ⟨row, brk, al, wk, us, kp, pt, k1, kJ⟩ := hI
  refine MA.start hW (by decide) [.val (.ref a), .val (I n)] rfl ?_
  rintro X rfl rfl rfl hX
  refine wa_aload_n hX (i := 0) dX12_cover_0 rfl rfl ?_
  refine wi_iconst hX dX12_cover_1 ?_
  refine wa_put hX 0 k1 (Nat.le_of_ble_eq_true rfl) (by decide +kernel) (by rfl) (by rfl) (by rfl) dX12_cover_2 ?_
  refine WA.heap (h2 := hset h a (120, oMod ((0 : Nat) : Int) (c : Int) row brk al wk us kp pt)) rfl ?_
  refine WA.hgq (fun hA hh2 => ?_)
  have ff : Fr (fun x => x = 120) h hA := by rw [hh2]; exact Fr.hset Fr.rf k1 rfl
  replace k1 : hA a = some (120, oMod ((0 : Nat) : Int) (c : Int) row brk al wk us kp pt) := by rw [hh2]; exact hset_eq
  replace kJ := kJ.fr ff (fun x hx => by omega)
  clear hh2
  obtain ⟨⟨hc60, hw, hm24, hMt⟩, kr, kb, kwk, kus, kkp, kpt, ed, N, P, ka, ke, kI, kMat⟩ := id kJ
  refine wa_aload_n hX (i := 0) dX12_cover_5 rfl rfl ?_
  refine wa_aload_n hX (i := 0) dX12_cover_6 rfl rfl ?_
  refine wa_iload_n hX (i := 1) dX12_cover_7 rfl rfl ?_
  refine wa_callV hX (c_X12_no hW (d + 1) k1 ka hm24 hn) (by assumption) (by rfl) (by rfl) (by omega) (nA := 1) (by rfl) (by decide +kernel) rfl (by exact Nat.le_of_ble_eq_true rfl) dX12_cover_8 (fun r8 h8 p8 => ?_) (fun _ _ q => q.elim)
  obtain ⟨rfl, qq8⟩ := p8; subst h8
  dsimp only [Option.toList, List.cons_append, List.nil_append]
  refine wi_iconst hX dX12_cover_11 ?_
  refine wa_callV hX (c_X12_fails hW d (th := 0) (k := 1) (b := (!decide (0 ≤ n ∧ n < (m : Int)))) k1 (by omega) (by omega)) (by assumption) (by rfl) (by rfl) (by omega) (nA := 2) (by rfl) (by decide +kernel) rfl (by exact Nat.le_of_ble_eq_true rfl) dX12_cover_12 (fun r12 h12 p12 => ?_) (fun _ _ q => q.elim)
  obtain ⟨rfl, hh12⟩ := p12
  have f12 : Fr (fun x => x = 120) hA h12 := by rw [hh12]; exact Fr.hset Fr.rf k1 rfl
  replace k1 : h12 a = some (120, oMod ((if ((!decide (0 ≤ n ∧ n < (m : Int)))) = true ∧ (0 : Nat) = 0 then 1 else 0 : Nat) : Int) (c : Int) row brk al wk us kp pt) := by rw [hh12]; exact hset_eq
  replace kJ := kJ.fr f12 (fun x hx => by omega)
  replace ff := ff.trans f12
  clear hh12 f12
  rw [show (((!decide (0 ≤ n ∧ n < (m : Int)))) || (0 : Nat) != 0) = ((!decide (0 ≤ n ∧ n < (m : Int)))) from Bool.or_false _]
  clear kr kb kwk kus kkp kpt ka ke kI kMat hc60 hw hm24 hMt
  obtain ⟨⟨hc60, hw, hm24, hMt⟩, kr, kb, kwk, kus, kkp, kpt, ed, N, P, ka, ke, kI, kMat⟩ := id kJ
  dsimp only [Option.toList, List.cons_append, List.nil_append]
  refine wi_if_ne hX (tgt := 40) dX12_cover_15 (by decide) (by exact b2n_inR _) (fun c15 => ?_) (fun c15 => ?_)
  · skip
    refine wi_iconst hX dX12_cover_40 ?_
    refine wa_goto hX (tgt := 58) dX12_cover_41 (by decide) ?_
    refine wa_iret hX dX12_cover_58 ?_
    first
      | (have z := b2n_t c15
         rw [z, if_pos ⟨rfl, rfl⟩] at k1
         rw [Bool.not_eq_true', decide_eq_false_iff_not] at z
         exact ⟨ff, Or.inl ⟨z, ⟨_, rfl⟩, row, brk, al, wk, us, kp, pt, k1, kJ⟩⟩)
      | (have z := b2n_t c37
         rw [z, if_pos ⟨rfl, rfl⟩] at k1
         exact ⟨ff, Or.inr ⟨i, hi, rfl, Or.inl ⟨z, ⟨_, rfl⟩, row, brk, al, wk, us, kp, pt, k1, kJ⟩⟩⟩)
      | exact ⟨ff, Or.inr ⟨i, hi, rfl, Or.inr ⟨hv37, rfl, row, brk, al, wk, us, kp, pt, k1, kJ⟩⟩⟩
  · skip
    have hv := b2n_f c15
    rw [hv, if_neg (fun z => Bool.false_ne_true z.1)] at k1
    rw [Bool.not_eq_false', decide_eq_true_eq] at hv
    obtain ⟨i, rfl⟩ := Int.eq_ofNat_of_zero_le hv.1
    have hi : i < m := by omega
    obtain ⟨e3, hN1, hN2⟩ : h12 ed = some (124, aR (.object "java/lang/Object") N (fun j => if j < m then some (P j) else none)) ∧ m ≤ N ∧ N ≤ 100 := by
      rcases ke with z | z
      · exfalso; omega
      · exact z
    obtain ⟨rq, m2, m3, l2, l3, G, g1, g2, g3, g4, g5⟩ := id (kMat i hi)
    have hMi := hMt i hi
    have he := hMi.1
    have hp := p2_le he
    have hp0 := p2_pos (E i)
    refine wa_aload_n hX (i := 0) dX12_cover_18 rfl rfl ?_
    refine wa_aload_n hX (i := 0) dX12_cover_19 rfl rfl ?_
    refine wa_get hX 4 (by assumption) (by rfl) (by decide +kernel) dX12_cover_20 ?_
    refine wa_iload_n hX (i := 1) dX12_cover_23 rfl rfl ?_
    refine wa_callV hX (c_AL_get hW d ka e3 (i := i) (q := P i) hi hN1 (by omega) (if_pos hi)) (by assumption) (by rfl) (by rfl) (by omega) (nA := 1) (by rfl) (by decide +kernel) rfl (by exact Nat.le_of_ble_eq_true rfl) dX12_cover_24 (fun r24 h24 p24 => ?_) (fun _ _ q => q.elim)
    obtain ⟨rfl, qq24⟩ := p24; subst h24
    dsimp only [Option.toList, List.cons_append, List.nil_append]
    refine wa_ccast hX g1 (by rfl) (by decide +kernel) dX12_cover_27 ?_
    refine wa_callS hX (c_X12_hasLoop hW d g1 g2 g3 he (fun s hs => hMi.le10 hs)) (by rfl) (by omega) (nA := 1) (by rfl) (by decide +kernel) rfl (by exact Nat.le_of_ble_eq_true rfl) dX12_cover_30 (fun r30 h30 p30 => ?_) (fun _ _ q => q.elim)
    obtain ⟨rfl, qq30⟩ := p30; subst h30
    dsimp only [Option.toList, List.cons_append, List.nil_append]
    refine wi_iconst hX dX12_cover_33 ?_
    refine wa_callV hX (c_X12_fails hW d (th := 0) (k := 2) (b := loopB (R i) (E i)) k1 (by omega) (by omega)) (by assumption) (by rfl) (by rfl) (by omega) (nA := 2) (by rfl) (by decide +kernel) rfl (by exact Nat.le_of_ble_eq_true rfl) dX12_cover_34 (fun r34 h34 p34 => ?_) (fun _ _ q => q.elim)
    obtain ⟨rfl, hh34⟩ := p34
    have f34 : Fr (fun x => x = 120) h12 h34 := by rw [hh34]; exact Fr.hset Fr.rf k1 rfl
    replace k1 : h34 a = some (120, oMod ((if (loopB (R i) (E i)) = true ∧ (0 : Nat) = 0 then 2 else 0 : Nat) : Int) (c : Int) row brk al wk us kp pt) := by rw [hh34]; exact hset_eq
    replace kJ := kJ.fr f34 (fun x hx => by omega)
    replace ff := ff.trans f34
    clear hh34 f34
    rw [show ((loopB (R i) (E i)) || (0 : Nat) != 0) = (loopB (R i) (E i)) from Bool.or_false _]
    clear kr kb kwk kus kkp kpt ka ke kI kMat hc60 hw hm24 hMt
    obtain ⟨⟨hc60, hw, hm24, hMt⟩, kr, kb, kwk, kus, kkp, kpt, ed, N, P, ka, ke, kI, kMat⟩ := id kJ
    dsimp only [Option.toList, List.cons_append, List.nil_append]
    refine wi_if_eq hX (tgt := 44) dX12_cover_37 (by decide) (by exact b2n_inR _) (fun c37 => ?_) (fun c37 => ?_)
    · skip
      have hv37 := b2n_f c37
      rw [hv37, if_neg (fun z => Bool.false_ne_true z.1)] at k1
      obtain ⟨e3, hN1, hN2⟩ : h34 ed = some (124, aR (.object "java/lang/Object") N (fun j => if j < m then some (P j) else none)) ∧ m ≤ N ∧ N ≤ 100 := by
        rcases ke with z | z
        · exfalso; omega
        · exact z
      obtain ⟨rq, m2, m3, l2, l3, G, g1, g2, g3, g4, g5⟩ := id (kMat i hi)
      have hMi := hMt i hi
      have he := hMi.1
      have hp := p2_le he
      have hp0 := p2_pos (E i)
      refine wa_aload_n hX (i := 0) dX12_cover_44 rfl rfl ?_
      refine wa_get hX 4 (by assumption) (by rfl) (by decide +kernel) dX12_cover_45 ?_
      refine wa_iload_n hX (i := 1) dX12_cover_48 rfl rfl ?_
      refine wa_callV hX (c_AL_get hW d ka e3 (i := i) (q := P i) hi hN1 (by omega) (if_pos hi)) (by assumption) (by rfl) (by rfl) (by omega) (nA := 1) (by rfl) (by decide +kernel) rfl (by exact Nat.le_of_ble_eq_true rfl) dX12_cover_49 (fun r49 h49 p49 => ?_) (fun _ _ q => q.elim)
      obtain ⟨rfl, qq49⟩ := p49; subst h49
      dsimp only [Option.toList, List.cons_append, List.nil_append]
      refine wa_ccast hX g1 (by rfl) (by decide +kernel) dX12_cover_52 ?_
      refine wa_callS hX (c_X12_coverOf hW d g1 g2 g3 he (fun s hs => hMi.le10 hs) (fun s q1 q2 => hMi.noLoop hv37 q1 q2)) (by rfl) (by omega) (nA := 1) (by rfl) (by decide +kernel) rfl (by exact Nat.le_of_ble_eq_true rfl) dX12_cover_55 (fun r55 h55 p55 => ?_) (fun _ _ q => q.elim)
      obtain ⟨rfl, qq55⟩ := p55; subst h55
      dsimp only [Option.toList, List.cons_append, List.nil_append]
      refine wa_iret hX dX12_cover_58 ?_
      first
        | (have z := b2n_t c15
           rw [z, if_pos ⟨rfl, rfl⟩] at k1
           rw [Bool.not_eq_true', decide_eq_false_iff_not] at z
           exact ⟨ff, Or.inl ⟨z, ⟨_, rfl⟩, row, brk, al, wk, us, kp, pt, k1, kJ⟩⟩)
        | (have z := b2n_t c37
           rw [z, if_pos ⟨rfl, rfl⟩] at k1
           exact ⟨ff, Or.inr ⟨i, hi, rfl, Or.inl ⟨z, ⟨_, rfl⟩, row, brk, al, wk, us, kp, pt, k1, kJ⟩⟩⟩)
        | exact ⟨ff, Or.inr ⟨i, hi, rfl, Or.inr ⟨hv37, rfl, row, brk, al, wk, us, kp, pt, k1, kJ⟩⟩⟩
    · skip
      refine wi_iconst hX dX12_cover_40 ?_
      refine wa_goto hX (tgt := 58) dX12_cover_41 (by decide) ?_
      refine wa_iret hX dX12_cover_58 ?_
      first
        | (have z := b2n_t c15
           rw [z, if_pos ⟨rfl, rfl⟩] at k1
           rw [Bool.not_eq_true', decide_eq_false_iff_not] at z
           exact ⟨ff, Or.inl ⟨z, ⟨_, rfl⟩, row, brk, al, wk, us, kp, pt, k1, kJ⟩⟩)
        | (have z := b2n_t c37
           rw [z, if_pos ⟨rfl, rfl⟩] at k1
           exact ⟨ff, Or.inr ⟨i, hi, rfl, Or.inl ⟨z, ⟨_, rfl⟩, row, brk, al, wk, us, kp, pt, k1, kJ⟩⟩⟩)
        | exact ⟨ff, Or.inr ⟨i, hi, rfl, Or.inr ⟨hv37, rfl, row, brk, al, wk, us, kp, pt, k1, kJ⟩⟩⟩
set_option maxHeartbeats 2000000 in
set_option maxRecDepth 100000 in
theorem c_X12_coverBound (hW : WOK l D S0) (d : Nat) {h : AH} {a th : Nat} {c m : Nat} {w : Nat → Nat} {E : Nat → Nat} {R : Nat → Nat → Nat} {b0 b1 b2 : Int} (hI : RI Z DR h a th c w m E R b0 b1 b2) {n : Int} (hn : inR n) : MA l D S0 yX12_coverBound cX12_coverBound 4 (some .int) (d + 4) [.ref a, I n] h 0 0 (fun r h' => Fr (fun x => x = 120) h h' ∧ ((noM n m ∧ (∃ z, r = some (I z)) ∧ RI Z DR h' a 1 c w m E R b0 b1 b2) ∨ ∃ i, i < m ∧ n = (i : Int) ∧ ((loopB (R i) (E i) = true ∧ (∃ z, r = some (I z)) ∧ RI Z DR h' a 2 c w m E R b0 b1 b2) ∨ (loopB (R i) (E i) = false ∧ ((E i = 0 ∧ (∃ z, r = some (I z)) ∧ RI Z DR h' a 3 c w m E R b0 b1 b2) ∨ (E i ≠ 0 ∧ ∃ t : Nat, 1 ≤ t ∧ t < 2 ^ E i ∧ ndN (R i) t = cvM (R i) (2 ^ E i) ∧ (∀ u, 1 ≤ u → u < t → ndN (R i) u ≠ cvM (R i) (2 ^ E i)) ∧ r = some (I (t : Int)) ∧ RI Z DR h' a 0 c w m E R b0 b1 b2)))))) (fun _ _ => False) := by
  obtain ⟨row, brk, al, wk, us, kp, pt, k1, kJ⟩ := hI
  refine MA.start hW (by decide) [.val (.ref a), .val (I n), .unset, .unset] rfl ?_
  rintro X rfl rfl rfl hX
  refine wa_aload_n hX (i := 0) dX12_coverBound_0 rfl rfl ?_
  refine wi_iconst hX dX12_coverBound_1 ?_
  refine wa_put hX 0 k1 (Nat.le_of_ble_eq_true rfl) (by decide +kernel) (by rfl) (by rfl) (by rfl) dX12_coverBound_2 ?_
  refine WA.heap (h2 := hset h a (120, oMod ((0 : Nat) : Int) (c : Int) row brk al wk us kp pt)) rfl ?_
  refine WA.hgq (fun hA hh2 => ?_)
  have ff : Fr (fun x => x = 120) h hA := by rw [hh2]; exact Fr.hset Fr.rf k1 rfl
  replace k1 : hA a = some (120, oMod ((0 : Nat) : Int) (c : Int) row brk al wk us kp pt) := by rw [hh2]; exact hset_eq
  replace kJ := kJ.fr ff (fun x hx => by omega)
  clear hh2
  obtain ⟨⟨hc60, hw, hm24, hMt⟩, kr, kb, kwk, kus, kkp, kpt, ed, N, P, ka, ke, kI, kMat⟩ := id kJ
  refine wa_aload_n hX (i := 0) dX12_coverBound_5 rfl rfl ?_
  refine wa_aload_n hX (i := 0) dX12_coverBound_6 rfl rfl ?_
  refine wa_iload_n hX (i := 1) dX12_coverBound_7 rfl rfl ?_
  refine wa_callV hX (c_X12_no hW (d + 1) k1 ka hm24 hn) (by assumption) (by rfl) (by rfl) (by omega) (nA := 1) (by rfl) (by decide +kernel) rfl (by exact Nat.le_of_ble_eq_true rfl) dX12_coverBound_8 (fun r8 h8 p8 => ?_) (fun _ _ q => q.elim)
  obtain ⟨rfl, qq8⟩ := p8; subst h8
  dsimp only [Option.toList, List.cons_append, List.nil_append]
  refine wi_iconst hX dX12_coverBound_11 ?_
  refine wa_callV hX (c_X12_fails hW d (th := 0) (k := 1) (b := (!decide (0 ≤ n ∧ n < (m : Int)))) k1 (by omega) (by omega)) (by assumption) (by rfl) (by rfl) (by omega) (nA := 2) (by rfl) (by decide +kernel) rfl (by exact Nat.le_of_ble_eq_true rfl) dX12_coverBound_12 (fun r12 h12 p12 => ?_) (fun _ _ q => q.elim)
  obtain ⟨rfl, hh12⟩ := p12
  have f12 : Fr (fun x => x = 120) hA h12 := by rw [hh12]; exact Fr.hset Fr.rf k1 rfl
  replace k1 : h12 a = some (120, oMod ((if ((!decide (0 ≤ n ∧ n < (m : Int)))) = true ∧ (0 : Nat) = 0 then 1 else 0 : Nat) : Int) (c : Int) row brk al wk us kp pt) := by rw [hh12]; exact hset_eq
  replace kJ := kJ.fr f12 (fun x hx => by omega)
  replace ff := ff.trans f12
  clear hh12 f12
  rw [show (((!decide (0 ≤ n ∧ n < (m : Int)))) || (0 : Nat) != 0) = ((!decide (0 ≤ n ∧ n < (m : Int)))) from Bool.or_false _]
  clear kr kb kwk kus kkp kpt ka ke kI kMat hc60 hw hm24 hMt
  obtain ⟨⟨hc60, hw, hm24, hMt⟩, kr, kb, kwk, kus, kkp, kpt, ed, N, P, ka, ke, kI, kMat⟩ := id kJ
  dsimp only [Option.toList, List.cons_append, List.nil_append]
  refine wi_if_ne hX (tgt := 70) dX12_coverBound_15 (by decide) (by exact b2n_inR _) (fun c15 => ?_) (fun c15 => ?_)
  · skip
    refine wi_iconst hX dX12_coverBound_70 ?_
    refine wa_iret hX dX12_coverBound_71 ?_
    first
      | (have z := b2n_t c15
         rw [z, if_pos ⟨rfl, rfl⟩] at k1
         rw [Bool.not_eq_true', decide_eq_false_iff_not] at z
         exact ⟨ff, Or.inl ⟨z, ⟨_, rfl⟩, row, brk, al, wk, us, kp, pt, k1, kJ⟩⟩)
      | (have z := b2n_t c37
         rw [z, if_pos ⟨rfl, rfl⟩] at k1
         exact ⟨ff, Or.inr ⟨i, hi, rfl, Or.inl ⟨z, ⟨_, rfl⟩, row, brk, al, wk, us, kp, pt, k1, kJ⟩⟩⟩)
  · skip
    have hv := b2n_f c15
    rw [hv, if_neg (fun z => Bool.false_ne_true z.1)] at k1
    rw [Bool.not_eq_false', decide_eq_true_eq] at hv
    obtain ⟨i, rfl⟩ := Int.eq_ofNat_of_zero_le hv.1
    have hi : i < m := by omega
    obtain ⟨e3, hN1, hN2⟩ : h12 ed = some (124, aR (.object "java/lang/Object") N (fun j => if j < m then some (P j) else none)) ∧ m ≤ N ∧ N ≤ 100 := by
      rcases ke with z | z
      · exfalso; omega
      · exact z
    obtain ⟨rq, m2, m3, l2, l3, G, g1, g2, g3, g4, g5⟩ := id (kMat i hi)
    have hMi := hMt i hi
    have he := hMi.1
    have hp := p2_le he
    have hp0 := p2_pos (E i)
    refine wa_aload_n hX (i := 0) dX12_coverBound_18 rfl rfl ?_
    refine wa_aload_n hX (i := 0) dX12_coverBound_19 rfl rfl ?_
    refine wa_get hX 4 (by assumption) (by rfl) (by decide +kernel) dX12_coverBound_20 ?_
    refine wa_iload_n hX (i := 1) dX12_coverBound_23 rfl rfl ?_
    refine wa_callV hX (c_AL_get hW d ka e3 (i := i) (q := P i) hi hN1 (by omega) (if_pos hi)) (by assumption) (by rfl) (by rfl) (by omega) (nA := 1) (by rfl) (by decide +kernel) rfl (by exact Nat.le_of_ble_eq_true rfl) dX12_coverBound_24 (fun r24 h24 p24 => ?_) (fun _ _ q => q.elim)
    obtain ⟨rfl, qq24⟩ := p24; subst h24
    dsimp only [Option.toList, List.cons_append, List.nil_append]
    refine wa_ccast hX g1 (by rfl) (by decide +kernel) dX12_coverBound_27 ?_
    refine wa_callS hX (c_X12_hasLoop hW d g1 g2 g3 he (fun s hs => hMi.le10 hs)) (by rfl) (by omega) (nA := 1) (by rfl) (by decide +kernel) rfl (by exact Nat.le_of_ble_eq_true rfl) dX12_coverBound_30 (fun r30 h30 p30 => ?_) (fun _ _ q => q.elim)
    obtain ⟨rfl, qq30⟩ := p30; subst h30
    dsimp only [Option.toList, List.cons_append, List.nil_append]
    refine wi_iconst hX dX12_coverBound_33 ?_
    refine wa_callV hX (c_X12_fails hW d (th := 0) (k := 2) (b := loopB (R i) (E i)) k1 (by omega) (by omega)) (by assumption) (by rfl) (by rfl) (by omega) (nA := 2) (by rfl) (by decide +kernel) rfl (by exact Nat.le_of_ble_eq_true rfl) dX12_coverBound_34 (fun r34 h34 p34 => ?_) (fun _ _ q => q.elim)
    obtain ⟨rfl, hh34⟩ := p34
    have f34 : Fr (fun x => x = 120) h12 h34 := by rw [hh34]; exact Fr.hset Fr.rf k1 rfl
    replace k1 : h34 a = some (120, oMod ((if (loopB (R i) (E i)) = true ∧ (0 : Nat) = 0 then 2 else 0 : Nat) : Int) (c : Int) row brk al wk us kp pt) := by rw [hh34]; exact hset_eq
    replace kJ := kJ.fr f34 (fun x hx => by omega)
    replace ff := ff.trans f34
    clear hh34 f34
    rw [show ((loopB (R i) (E i)) || (0 : Nat) != 0) = (loopB (R i) (E i)) from Bool.or_false _]
    clear kr kb kwk kus kkp kpt ka ke kI kMat hc60 hw hm24 hMt
    obtain ⟨⟨hc60, hw, hm24, hMt⟩, kr, kb, kwk, kus, kkp, kpt, ed, N, P, ka, ke, kI, kMat⟩ := id kJ
    dsimp only [Option.toList, List.cons_append, List.nil_append]
    refine wi_if_ne hX (tgt := 70) dX12_coverBound_37 (by decide) (by exact b2n_inR _) (fun c37 => ?_) (fun c37 => ?_)
    · skip
      refine wi_iconst hX dX12_coverBound_70 ?_
      refine wa_iret hX dX12_coverBound_71 ?_
      first
        | (have z := b2n_t c15
           rw [z, if_pos ⟨rfl, rfl⟩] at k1
           rw [Bool.not_eq_true', decide_eq_false_iff_not] at z
           exact ⟨ff, Or.inl ⟨z, ⟨_, rfl⟩, row, brk, al, wk, us, kp, pt, k1, kJ⟩⟩)
        | (have z := b2n_t c37
           rw [z, if_pos ⟨rfl, rfl⟩] at k1
           exact ⟨ff, Or.inr ⟨i, hi, rfl, Or.inl ⟨z, ⟨_, rfl⟩, row, brk, al, wk, us, kp, pt, k1, kJ⟩⟩⟩)
    · skip
      have hv37 := b2n_f c37
      rw [hv37, if_neg (fun z => Bool.false_ne_true z.1)] at k1
      obtain ⟨e3, hN1, hN2⟩ : h34 ed = some (124, aR (.object "java/lang/Object") N (fun j => if j < m then some (P j) else none)) ∧ m ≤ N ∧ N ≤ 100 := by
        rcases ke with z | z
        · exfalso; omega
        · exact z
      obtain ⟨rq, m2, m3, l2, l3, G, g1, g2, g3, g4, g5⟩ := id (kMat i hi)
      have hMi := hMt i hi
      have he := hMi.1
      have hp := p2_le he
      have hp0 := p2_pos (E i)
      refine wa_aload_n hX (i := 0) dX12_coverBound_40 rfl rfl ?_
      refine wa_aload_n hX (i := 0) dX12_coverBound_41 rfl rfl ?_
      refine wa_get hX 4 (by assumption) (by rfl) (by decide +kernel) dX12_coverBound_42 ?_
      refine wa_iload_n hX (i := 1) dX12_coverBound_45 rfl rfl ?_
      refine wa_callV hX (c_AL_get hW d ka e3 (i := i) (q := P i) hi hN1 (by omega) (if_pos hi)) (by assumption) (by rfl) (by rfl) (by omega) (nA := 1) (by rfl) (by decide +kernel) rfl (by exact Nat.le_of_ble_eq_true rfl) dX12_coverBound_46 (fun r46 h46 p46 => ?_) (fun _ _ q => q.elim)
      obtain ⟨rfl, qq46⟩ := p46; subst h46
      dsimp only [Option.toList, List.cons_append, List.nil_append]
      refine wa_ccast hX g1 (by rfl) (by decide +kernel) dX12_coverBound_49 ?_
      refine wa_get hX 0 (by assumption) (by rfl) (by decide +kernel) dX12_coverBound_52 ?_
      refine wi_if_ne hX (tgt := 62) dX12_coverBound_55 (by decide) (by omega) (fun c55 => ?_) (fun c55 => ?_)
      · skip
        refine wi_iconst hX dX12_coverBound_62 ?_
        refine WA.eq (pc2 := 63) (st2 := [I ((b2n (E i == 0) : Nat) : Int), .ref a]) rfl rfl (by
          first
            | (rw [show (E i == 0) = true from beq_iff_eq.mpr (by omega)]; rfl)
            | (rw [show (E i == 0) = false from beq_eq_false_iff_ne.mpr (by omega)]; rfl)) ?_
        clear c55
        refine wi_iconst hX dX12_coverBound_63 ?_
        refine wa_callV hX (c_X12_fails hW d (th := 0) (k := 3) (b := (E i == 0)) k1 (by omega) (by omega)) (by assumption) (by rfl) (by rfl) (by omega) (nA := 2) (by rfl) (by decide +kernel) rfl (by exact Nat.le_of_ble_eq_true rfl) dX12_coverBound_64 (fun r64 h64 p64 => ?_) (fun _ _ q => q.elim)
        obtain ⟨rfl, hh64⟩ := p64
        have f64 : Fr (fun x => x = 120) h34 h64 := by rw [hh64]; exact Fr.hset Fr.rf k1 rfl
        replace k1 : h64 a = some (120, oMod ((if ((E i == 0)) = true ∧ (0 : Nat) = 0 then 3 else 0 : Nat) : Int) (c : Int) row brk al wk us kp pt) := by rw [hh64]; exact hset_eq
        replace kJ := kJ.fr f64 (fun x hx => by omega)
        replace ff := ff.trans f64
        clear hh64 f64
        rw [show (((E i == 0)) || (0 : Nat) != 0) = ((E i == 0)) from Bool.or_false _]
        clear kr kb kwk kus kkp kpt ka ke kI kMat hc60 hw hm24 hMt
        obtain ⟨⟨hc60, hw, hm24, hMt⟩, kr, kb, kwk, kus, kkp, kpt, ed, N, P, ka, ke, kI, kMat⟩ := id kJ
        dsimp only [Option.toList, List.cons_append, List.nil_append]
        refine wi_if_eq hX (tgt := 72) dX12_coverBound_67 (by decide) (by exact b2n_inR _) (fun c67 => ?_) (fun c67 => ?_)
        · skip
          have hv67 := b2n_f c67
          rw [hv67, if_neg (fun z => Bool.false_ne_true z.1)] at k1
          have hne : E i ≠ 0 := beq_eq_false_iff_ne.mp hv67
          obtain ⟨e3, hN1, hN2⟩ : h64 ed = some (124, aR (.object "java/lang/Object") N (fun j => if j < m then some (P j) else none)) ∧ m ≤ N ∧ N ≤ 100 := by
            rcases ke with z | z
            · exfalso; omega
            · exact z
          obtain ⟨rq, m2, m3, l2, l3, G, g1, g2, g3, g4, g5⟩ := id (kMat i hi)
          have hMi := hMt i hi
          have he := hMi.1
          have hp := p2_le he
          have hp0 := p2_pos (E i)
          obtain ⟨t0, t1, t2, t3⟩ := cvM_some (rk := R i) (2 ^ E i) (by have := Nat.pow_le_pow_right (show 0 < 2 by decide) (show 1 ≤ E i by omega); omega)
          refine wa_aload_n hX (i := 0) dX12_coverBound_72 rfl rfl ?_
          refine wa_get hX 4 (by assumption) (by rfl) (by decide +kernel) dX12_coverBound_73 ?_
          refine wa_iload_n hX (i := 1) dX12_coverBound_76 rfl rfl ?_
          refine wa_callV hX (c_AL_get hW d ka e3 (i := i) (q := P i) hi hN1 (by omega) (if_pos hi)) (by assumption) (by rfl) (by rfl) (by omega) (nA := 1) (by rfl) (by decide +kernel) rfl (by exact Nat.le_of_ble_eq_true rfl) dX12_coverBound_77 (fun r77 h77 p77 => ?_) (fun _ _ q => q.elim)
          obtain ⟨rfl, qq77⟩ := p77; subst h77
          dsimp only [Option.toList, List.cons_append, List.nil_append]
          refine wa_ccast hX g1 (by rfl) (by decide +kernel) dX12_coverBound_80 ?_
          refine wa_astore_n hX (i := 2) dX12_coverBound_83 rfl rfl ?_
          dsimp only [List.set]
          refine wi_iconst hX dX12_coverBound_84 ?_
          refine wa_istore_n hX (i := 3) dX12_coverBound_85 rfl rfl ?_
          dsimp only [List.set]
          refine WA.loop (σ := Nat) (fun z => t0 - z) (fun z => 1 ≤ z ∧ z ≤ t0 ∧ ∀ u, 1 ≤ u → u < z → ndN (R i) u ≠ cvM (R i) (2 ^ E i)) (fun _ => h64) (fun z => [.val (.ref a), .val (I (i : Int)), .val (.ref (P i)), .val (I (z : Nat))]) ?_ 1 ⟨Nat.le_refl 1, t1, fun u q1 q2 => by omega⟩
          rintro z ⟨z1, z2, z3⟩ ih
          have hz2 : z < 2 ^ E i := by omega
          have hnd := ndN_le (R i) z (hMi.le10 hz2)
          have hcv := cvM_le (rk := R i) (2 ^ E i) (fun s hs => hMi.le10 hs)
          refine wa_aload_n hX (i := 2) dX12_coverBound_86 rfl rfl ?_
          refine wa_iload_n hX (i := 3) dX12_coverBound_87 rfl rfl ?_
          refine wa_callS hX (c_X12_needs hW d g1 g2 g3 he (fun s hs => hMi.le10 hs) (s := z) hz2 (hMi.noLoop hv37 (by omega) hz2)) (by rfl) (by omega) (nA := 2) (by rfl) (by decide +kernel) rfl (by exact Nat.le_of_ble_eq_true rfl) dX12_coverBound_88 (fun r88 h88 p88 => ?_) (fun _ _ q => q.elim)
          obtain ⟨rfl, qq88⟩ := p88; subst h88
          dsimp only [Option.toList, List.cons_append, List.nil_append]
          refine wa_aload_n hX (i := 2) dX12_coverBound_91 rfl rfl ?_
          refine wa_callS hX (c_X12_coverOf hW d g1 g2 g3 he (fun s hs => hMi.le10 hs) (fun s q1 q2 => hMi.noLoop hv37 q1 q2)) (by rfl) (by omega) (nA := 1) (by rfl) (by decide +kernel) rfl (by exact Nat.le_of_ble_eq_true rfl) dX12_coverBound_92 (fun r92 h92 p92 => ?_) (fun _ _ q => q.elim)
          obtain ⟨rfl, qq92⟩ := p92; subst h92
          dsimp only [Option.toList, List.cons_append, List.nil_append]
          refine wi_icmp_eq hX (tgt := 104) dX12_coverBound_95 (by decide) (by omega) (by omega) (fun c95 => ?_) (fun c95 => ?_)
          · skip
            refine wa_iload_n hX (i := 3) dX12_coverBound_104 rfl rfl ?_
            refine wa_iret hX dX12_coverBound_105 ?_
            exact ⟨ff, Or.inr ⟨i, hi, rfl, Or.inr ⟨hv37, Or.inr ⟨hne, z, z1, hz2, by omega, z3, rfl, row, brk, al, wk, us, kp, pt, k1, kJ⟩⟩⟩⟩
          · skip
            refine wi_iinc hX dX12_coverBound_98 rfl ?_
            dsimp only [List.set]
            refine wa_goto hX (tgt := 86) dX12_coverBound_101 (by decide) ?_
            have hq : ndN (R i) z ≠ cvM (R i) (2 ^ E i) := by omega
            have hlt : z < t0 := by
              apply Classical.byContradiction
              intro q
              have : z = t0 := by omega
              rw [this] at hq
              exact hq t3
            exact ih (z + 1) ⟨by omega, hlt, fun u q1 q2 => by
              by_cases q : u = z
              · subst q; exact hq
              · exact z3 u q1 (by omega)⟩ (by omega)
        · skip
          refine wi_iconst hX dX12_coverBound_70 ?_
          refine wa_iret hX dX12_coverBound_71 ?_
          have z := b2n_t c67
          rw [z, if_pos ⟨rfl, rfl⟩] at k1
          exact ⟨ff, Or.inr ⟨i, hi, rfl, Or.inr ⟨hv37, Or.inl ⟨beq_iff_eq.mp z, ⟨_, rfl⟩, row, brk, al, wk, us, kp, pt, k1, kJ⟩⟩⟩⟩
      · skip
        refine wi_iconst hX dX12_coverBound_58 ?_
        refine wa_goto hX (tgt := 63) dX12_coverBound_59 (by decide) ?_
        refine WA.eq (pc2 := 63) (st2 := [I ((b2n (E i == 0) : Nat) : Int), .ref a]) rfl rfl (by
          first
            | (rw [show (E i == 0) = true from beq_iff_eq.mpr (by omega)]; rfl)
            | (rw [show (E i == 0) = false from beq_eq_false_iff_ne.mpr (by omega)]; rfl)) ?_
        clear c55
        refine wi_iconst hX dX12_coverBound_63 ?_
        refine wa_callV hX (c_X12_fails hW d (th := 0) (k := 3) (b := (E i == 0)) k1 (by omega) (by omega)) (by assumption) (by rfl) (by rfl) (by omega) (nA := 2) (by rfl) (by decide +kernel) rfl (by exact Nat.le_of_ble_eq_true rfl) dX12_coverBound_64 (fun r64 h64 p64 => ?_) (fun _ _ q => q.elim)
        obtain ⟨rfl, hh64⟩ := p64
        have f64 : Fr (fun x => x = 120) h34 h64 := by rw [hh64]; exact Fr.hset Fr.rf k1 rfl
        replace k1 : h64 a = some (120, oMod ((if ((E i == 0)) = true ∧ (0 : Nat) = 0 then 3 else 0 : Nat) : Int) (c : Int) row brk al wk us kp pt) := by rw [hh64]; exact hset_eq
        replace kJ := kJ.fr f64 (fun x hx => by omega)
        replace ff := ff.trans f64
        clear hh64 f64
        rw [show (((E i == 0)) || (0 : Nat) != 0) = ((E i == 0)) from Bool.or_false _]
        clear kr kb kwk kus kkp kpt ka ke kI kMat hc60 hw hm24 hMt
        obtain ⟨⟨hc60, hw, hm24, hMt⟩, kr, kb, kwk, kus, kkp, kpt, ed, N, P, ka, ke, kI, kMat⟩ := id kJ
        dsimp only [Option.toList, List.cons_append, List.nil_append]
        refine wi_if_eq hX (tgt := 72) dX12_coverBound_67 (by decide) (by exact b2n_inR _) (fun c67 => ?_) (fun c67 => ?_)
        · skip
          have hv67 := b2n_f c67
          rw [hv67, if_neg (fun z => Bool.false_ne_true z.1)] at k1
          have hne : E i ≠ 0 := beq_eq_false_iff_ne.mp hv67
          obtain ⟨e3, hN1, hN2⟩ : h64 ed = some (124, aR (.object "java/lang/Object") N (fun j => if j < m then some (P j) else none)) ∧ m ≤ N ∧ N ≤ 100 := by
            rcases ke with z | z
            · exfalso; omega
            · exact z
          obtain ⟨rq, m2, m3, l2, l3, G, g1, g2, g3, g4, g5⟩ := id (kMat i hi)
          have hMi := hMt i hi
          have he := hMi.1
          have hp := p2_le he
          have hp0 := p2_pos (E i)
          obtain ⟨t0, t1, t2, t3⟩ := cvM_some (rk := R i) (2 ^ E i) (by have := Nat.pow_le_pow_right (show 0 < 2 by decide) (show 1 ≤ E i by omega); omega)
          refine wa_aload_n hX (i := 0) dX12_coverBound_72 rfl rfl ?_
          refine wa_get hX 4 (by assumption) (by rfl) (by decide +kernel) dX12_coverBound_73 ?_
          refine wa_iload_n hX (i := 1) dX12_coverBound_76 rfl rfl ?_
          refine wa_callV hX (c_AL_get hW d ka e3 (i := i) (q := P i) hi hN1 (by omega) (if_pos hi)) (by assumption) (by rfl) (by rfl) (by omega) (nA := 1) (by rfl) (by decide +kernel) rfl (by exact Nat.le_of_ble_eq_true rfl) dX12_coverBound_77 (fun r77 h77 p77 => ?_) (fun _ _ q => q.elim)
          obtain ⟨rfl, qq77⟩ := p77; subst h77
          dsimp only [Option.toList, List.cons_append, List.nil_append]
          refine wa_ccast hX g1 (by rfl) (by decide +kernel) dX12_coverBound_80 ?_
          refine wa_astore_n hX (i := 2) dX12_coverBound_83 rfl rfl ?_
          dsimp only [List.set]
          refine wi_iconst hX dX12_coverBound_84 ?_
          refine wa_istore_n hX (i := 3) dX12_coverBound_85 rfl rfl ?_
          dsimp only [List.set]
          refine WA.loop (σ := Nat) (fun z => t0 - z) (fun z => 1 ≤ z ∧ z ≤ t0 ∧ ∀ u, 1 ≤ u → u < z → ndN (R i) u ≠ cvM (R i) (2 ^ E i)) (fun _ => h64) (fun z => [.val (.ref a), .val (I (i : Int)), .val (.ref (P i)), .val (I (z : Nat))]) ?_ 1 ⟨Nat.le_refl 1, t1, fun u q1 q2 => by omega⟩
          rintro z ⟨z1, z2, z3⟩ ih
          have hz2 : z < 2 ^ E i := by omega
          have hnd := ndN_le (R i) z (hMi.le10 hz2)
          have hcv := cvM_le (rk := R i) (2 ^ E i) (fun s hs => hMi.le10 hs)
          refine wa_aload_n hX (i := 2) dX12_coverBound_86 rfl rfl ?_
          refine wa_iload_n hX (i := 3) dX12_coverBound_87 rfl rfl ?_
          refine wa_callS hX (c_X12_needs hW d g1 g2 g3 he (fun s hs => hMi.le10 hs) (s := z) hz2 (hMi.noLoop hv37 (by omega) hz2)) (by rfl) (by omega) (nA := 2) (by rfl) (by decide +kernel) rfl (by exact Nat.le_of_ble_eq_true rfl) dX12_coverBound_88 (fun r88 h88 p88 => ?_) (fun _ _ q => q.elim)
          obtain ⟨rfl, qq88⟩ := p88; subst h88
          dsimp only [Option.toList, List.cons_append, List.nil_append]
          refine wa_aload_n hX (i := 2) dX12_coverBound_91 rfl rfl ?_
          refine wa_callS hX (c_X12_coverOf hW d g1 g2 g3 he (fun s hs => hMi.le10 hs) (fun s q1 q2 => hMi.noLoop hv37 q1 q2)) (by rfl) (by omega) (nA := 1) (by rfl) (by decide +kernel) rfl (by exact Nat.le_of_ble_eq_true rfl) dX12_coverBound_92 (fun r92 h92 p92 => ?_) (fun _ _ q => q.elim)
          obtain ⟨rfl, qq92⟩ := p92; subst h92
          dsimp only [Option.toList, List.cons_append, List.nil_append]
          refine wi_icmp_eq hX (tgt := 104) dX12_coverBound_95 (by decide) (by omega) (by omega) (fun c95 => ?_) (fun c95 => ?_)
          · skip
            refine wa_iload_n hX (i := 3) dX12_coverBound_104 rfl rfl ?_
            refine wa_iret hX dX12_coverBound_105 ?_
            exact ⟨ff, Or.inr ⟨i, hi, rfl, Or.inr ⟨hv37, Or.inr ⟨hne, z, z1, hz2, by omega, z3, rfl, row, brk, al, wk, us, kp, pt, k1, kJ⟩⟩⟩⟩
          · skip
            refine wi_iinc hX dX12_coverBound_98 rfl ?_
            dsimp only [List.set]
            refine wa_goto hX (tgt := 86) dX12_coverBound_101 (by decide) ?_
            have hq : ndN (R i) z ≠ cvM (R i) (2 ^ E i) := by omega
            have hlt : z < t0 := by
              apply Classical.byContradiction
              intro q
              have : z = t0 := by omega
              rw [this] at hq
              exact hq t3
            exact ih (z + 1) ⟨by omega, hlt, fun u q1 q2 => by
              by_cases q : u = z
              · subst q; exact hq
              · exact z3 u q1 (by omega)⟩ (by omega)
        · skip
          refine wi_iconst hX dX12_coverBound_70 ?_
          refine wa_iret hX dX12_coverBound_71 ?_
          have z := b2n_t c67
          rw [z, if_pos ⟨rfl, rfl⟩] at k1
          exact ⟨ff, Or.inr ⟨i, hi, rfl, Or.inr ⟨hv37, Or.inl ⟨beq_iff_eq.mp z, ⟨_, rfl⟩, row, brk, al, wk, us, kp, pt, k1, kJ⟩⟩⟩⟩
set_option maxHeartbeats 2000000 in
set_option maxRecDepth 100000 in
theorem c_X12_packing (hW : WOK l D S0) (d : Nat) {h : AH} {a th : Nat} {c m : Nat} {w : Nat → Nat} {E : Nat → Nat} {R : Nat → Nat → Nat} {b0 b1 b2 : Int} (hI : RI Z DR h a th c w m E R b0 b1 b2) {n : Int} (hn : inR n) : MA l D S0 yX12_packing cX12_packing 2 (some .int) (d + 4) [.ref a, I n] h 0 0 (fun r h' => Fr (fun x => x = 120) h h' ∧ ((noM n m ∧ (∃ z, r = some (I z)) ∧ RI Z DR h' a 1 c w m E R b0 b1 b2) ∨ ∃ i, i < m ∧ n = (i : Int) ∧ ((R i (2 ^ E i - 1) = 0 ∧ (∃ z, r = some (I z)) ∧ RI Z DR h' a 2 c w m E R b0 b1 b2) ∨ (R i (2 ^ E i - 1) ≠ 0 ∧ r = some (I (pkM (R i) (E i) (2 ^ E i) : Nat)) ∧ RI Z DR h' a 0 c w m E R b0 b1 b2)))) (fun _ _ => False) := by
  obtain ⟨row, brk, al, wk, us, kp, pt, k1, kJ⟩ := hI
  refine MA.start hW (by decide) [.val (.ref a), .val (I n)] rfl ?_
  rintro X rfl rfl rfl hX
  refine wa_aload_n hX (i := 0) dX12_packing_0 rfl rfl ?_
  refine wi_iconst hX dX12_packing_1 ?_
  refine wa_put hX 0 k1 (Nat.le_of_ble_eq_true rfl) (by decide +kernel) (by rfl) (by rfl) (by rfl) dX12_packing_2 ?_
  refine WA.heap (h2 := hset h a (120, oMod ((0 : Nat) : Int) (c : Int) row brk al wk us kp pt)) rfl ?_
  refine WA.hgq (fun hA hh2 => ?_)
  have ff : Fr (fun x => x = 120) h hA := by rw [hh2]; exact Fr.hset Fr.rf k1 rfl
  replace k1 : hA a = some (120, oMod ((0 : Nat) : Int) (c : Int) row brk al wk us kp pt) := by rw [hh2]; exact hset_eq
  replace kJ := kJ.fr ff (fun x hx => by omega)
  clear hh2
  obtain ⟨⟨hc60, hw, hm24, hMt⟩, kr, kb, kwk, kus, kkp, kpt, ed, N, P, ka, ke, kI, kMat⟩ := id kJ
  refine wa_aload_n hX (i := 0) dX12_packing_5 rfl rfl ?_
  refine wa_aload_n hX (i := 0) dX12_packing_6 rfl rfl ?_
  refine wa_iload_n hX (i := 1) dX12_packing_7 rfl rfl ?_
  refine wa_callV hX (c_X12_no hW (d + 1) k1 ka hm24 hn) (by assumption) (by rfl) (by rfl) (by omega) (nA := 1) (by rfl) (by decide +kernel) rfl (by exact Nat.le_of_ble_eq_true rfl) dX12_packing_8 (fun r8 h8 p8 => ?_) (fun _ _ q => q.elim)
  obtain ⟨rfl, qq8⟩ := p8; subst h8
  dsimp only [Option.toList, List.cons_append, List.nil_append]
  refine wi_iconst hX dX12_packing_11 ?_
  refine wa_callV hX (c_X12_fails hW d (th := 0) (k := 1) (b := (!decide (0 ≤ n ∧ n < (m : Int)))) k1 (by omega) (by omega)) (by assumption) (by rfl) (by rfl) (by omega) (nA := 2) (by rfl) (by decide +kernel) rfl (by exact Nat.le_of_ble_eq_true rfl) dX12_packing_12 (fun r12 h12 p12 => ?_) (fun _ _ q => q.elim)
  obtain ⟨rfl, hh12⟩ := p12
  have f12 : Fr (fun x => x = 120) hA h12 := by rw [hh12]; exact Fr.hset Fr.rf k1 rfl
  replace k1 : h12 a = some (120, oMod ((if ((!decide (0 ≤ n ∧ n < (m : Int)))) = true ∧ (0 : Nat) = 0 then 1 else 0 : Nat) : Int) (c : Int) row brk al wk us kp pt) := by rw [hh12]; exact hset_eq
  replace kJ := kJ.fr f12 (fun x hx => by omega)
  replace ff := ff.trans f12
  clear hh12 f12
  rw [show (((!decide (0 ≤ n ∧ n < (m : Int)))) || (0 : Nat) != 0) = ((!decide (0 ≤ n ∧ n < (m : Int)))) from Bool.or_false _]
  clear kr kb kwk kus kkp kpt ka ke kI kMat hc60 hw hm24 hMt
  obtain ⟨⟨hc60, hw, hm24, hMt⟩, kr, kb, kwk, kus, kkp, kpt, ed, N, P, ka, ke, kI, kMat⟩ := id kJ
  dsimp only [Option.toList, List.cons_append, List.nil_append]
  refine wi_if_ne hX (tgt := 48) dX12_packing_15 (by decide) (by exact b2n_inR _) (fun c15 => ?_) (fun c15 => ?_)
  · skip
    refine wi_iconst hX dX12_packing_48 ?_
    refine wa_goto hX (tgt := 66) dX12_packing_49 (by decide) ?_
    refine wa_iret hX dX12_packing_66 ?_
    have z := b2n_t c15
    rw [z, if_pos ⟨rfl, rfl⟩] at k1
    rw [Bool.not_eq_true', decide_eq_false_iff_not] at z
    exact ⟨ff, Or.inl ⟨z, ⟨_, rfl⟩, row, brk, al, wk, us, kp, pt, k1, kJ⟩⟩
  · skip
    have hv := b2n_f c15
    rw [hv, if_neg (fun z => Bool.false_ne_true z.1)] at k1
    rw [Bool.not_eq_false', decide_eq_true_eq] at hv
    obtain ⟨i, rfl⟩ := Int.eq_ofNat_of_zero_le hv.1
    have hi : i < m := by omega
    obtain ⟨e3, hN1, hN2⟩ : h12 ed = some (124, aR (.object "java/lang/Object") N (fun j => if j < m then some (P j) else none)) ∧ m ≤ N ∧ N ≤ 100 := by
      rcases ke with z | z
      · exfalso; omega
      · exact z
    obtain ⟨rq, m2, m3, l2, l3, G, g1, g2, g3, g4, g5⟩ := id (kMat i hi)
    have hMi := hMt i hi
    have he := hMi.1
    have hp := p2_le he
    have hp0 := p2_pos (E i)
    refine wa_aload_n hX (i := 0) dX12_packing_18 rfl rfl ?_
    refine wa_aload_n hX (i := 0) dX12_packing_19 rfl rfl ?_
    refine wa_get hX 4 (by assumption) (by rfl) (by decide +kernel) dX12_packing_20 ?_
    refine wa_iload_n hX (i := 1) dX12_packing_23 rfl rfl ?_
    refine wa_callV hX (c_AL_get hW d ka e3 (i := i) (q := P i) hi hN1 (by omega) (if_pos hi)) (by assumption) (by rfl) (by rfl) (by omega) (nA := 1) (by rfl) (by decide +kernel) rfl (by exact Nat.le_of_ble_eq_true rfl) dX12_packing_24 (fun r24 h24 p24 => ?_) (fun _ _ q => q.elim)
    obtain ⟨rfl, qq24⟩ := p24; subst h24
    dsimp only [Option.toList, List.cons_append, List.nil_append]
    refine wa_ccast hX g1 (by rfl) (by decide +kernel) dX12_packing_27 ?_
    have hr0 := hMi.le10 (s := 2 ^ E i - 1) (by omega)
    refine wa_callV hX (c_X11_rank hW d g1 g2 g3 he (fun s hs => hMi.le10 hs)) (by assumption) (by rfl) (by rfl) (by omega) (nA := 0) (by rfl) (by decide +kernel) rfl (by exact Nat.le_of_ble_eq_true rfl) dX12_packing_30 (fun r30 h30 p30 => ?_) (fun _ _ q => q.elim)
    obtain ⟨rfl, qq30⟩ := p30; subst h30
    dsimp only [Option.toList, List.cons_append, List.nil_append]
    refine wi_if_ne hX (tgt := 40) dX12_packing_33 (by decide) (by omega) (fun c33 => ?_) (fun c33 => ?_)
    · skip
      refine wi_iconst hX dX12_packing_40 ?_
      refine WA.eq (pc2 := 41) (st2 := [I ((b2n (R i (2 ^ E i - 1) == 0) : Nat) : Int), .ref a]) rfl rfl (by
        first
          | (rw [show (R i (2 ^ E i - 1) == 0) = true from beq_iff_eq.mpr (by omega)]; rfl)
          | (rw [show (R i (2 ^ E i - 1) == 0) = false from beq_eq_false_iff_ne.mpr (by omega)]; rfl)) ?_
      clear c33
      refine wi_iconst hX dX12_packing_41 ?_
      refine wa_callV hX (c_X12_fails hW d (th := 0) (k := 2) (b := (R i (2 ^ E i - 1) == 0)) k1 (by omega) (by omega)) (by assumption) (by rfl) (by rfl) (by omega) (nA := 2) (by rfl) (by decide +kernel) rfl (by exact Nat.le_of_ble_eq_true rfl) dX12_packing_42 (fun r42 h42 p42 => ?_) (fun _ _ q => q.elim)
      obtain ⟨rfl, hh42⟩ := p42
      have f42 : Fr (fun x => x = 120) h12 h42 := by rw [hh42]; exact Fr.hset Fr.rf k1 rfl
      replace k1 : h42 a = some (120, oMod ((if ((R i (2 ^ E i - 1) == 0)) = true ∧ (0 : Nat) = 0 then 2 else 0 : Nat) : Int) (c : Int) row brk al wk us kp pt) := by rw [hh42]; exact hset_eq
      replace kJ := kJ.fr f42 (fun x hx => by omega)
      replace ff := ff.trans f42
      clear hh42 f42
      rw [show (((R i (2 ^ E i - 1) == 0)) || (0 : Nat) != 0) = ((R i (2 ^ E i - 1) == 0)) from Bool.or_false _]
      clear kr kb kwk kus kkp kpt ka ke kI kMat hc60 hw hm24 hMt
      obtain ⟨⟨hc60, hw, hm24, hMt⟩, kr, kb, kwk, kus, kkp, kpt, ed, N, P, ka, ke, kI, kMat⟩ := id kJ
      dsimp only [Option.toList, List.cons_append, List.nil_append]
      refine wi_if_eq hX (tgt := 52) dX12_packing_45 (by decide) (by exact b2n_inR _) (fun c45 => ?_) (fun c45 => ?_)
      · skip
        have hv45 := b2n_f c45
        rw [hv45, if_neg (fun z => Bool.false_ne_true z.1)] at k1
        obtain ⟨e3, hN1, hN2⟩ : h42 ed = some (124, aR (.object "java/lang/Object") N (fun j => if j < m then some (P j) else none)) ∧ m ≤ N ∧ N ≤ 100 := by
          rcases ke with z | z
          · exfalso; omega
          · exact z
        obtain ⟨rq, m2, m3, l2, l3, G, g1, g2, g3, g4, g5⟩ := id (kMat i hi)
        have hMi := hMt i hi
        have he := hMi.1
        have hp := p2_le he
        have hp0 := p2_pos (E i)
        refine wa_aload_n hX (i := 0) dX12_packing_52 rfl rfl ?_
        refine wa_get hX 4 (by assumption) (by rfl) (by decide +kernel) dX12_packing_53 ?_
        refine wa_iload_n hX (i := 1) dX12_packing_56 rfl rfl ?_
        refine wa_callV hX (c_AL_get hW d ka e3 (i := i) (q := P i) hi hN1 (by omega) (if_pos hi)) (by assumption) (by rfl) (by rfl) (by omega) (nA := 1) (by rfl) (by decide +kernel) rfl (by exact Nat.le_of_ble_eq_true rfl) dX12_packing_57 (fun r57 h57 p57 => ?_) (fun _ _ q => q.elim)
        obtain ⟨rfl, qq57⟩ := p57; subst h57
        dsimp only [Option.toList, List.cons_append, List.nil_append]
        refine wa_ccast hX g1 (by rfl) (by decide +kernel) dX12_packing_60 ?_
        refine wa_callS hX (c_X12_packingOf hW d g1 g2 g3 he (fun s hs => hMi.le10 hs) (fun s hs => hMi.le_all hs)) (by rfl) (by omega) (nA := 1) (by rfl) (by decide +kernel) rfl (by exact Nat.le_of_ble_eq_true rfl) dX12_packing_63 (fun r63 h63 p63 => ?_) (fun _ _ q => q.elim)
        obtain ⟨rfl, qq63⟩ := p63; subst h63
        dsimp only [Option.toList, List.cons_append, List.nil_append]
        refine wa_iret hX dX12_packing_66 ?_
        first
          | (have z := b2n_t c45
             rw [z, if_pos ⟨rfl, rfl⟩] at k1
             exact ⟨ff, Or.inr ⟨i, hi, rfl, Or.inl ⟨beq_iff_eq.mp z, ⟨_, rfl⟩, row, brk, al, wk, us, kp, pt, k1, kJ⟩⟩⟩)
          | exact ⟨ff, Or.inr ⟨i, hi, rfl, Or.inr ⟨beq_eq_false_iff_ne.mp hv45, rfl, row, brk, al, wk, us, kp, pt, k1, kJ⟩⟩⟩
      · skip
        refine wi_iconst hX dX12_packing_48 ?_
        refine wa_goto hX (tgt := 66) dX12_packing_49 (by decide) ?_
        refine wa_iret hX dX12_packing_66 ?_
        first
          | (have z := b2n_t c45
             rw [z, if_pos ⟨rfl, rfl⟩] at k1
             exact ⟨ff, Or.inr ⟨i, hi, rfl, Or.inl ⟨beq_iff_eq.mp z, ⟨_, rfl⟩, row, brk, al, wk, us, kp, pt, k1, kJ⟩⟩⟩)
          | exact ⟨ff, Or.inr ⟨i, hi, rfl, Or.inr ⟨beq_eq_false_iff_ne.mp hv45, rfl, row, brk, al, wk, us, kp, pt, k1, kJ⟩⟩⟩
    · skip
      refine wi_iconst hX dX12_packing_36 ?_
      refine wa_goto hX (tgt := 41) dX12_packing_37 (by decide) ?_
      refine WA.eq (pc2 := 41) (st2 := [I ((b2n (R i (2 ^ E i - 1) == 0) : Nat) : Int), .ref a]) rfl rfl (by
        first
          | (rw [show (R i (2 ^ E i - 1) == 0) = true from beq_iff_eq.mpr (by omega)]; rfl)
          | (rw [show (R i (2 ^ E i - 1) == 0) = false from beq_eq_false_iff_ne.mpr (by omega)]; rfl)) ?_
      clear c33
      refine wi_iconst hX dX12_packing_41 ?_
      refine wa_callV hX (c_X12_fails hW d (th := 0) (k := 2) (b := (R i (2 ^ E i - 1) == 0)) k1 (by omega) (by omega)) (by assumption) (by rfl) (by rfl) (by omega) (nA := 2) (by rfl) (by decide +kernel) rfl (by exact Nat.le_of_ble_eq_true rfl) dX12_packing_42 (fun r42 h42 p42 => ?_) (fun _ _ q => q.elim)
      obtain ⟨rfl, hh42⟩ := p42
      have f42 : Fr (fun x => x = 120) h12 h42 := by rw [hh42]; exact Fr.hset Fr.rf k1 rfl
      replace k1 : h42 a = some (120, oMod ((if ((R i (2 ^ E i - 1) == 0)) = true ∧ (0 : Nat) = 0 then 2 else 0 : Nat) : Int) (c : Int) row brk al wk us kp pt) := by rw [hh42]; exact hset_eq
      replace kJ := kJ.fr f42 (fun x hx => by omega)
      replace ff := ff.trans f42
      clear hh42 f42
      rw [show (((R i (2 ^ E i - 1) == 0)) || (0 : Nat) != 0) = ((R i (2 ^ E i - 1) == 0)) from Bool.or_false _]
      clear kr kb kwk kus kkp kpt ka ke kI kMat hc60 hw hm24 hMt
      obtain ⟨⟨hc60, hw, hm24, hMt⟩, kr, kb, kwk, kus, kkp, kpt, ed, N, P, ka, ke, kI, kMat⟩ := id kJ
      dsimp only [Option.toList, List.cons_append, List.nil_append]
      refine wi_if_eq hX (tgt := 52) dX12_packing_45 (by decide) (by exact b2n_inR _) (fun c45 => ?_) (fun c45 => ?_)
      · skip
        have hv45 := b2n_f c45
        rw [hv45, if_neg (fun z => Bool.false_ne_true z.1)] at k1
        obtain ⟨e3, hN1, hN2⟩ : h42 ed = some (124, aR (.object "java/lang/Object") N (fun j => if j < m then some (P j) else none)) ∧ m ≤ N ∧ N ≤ 100 := by
          rcases ke with z | z
          · exfalso; omega
          · exact z
        obtain ⟨rq, m2, m3, l2, l3, G, g1, g2, g3, g4, g5⟩ := id (kMat i hi)
        have hMi := hMt i hi
        have he := hMi.1
        have hp := p2_le he
        have hp0 := p2_pos (E i)
        refine wa_aload_n hX (i := 0) dX12_packing_52 rfl rfl ?_
        refine wa_get hX 4 (by assumption) (by rfl) (by decide +kernel) dX12_packing_53 ?_
        refine wa_iload_n hX (i := 1) dX12_packing_56 rfl rfl ?_
        refine wa_callV hX (c_AL_get hW d ka e3 (i := i) (q := P i) hi hN1 (by omega) (if_pos hi)) (by assumption) (by rfl) (by rfl) (by omega) (nA := 1) (by rfl) (by decide +kernel) rfl (by exact Nat.le_of_ble_eq_true rfl) dX12_packing_57 (fun r57 h57 p57 => ?_) (fun _ _ q => q.elim)
        obtain ⟨rfl, qq57⟩ := p57; subst h57
        dsimp only [Option.toList, List.cons_append, List.nil_append]
        refine wa_ccast hX g1 (by rfl) (by decide +kernel) dX12_packing_60 ?_
        refine wa_callS hX (c_X12_packingOf hW d g1 g2 g3 he (fun s hs => hMi.le10 hs) (fun s hs => hMi.le_all hs)) (by rfl) (by omega) (nA := 1) (by rfl) (by decide +kernel) rfl (by exact Nat.le_of_ble_eq_true rfl) dX12_packing_63 (fun r63 h63 p63 => ?_) (fun _ _ q => q.elim)
        obtain ⟨rfl, qq63⟩ := p63; subst h63
        dsimp only [Option.toList, List.cons_append, List.nil_append]
        refine wa_iret hX dX12_packing_66 ?_
        first
          | (have z := b2n_t c45
             rw [z, if_pos ⟨rfl, rfl⟩] at k1
             exact ⟨ff, Or.inr ⟨i, hi, rfl, Or.inl ⟨beq_iff_eq.mp z, ⟨_, rfl⟩, row, brk, al, wk, us, kp, pt, k1, kJ⟩⟩⟩)
          | exact ⟨ff, Or.inr ⟨i, hi, rfl, Or.inr ⟨beq_eq_false_iff_ne.mp hv45, rfl, row, brk, al, wk, us, kp, pt, k1, kJ⟩⟩⟩
      · skip
        refine wi_iconst hX dX12_packing_48 ?_
        refine wa_goto hX (tgt := 66) dX12_packing_49 (by decide) ?_
        refine wa_iret hX dX12_packing_66 ?_
        first
          | (have z := b2n_t c45
             rw [z, if_pos ⟨rfl, rfl⟩] at k1
             exact ⟨ff, Or.inr ⟨i, hi, rfl, Or.inl ⟨beq_iff_eq.mp z, ⟨_, rfl⟩, row, brk, al, wk, us, kp, pt, k1, kJ⟩⟩⟩)
          | exact ⟨ff, Or.inr ⟨i, hi, rfl, Or.inr ⟨beq_eq_false_iff_ne.mp hv45, rfl, row, brk, al, wk, us, kp, pt, k1, kJ⟩⟩⟩
set_option maxHeartbeats 2000000 in
set_option maxRecDepth 100000 in
theorem c_X12_packingBound (hW : WOK l D S0) (d : Nat) {h : AH} {a th : Nat} {c m : Nat} {w : Nat → Nat} {E : Nat → Nat} {R : Nat → Nat → Nat} {b0 b1 b2 : Int} (hI : RI Z DR h a th c w m E R b0 b1 b2) {n : Int} (hn : inR n) : MA l D S0 yX12_packingBound cX12_packingBound 4 (some .int) (d + 4) [.ref a, I n] h 0 0 (fun r h' => Fr (fun x => x = 120) h h' ∧ ((noM n m ∧ (∃ z, r = some (I z)) ∧ RI Z DR h' a 1 c w m E R b0 b1 b2) ∨ ∃ i, i < m ∧ n = (i : Int) ∧ ((R i (2 ^ E i - 1) = 0 ∧ (∃ z, r = some (I z)) ∧ RI Z DR h' a 2 c w m E R b0 b1 b2) ∨ (R i (2 ^ E i - 1) ≠ 0 ∧ ∃ t : Nat, t < 2 ^ E i ∧ alwN (R i) (E i) t = pkM (R i) (E i) (2 ^ E i) ∧ (∀ u, u < t → alwN (R i) (E i) u ≠ pkM (R i) (E i) (2 ^ E i)) ∧ r = some (I (t : Int)) ∧ RI Z DR h' a 0 c w m E R b0 b1 b2)))) (fun _ _ => False) := by
  obtain ⟨row, brk, al, wk, us, kp, pt, k1, kJ⟩ := hI
  refine MA.start hW (by decide) [.val (.ref a), .val (I n), .unset, .unset] rfl ?_
  rintro X rfl rfl rfl hX
  refine wa_aload_n hX (i := 0) dX12_packingBound_0 rfl rfl ?_
  refine wi_iconst hX dX12_packingBound_1 ?_
  refine wa_put hX 0 k1 (Nat.le_of_ble_eq_true rfl) (by decide +kernel) (by rfl) (by rfl) (by rfl) dX12_packingBound_2 ?_
  refine WA.heap (h2 := hset h a (120, oMod ((0 : Nat) : Int) (c : Int) row brk al wk us kp pt)) rfl ?_
  refine WA.hgq (fun hA hh2 => ?_)
  have ff : Fr (fun x => x = 120) h hA := by rw [hh2]; exact Fr.hset Fr.rf k1 rfl
  replace k1 : hA a = some (120, oMod ((0 : Nat) : Int) (c : Int) row brk al wk us kp pt) := by rw [hh2]; exact hset_eq
  replace kJ := kJ.fr ff (fun x hx => by omega)
  clear hh2
  obtain ⟨⟨hc60, hw, hm24, hMt⟩, kr, kb, kwk, kus, kkp, kpt, ed, N, P, ka, ke, kI, kMat⟩ := id kJ
  refine wa_aload_n hX (i := 0) dX12_packingBound_5 rfl rfl ?_
  refine wa_aload_n hX (i := 0) dX12_packingBound_6 rfl rfl ?_
  refine wa_iload_n hX (i := 1) dX12_packingBound_7 rfl rfl ?_
  refine wa_callV hX (c_X12_no hW (d + 1) k1 ka hm24 hn) (by assumption) (by rfl) (by rfl) (by omega) (nA := 1) (by rfl) (by decide +kernel) rfl (by exact Nat.le_of_ble_eq_true rfl) dX12_packingBound_8 (fun r8 h8 p8 => ?_) (fun _ _ q => q.elim)
  obtain ⟨rfl, qq8⟩ := p8; subst h8
  dsimp only [Option.toList, List.cons_append, List.nil_append]
  refine wi_iconst hX dX12_packingBound_11 ?_
  refine wa_callV hX (c_X12_fails hW d (th := 0) (k := 1) (b := (!decide (0 ≤ n ∧ n < (m : Int)))) k1 (by omega) (by omega)) (by assumption) (by rfl) (by rfl) (by omega) (nA := 2) (by rfl) (by decide +kernel) rfl (by exact Nat.le_of_ble_eq_true rfl) dX12_packingBound_12 (fun r12 h12 p12 => ?_) (fun _ _ q => q.elim)
  obtain ⟨rfl, hh12⟩ := p12
  have f12 : Fr (fun x => x = 120) hA h12 := by rw [hh12]; exact Fr.hset Fr.rf k1 rfl
  replace k1 : h12 a = some (120, oMod ((if ((!decide (0 ≤ n ∧ n < (m : Int)))) = true ∧ (0 : Nat) = 0 then 1 else 0 : Nat) : Int) (c : Int) row brk al wk us kp pt) := by rw [hh12]; exact hset_eq
  replace kJ := kJ.fr f12 (fun x hx => by omega)
  replace ff := ff.trans f12
  clear hh12 f12
  rw [show (((!decide (0 ≤ n ∧ n < (m : Int)))) || (0 : Nat) != 0) = ((!decide (0 ≤ n ∧ n < (m : Int)))) from Bool.or_false _]
  clear kr kb kwk kus kkp kpt ka ke kI kMat hc60 hw hm24 hMt
  obtain ⟨⟨hc60, hw, hm24, hMt⟩, kr, kb, kwk, kus, kkp, kpt, ed, N, P, ka, ke, kI, kMat⟩ := id kJ
  dsimp only [Option.toList, List.cons_append, List.nil_append]
  refine wi_if_ne hX (tgt := 48) dX12_packingBound_15 (by decide) (by exact b2n_inR _) (fun c15 => ?_) (fun c15 => ?_)
  · skip
    refine wi_iconst hX dX12_packingBound_48 ?_
    refine wa_iret hX dX12_packingBound_49 ?_
    have z := b2n_t c15
    rw [z, if_pos ⟨rfl, rfl⟩] at k1
    rw [Bool.not_eq_true', decide_eq_false_iff_not] at z
    exact ⟨ff, Or.inl ⟨z, ⟨_, rfl⟩, row, brk, al, wk, us, kp, pt, k1, kJ⟩⟩
  · skip
    have hv := b2n_f c15
    rw [hv, if_neg (fun z => Bool.false_ne_true z.1)] at k1
    rw [Bool.not_eq_false', decide_eq_true_eq] at hv
    obtain ⟨i, rfl⟩ := Int.eq_ofNat_of_zero_le hv.1
    have hi : i < m := by omega
    obtain ⟨e3, hN1, hN2⟩ : h12 ed = some (124, aR (.object "java/lang/Object") N (fun j => if j < m then some (P j) else none)) ∧ m ≤ N ∧ N ≤ 100 := by
      rcases ke with z | z
      · exfalso; omega
      · exact z
    obtain ⟨rq, m2, m3, l2, l3, G, g1, g2, g3, g4, g5⟩ := id (kMat i hi)
    have hMi := hMt i hi
    have he := hMi.1
    have hp := p2_le he
    have hp0 := p2_pos (E i)
    refine wa_aload_n hX (i := 0) dX12_packingBound_18 rfl rfl ?_
    refine wa_aload_n hX (i := 0) dX12_packingBound_19 rfl rfl ?_
    refine wa_get hX 4 (by assumption) (by rfl) (by decide +kernel) dX12_packingBound_20 ?_
    refine wa_iload_n hX (i := 1) dX12_packingBound_23 rfl rfl ?_
    refine wa_callV hX (c_AL_get hW d ka e3 (i := i) (q := P i) hi hN1 (by omega) (if_pos hi)) (by assumption) (by rfl) (by rfl) (by omega) (nA := 1) (by rfl) (by decide +kernel) rfl (by exact Nat.le_of_ble_eq_true rfl) dX12_packingBound_24 (fun r24 h24 p24 => ?_) (fun _ _ q => q.elim)
    obtain ⟨rfl, qq24⟩ := p24; subst h24
    dsimp only [Option.toList, List.cons_append, List.nil_append]
    refine wa_ccast hX g1 (by rfl) (by decide +kernel) dX12_packingBound_27 ?_
    have hr0 := hMi.le10 (s := 2 ^ E i - 1) (by omega)
    refine wa_callV hX (c_X11_rank hW d g1 g2 g3 he (fun s hs => hMi.le10 hs)) (by assumption) (by rfl) (by rfl) (by omega) (nA := 0) (by rfl) (by decide +kernel) rfl (by exact Nat.le_of_ble_eq_true rfl) dX12_packingBound_30 (fun r30 h30 p30 => ?_) (fun _ _ q => q.elim)
    obtain ⟨rfl, qq30⟩ := p30; subst h30
    dsimp only [Option.toList, List.cons_append, List.nil_append]
    refine wi_if_ne hX (tgt := 40) dX12_packingBound_33 (by decide) (by omega) (fun c33 => ?_) (fun c33 => ?_)
    · skip
      refine wi_iconst hX dX12_packingBound_40 ?_
      refine WA.eq (pc2 := 41) (st2 := [I ((b2n (R i (2 ^ E i - 1) == 0) : Nat) : Int), .ref a]) rfl rfl (by
        first
          | (rw [show (R i (2 ^ E i - 1) == 0) = true from beq_iff_eq.mpr (by omega)]; rfl)
          | (rw [show (R i (2 ^ E i - 1) == 0) = false from beq_eq_false_iff_ne.mpr (by omega)]; rfl)) ?_
      clear c33
      refine wi_iconst hX dX12_packingBound_41 ?_
      refine wa_callV hX (c_X12_fails hW d (th := 0) (k := 2) (b := (R i (2 ^ E i - 1) == 0)) k1 (by omega) (by omega)) (by assumption) (by rfl) (by rfl) (by omega) (nA := 2) (by rfl) (by decide +kernel) rfl (by exact Nat.le_of_ble_eq_true rfl) dX12_packingBound_42 (fun r42 h42 p42 => ?_) (fun _ _ q => q.elim)
      obtain ⟨rfl, hh42⟩ := p42
      have f42 : Fr (fun x => x = 120) h12 h42 := by rw [hh42]; exact Fr.hset Fr.rf k1 rfl
      replace k1 : h42 a = some (120, oMod ((if ((R i (2 ^ E i - 1) == 0)) = true ∧ (0 : Nat) = 0 then 2 else 0 : Nat) : Int) (c : Int) row brk al wk us kp pt) := by rw [hh42]; exact hset_eq
      replace kJ := kJ.fr f42 (fun x hx => by omega)
      replace ff := ff.trans f42
      clear hh42 f42
      rw [show (((R i (2 ^ E i - 1) == 0)) || (0 : Nat) != 0) = ((R i (2 ^ E i - 1) == 0)) from Bool.or_false _]
      clear kr kb kwk kus kkp kpt ka ke kI kMat hc60 hw hm24 hMt
      obtain ⟨⟨hc60, hw, hm24, hMt⟩, kr, kb, kwk, kus, kkp, kpt, ed, N, P, ka, ke, kI, kMat⟩ := id kJ
      dsimp only [Option.toList, List.cons_append, List.nil_append]
      refine wi_if_eq hX (tgt := 50) dX12_packingBound_45 (by decide) (by exact b2n_inR _) (fun c45 => ?_) (fun c45 => ?_)
      · skip
        have hv45 := b2n_f c45
        rw [hv45, if_neg (fun z => Bool.false_ne_true z.1)] at k1
        obtain ⟨e3, hN1, hN2⟩ : h42 ed = some (124, aR (.object "java/lang/Object") N (fun j => if j < m then some (P j) else none)) ∧ m ≤ N ∧ N ≤ 100 := by
          rcases ke with z | z
          · exfalso; omega
          · exact z
        obtain ⟨rq, m2, m3, l2, l3, G, g1, g2, g3, g4, g5⟩ := id (kMat i hi)
        have hMi := hMt i hi
        have he := hMi.1
        have hp := p2_le he
        have hp0 := p2_pos (E i)
        obtain ⟨t0, t2, t3⟩ := pkM_some (rk := R i) (e := E i) he (2 ^ E i) hp0
        refine wa_aload_n hX (i := 0) dX12_packingBound_50 rfl rfl ?_
        refine wa_get hX 4 (by assumption) (by rfl) (by decide +kernel) dX12_packingBound_51 ?_
        refine wa_iload_n hX (i := 1) dX12_packingBound_54 rfl rfl ?_
        refine wa_callV hX (c_AL_get hW d ka e3 (i := i) (q := P i) hi hN1 (by omega) (if_pos hi)) (by assumption) (by rfl) (by rfl) (by omega) (nA := 1) (by rfl) (by decide +kernel) rfl (by exact Nat.le_of_ble_eq_true rfl) dX12_packingBound_55 (fun r55 h55 p55 => ?_) (fun _ _ q => q.elim)
        obtain ⟨rfl, qq55⟩ := p55; subst h55
        dsimp only [Option.toList, List.cons_append, List.nil_append]
        refine wa_ccast hX g1 (by rfl) (by decide +kernel) dX12_packingBound_58 ?_
        refine wa_astore_n hX (i := 2) dX12_packingBound_61 rfl rfl ?_
        dsimp only [List.set]
        refine wi_iconst hX dX12_packingBound_62 ?_
        refine wa_istore_n hX (i := 3) dX12_packingBound_63 rfl rfl ?_
        dsimp only [List.set]
        refine WA.loop (σ := Nat) (fun z => t0 - z) (fun z => z ≤ t0 ∧ ∀ u, u < z → alwN (R i) (E i) u ≠ pkM (R i) (E i) (2 ^ E i)) (fun _ => h42) (fun z => [.val (.ref a), .val (I (i : Int)), .val (.ref (P i)), .val (I (z : Nat))]) ?_ 0 ⟨Nat.zero_le _, fun u q2 => by omega⟩
        rintro z ⟨z2, z3⟩ ih
        have hz2 : z < 2 ^ E i := by omega
        have hal := alwN_le (R i) (E i) z he
        have hpk := pkM_le (rk := R i) (e := E i) (2 ^ E i)
        refine wa_aload_n hX (i := 2) dX12_packingBound_64 rfl rfl ?_
        refine wa_iload_n hX (i := 3) dX12_packingBound_65 rfl rfl ?_
        refine wa_callS hX (c_X12_allows hW d g1 g2 g3 he (fun s hs => hMi.le10 hs) (s := z) hz2 (hMi.le_all hz2)) (by rfl) (by omega) (nA := 2) (by rfl) (by decide +kernel) rfl (by exact Nat.le_of_ble_eq_true rfl) dX12_packingBound_66 (fun r66 h66 p66 => ?_) (fun _ _ q => q.elim)
        obtain ⟨rfl, qq66⟩ := p66; subst h66
        dsimp only [Option.toList, List.cons_append, List.nil_append]
        refine wa_aload_n hX (i := 2) dX12_packingBound_69 rfl rfl ?_
        refine wa_callS hX (c_X12_packingOf hW d g1 g2 g3 he (fun s hs => hMi.le10 hs) (fun s hs => hMi.le_all hs)) (by rfl) (by omega) (nA := 1) (by rfl) (by decide +kernel) rfl (by exact Nat.le_of_ble_eq_true rfl) dX12_packingBound_70 (fun r70 h70 p70 => ?_) (fun _ _ q => q.elim)
        obtain ⟨rfl, qq70⟩ := p70; subst h70
        dsimp only [Option.toList, List.cons_append, List.nil_append]
        refine wi_icmp_eq hX (tgt := 82) dX12_packingBound_73 (by decide) (by omega) (by omega) (fun c73 => ?_) (fun c73 => ?_)
        · skip
          refine wa_iload_n hX (i := 3) dX12_packingBound_82 rfl rfl ?_
          refine wa_iret hX dX12_packingBound_83 ?_
          exact ⟨ff, Or.inr ⟨i, hi, rfl, Or.inr ⟨beq_eq_false_iff_ne.mp hv45, z, hz2, by omega, z3, rfl, row, brk, al, wk, us, kp, pt, k1, kJ⟩⟩⟩
        · skip
          refine wi_iinc hX dX12_packingBound_76 rfl ?_
          dsimp only [List.set]
          refine wa_goto hX (tgt := 64) dX12_packingBound_79 (by decide) ?_
          have hq : alwN (R i) (E i) z ≠ pkM (R i) (E i) (2 ^ E i) := by omega
          have hlt : z < t0 := by
            apply Classical.byContradiction
            intro q
            have : z = t0 := by omega
            rw [this] at hq
            exact hq t3
          exact ih (z + 1) ⟨hlt, fun u q2 => by
            by_cases q : u = z
            · subst q; exact hq
            · exact z3 u (by omega)⟩ (by omega)
      · skip
        refine wi_iconst hX dX12_packingBound_48 ?_
        refine wa_iret hX dX12_packingBound_49 ?_
        have z := b2n_t c45
        rw [z, if_pos ⟨rfl, rfl⟩] at k1
        exact ⟨ff, Or.inr ⟨i, hi, rfl, Or.inl ⟨beq_iff_eq.mp z, ⟨_, rfl⟩, row, brk, al, wk, us, kp, pt, k1, kJ⟩⟩⟩
    · skip
      refine wi_iconst hX dX12_packingBound_36 ?_
      refine wa_goto hX (tgt := 41) dX12_packingBound_37 (by decide) ?_
      refine WA.eq (pc2 := 41) (st2 := [I ((b2n (R i (2 ^ E i - 1) == 0) : Nat) : Int), .ref a]) rfl rfl (by
        first
          | (rw [show (R i (2 ^ E i - 1) == 0) = true from beq_iff_eq.mpr (by omega)]; rfl)
          | (rw [show (R i (2 ^ E i - 1) == 0) = false from beq_eq_false_iff_ne.mpr (by omega)]; rfl)) ?_
      clear c33
      refine wi_iconst hX dX12_packingBound_41 ?_
      refine wa_callV hX (c_X12_fails hW d (th := 0) (k := 2) (b := (R i (2 ^ E i - 1) == 0)) k1 (by omega) (by omega)) (by assumption) (by rfl) (by rfl) (by omega) (nA := 2) (by rfl) (by decide +kernel) rfl (by exact Nat.le_of_ble_eq_true rfl) dX12_packingBound_42 (fun r42 h42 p42 => ?_) (fun _ _ q => q.elim)
      obtain ⟨rfl, hh42⟩ := p42
      have f42 : Fr (fun x => x = 120) h12 h42 := by rw [hh42]; exact Fr.hset Fr.rf k1 rfl
      replace k1 : h42 a = some (120, oMod ((if ((R i (2 ^ E i - 1) == 0)) = true ∧ (0 : Nat) = 0 then 2 else 0 : Nat) : Int) (c : Int) row brk al wk us kp pt) := by rw [hh42]; exact hset_eq
      replace kJ := kJ.fr f42 (fun x hx => by omega)
      replace ff := ff.trans f42
      clear hh42 f42
      rw [show (((R i (2 ^ E i - 1) == 0)) || (0 : Nat) != 0) = ((R i (2 ^ E i - 1) == 0)) from Bool.or_false _]
      clear kr kb kwk kus kkp kpt ka ke kI kMat hc60 hw hm24 hMt
      obtain ⟨⟨hc60, hw, hm24, hMt⟩, kr, kb, kwk, kus, kkp, kpt, ed, N, P, ka, ke, kI, kMat⟩ := id kJ
      dsimp only [Option.toList, List.cons_append, List.nil_append]
      refine wi_if_eq hX (tgt := 50) dX12_packingBound_45 (by decide) (by exact b2n_inR _) (fun c45 => ?_) (fun c45 => ?_)
      · skip
        have hv45 := b2n_f c45
        rw [hv45, if_neg (fun z => Bool.false_ne_true z.1)] at k1
        obtain ⟨e3, hN1, hN2⟩ : h42 ed = some (124, aR (.object "java/lang/Object") N (fun j => if j < m then some (P j) else none)) ∧ m ≤ N ∧ N ≤ 100 := by
          rcases ke with z | z
          · exfalso; omega
          · exact z
        obtain ⟨rq, m2, m3, l2, l3, G, g1, g2, g3, g4, g5⟩ := id (kMat i hi)
        have hMi := hMt i hi
        have he := hMi.1
        have hp := p2_le he
        have hp0 := p2_pos (E i)
        obtain ⟨t0, t2, t3⟩ := pkM_some (rk := R i) (e := E i) he (2 ^ E i) hp0
        refine wa_aload_n hX (i := 0) dX12_packingBound_50 rfl rfl ?_
        refine wa_get hX 4 (by assumption) (by rfl) (by decide +kernel) dX12_packingBound_51 ?_
        refine wa_iload_n hX (i := 1) dX12_packingBound_54 rfl rfl ?_
        refine wa_callV hX (c_AL_get hW d ka e3 (i := i) (q := P i) hi hN1 (by omega) (if_pos hi)) (by assumption) (by rfl) (by rfl) (by omega) (nA := 1) (by rfl) (by decide +kernel) rfl (by exact Nat.le_of_ble_eq_true rfl) dX12_packingBound_55 (fun r55 h55 p55 => ?_) (fun _ _ q => q.elim)
        obtain ⟨rfl, qq55⟩ := p55; subst h55
        dsimp only [Option.toList, List.cons_append, List.nil_append]
        refine wa_ccast hX g1 (by rfl) (by decide +kernel) dX12_packingBound_58 ?_
        refine wa_astore_n hX (i := 2) dX12_packingBound_61 rfl rfl ?_
        dsimp only [List.set]
        refine wi_iconst hX dX12_packingBound_62 ?_
        refine wa_istore_n hX (i := 3) dX12_packingBound_63 rfl rfl ?_
        dsimp only [List.set]
        refine WA.loop (σ := Nat) (fun z => t0 - z) (fun z => z ≤ t0 ∧ ∀ u, u < z → alwN (R i) (E i) u ≠ pkM (R i) (E i) (2 ^ E i)) (fun _ => h42) (fun z => [.val (.ref a), .val (I (i : Int)), .val (.ref (P i)), .val (I (z : Nat))]) ?_ 0 ⟨Nat.zero_le _, fun u q2 => by omega⟩
        rintro z ⟨z2, z3⟩ ih
        have hz2 : z < 2 ^ E i := by omega
        have hal := alwN_le (R i) (E i) z he
        have hpk := pkM_le (rk := R i) (e := E i) (2 ^ E i)
        refine wa_aload_n hX (i := 2) dX12_packingBound_64 rfl rfl ?_
        refine wa_iload_n hX (i := 3) dX12_packingBound_65 rfl rfl ?_
        refine wa_callS hX (c_X12_allows hW d g1 g2 g3 he (fun s hs => hMi.le10 hs) (s := z) hz2 (hMi.le_all hz2)) (by rfl) (by omega) (nA := 2) (by rfl) (by decide +kernel) rfl (by exact Nat.le_of_ble_eq_true rfl) dX12_packingBound_66 (fun r66 h66 p66 => ?_) (fun _ _ q => q.elim)
        obtain ⟨rfl, qq66⟩ := p66; subst h66
        dsimp only [Option.toList, List.cons_append, List.nil_append]
        refine wa_aload_n hX (i := 2) dX12_packingBound_69 rfl rfl ?_
        refine wa_callS hX (c_X12_packingOf hW d g1 g2 g3 he (fun s hs => hMi.le10 hs) (fun s hs => hMi.le_all hs)) (by rfl) (by omega) (nA := 1) (by rfl) (by decide +kernel) rfl (by exact Nat.le_of_ble_eq_true rfl) dX12_packingBound_70 (fun r70 h70 p70 => ?_) (fun _ _ q => q.elim)
        obtain ⟨rfl, qq70⟩ := p70; subst h70
        dsimp only [Option.toList, List.cons_append, List.nil_append]
        refine wi_icmp_eq hX (tgt := 82) dX12_packingBound_73 (by decide) (by omega) (by omega) (fun c73 => ?_) (fun c73 => ?_)
        · skip
          refine wa_iload_n hX (i := 3) dX12_packingBound_82 rfl rfl ?_
          refine wa_iret hX dX12_packingBound_83 ?_
          exact ⟨ff, Or.inr ⟨i, hi, rfl, Or.inr ⟨beq_eq_false_iff_ne.mp hv45, z, hz2, by omega, z3, rfl, row, brk, al, wk, us, kp, pt, k1, kJ⟩⟩⟩
        · skip
          refine wi_iinc hX dX12_packingBound_76 rfl ?_
          dsimp only [List.set]
          refine wa_goto hX (tgt := 64) dX12_packingBound_79 (by decide) ?_
          have hq : alwN (R i) (E i) z ≠ pkM (R i) (E i) (2 ^ E i) := by omega
          have hlt : z < t0 := by
            apply Classical.byContradiction
            intro q
            have : z = t0 := by omega
            rw [this] at hq
            exact hq t3
          exact ih (z + 1) ⟨hlt, fun u q2 => by
            by_cases q : u = z
            · subst q; exact hq
            · exact z3 u (by omega)⟩ (by omega)
      · skip
        refine wi_iconst hX dX12_packingBound_48 ?_
        refine wa_iret hX dX12_packingBound_49 ?_
        have z := b2n_t c45
        rw [z, if_pos ⟨rfl, rfl⟩] at k1
        exact ⟨ff, Or.inr ⟨i, hi, rfl, Or.inl ⟨beq_iff_eq.mp z, ⟨_, rfl⟩, row, brk, al, wk, us, kp, pt, k1, kJ⟩⟩⟩
end C83
