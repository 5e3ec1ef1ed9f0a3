/-! The reference (X12): other -/
def othM (rk : Nat → Nat) (e t : Nat) : Nat → Int
  | 0 => 0
  | z + 1 => othM rk e t z + (if rk (2 ^ e - 1) - rk z = t then (if bc z % 2 = 0 then 1 else -1) else 0)
theorem othM_le {rk : Nat → Nat} {e t : Nat} : ∀ z : Nat, -(z : Int) ≤ othM rk e t z ∧ othM rk e t z ≤ (z : Int) := by
  intro z
  induction z with
  | zero => exact ⟨Int.le_refl _, Int.le_refl _⟩
  | succ z ih =>
    unfold othM
    split
    · split <;> omega
    · omega
section C86
variable {l : Launch} {D : va_G} {S0 : State} {Z : Nat → Prop} {DR : (Nat → Nat) → Nat → Nat → Option (Nat → Nat) → Prop}
set_option maxHeartbeats 2000000 in
set_option maxRecDepth 100000 in
theorem c_X12_other (hW : WOK l D S0) (d : Nat) {h : AH} {a th : Nat} {c m : Nat} {w : Nat → Nat} {E : Nat → Nat} {R : Nat → Nat → Nat} {b0 b1 b2 : Int} (hI : RI Z DR h a th c w m E R b0 b1 b2) {n x : Int} (hn : inR n) (hx : inR x) : MA l D S0 yX12_other cX12_other 7 (some .int) (d + 4) [.ref a, I n, I x] h 0 0 (fun r h' => Fr (fun x => x = 120) h h' ∧ ((noM n m ∧ (∃ z, r = some (I z)) ∧ RI Z DR h' a 1 c w m E R b0 b1 b2) ∨ ∃ i, i < m ∧ n = (i : Int) ∧ ((¬ (0 ≤ x ∧ x ≤ 10) ∧ (∃ z, r = some (I z)) ∧ RI Z DR h' a 2 c w m E R b0 b1 b2) ∨ ∃ t : Nat, t ≤ 10 ∧ x = (t : Int) ∧ r = some (I (othM (R i) (E i) t (2 ^ E i))) ∧ RI Z DR h' a 0 c w m E R b0 b1 b2))) (fun _ _ => False) := by
  obtain ⟨row, brk, al, wk, us, kp, pt, k1, kJ⟩ := hI
  refine MA.start hW (by decide) [.val (.ref a), .val (I n), .val (I x), .unset, .unset, .unset, .unset] rfl ?_
  rintro X rfl rfl rfl hX
  refine wa_aload_n hX (i := 0) dX12_other_0 rfl rfl ?_
  refine wi_iconst hX dX12_other_1 ?_
  refine wa_put hX 0 k1 (Nat.le_of_ble_eq_true rfl) (by decide +kernel) (by rfl) (by rfl) (by rfl) dX12_other_2 ?_
  refine WA.heap (h2 := hset h a (120, oMod ((0 : Nat) : Int) (c : Int) row brk al wk us kp pt)) rfl ?_
  refine WA.hgq (fun hA hh2 => ?_)
  have ff : Fr (fun x => x = 120) h hA := by rw [hh2]; exact Fr.hset Fr.rf k1 rfl
  replace k1 : hA a = some (120, oMod ((0 : Nat) : Int) (c : Int) row brk al wk us kp pt) := by rw [hh2]; exact hset_eq
  replace kJ := kJ.fr ff (fun x hx => by omega)
  clear hh2
  obtain ⟨⟨hc60, hw, hm24, hMt⟩, kr, kb, kwk, kus, kkp, kpt, ed, N, P, ka, ke, kI, kMat⟩ := id kJ
  refine wa_aload_n hX (i := 0) dX12_other_5 rfl rfl ?_
  refine wa_aload_n hX (i := 0) dX12_other_6 rfl rfl ?_
  refine wa_iload_n hX (i := 1) dX12_other_7 rfl rfl ?_
  refine wa_callV hX (c_X12_no hW (d + 1) k1 ka hm24 hn) (by assumption) (by rfl) (by rfl) (by omega) (nA := 1) (by rfl) (by decide +kernel) rfl (by exact Nat.le_of_ble_eq_true rfl) dX12_other_8 (fun r8 h8 p8 => ?_) (fun _ _ q => q.elim)
  obtain ⟨rfl, qq8⟩ := p8; subst h8
  dsimp only [Option.toList, List.cons_append, List.nil_append]
  refine wi_iconst hX dX12_other_11 ?_
  refine wa_callV hX (c_X12_fails hW d (th := 0) (k := 1) (b := (!decide (0 ≤ n ∧ n < (m : Int)))) k1 (by omega) (by omega)) (by assumption) (by rfl) (by rfl) (by omega) (nA := 2) (by rfl) (by decide +kernel) rfl (by exact Nat.le_of_ble_eq_true rfl) dX12_other_12 (fun r12 h12 p12 => ?_) (fun _ _ q => q.elim)
  obtain ⟨rfl, hh12⟩ := p12
  have f12 : Fr (fun x => x = 120) hA h12 := by rw [hh12]; exact Fr.hset Fr.rf k1 rfl
  replace k1 : h12 a = some (120, oMod ((if ((!decide (0 ≤ n ∧ n < (m : Int)))) = true ∧ (0 : Nat) = 0 then 1 else 0 : Nat) : Int) (c : Int) row brk al wk us kp pt) := by rw [hh12]; exact hset_eq
  replace kJ := kJ.fr f12 (fun x hx => by omega)
  replace ff := ff.trans f12
  clear hh12 f12
  rw [show (((!decide (0 ≤ n ∧ n < (m : Int)))) || (0 : Nat) != 0) = ((!decide (0 ≤ n ∧ n < (m : Int)))) from Bool.or_false _]
  clear kr kb kwk kus kkp kpt ka ke kI kMat hc60 hw hm24 hMt
  obtain ⟨⟨hc60, hw, hm24, hMt⟩, kr, kb, kwk, kus, kkp, kpt, ed, N, P, ka, ke, kI, kMat⟩ := id kJ
  dsimp only [Option.toList, List.cons_append, List.nil_append]
  refine wi_if_ne hX (tgt := 41) dX12_other_15 (by decide) (by exact b2n_inR _) (fun c15 => ?_) (fun c15 => ?_)
  · skip
    refine wi_iconst hX dX12_other_41 ?_
    refine wa_iret hX dX12_other_42 ?_
    have z := b2n_t c15
    rw [z, if_pos ⟨rfl, rfl⟩] at k1
    rw [Bool.not_eq_true', decide_eq_false_iff_not] at z
    exact ⟨ff, Or.inl ⟨z, ⟨_, rfl⟩, row, brk, al, wk, us, kp, pt, k1, kJ⟩⟩
  · skip
    have hv15 := b2n_f c15
    rw [hv15, if_neg (fun z => Bool.false_ne_true z.1)] at k1
    rw [Bool.not_eq_false', decide_eq_true_eq] at hv15
    obtain ⟨i, rfl⟩ := Int.eq_ofNat_of_zero_le hv15.1
    have hi : i < m := by omega
    refine wa_aload_n hX (i := 0) dX12_other_18 rfl rfl ?_
    refine wa_iload_n hX (i := 2) dX12_other_19 rfl rfl ?_
    refine wi_iconst hX dX12_other_20 ?_
    refine wi_bipush hX dX12_other_21 (by decide) ?_
    refine wa_callS hX (c_X12_in hW d (v := x) (lo := 0) (hi := 10) hx (by omega) (by omega)) (by rfl) (by omega) (nA := 3) (by rfl) (by decide +kernel) rfl (by exact Nat.le_of_ble_eq_true rfl) dX12_other_23 (fun r23 h23 p23 => ?_) (fun _ _ q => q.elim)
    obtain ⟨rfl, qq23⟩ := p23; subst h23
    dsimp only [Option.toList, List.cons_append, List.nil_append]
    refine wi_if_ne hX (tgt := 33) dX12_other_26 (by decide) (by exact b2n_inR _) (fun c26 => ?_) (fun c26 => ?_)
    · skip
      refine wi_iconst hX dX12_other_33 ?_
      refine WA.eq (pc2 := 34) (st2 := [I ((b2n (!decide ((0 : Int) ≤ x ∧ x ≤ 10)) : Nat) : Int), .ref a]) rfl rfl (by
        first
          | (have q := b2n_t c26; rw [q]; rfl)
          | (have q := b2n_f c26; rw [q]; rfl)) ?_
      clear c26
      refine wi_iconst hX dX12_other_34 ?_
      refine wa_callV hX (c_X12_fails hW d (th := 0) (k := 2) (b := (!decide ((0 : Int) ≤ x ∧ x ≤ 10))) k1 (by omega) (by omega)) (by assumption) (by rfl) (by rfl) (by omega) (nA := 2) (by rfl) (by decide +kernel) rfl (by exact Nat.le_of_ble_eq_true rfl) dX12_other_35 (fun r35 h35 p35 => ?_) (fun _ _ q => q.elim)
      obtain ⟨rfl, hh35⟩ := p35
      have f35 : Fr (fun x => x = 120) h12 h35 := by rw [hh35]; exact Fr.hset Fr.rf k1 rfl
      replace k1 : h35 a = some (120, oMod ((if ((!decide ((0 : Int) ≤ x ∧ x ≤ 10))) = true ∧ (0 : Nat) = 0 then 2 else 0 : Nat) : Int) (c : Int) row brk al wk us kp pt) := by rw [hh35]; exact hset_eq
      replace kJ := kJ.fr f35 (fun x hx => by omega)
      replace ff := ff.trans f35
      clear hh35 f35
      rw [show (((!decide ((0 : Int) ≤ x ∧ x ≤ 10))) || (0 : Nat) != 0) = ((!decide ((0 : Int) ≤ x ∧ x ≤ 10))) from Bool.or_false _]
      clear kr kb kwk kus kkp kpt ka ke kI kMat hc60 hw hm24 hMt
      obtain ⟨⟨hc60, hw, hm24, hMt⟩, kr, kb, kwk, kus, kkp, kpt, ed, N, P, ka, ke, kI, kMat⟩ := id kJ
      dsimp only [Option.toList, List.cons_append, List.nil_append]
      refine wi_if_eq hX (tgt := 43) dX12_other_38 (by decide) (by exact b2n_inR _) (fun c38 => ?_) (fun c38 => ?_)
      · skip
        have hv38 := b2n_f c38
        rw [hv38, if_neg (fun z => Bool.false_ne_true z.1)] at k1
        rw [Bool.not_eq_false', decide_eq_true_eq] at hv38
        obtain ⟨t, rfl⟩ := Int.eq_ofNat_of_zero_le hv38.1
        obtain ⟨e3, hN1, hN2⟩ : h35 ed = some (124, aR (.object "java/lang/Object") N (fun j => if j < m then some (P j) else none)) ∧ m ≤ N ∧ N ≤ 100 := by
          rcases ke with z | z
          · exfalso; omega
          · exact z
        obtain ⟨rq, m2, m3, l2, l3, G, g1, g2, g3, g4, g5⟩ := id (kMat i hi)
        have hMi := hMt i hi
        have he := hMi.1
        have hp := p2_le he
        have hp0 := p2_pos (E i)
        have hr0 := hMi.le10 (s := 2 ^ E i - 1) (by omega)
        refine wa_aload_n hX (i := 0) dX12_other_43 rfl rfl ?_
        refine wa_get hX 4 (by assumption) (by rfl) (by decide +kernel) dX12_other_44 ?_
        refine wa_iload_n hX (i := 1) dX12_other_47 rfl rfl ?_
        refine wa_callV hX (c_AL_get hW d ka e3 (i := i) (q := P i) hi hN1 (by omega) (if_pos hi)) (by assumption) (by rfl) (by rfl) (by omega) (nA := 1) (by rfl) (by decide +kernel) rfl (by exact Nat.le_of_ble_eq_true rfl) dX12_other_48 (fun r48 h48 p48 => ?_) (fun _ _ q => q.elim)
        obtain ⟨rfl, qq48⟩ := p48; subst h48
        dsimp only [Option.toList, List.cons_append, List.nil_append]
        refine wa_ccast hX g1 (by rfl) (by decide +kernel) dX12_other_51 ?_
        refine wa_astore_n hX (i := 3) dX12_other_54 rfl (by first | rfl | assumption) ?_
        dsimp only [List.set]
        refine wi_iconst hX dX12_other_55 ?_
        refine wa_istore hX dX12_other_56 (by first | rfl | assumption) ?_
        dsimp only [List.set]
        refine wi_iconst hX dX12_other_58 ?_
        refine wa_istore hX dX12_other_59 (by first | rfl | assumption) ?_
        dsimp only [List.set]
        refine WA.loop (σ := Nat × Slot) (fun z => 2 ^ E i - z.1) (fun z => z.1 ≤ 2 ^ E i ∧ okS [z.2] 0 = true) (fun _ => h35) (fun z => [.val (.ref a), .val (I (i : Int)), .val (I (t : Int)), .val (.ref (P i)), .val (I (othM (R i) (E i) t z.1)), .val (I (z.1 : Nat)), z.2]) ?_ (0, .unset) ⟨Nat.zero_le _, rfl⟩
        rintro ⟨z, u6⟩ ⟨hz, hu6⟩ ih
        dsimp only at hz hu6 ⊢
        have hst : othM (R i) (E i) t (z + 1) = othM (R i) (E i) t z + (if R i (2 ^ E i - 1) - R i z = t then (if bc z % 2 = 0 then 1 else -1) else 0) := rfl
        have hom := othM_le (rk := R i) (e := E i) (t := t) z
        have hbz := bc_le z
        have t119 : ∀ (v : Int) (u6 : Slot), okS [u6] 0 = true → z < 2 ^ E i → ((R i (2 ^ E i - 1) - R i z = t ∧ ((bc z % 2 = 0 ∧ v = 1) ∨ (bc z % 2 ≠ 0 ∧ v = -1))) ∨ (R i (2 ^ E i - 1) - R i z ≠ t ∧ v = 0)) → WA X h35 0 0 119 [.val (.ref a), .val (I (i : Int)), .val (I (t : Int)), .val (.ref (P i)), .val (I (othM (R i) (E i) t z)), .val (I (z : Nat)), u6] [I v, I (othM (R i) (E i) t z)] := by
          intro v u6 hu6 hzl hv
          have hst2 : othM (R i) (E i) t (z + 1) = othM (R i) (E i) t z + v := by
            rcases hv with ⟨q, ⟨q2, q3⟩ | ⟨q2, q3⟩⟩ | ⟨q, q3⟩
            · rw [hst, if_pos q, if_pos q2, q3]
            · rw [hst, if_pos q, if_neg q2, q3]
            · rw [hst, if_neg q, q3]
          refine wi_iadd hX dX12_other_119 ?_
          refine wa_istore hX dX12_other_120 (by first | rfl | assumption) ?_
          dsimp only [List.set]
          refine wi_iinc hX dX12_other_122 rfl ?_
          dsimp only [List.set]
          refine wa_goto hX (tgt := 61) dX12_other_125 (by decide) ?_
          refine WA.eq rfl ?_ rfl (ih (z + 1, u6) ⟨by show z + 1 ≤ _; omega, hu6⟩ (by show _ - (z + 1) < _; omega))
          dsimp only
          rw [hst2]
          rfl
        refine wa_iload hX dX12_other_61 rfl ?_
        refine wa_aload_n hX (i := 3) dX12_other_63 rfl rfl ?_
        refine wa_callV hX (c_X11_full hW d g1 he) (by assumption) (by rfl) (by rfl) (by omega) (nA := 0) (by rfl) (by decide +kernel) rfl (by exact Nat.le_of_ble_eq_true rfl) dX12_other_64 (fun r64 h64 p64 => ?_) (fun _ _ q => q.elim)
        obtain ⟨rfl, qq64⟩ := p64; subst h64
        dsimp only [Option.toList, List.cons_append, List.nil_append]
        refine wi_icmp_gt hX (tgt := 128) dX12_other_67 (by decide) (by omega) (by omega) (fun c67 => ?_) (fun c67 => ?_)
        · skip
          refine wa_iload hX dX12_other_128 rfl ?_
          refine wa_iret hX dX12_other_130 ?_
          exact ⟨ff, Or.inr ⟨i, hi, rfl, Or.inr ⟨t, by omega, rfl, by rw [show z = 2 ^ E i by omega], row, brk, al, wk, us, kp, pt, k1, kJ⟩⟩⟩
        · skip
          refine wa_aload_n hX (i := 3) dX12_other_70 rfl rfl ?_
          have hrz := hMi.le10 (s := z) (by omega)
          have hrf := hMi.le_all (s := z) (by omega)
          refine wa_callV hX (c_X11_rank hW d g1 g2 g3 he (fun s hs => hMi.le10 hs)) (by assumption) (by rfl) (by rfl) (by omega) (nA := 0) (by rfl) (by decide +kernel) rfl (by exact Nat.le_of_ble_eq_true rfl) dX12_other_71 (fun r71 h71 p71 => ?_) (fun _ _ q => q.elim)
          obtain ⟨rfl, qq71⟩ := p71; subst h71
          dsimp only [Option.toList, List.cons_append, List.nil_append]
          refine wa_aload_n hX (i := 3) dX12_other_74 rfl rfl ?_
          refine wa_get hX 1 (by assumption) (by rfl) (by decide +kernel) dX12_other_75 ?_
          refine wa_iload hX dX12_other_78 rfl ?_
          refine wi_iaload hX (by assumption) (by omega) (by omega) (by omega) dX12_other_80 ?_
          rw [Int.toNat_natCast, g3 z (by omega)]
          refine wi_isub hX dX12_other_81 ?_
          refine wa_iload_n hX (i := 2) dX12_other_82 rfl rfl ?_
          refine wi_icmp_ne hX (tgt := 90) dX12_other_83 (by decide) (by omega) (by omega) (fun c83 => ?_) (fun c83 => ?_)
          · skip
            refine wi_iconst hX dX12_other_90 ?_
            refine wa_istore hX dX12_other_91 (by first | rfl | assumption) ?_
            dsimp only [List.set]
            refine wa_iload hX dX12_other_93 rfl ?_
            refine wa_iload hX dX12_other_95 rfl ?_
            refine wi_if_ne hX (tgt := 104) dX12_other_97 (by decide) (by omega) (fun c97 => ?_) (fun c97 => ?_)
            · skip
              refine wa_iload hX dX12_other_104 rfl ?_
              refine wa_callS hX (c_J6_bitCount hW d (s := z) (by omega)) (by rfl) (by omega) (nA := 1) (by rfl) (by decide +kernel) rfl (by exact Nat.le_of_ble_eq_true rfl) dX12_other_106 (fun r106 h106 p106 => ?_) (fun _ _ q => q.elim)
              obtain ⟨rfl, qq106⟩ := p106; subst h106
              dsimp only [Option.toList, List.cons_append, List.nil_append]
              refine wi_iconst hX dX12_other_109 ?_
              refine wn_irem hX (a := bc z) (b := 2) dX12_other_110 rfl rfl (by omega) (by omega) (by omega) ?_
              refine wi_if_ne hX (tgt := 118) dX12_other_111 (by decide) (by omega) (fun c111 => ?_) (fun c111 => ?_)
              · skip
                refine wi_iconst hX dX12_other_118 ?_
                refine t119 _ _ ?_ ?_ ?_
                · first | rfl | assumption
                · omega
                · omega
              · skip
                refine wi_iconst hX dX12_other_114 ?_
                refine wa_goto hX (tgt := 119) dX12_other_115 (by decide) ?_
                refine t119 _ _ ?_ ?_ ?_
                · first | rfl | assumption
                · omega
                · omega
            · skip
              refine wi_iconst hX dX12_other_100 ?_
              refine wa_goto hX (tgt := 119) dX12_other_101 (by decide) ?_
              refine t119 _ _ ?_ ?_ ?_
              · first | rfl | assumption
              · omega
              · omega
          · skip
            refine wi_iconst hX dX12_other_86 ?_
            refine wa_goto hX (tgt := 91) dX12_other_87 (by decide) ?_
            refine wa_istore hX dX12_other_91 (by first | rfl | assumption) ?_
            dsimp only [List.set]
            refine wa_iload hX dX12_other_93 rfl ?_
            refine wa_iload hX dX12_other_95 rfl ?_
            refine wi_if_ne hX (tgt := 104) dX12_other_97 (by decide) (by omega) (fun c97 => ?_) (fun c97 => ?_)
            · skip
              refine wa_iload hX dX12_other_104 rfl ?_
              refine wa_callS hX (c_J6_bitCount hW d (s := z) (by omega)) (by rfl) (by omega) (nA := 1) (by rfl) (by decide +kernel) rfl (by exact Nat.le_of_ble_eq_true rfl) dX12_other_106 (fun r106 h106 p106 => ?_) (fun _ _ q => q.elim)
              obtain ⟨rfl, qq106⟩ := p106; subst h106
              dsimp only [Option.toList, List.cons_append, List.nil_append]
              refine wi_iconst hX dX12_other_109 ?_
              refine wn_irem hX (a := bc z) (b := 2) dX12_other_110 rfl rfl (by omega) (by omega) (by omega) ?_
              refine wi_if_ne hX (tgt := 118) dX12_other_111 (by decide) (by omega) (fun c111 => ?_) (fun c111 => ?_)
              · skip
                refine wi_iconst hX dX12_other_118 ?_
                refine t119 _ _ ?_ ?_ ?_
                · first | rfl | assumption
                · omega
                · omega
              · skip
                refine wi_iconst hX dX12_other_114 ?_
                refine wa_goto hX (tgt := 119) dX12_other_115 (by decide) ?_
                refine t119 _ _ ?_ ?_ ?_
                · first | rfl | assumption
                · omega
                · omega
            · skip
              refine wi_iconst hX dX12_other_100 ?_
              refine wa_goto hX (tgt := 119) dX12_other_101 (by decide) ?_
              refine t119 _ _ ?_ ?_ ?_
              · first | rfl | assumption
              · omega
              · omega
      · skip
        refine wi_iconst hX dX12_other_41 ?_
        refine wa_iret hX dX12_other_42 ?_
        have z := b2n_t c38
        rw [z, if_pos ⟨rfl, rfl⟩] at k1
        rw [Bool.not_eq_true', decide_eq_false_iff_not] at z
        exact ⟨ff, Or.inr ⟨i, hi, rfl, Or.inl ⟨z, ⟨_, rfl⟩, row, brk, al, wk, us, kp, pt, k1, kJ⟩⟩⟩
    · skip
      refine wi_iconst hX dX12_other_29 ?_
      refine wa_goto hX (tgt := 34) dX12_other_30 (by decide) ?_
      refine WA.eq (pc2 := 34) (st2 := [I ((b2n (!decide ((0 : Int) ≤ x ∧ x ≤ 10)) : Nat) : Int), .ref a]) rfl rfl (by
        first
          | (have q := b2n_t c26; rw [q]; rfl)
          | (have q := b2n_f c26; rw [q]; rfl)) ?_
      clear c26
      refine wi_iconst hX dX12_other_34 ?_
      refine wa_callV hX (c_X12_fails hW d (th := 0) (k := 2) (b := (!decide ((0 : Int) ≤ x ∧ x ≤ 10))) k1 (by omega) (by omega)) (by assumption) (by rfl) (by rfl) (by omega) (nA := 2) (by rfl) (by decide +kernel) rfl (by exact Nat.le_of_ble_eq_true rfl) dX12_other_35 (fun r35 h35 p35 => ?_) (fun _ _ q => q.elim)
      obtain ⟨rfl, hh35⟩ := p35
      have f35 : Fr (fun x => x = 120) h12 h35 := by rw [hh35]; exact Fr.hset Fr.rf k1 rfl
      replace k1 : h35 a = some (120, oMod ((if ((!decide ((0 : Int) ≤ x ∧ x ≤ 10))) = true ∧ (0 : Nat) = 0 then 2 else 0 : Nat) : Int) (c : Int) row brk al wk us kp pt) := by rw [hh35]; exact hset_eq
      replace kJ := kJ.fr f35 (fun x hx => by omega)
      replace ff := ff.trans f35
      clear hh35 f35
      rw [show (((!decide ((0 : Int) ≤ x ∧ x ≤ 10))) || (0 : Nat) != 0) = ((!decide ((0 : Int) ≤ x ∧ x ≤ 10))) from Bool.or_false _]
      clear kr kb kwk kus kkp kpt ka ke kI kMat hc60 hw hm24 hMt
      obtain ⟨⟨hc60, hw, hm24, hMt⟩, kr, kb, kwk, kus, kkp, kpt, ed, N, P, ka, ke, kI, kMat⟩ := id kJ
      dsimp only [Option.toList, List.cons_append, List.nil_append]
      refine wi_if_eq hX (tgt := 43) dX12_other_38 (by decide) (by exact b2n_inR _) (fun c38 => ?_) (fun c38 => ?_)
      · skip
        have hv38 := b2n_f c38
        rw [hv38, if_neg (fun z => Bool.false_ne_true z.1)] at k1
        rw [Bool.not_eq_false', decide_eq_true_eq] at hv38
        obtain ⟨t, rfl⟩ := Int.eq_ofNat_of_zero_le hv38.1
        obtain ⟨e3, hN1, hN2⟩ : h35 ed = some (124, aR (.object "java/lang/Object") N (fun j => if j < m then some (P j) else none)) ∧ m ≤ N ∧ N ≤ 100 := by
          rcases ke with z | z
          · exfalso; omega
          · exact z
        obtain ⟨rq, m2, m3, l2, l3, G, g1, g2, g3, g4, g5⟩ := id (kMat i hi)
        have hMi := hMt i hi
        have he := hMi.1
        have hp := p2_le he
        have hp0 := p2_pos (E i)
        have hr0 := hMi.le10 (s := 2 ^ E i - 1) (by omega)
        refine wa_aload_n hX (i := 0) dX12_other_43 rfl rfl ?_
        refine wa_get hX 4 (by assumption) (by rfl) (by decide +kernel) dX12_other_44 ?_
        refine wa_iload_n hX (i := 1) dX12_other_47 rfl rfl ?_
        refine wa_callV hX (c_AL_get hW d ka e3 (i := i) (q := P i) hi hN1 (by omega) (if_pos hi)) (by assumption) (by rfl) (by rfl) (by omega) (nA := 1) (by rfl) (by decide +kernel) rfl (by exact Nat.le_of_ble_eq_true rfl) dX12_other_48 (fun r48 h48 p48 => ?_) (fun _ _ q => q.elim)
        obtain ⟨rfl, qq48⟩ := p48; subst h48
        dsimp only [Option.toList, List.cons_append, List.nil_append]
        refine wa_ccast hX g1 (by rfl) (by decide +kernel) dX12_other_51 ?_
        refine wa_astore_n hX (i := 3) dX12_other_54 rfl (by first | rfl | assumption) ?_
        dsimp only [List.set]
        refine wi_iconst hX dX12_other_55 ?_
        refine wa_istore hX dX12_other_56 (by first | rfl | assumption) ?_
        dsimp only [List.set]
        refine wi_iconst hX dX12_other_58 ?_
        refine wa_istore hX dX12_other_59 (by first | rfl | assumption) ?_
        dsimp only [List.set]
        refine WA.loop (σ := Nat × Slot) (fun z => 2 ^ E i - z.1) (fun z => z.1 ≤ 2 ^ E i ∧ okS [z.2] 0 = true) (fun _ => h35) (fun z => [.val (.ref a), .val (I (i : Int)), .val (I (t : Int)), .val (.ref (P i)), .val (I (othM (R i) (E i) t z.1)), .val (I (z.1 : Nat)), z.2]) ?_ (0, .unset) ⟨Nat.zero_le _, rfl⟩
        rintro ⟨z, u6⟩ ⟨hz, hu6⟩ ih
        dsimp only at hz hu6 ⊢
        have hst : othM (R i) (E i) t (z + 1) = othM (R i) (E i) t z + (if R i (2 ^ E i - 1) - R i z = t then (if bc z % 2 = 0 then 1 else -1) else 0) := rfl
        have hom := othM_le (rk := R i) (e := E i) (t := t) z
        have hbz := bc_le z
        have t119 : ∀ (v : Int) (u6 : Slot), okS [u6] 0 = true → z < 2 ^ E i → ((R i (2 ^ E i - 1) - R i z = t ∧ ((bc z % 2 = 0 ∧ v = 1) ∨ (bc z % 2 ≠ 0 ∧ v = -1))) ∨ (R i (2 ^ E i - 1) - R i z ≠ t ∧ v = 0)) → WA X h35 0 0 119 [.val (.ref a), .val (I (i : Int)), .val (I (t : Int)), .val (.ref (P i)), .val (I (othM (R i) (E i) t z)), .val (I (z : Nat)), u6] [I v, I (othM (R i) (E i) t z)] := by
          intro v u6 hu6 hzl hv
          have hst2 : othM (R i) (E i) t (z + 1) = othM (R i) (E i) t z + v := by
            rcases hv with ⟨q, ⟨q2, q3⟩ | ⟨q2, q3⟩⟩ | ⟨q, q3⟩
            · rw [hst, if_pos q, if_pos q2, q3]
            · rw [hst, if_pos q, if_neg q2, q3]
            · rw [hst, if_neg q, q3]
          refine wi_iadd hX dX12_other_119 ?_
          refine wa_istore hX dX12_other_120 (by first | rfl | assumption) ?_
          dsimp only [List.set]
          refine wi_iinc hX dX12_other_122 rfl ?_
          dsimp only [List.set]
          refine wa_goto hX (tgt := 61) dX12_other_125 (by decide) ?_
          refine WA.eq rfl ?_ rfl (ih (z + 1, u6) ⟨by show z + 1 ≤ _; omega, hu6⟩ (by show _ - (z + 1) < _; omega))
          dsimp only
          rw [hst2]
          rfl
        refine wa_iload hX dX12_other_61 rfl ?_
        refine wa_aload_n hX (i := 3) dX12_other_63 rfl rfl ?_
        refine wa_callV hX (c_X11_full hW d g1 he) (by assumption) (by rfl) (by rfl) (by omega) (nA := 0) (by rfl) (by decide +kernel) rfl (by exact Nat.le_of_ble_eq_true rfl) dX12_other_64 (fun r64 h64 p64 => ?_) (fun _ _ q => q.elim)
        obtain ⟨rfl, qq64⟩ := p64; subst h64
        dsimp only [Option.toList, List.cons_append, List.nil_append]
        refine wi_icmp_gt hX (tgt := 128) dX12_other_67 (by decide) (by omega) (by omega) (fun c67 => ?_) (fun c67 => ?_)
        · skip
          refine wa_iload hX dX12_other_128 rfl ?_
          refine wa_iret hX dX12_other_130 ?_
          exact ⟨ff, Or.inr ⟨i, hi, rfl, Or.inr ⟨t, by omega, rfl, by rw [show z = 2 ^ E i by omega], row, brk, al, wk, us, kp, pt, k1, kJ⟩⟩⟩
        · skip
          refine wa_aload_n hX (i := 3) dX12_other_70 rfl rfl ?_
          have hrz := hMi.le10 (s := z) (by omega)
          have hrf := hMi.le_all (s := z) (by omega)
          refine wa_callV hX (c_X11_rank hW d g1 g2 g3 he (fun s hs => hMi.le10 hs)) (by assumption) (by rfl) (by rfl) (by omega) (nA := 0) (by rfl) (by decide +kernel) rfl (by exact Nat.le_of_ble_eq_true rfl) dX12_other_71 (fun r71 h71 p71 => ?_) (fun _ _ q => q.elim)
          obtain ⟨rfl, qq71⟩ := p71; subst h71
          dsimp only [Option.toList, List.cons_append, List.nil_append]
          refine wa_aload_n hX (i := 3) dX12_other_74 rfl rfl ?_
          refine wa_get hX 1 (by assumption) (by rfl) (by decide +kernel) dX12_other_75 ?_
          refine wa_iload hX dX12_other_78 rfl ?_
          refine wi_iaload hX (by assumption) (by omega) (by omega) (by omega) dX12_other_80 ?_
          rw [Int.toNat_natCast, g3 z (by omega)]
          refine wi_isub hX dX12_other_81 ?_
          refine wa_iload_n hX (i := 2) dX12_other_82 rfl rfl ?_
          refine wi_icmp_ne hX (tgt := 90) dX12_other_83 (by decide) (by omega) (by omega) (fun c83 => ?_) (fun c83 => ?_)
          · skip
            refine wi_iconst hX dX12_other_90 ?_
            refine wa_istore hX dX12_other_91 (by first | rfl | assumption) ?_
            dsimp only [List.set]
            refine wa_iload hX dX12_other_93 rfl ?_
            refine wa_iload hX dX12_other_95 rfl ?_
            refine wi_if_ne hX (tgt := 104) dX12_other_97 (by decide) (by omega) (fun c97 => ?_) (fun c97 => ?_)
            · skip
              refine wa_iload hX dX12_other_104 rfl ?_
              refine wa_callS hX (c_J6_bitCount hW d (s := z) (by omega)) (by rfl) (by omega) (nA := 1) (by rfl) (by decide +kernel) rfl (by exact Nat.le_of_ble_eq_true rfl) dX12_other_106 (fun r106 h106 p106 => ?_) (fun _ _ q => q.elim)
              obtain ⟨rfl, qq106⟩ := p106; subst h106
              dsimp only [Option.toList, List.cons_append, List.nil_append]
              refine wi_iconst hX dX12_other_109 ?_
              refine wn_irem hX (a := bc z) (b := 2) dX12_other_110 rfl rfl (by omega) (by omega) (by omega) ?_
              refine wi_if_ne hX (tgt := 118) dX12_other_111 (by decide) (by omega) (fun c111 => ?_) (fun c111 => ?_)
              · skip
                refine wi_iconst hX dX12_other_118 ?_
                refine t119 _ _ ?_ ?_ ?_
                · first | rfl | assumption
                · omega
                · omega
              · skip
                refine wi_iconst hX dX12_other_114 ?_
                refine wa_goto hX (tgt := 119) dX12_other_115 (by decide) ?_
                refine t119 _ _ ?_ ?_ ?_
                · first | rfl | assumption
                · omega
                · omega
            · skip
              refine wi_iconst hX dX12_other_100 ?_
              refine wa_goto hX (tgt := 119) dX12_other_101 (by decide) ?_
              refine t119 _ _ ?_ ?_ ?_
              · first | rfl | assumption
              · omega
              · omega
          · skip
            refine wi_iconst hX dX12_other_86 ?_
            refine wa_goto hX (tgt := 91) dX12_other_87 (by decide) ?_
            refine wa_istore hX dX12_other_91 (by first | rfl | assumption) ?_
            dsimp only [List.set]
            refine wa_iload hX dX12_other_93 rfl ?_
            refine wa_iload hX dX12_other_95 rfl ?_
            refine wi_if_ne hX (tgt := 104) dX12_other_97 (by decide) (by omega) (fun c97 => ?_) (fun c97 => ?_)
            · skip
              refine wa_iload hX dX12_other_104 rfl ?_
              refine wa_callS hX (c_J6_bitCount hW d (s := z) (by omega)) (by rfl) (by omega) (nA := 1) (by rfl) (by decide +kernel) rfl (by exact Nat.le_of_ble_eq_true rfl) dX12_other_106 (fun r106 h106 p106 => ?_) (fun _ _ q => q.elim)
              obtain ⟨rfl, qq106⟩ := p106; subst h106
              dsimp only [Option.toList, List.cons_append, List.nil_append]
              refine wi_iconst hX dX12_other_109 ?_
              refine wn_irem hX (a := bc z) (b := 2) dX12_other_110 rfl rfl (by omega) (by omega) (by omega) ?_
              refine wi_if_ne hX (tgt := 118) dX12_other_111 (by decide) (by omega) (fun c111 => ?_) (fun c111 => ?_)
              · skip
                refine wi_iconst hX dX12_other_118 ?_
                refine t119 _ _ ?_ ?_ ?_
                · first | rfl | assumption
                · omega
                · omega
              · skip
                refine wi_iconst hX dX12_other_114 ?_
                refine wa_goto hX (tgt := 119) dX12_other_115 (by decide) ?_
                refine t119 _ _ ?_ ?_ ?_
                · first | rfl | assumption
                · omega
                · omega
            · skip
              refine wi_iconst hX dX12_other_100 ?_
              refine wa_goto hX (tgt := 119) dX12_other_101 (by decide) ?_
              refine t119 _ _ ?_ ?_ ?_
              · first | rfl | assumption
              · omega
              · omega
      · skip
        refine wi_iconst hX dX12_other_41 ?_
        refine wa_iret hX dX12_other_42 ?_
        have z := b2n_t c38
        rw [z, if_pos ⟨rfl, rfl⟩] at k1
        rw [Bool.not_eq_true', decide_eq_false_iff_not] at z
        exact ⟨ff, Or.inr ⟨i, hi, rfl, Or.inl ⟨z, ⟨_, rfl⟩, row, brk, al, wk, us, kp, pt, k1, kJ⟩⟩⟩
end C86
