/-! The reference (X12): relax, extend, sum -/
def extM (rk : Nat → Nat) (e t s : Nat) : Nat := rk (s % 2 ^ e) + (if s < 2 ^ e ∨ cloN rk e (s % 2 ^ e) &&& t = t then 0 else 1)
theorem extM_lo {rk : Nat → Nat} {e t s : Nat} (h : s < 2 ^ e) : extM rk e t s = rk s := by
  unfold extM
  rw [Nat.mod_eq_of_lt h, if_pos (Or.inl h)]
  rfl
theorem extM_hi {rk : Nat → Nat} {e t s : Nat} (h : s < 2 ^ e) : extM rk e t (2 ^ e + s) = rk s + (if cloN rk e s &&& t = t then 0 else 1) := by
  unfold extM
  rw [Nat.add_mod_left, Nat.mod_eq_of_lt h]
  by_cases g : cloN rk e s &&& t = t
  · rw [if_pos (Or.inr g), if_pos g]
  · rw [if_neg (fun z => z.elim (fun q => by omega) g), if_neg g]
theorem or_p2 {s e : Nat} (h : s < 2 ^ e) : s ||| 2 ^ e = 2 ^ e + s := by
  have h1 := Nat.two_pow_add_eq_or_of_lt h 1
  rw [Nat.mul_one] at h1
  rw [Nat.or_comm]
  exact h1.symm
section C97
variable {l : Launch} {D : va_G} {S0 : State} {DR : (Nat → Nat) → Nat → Nat → Option (Nat → Nat) → Prop}
set_option maxHeartbeats 2000000 in
set_option maxRecDepth 100000 in
theorem c_X12_relax (hW : WOK l D S0) (d : Nat) {h : AH} {a th : Nat} {c m : Nat} {w : Nat → Nat} {E : Nat → Nat} {R : Nat → Nat → Nat} {b0 b1 b2 : Int} (hI : RI (zA S0) DR h a th c w m E R b0 b1 b2) {n s : Int} (hn : inR n) (hs : inR s) (hN : ∀ i t : Nat, i < m → t < 2 ^ E i → cirM (R i) t (E i) = true → hypB (R i) (E i) t = true → Mtr (E i) (fun s => if s = t then R i (2 ^ E i - 1) else R i s)) {rmc rms : Nat} (hroom : ((∃ i t : Nat, i < m ∧ n = (i : Int) ∧ t < 2 ^ E i ∧ s = (t : Int) ∧ cirM (R i) t (E i) = true ∧ hypB (R i) (E i) t = true) ∧ m < 24) → 3 ≤ rmc ∧ 1100 ≤ rms) : MA l D S0 yX12_relax cX12_relax 6 (some .int) (d + 7) [.ref a, I n, I s] h rmc rms (fun r h' => Fr (fun x => 120 ≤ x ∧ x ≤ 134) h h' ∧ ((noM n m ∧ (∃ z, r = some (I z)) ∧ RI (zA S0) DR h' a 1 c w m E R b0 b1 b2) ∨ ∃ i, i < m ∧ n = (i : Int) ∧ (((¬ (0 ≤ s ∧ s < ((2 ^ E i : Nat) : Int))) ∧ (∃ z, r = some (I z)) ∧ RI (zA S0) DR h' a 2 c w m E R b0 b1 b2) ∨ ∃ t : Nat, t < 2 ^ E i ∧ s = (t : Int) ∧ (((cirM (R i) t (E i) = false ∨ hypB (R i) (E i) t = false) ∧ (∃ z, r = some (I z)) ∧ RI (zA S0) DR h' a 3 c w m E R b0 b1 b2) ∨ (cirM (R i) t (E i) = true ∧ hypB (R i) (E i) t = true ∧ ((m = 24 ∧ (∃ z, r = some (I z)) ∧ RI (zA S0) DR h' a 4 c w m E R b0 b1 b2) ∨ (m ≠ 24 ∧ r = some (I (m : Nat)) ∧ RI (zA S0) DR h' a 0 c w (m + 1) (up E m (E i)) (up R m (fun s => if s = t then R i (2 ^ E i - 1) else R i s)) b0 b1 b2))))))) (fun _ _ => False) := by
  obtain ⟨row, brk, al, wk, us, kp, pt, k1, kJ⟩ := hI
  refine MA.start hW (by decide) [.val (.ref a), .val (I n), .val (I s), .unset, .unset, .unset] rfl ?_
  rintro X rfl rfl rfl hX
  refine wa_aload_n hX (i := 0) dX12_relax_0 rfl rfl ?_
  refine wi_iconst hX dX12_relax_1 ?_
  refine wa_put hX 0 k1 (Nat.le_of_ble_eq_true rfl) (by decide +kernel) (by rfl) (by rfl) (by rfl) dX12_relax_2 ?_
  refine WA.heap (h2 := hset h a (120, oMod ((0 : Nat) : Int) (c : Int) row brk al wk us kp pt)) rfl ?_
  refine WA.hgq (fun hA hh2 => ?_)
  have ff : Fr (fun x => x = 120) h hA := by rw [hh2]; exact Fr.hset Fr.rf k1 rfl
  replace k1 : hA a = some (120, oMod ((0 : Nat) : Int) (c : Int) row brk al wk us kp pt) := by rw [hh2]; exact hset_eq
  replace kJ := kJ.fr ff (fun x hx => by omega)
  clear hh2
  obtain ⟨⟨hc60, hw, hm24, hMt⟩, kr, kb, kwk, kus, kkp, kpt, ed, N, P, ka, ke, kI, kMat⟩ := id kJ
  refine wa_aload_n hX (i := 0) dX12_relax_5 rfl rfl ?_
  refine wa_aload_n hX (i := 0) dX12_relax_6 rfl rfl ?_
  refine wa_iload_n hX (i := 1) dX12_relax_7 rfl rfl ?_
  refine wa_callV hX (c_X12_no hW (d + 1) k1 ka hm24 hn) (by assumption) (by rfl) (by rfl) (by omega) (nA := 1) (by rfl) (by decide +kernel) rfl (by exact Nat.le_of_ble_eq_true rfl) dX12_relax_8 (fun r8 h8 p8 => ?_) (fun _ _ q => q.elim)
  obtain ⟨rfl, qq8⟩ := p8; subst h8
  dsimp only [Option.toList, List.cons_append, List.nil_append]
  refine wi_iconst hX dX12_relax_11 ?_
  refine wa_callV hX (c_X12_fails hW d (th := 0) (k := 1) (b := (!decide (0 ≤ n ∧ n < (m : Int)))) k1 (by omega) (by omega)) (by assumption) (by rfl) (by rfl) (by omega) (nA := 2) (by rfl) (by decide +kernel) rfl (by exact Nat.le_of_ble_eq_true rfl) dX12_relax_12 (fun r12 h12 p12 => ?_) (fun _ _ q => q.elim)
  obtain ⟨rfl, hh12⟩ := p12
  have f12 : Fr (fun x => x = 120) hA h12 := by rw [hh12]; exact Fr.hset Fr.rf k1 rfl
  replace k1 : h12 a = some (120, oMod ((if ((!decide (0 ≤ n ∧ n < (m : Int)))) = true ∧ (0 : Nat) = 0 then 1 else 0 : Nat) : Int) (c : Int) row brk al wk us kp pt) := by rw [hh12]; exact hset_eq
  replace kJ := kJ.fr f12 (fun x hx => by omega)
  replace ff := ff.trans f12
  clear hh12 f12
  rw [show (((!decide (0 ≤ n ∧ n < (m : Int)))) || (0 : Nat) != 0) = ((!decide (0 ≤ n ∧ n < (m : Int)))) from Bool.or_false _]
  clear kr kb kwk kus kkp kpt ka ke kI kMat hc60 hw hm24 hMt
  obtain ⟨⟨hc60, hw, hm24, hMt⟩, kr, kb, kwk, kus, kkp, kpt, ed, N, P, ka, ke, kI, kMat⟩ := id kJ
  dsimp only [Option.toList, List.cons_append, List.nil_append]
  refine wi_if_ne hX (tgt := 32) dX12_relax_15 (by decide) (by exact b2n_inR _) (fun c15 => ?_) (fun c15 => ?_)
  · skip
    refine wi_iconst hX dX12_relax_32 ?_
    refine wa_iret hX dX12_relax_33 ?_
    first
      | (have z := b2n_t c15
         rw [z, if_pos ⟨rfl, rfl⟩] at k1
         rw [Bool.not_eq_true', decide_eq_false_iff_not] at z
         exact ⟨ff.mono (fun x hx => by omega), Or.inl ⟨z, ⟨_, rfl⟩, row, brk, al, wk, us, kp, pt, k1, kJ⟩⟩)
      | (have z := b2n_t c29
         rw [z, if_pos ⟨rfl, rfl⟩] at k1
         rw [Bool.not_eq_true', decide_eq_false_iff_not] at z
         exact ⟨ff.mono (fun x hx => by omega), Or.inr ⟨i, hi, rfl, Or.inl ⟨z, ⟨_, rfl⟩, row, brk, al, wk, us, kp, pt, k1, kJ⟩⟩⟩)
  · skip
    have hv15 := b2n_f c15
    rw [hv15, if_neg (fun z => Bool.false_ne_true z.1)] at k1
    rw [Bool.not_eq_false', decide_eq_true_eq] at hv15
    obtain ⟨i, rfl⟩ := Int.eq_ofNat_of_zero_le hv15.1
    have hi : i < m := by omega
    obtain ⟨e3, hN1, hN2⟩ : h12 ed = some (124, aR (.object "java/lang/Object") N (fun j => if j < m then some (P j) else none)) ∧ m ≤ N ∧ N ≤ 100 := by
      rcases ke with z | z
      · exfalso; omega
      · exact z
    obtain ⟨rq, m2, m3, l2, l3, G, g1, g2, g3, g4, g5⟩ := id (kMat i hi)
    have hMi := hMt i hi
    have he := hMi.1
    have hp := p2_le he
    have hp0 := p2_pos (E i)
    refine wa_aload_n hX (i := 0) dX12_relax_18 rfl rfl ?_
    refine wa_aload_n hX (i := 0) dX12_relax_19 rfl rfl ?_
    refine wa_iload_n hX (i := 1) dX12_relax_20 rfl rfl ?_
    refine wa_iload_n hX (i := 2) dX12_relax_21 rfl rfl ?_
    refine wa_callV hX (c_X12_noSet hW d k1 ka e3 hN1 hN2 hi g1 he hs) (by assumption) (by rfl) (by rfl) (by omega) (nA := 2) (by rfl) (by decide +kernel) rfl (by exact Nat.le_of_ble_eq_true rfl) dX12_relax_22 (fun r22 h22 p22 => ?_) (fun _ _ q => q.elim)
    obtain ⟨rfl, qq22⟩ := p22; subst h22
    dsimp only [Option.toList, List.cons_append, List.nil_append]
    refine wi_iconst hX dX12_relax_25 ?_
    refine wa_callV hX (c_X12_fails hW d (th := 0) (k := 2) (b := (!decide (0 ≤ s ∧ s < ((2 ^ E i : Nat) : Int)))) k1 (by omega) (by omega)) (by assumption) (by rfl) (by rfl) (by omega) (nA := 2) (by rfl) (by decide +kernel) rfl (by exact Nat.le_of_ble_eq_true rfl) dX12_relax_26 (fun r26 h26 p26 => ?_) (fun _ _ q => q.elim)
    obtain ⟨rfl, hh26⟩ := p26
    have f26 : Fr (fun x => x = 120) h12 h26 := by rw [hh26]; exact Fr.hset Fr.rf k1 rfl
    replace k1 : h26 a = some (120, oMod ((if ((!decide (0 ≤ s ∧ s < ((2 ^ E i : Nat) : Int)))) = true ∧ (0 : Nat) = 0 then 2 else 0 : Nat) : Int) (c : Int) row brk al wk us kp pt) := by rw [hh26]; exact hset_eq
    replace kJ := kJ.fr f26 (fun x hx => by omega)
    replace ff := ff.trans f26
    clear hh26 f26
    rw [show (((!decide (0 ≤ s ∧ s < ((2 ^ E i : Nat) : Int)))) || (0 : Nat) != 0) = ((!decide (0 ≤ s ∧ s < ((2 ^ E i : Nat) : Int)))) from Bool.or_false _]
    clear kr kb kwk kus kkp kpt ka ke kI kMat hc60 hw hm24 hMt
    obtain ⟨⟨hc60, hw, hm24, hMt⟩, kr, kb, kwk, kus, kkp, kpt, ed, N, P, ka, ke, kI, kMat⟩ := id kJ
    dsimp only [Option.toList, List.cons_append, List.nil_append]
    refine wi_if_eq hX (tgt := 34) dX12_relax_29 (by decide) (by exact b2n_inR _) (fun c29 => ?_) (fun c29 => ?_)
    · skip
      have hv2 := b2n_f c29
      rw [hv2, if_neg (fun z => Bool.false_ne_true z.1)] at k1
      rw [Bool.not_eq_false', decide_eq_true_eq] at hv2
      obtain ⟨t, rfl⟩ := Int.eq_ofNat_of_zero_le hv2.1
      have ht : t < 2 ^ E i := by omega
      obtain ⟨e3, hN1, hN2⟩ : h26 ed = some (124, aR (.object "java/lang/Object") N (fun j => if j < m then some (P j) else none)) ∧ m ≤ N ∧ N ≤ 100 := by
        rcases ke with z | z
        · exfalso; omega
        · exact z
      obtain ⟨rq, m2, m3, l2, l3, G, g1, g2, g3, g4, g5⟩ := id (kMat i hi)
      have hMi := hMt i hi
      have he := hMi.1
      have hp := p2_le he
      have hp0 := p2_pos (E i)
      obtain ⟨pM, hPM⟩ : ∃ q, P i = q := ⟨_, rfl⟩
      rw [hPM] at g1
      have hr0 := hMi.le10 (s := 2 ^ E i - 1) (by omega)
      refine wa_aload_n hX (i := 0) dX12_relax_34 rfl rfl ?_
      refine wa_get hX 4 (by assumption) (by rfl) (by decide +kernel) dX12_relax_35 ?_
      refine wa_iload_n hX (i := 1) dX12_relax_38 rfl rfl ?_
      refine wa_callV hX (c_AL_get hW d ka e3 (i := i) (q := pM) hi hN1 (by omega) ((if_pos hi).trans (congrArg some hPM))) (by assumption) (by rfl) (by rfl) (by omega) (nA := 1) (by rfl) (by decide +kernel) rfl (by exact Nat.le_of_ble_eq_true rfl) dX12_relax_39 (fun r39 h39 p39 => ?_) (fun _ _ q => q.elim)
      obtain ⟨rfl, qq39⟩ := p39; subst h39
      dsimp only [Option.toList, List.cons_append, List.nil_append]
      refine wa_ccast hX g1 (by rfl) (by decide +kernel) dX12_relax_42 ?_
      refine wa_astore_n hX (i := 3) dX12_relax_45 rfl rfl ?_
      dsimp only [List.set]
      refine wa_aload_n hX (i := 0) dX12_relax_46 rfl rfl ?_
      refine wa_aload_n hX (i := 3) dX12_relax_47 rfl rfl ?_
      refine wa_iload_n hX (i := 2) dX12_relax_48 rfl rfl ?_
      have t68 : WA X h26 rmc rms 68 [.val (.ref a), .val (I (i : Int)), .val (I (t : Int)), .val (.ref pM), .unset, .unset] [I ((b2n (!cirM (R i) t (E i) || !hypB (R i) (E i) t) : Nat) : Int), .ref a] := by
        refine wi_iconst hX dX12_relax_68 ?_
        refine wa_callV hX (c_X12_fails hW d (th := 0) (k := 3) (b := (!cirM (R i) t (E i) || !hypB (R i) (E i) t)) k1 (by omega) (by omega)) (by assumption) (by rfl) (by rfl) (by omega) (nA := 2) (by rfl) (by decide +kernel) rfl (by exact Nat.le_of_ble_eq_true rfl) dX12_relax_69 (fun r69 h69 p69 => ?_) (fun _ _ q => q.elim)
        obtain ⟨rfl, hh69⟩ := p69
        have f69 : Fr (fun x => x = 120) h26 h69 := by rw [hh69]; exact Fr.hset Fr.rf k1 rfl
        replace k1 : h69 a = some (120, oMod ((if ((!cirM (R i) t (E i) || !hypB (R i) (E i) t)) = true ∧ (0 : Nat) = 0 then 3 else 0 : Nat) : Int) (c : Int) row brk al wk us kp pt) := by rw [hh69]; exact hset_eq
        replace kJ := kJ.fr f69 (fun x hx => by omega)
        replace ff := ff.trans f69
        replace g1 := f69 _ _ _ g1 (by omega)
        replace g2 := f69 _ _ _ g2 (by omega)
        clear hh69 f69
        rw [show (((!cirM (R i) t (E i) || !hypB (R i) (E i) t)) || (0 : Nat) != 0) = ((!cirM (R i) t (E i) || !hypB (R i) (E i) t)) from Bool.or_false _]
        clear kr kb kwk kus kkp kpt ka ke kI kMat hc60 hw hm24 hMt
        obtain ⟨⟨hc60, hw, hm24, hMt⟩, kr, kb, kwk, kus, kkp, kpt, ed, N, P, ka, ke, kI, kMat⟩ := id kJ
        dsimp only [Option.toList, List.cons_append, List.nil_append]
        refine wi_if_ne hX (tgt := 100) dX12_relax_72 (by decide) (by exact b2n_inR _) (fun c72 => ?_) (fun c72 => ?_)
        · skip
          refine wi_iconst hX dX12_relax_100 ?_
          refine wa_iret hX dX12_relax_101 ?_
          have z := b2n_t c72
          rw [z, if_pos ⟨rfl, rfl⟩] at k1
          refine ⟨ff.mono (fun x hx => by omega), Or.inr ⟨i, hi, rfl, Or.inr ⟨t, ht, rfl, Or.inl ⟨?_, ⟨_, rfl⟩, row, brk, al, wk, us, kp, pt, k1, kJ⟩⟩⟩⟩
          rw [Bool.or_eq_true, Bool.not_eq_true', Bool.not_eq_true'] at z
          exact z
        · skip
          have hv72 := b2n_f c72
          rw [hv72, if_neg (fun z => Bool.false_ne_true z.1)] at k1
          rw [Bool.or_eq_false_iff, Bool.not_eq_false', Bool.not_eq_false'] at hv72
          obtain ⟨hC1, hC2⟩ := hv72
          refine wa_aload_n hX (i := 0) dX12_relax_75 rfl rfl ?_
          refine wa_aload_n hX (i := 0) dX12_relax_76 rfl rfl ?_
          refine wa_get hX 4 (by assumption) (by rfl) (by decide +kernel) dX12_relax_77 ?_
          have t93 : WA X h69 rmc rms 93 [.val (.ref a), .val (I (i : Int)), .val (I (t : Int)), .val (.ref pM), .unset, .unset] [I ((b2n (m == 24) : Nat) : Int), .ref a] := by
            refine wi_iconst hX dX12_relax_93 ?_
            refine wa_callV hX (c_X12_fails hW d (th := 0) (k := 4) (b := (m == 24)) k1 (by omega) (by omega)) (by assumption) (by rfl) (by rfl) (by omega) (nA := 2) (by rfl) (by decide +kernel) rfl (by exact Nat.le_of_ble_eq_true rfl) dX12_relax_94 (fun r94 h94 p94 => ?_) (fun _ _ q => q.elim)
            obtain ⟨rfl, hh94⟩ := p94
            have f94 : Fr (fun x => x = 120) h69 h94 := by rw [hh94]; exact Fr.hset Fr.rf k1 rfl
            replace k1 : h94 a = some (120, oMod ((if ((m == 24)) = true ∧ (0 : Nat) = 0 then 4 else 0 : Nat) : Int) (c : Int) row brk al wk us kp pt) := by rw [hh94]; exact hset_eq
            replace kJ := kJ.fr f94 (fun x hx => by omega)
            replace ff := ff.trans f94
            replace g1 := f94 _ _ _ g1 (by omega)
            replace g2 := f94 _ _ _ g2 (by omega)
            clear hh94 f94
            rw [show (((m == 24)) || (0 : Nat) != 0) = ((m == 24)) from Bool.or_false _]
            clear kr kb kwk kus kkp kpt ka ke kI kMat hc60 hw hm24 hMt
            obtain ⟨⟨hc60, hw, hm24, hMt⟩, kr, kb, kwk, kus, kkp, kpt, ed, N, P, ka, ke, kI, kMat⟩ := id kJ
            dsimp only [Option.toList, List.cons_append, List.nil_append]
            refine wi_if_eq hX (tgt := 102) dX12_relax_97 (by decide) (by exact b2n_inR _) (fun c97 => ?_) (fun c97 => ?_)
            · skip
              have hv97 := b2n_f c97
              rw [hv97, if_neg (fun z => Bool.false_ne_true z.1)] at k1
              have hmne : m ≠ 24 := beq_eq_false_iff_ne.mp hv97
              have hm9 : m < 24 := by omega
              refine wa_aload_n hX (i := 3) dX12_relax_102 rfl rfl ?_
              refine wa_get hX 0 (by assumption) (by rfl) (by decide +kernel) dX12_relax_103 ?_
              obtain ⟨hkk, hss⟩ := hroom ⟨⟨i, t, hi, rfl, ht, rfl, hC1, hC2⟩, hm9⟩
              refine WA.room (k2 := 1 + 2) (sl2 := 40 + 1030) (by omega) (by omega) ?_
              refine wa_callS hX (c_X12_sized hW d (e := E i) he) (by rfl) (by omega) (nA := 1) (by rfl) (by decide +kernel) rfl (by exact Nat.le_of_ble_eq_true rfl) dX12_relax_106 (fun r106 h106 p106 => ?_) (fun _ _ q => q.elim)
              obtain ⟨p, q, rfl, fS, p1, q1⟩ := p106
              have k1S := fS _ _ _ k1 id
              have kJS := kJ.fr fS (fun x hx => hx.elim)
              dsimp only [Option.toList, List.cons_append, List.nil_append]
              refine wa_astore hX dX12_relax_109 rfl ?_
              dsimp only [List.set]
              refine wi_iconst hX dX12_relax_111 ?_
              refine wa_istore hX dX12_relax_112 rfl ?_
              dsimp only [List.set]
              have hpe : 2 ^ (E i) ≤ 1024 := p2_le (by omega)
              have hpe0 := p2_pos (E i)
              refine WA.heap (h2 := hset h106 q (134, aI .int 1024 (fun _ => 0))) (hset_self q1).symm ?_
              refine WA.loop (σ := Nat × (Nat → Int)) (fun z => 2 ^ (E i) - z.1) (fun z => z.1 ≤ 2 ^ (E i) ∧ ∀ s, s < z.1 → z.2 s = (((fun s => if s = t then R i (2 ^ E i - 1) else R i s) s : Nat) : Int)) (fun z => hset h106 q (134, aI .int 1024 z.2)) (fun z => [.val (.ref a), .val (I (i : Int)), .val (I (t : Int)), .val (.ref pM), .val (.ref p), .val (I (z.1 : Nat))]) ?_ (0, fun _ => 0) ⟨Nat.zero_le _, fun s hs => absurd hs (Nat.not_lt_zero s)⟩
              rintro ⟨z, F⟩ ⟨hz, hF⟩ ih
              dsimp only at hz hF ⊢
              have fF : Fr (fun x => x = 134) h106 (hset h106 q (134, aI .int 1024 F)) := Fr.hset Fr.rf q1 rfl
              have p2 := hset_lab (x := (134, aI .int 1024 F)) q1 p1 (by decide)
              have q2 : hset h106 q (134, aI .int 1024 F) q = some (134, aI .int 1024 F) := hset_eq
              have k2 := fF _ _ _ k1S (by decide)
              have kJ2 := kJS.fr fF (fun x hx => by omega)
              have g1F := fF _ _ _ (fS _ _ _ g1 id) (by decide)
              have g2F := fF _ _ _ (fS _ _ _ g2 id) (by decide)
              have hbz := bc_le z
              have t151 : ∀ v : Nat, z < 2 ^ E i → v = (if z = t then R i (2 ^ E i - 1) else R i z) → WA X (hset h106 q (134, aI .int 1024 F)) 1 40 151 [.val (.ref a), .val (I (i : Int)), .val (I (t : Int)), .val (.ref pM), .val (.ref p), .val (I (z : Nat))] [I (v : Int), I (z : Int), .ref q] := by
                intro v hzl hv
                subst hv
                refine wi_iastore hX q2 (by omega) (by omega) (by omega) dX12_relax_151 ?_
                rw [hset_hset, Int.toNat_natCast]
                refine wi_iinc hX dX12_relax_152 rfl ?_
                dsimp only [List.set]
                refine wa_goto hX (tgt := 114) dX12_relax_155 (by decide) ?_
                refine ih (z + 1, _) ⟨by show z + 1 ≤ _; omega, fill_step (spec := fun s => (((fun s => if s = t then R i (2 ^ E i - 1) else R i s) s : Nat) : Int)) hF⟩ (by show _ - (z + 1) < _; omega)
              refine wa_iload hX dX12_relax_114 rfl ?_
              refine wa_aload hX dX12_relax_116 rfl ?_
              refine wa_callV hX (c_X11_full hW d p2 he) (by assumption) (by rfl) (by rfl) (by omega) (nA := 0) (by rfl) (by decide +kernel) rfl (by exact Nat.le_of_ble_eq_true rfl) dX12_relax_118 (fun r118 h118 p118 => ?_) (fun _ _ q => q.elim)
              obtain ⟨rfl, qq118⟩ := p118; subst h118
              dsimp only [Option.toList, List.cons_append, List.nil_append]
              refine wi_icmp_gt hX (tgt := 158) dX12_relax_121 (by decide) (by omega) (by omega) (fun c121 => ?_) (fun c121 => ?_)
              · skip
                refine wa_aload_n hX (i := 0) dX12_relax_158 rfl rfl ?_
                refine wa_aload hX dX12_relax_159 rfl ?_
                refine WA.room (k2 := 0 + 1) (sl2 := 0 + 40) (by omega) (by omega) ?_
                refine wa_callV hX (c_X12_add hW d (e := E i) (rk := fun s => if s = t then R i (2 ^ E i - 1) else R i s) k2 kJ2 hm9 p2 q2 (fun s hs => hF s (by omega)) (hN i t hi ht hC1 hC2)) (by assumption) (by rfl) (by rfl) (by omega) (nA := 1) (by rfl) (by decide +kernel) rfl (by exact Nat.le_of_ble_eq_true rfl) dX12_relax_161 (fun r161 h161 p161 => ?_) (fun _ _ q => q.elim)
                obtain ⟨rfl, f9, kJ9⟩ := p161
                have k19 := f9 _ _ _ k2 (by omega)
                dsimp only [Option.toList, List.cons_append, List.nil_append]
                refine wa_iret hX dX12_relax_164 ?_
                exact ⟨(((ff.mono (fun x hx => by omega)).trans (fS.mono (fun x hx => hx.elim))).trans (fF.mono (fun x hx => by omega))).trans (f9.mono (fun x hx => by omega)), Or.inr ⟨i, hi, rfl, Or.inr ⟨t, ht, rfl, Or.inr ⟨hC1, hC2, Or.inr ⟨hmne, rfl, row, brk, al, wk, us, kp, pt, k19, kJ9⟩⟩⟩⟩⟩
              · skip
                refine wa_aload hX dX12_relax_124 rfl ?_
                refine wa_get hX 1 (by assumption) (by rfl) (by decide +kernel) dX12_relax_126 ?_
                refine wa_iload hX dX12_relax_129 rfl ?_
                refine wa_iload hX dX12_relax_131 rfl ?_
                refine wa_iload_n hX (i := 2) dX12_relax_133 rfl rfl ?_
                refine wi_icmp_ne hX (tgt := 144) dX12_relax_134 (by decide) (by omega) (by omega) (fun c134 => ?_) (fun c134 => ?_)
                · skip
                  refine wa_aload_n hX (i := 3) dX12_relax_144 rfl rfl ?_
                  refine wa_get hX 1 (by assumption) (by rfl) (by decide +kernel) dX12_relax_145 ?_
                  refine wa_iload hX dX12_relax_148 rfl ?_
                  refine wi_iaload hX (by assumption) (by omega) (by omega) (by omega) dX12_relax_150 ?_
                  first
                    | exact t151 _ (by omega) (by rw [if_pos (by omega)])
                    | (rw [Int.toNat_natCast, g3 z (by omega)]
                       exact t151 _ (by omega) (by rw [if_neg (by omega)]))
                · skip
                  refine wa_aload_n hX (i := 3) dX12_relax_137 rfl rfl ?_
                  refine wa_callV hX (c_X11_rank hW d g1F g2F g3 he (fun s hs => hMi.le10 hs)) (by assumption) (by rfl) (by rfl) (by omega) (nA := 0) (by rfl) (by decide +kernel) rfl (by exact Nat.le_of_ble_eq_true rfl) dX12_relax_138 (fun r138 h138 p138 => ?_) (fun _ _ q => q.elim)
                  obtain ⟨rfl, qq138⟩ := p138; subst h138
                  dsimp only [Option.toList, List.cons_append, List.nil_append]
                  refine wa_goto hX (tgt := 151) dX12_relax_141 (by decide) ?_
                  first
                    | exact t151 _ (by omega) (by rw [if_pos (by omega)])
                    | (rw [Int.toNat_natCast, g3 z (by omega)]
                       exact t151 _ (by omega) (by rw [if_neg (by omega)]))
            · skip
              refine wi_iconst hX dX12_relax_100 ?_
              refine wa_iret hX dX12_relax_101 ?_
              have z := b2n_t c97
              rw [z, if_pos ⟨rfl, rfl⟩] at k1
              exact ⟨ff.mono (fun x hx => by omega), Or.inr ⟨i, hi, rfl, Or.inr ⟨t, ht, rfl, Or.inr ⟨hC1, hC2, Or.inl ⟨beq_iff_eq.mp z, ⟨_, rfl⟩, row, brk, al, wk, us, kp, pt, k1, kJ⟩⟩⟩⟩⟩
          refine wa_callV hX (c_AL_size hW d ka) (by assumption) (by rfl) (by rfl) (by omega) (nA := 0) (by rfl) (by decide +kernel) rfl (by exact Nat.le_of_ble_eq_true rfl) dX12_relax_80 (fun r80 h80 p80 => ?_) (fun _ _ q => q.elim)
          obtain ⟨rfl, qq80⟩ := p80; subst h80
          dsimp only [Option.toList, List.cons_append, List.nil_append]
          refine wi_bipush hX dX12_relax_83 (by decide) ?_
          refine wi_icmp_ne hX (tgt := 92) dX12_relax_85 (by decide) (by omega) (by omega) (fun c85 => ?_) (fun c85 => ?_)
          · skip
            refine wi_iconst hX dX12_relax_92 ?_
            refine WA.eq rfl rfl ?_ t93
            first
              | (rw [show (m == 24) = true from beq_iff_eq.mpr (by omega)]; rfl)
              | (rw [show (m == 24) = false from beq_eq_false_iff_ne.mpr (by omega)]; rfl)
          · skip
            refine wi_iconst hX dX12_relax_88 ?_
            refine wa_goto hX (tgt := 93) dX12_relax_89 (by decide) ?_
            refine WA.eq rfl rfl ?_ t93
            first
              | (rw [show (m == 24) = true from beq_iff_eq.mpr (by omega)]; rfl)
              | (rw [show (m == 24) = false from beq_eq_false_iff_ne.mpr (by omega)]; rfl)
      refine wa_callV hX (c_X11_isCircuit hW d g1 g2 g3 he (fun s hs => hMi.le10 hs) ht) (by assumption) (by rfl) (by rfl) (by omega) (nA := 1) (by rfl) (by decide +kernel) rfl (by exact Nat.le_of_ble_eq_true rfl) dX12_relax_49 (fun r49 h49 p49 => ?_) (fun _ _ q => q.elim)
      obtain ⟨rfl, qq49⟩ := p49; subst h49
      dsimp only [Option.toList, List.cons_append, List.nil_append]
      refine wi_if_eq hX (tgt := 63) dX12_relax_52 (by decide) (by exact b2n_inR _) (fun c52 => ?_) (fun c52 => ?_)
      · skip
        refine wi_iconst hX dX12_relax_63 ?_
        refine wa_goto hX (tgt := 68) dX12_relax_64 (by decide) ?_
        refine WA.eq rfl rfl ?_ t68
        first
          | (have q := b2n_f c52; rw [q]; rfl)
          | (have q := b2n_t c52; have q2 := b2n_t c60; rw [q, q2]; rfl)
          | (have q := b2n_t c52; have q2 := b2n_f c60; rw [q, q2]; rfl)
      · skip
        refine wa_aload_n hX (i := 3) dX12_relax_55 rfl rfl ?_
        refine wa_iload_n hX (i := 2) dX12_relax_56 rfl rfl ?_
        refine wa_callV hX (c_X11_isHyperplane hW d g1 g2 g3 he (fun s hs => hMi.le10 hs) ht) (by assumption) (by rfl) (by rfl) (by omega) (nA := 1) (by rfl) (by decide +kernel) rfl (by exact Nat.le_of_ble_eq_true rfl) dX12_relax_57 (fun r57 h57 p57 => ?_) (fun _ _ q => q.elim)
        obtain ⟨rfl, qq57⟩ := p57; subst h57
        dsimp only [Option.toList, List.cons_append, List.nil_append]
        refine wi_if_ne hX (tgt := 67) dX12_relax_60 (by decide) (by exact b2n_inR _) (fun c60 => ?_) (fun c60 => ?_)
        · skip
          refine wi_iconst hX dX12_relax_67 ?_
          refine WA.eq rfl rfl ?_ t68
          first
            | (have q := b2n_f c52; rw [q]; rfl)
            | (have q := b2n_t c52; have q2 := b2n_t c60; rw [q, q2]; rfl)
            | (have q := b2n_t c52; have q2 := b2n_f c60; rw [q, q2]; rfl)
        · skip
          refine wi_iconst hX dX12_relax_63 ?_
          refine wa_goto hX (tgt := 68) dX12_relax_64 (by decide) ?_
          refine WA.eq rfl rfl ?_ t68
          first
            | (have q := b2n_f c52; rw [q]; rfl)
            | (have q := b2n_t c52; have q2 := b2n_t c60; rw [q, q2]; rfl)
            | (have q := b2n_t c52; have q2 := b2n_f c60; rw [q, q2]; rfl)
    · skip
      refine wi_iconst hX dX12_relax_32 ?_
      refine wa_iret hX dX12_relax_33 ?_
      first
        | (have z := b2n_t c15
           rw [z, if_pos ⟨rfl, rfl⟩] at k1
           rw [Bool.not_eq_true', decide_eq_false_iff_not] at z
           exact ⟨ff.mono (fun x hx => by omega), Or.inl ⟨z, ⟨_, rfl⟩, row, brk, al, wk, us, kp, pt, k1, kJ⟩⟩)
        | (have z := b2n_t c29
           rw [z, if_pos ⟨rfl, rfl⟩] at k1
           rw [Bool.not_eq_true', decide_eq_false_iff_not] at z
           exact ⟨ff.mono (fun x hx => by omega), Or.inr ⟨i, hi, rfl, Or.inl ⟨z, ⟨_, rfl⟩, row, brk, al, wk, us, kp, pt, k1, kJ⟩⟩⟩)
set_option maxHeartbeats 2000000 in
set_option maxRecDepth 100000 in
theorem c_X12_extend (hW : WOK l D S0) (d : Nat) {h : AH} {a th : Nat} {c m : Nat} {w : Nat → Nat} {E : Nat → Nat} {R : Nat → Nat → Nat} {b0 b1 b2 : Int} (hI : RI (zA S0) DR h a th c w m E R b0 b1 b2) {n s : Int} (hn : inR n) (hs : inR s) (hN : ∀ i t : Nat, i < m → t < 2 ^ E i → E i ≤ 9 → Mtr (E i + 1) (fun s => extM (R i) (E i) t s)) {rmc rms : Nat} (hroom : ((∃ i t : Nat, i < m ∧ n = (i : Int) ∧ t < 2 ^ E i ∧ s = (t : Int) ∧ E i ≤ 9) ∧ m < 24) → 3 ≤ rmc ∧ 1100 ≤ rms) : MA l D S0 yX12_extend cX12_extend 7 (some .int) (d + 7) [.ref a, I n, I s] h rmc rms (fun r h' => Fr (fun x => 120 ≤ x ∧ x ≤ 134) h h' ∧ ((noM n m ∧ (∃ z, r = some (I z)) ∧ RI (zA S0) DR h' a 1 c w m E R b0 b1 b2) ∨ ∃ i, i < m ∧ n = (i : Int) ∧ (((¬ (0 ≤ s ∧ s < ((2 ^ E i : Nat) : Int))) ∧ (∃ z, r = some (I z)) ∧ RI (zA S0) DR h' a 2 c w m E R b0 b1 b2) ∨ ∃ t : Nat, t < 2 ^ E i ∧ s = (t : Int) ∧ ((E i = 10 ∧ (∃ z, r = some (I z)) ∧ RI (zA S0) DR h' a 3 c w m E R b0 b1 b2) ∨ (E i ≤ 9 ∧ ((m = 24 ∧ (∃ z, r = some (I z)) ∧ RI (zA S0) DR h' a 4 c w m E R b0 b1 b2) ∨ (m ≠ 24 ∧ r = some (I (m : Nat)) ∧ RI (zA S0) DR h' a 0 c w (m + 1) (up E m (E i + 1)) (up R m (fun s => extM (R i) (E i) t s)) b0 b1 b2))))))) (fun _ _ => False) := by
  obtain ⟨row, brk, al, wk, us, kp, pt, k1, kJ⟩ := hI
  refine MA.start hW (by decide) [.val (.ref a), .val (I n), .val (I s), .unset, .unset, .unset, .unset] rfl ?_
  rintro X rfl rfl rfl hX
  refine wa_aload_n hX (i := 0) dX12_extend_0 rfl rfl ?_
  refine wi_iconst hX dX12_extend_1 ?_
  refine wa_put hX 0 k1 (Nat.le_of_ble_eq_true rfl) (by decide +kernel) (by rfl) (by rfl) (by rfl) dX12_extend_2 ?_
  refine WA.heap (h2 := hset h a (120, oMod ((0 : Nat) : Int) (c : Int) row brk al wk us kp pt)) rfl ?_
  refine WA.hgq (fun hA hh2 => ?_)
  have ff : Fr (fun x => x = 120) h hA := by rw [hh2]; exact Fr.hset Fr.rf k1 rfl
  replace k1 : hA a = some (120, oMod ((0 : Nat) : Int) (c : Int) row brk al wk us kp pt) := by rw [hh2]; exact hset_eq
  replace kJ := kJ.fr ff (fun x hx => by omega)
  clear hh2
  obtain ⟨⟨hc60, hw, hm24, hMt⟩, kr, kb, kwk, kus, kkp, kpt, ed, N, P, ka, ke, kI, kMat⟩ := id kJ
  refine wa_aload_n hX (i := 0) dX12_extend_5 rfl rfl ?_
  refine wa_aload_n hX (i := 0) dX12_extend_6 rfl rfl ?_
  refine wa_iload_n hX (i := 1) dX12_extend_7 rfl rfl ?_
  refine wa_callV hX (c_X12_no hW (d + 1) k1 ka hm24 hn) (by assumption) (by rfl) (by rfl) (by omega) (nA := 1) (by rfl) (by decide +kernel) rfl (by exact Nat.le_of_ble_eq_true rfl) dX12_extend_8 (fun r8 h8 p8 => ?_) (fun _ _ q => q.elim)
  obtain ⟨rfl, qq8⟩ := p8; subst h8
  dsimp only [Option.toList, List.cons_append, List.nil_append]
  refine wi_iconst hX dX12_extend_11 ?_
  refine wa_callV hX (c_X12_fails hW d (th := 0) (k := 1) (b := (!decide (0 ≤ n ∧ n < (m : Int)))) k1 (by omega) (by omega)) (by assumption) (by rfl) (by rfl) (by omega) (nA := 2) (by rfl) (by decide +kernel) rfl (by exact Nat.le_of_ble_eq_true rfl) dX12_extend_12 (fun r12 h12 p12 => ?_) (fun _ _ q => q.elim)
  obtain ⟨rfl, hh12⟩ := p12
  have f12 : Fr (fun x => x = 120) hA h12 := by rw [hh12]; exact Fr.hset Fr.rf k1 rfl
  replace k1 : h12 a = some (120, oMod ((if ((!decide (0 ≤ n ∧ n < (m : Int)))) = true ∧ (0 : Nat) = 0 then 1 else 0 : Nat) : Int) (c : Int) row brk al wk us kp pt) := by rw [hh12]; exact hset_eq
  replace kJ := kJ.fr f12 (fun x hx => by omega)
  replace ff := ff.trans f12
  clear hh12 f12
  rw [show (((!decide (0 ≤ n ∧ n < (m : Int)))) || (0 : Nat) != 0) = ((!decide (0 ≤ n ∧ n < (m : Int)))) from Bool.or_false _]
  clear kr kb kwk kus kkp kpt ka ke kI kMat hc60 hw hm24 hMt
  obtain ⟨⟨hc60, hw, hm24, hMt⟩, kr, kb, kwk, kus, kkp, kpt, ed, N, P, ka, ke, kI, kMat⟩ := id kJ
  dsimp only [Option.toList, List.cons_append, List.nil_append]
  refine wi_if_ne hX (tgt := 32) dX12_extend_15 (by decide) (by exact b2n_inR _) (fun c15 => ?_) (fun c15 => ?_)
  · skip
    refine wi_iconst hX dX12_extend_32 ?_
    refine wa_iret hX dX12_extend_33 ?_
    first
      | (have z := b2n_t c15
         rw [z, if_pos ⟨rfl, rfl⟩] at k1
         rw [Bool.not_eq_true', decide_eq_false_iff_not] at z
         exact ⟨ff.mono (fun x hx => by omega), Or.inl ⟨z, ⟨_, rfl⟩, row, brk, al, wk, us, kp, pt, k1, kJ⟩⟩)
      | (have z := b2n_t c29
         rw [z, if_pos ⟨rfl, rfl⟩] at k1
         rw [Bool.not_eq_true', decide_eq_false_iff_not] at z
         exact ⟨ff.mono (fun x hx => by omega), Or.inr ⟨i, hi, rfl, Or.inl ⟨z, ⟨_, rfl⟩, row, brk, al, wk, us, kp, pt, k1, kJ⟩⟩⟩)
  · skip
    have hv15 := b2n_f c15
    rw [hv15, if_neg (fun z => Bool.false_ne_true z.1)] at k1
    rw [Bool.not_eq_false', decide_eq_true_eq] at hv15
    obtain ⟨i, rfl⟩ := Int.eq_ofNat_of_zero_le hv15.1
    have hi : i < m := by omega
    obtain ⟨e3, hN1, hN2⟩ : h12 ed = some (124, aR (.object "java/lang/Object") N (fun j => if j < m then some (P j) else none)) ∧ m ≤ N ∧ N ≤ 100 := by
      rcases ke with z | z
      · exfalso; omega
      · exact z
    obtain ⟨rq, m2, m3, l2, l3, G, g1, g2, g3, g4, g5⟩ := id (kMat i hi)
    have hMi := hMt i hi
    have he := hMi.1
    have hp := p2_le he
    have hp0 := p2_pos (E i)
    refine wa_aload_n hX (i := 0) dX12_extend_18 rfl rfl ?_
    refine wa_aload_n hX (i := 0) dX12_extend_19 rfl rfl ?_
    refine wa_iload_n hX (i := 1) dX12_extend_20 rfl rfl ?_
    refine wa_iload_n hX (i := 2) dX12_extend_21 rfl rfl ?_
    refine wa_callV hX (c_X12_noSet hW d k1 ka e3 hN1 hN2 hi g1 he hs) (by assumption) (by rfl) (by rfl) (by omega) (nA := 2) (by rfl) (by decide +kernel) rfl (by exact Nat.le_of_ble_eq_true rfl) dX12_extend_22 (fun r22 h22 p22 => ?_) (fun _ _ q => q.elim)
    obtain ⟨rfl, qq22⟩ := p22; subst h22
    dsimp only [Option.toList, List.cons_append, List.nil_append]
    refine wi_iconst hX dX12_extend_25 ?_
    refine wa_callV hX (c_X12_fails hW d (th := 0) (k := 2) (b := (!decide (0 ≤ s ∧ s < ((2 ^ E i : Nat) : Int)))) k1 (by omega) (by omega)) (by assumption) (by rfl) (by rfl) (by omega) (nA := 2) (by rfl) (by decide +kernel) rfl (by exact Nat.le_of_ble_eq_true rfl) dX12_extend_26 (fun r26 h26 p26 => ?_) (fun _ _ q => q.elim)
    obtain ⟨rfl, hh26⟩ := p26
    have f26 : Fr (fun x => x = 120) h12 h26 := by rw [hh26]; exact Fr.hset Fr.rf k1 rfl
    replace k1 : h26 a = some (120, oMod ((if ((!decide (0 ≤ s ∧ s < ((2 ^ E i : Nat) : Int)))) = true ∧ (0 : Nat) = 0 then 2 else 0 : Nat) : Int) (c : Int) row brk al wk us kp pt) := by rw [hh26]; exact hset_eq
    replace kJ := kJ.fr f26 (fun x hx => by omega)
    replace ff := ff.trans f26
    clear hh26 f26
    rw [show (((!decide (0 ≤ s ∧ s < ((2 ^ E i : Nat) : Int)))) || (0 : Nat) != 0) = ((!decide (0 ≤ s ∧ s < ((2 ^ E i : Nat) : Int)))) from Bool.or_false _]
    clear kr kb kwk kus kkp kpt ka ke kI kMat hc60 hw hm24 hMt
    obtain ⟨⟨hc60, hw, hm24, hMt⟩, kr, kb, kwk, kus, kkp, kpt, ed, N, P, ka, ke, kI, kMat⟩ := id kJ
    dsimp only [Option.toList, List.cons_append, List.nil_append]
    refine wi_if_eq hX (tgt := 34) dX12_extend_29 (by decide) (by exact b2n_inR _) (fun c29 => ?_) (fun c29 => ?_)
    · skip
      have hv2 := b2n_f c29
      rw [hv2, if_neg (fun z => Bool.false_ne_true z.1)] at k1
      rw [Bool.not_eq_false', decide_eq_true_eq] at hv2
      obtain ⟨t, rfl⟩ := Int.eq_ofNat_of_zero_le hv2.1
      have ht : t < 2 ^ E i := by omega
      obtain ⟨e3, hN1, hN2⟩ : h26 ed = some (124, aR (.object "java/lang/Object") N (fun j => if j < m then some (P j) else none)) ∧ m ≤ N ∧ N ≤ 100 := by
        rcases ke with z | z
        · exfalso; omega
        · exact z
      obtain ⟨rq, m2, m3, l2, l3, G, g1, g2, g3, g4, g5⟩ := id (kMat i hi)
      have hMi := hMt i hi
      have he := hMi.1
      have hp := p2_le he
      have hp0 := p2_pos (E i)
      obtain ⟨pM, hPM⟩ : ∃ q, P i = q := ⟨_, rfl⟩
      rw [hPM] at g1
      have hr0 := hMi.le10 (s := 2 ^ E i - 1) (by omega)
      refine wa_aload_n hX (i := 0) dX12_extend_34 rfl rfl ?_
      refine wa_get hX 4 (by assumption) (by rfl) (by decide +kernel) dX12_extend_35 ?_
      refine wa_iload_n hX (i := 1) dX12_extend_38 rfl rfl ?_
      refine wa_callV hX (c_AL_get hW d ka e3 (i := i) (q := pM) hi hN1 (by omega) ((if_pos hi).trans (congrArg some hPM))) (by assumption) (by rfl) (by rfl) (by omega) (nA := 1) (by rfl) (by decide +kernel) rfl (by exact Nat.le_of_ble_eq_true rfl) dX12_extend_39 (fun r39 h39 p39 => ?_) (fun _ _ q => q.elim)
      obtain ⟨rfl, qq39⟩ := p39; subst h39
      dsimp only [Option.toList, List.cons_append, List.nil_append]
      refine wa_ccast hX g1 (by rfl) (by decide +kernel) dX12_extend_42 ?_
      refine wa_astore_n hX (i := 3) dX12_extend_45 rfl (by first | rfl | assumption) ?_
      dsimp only [List.set]
      refine wa_aload_n hX (i := 0) dX12_extend_46 rfl rfl ?_
      refine wa_aload_n hX (i := 3) dX12_extend_47 rfl rfl ?_
      have t61 : WA X h26 rmc rms 61 [.val (.ref a), .val (I (i : Int)), .val (I (t : Int)), .val (.ref pM), .unset, .unset, .unset] [I ((b2n (E i == 10) : Nat) : Int), .ref a] := by
        refine wi_iconst hX dX12_extend_61 ?_
        refine wa_callV hX (c_X12_fails hW d (th := 0) (k := 3) (b := (E i == 10)) k1 (by omega) (by omega)) (by assumption) (by rfl) (by rfl) (by omega) (nA := 2) (by rfl) (by decide +kernel) rfl (by exact Nat.le_of_ble_eq_true rfl) dX12_extend_62 (fun r62 h62 p62 => ?_) (fun _ _ q => q.elim)
        obtain ⟨rfl, hh62⟩ := p62
        have f62 : Fr (fun x => x = 120) h26 h62 := by rw [hh62]; exact Fr.hset Fr.rf k1 rfl
        replace k1 : h62 a = some (120, oMod ((if ((E i == 10)) = true ∧ (0 : Nat) = 0 then 3 else 0 : Nat) : Int) (c : Int) row brk al wk us kp pt) := by rw [hh62]; exact hset_eq
        replace kJ := kJ.fr f62 (fun x hx => by omega)
        replace ff := ff.trans f62
        replace g1 := f62 _ _ _ g1 (by omega)
        replace g2 := f62 _ _ _ g2 (by omega)
        clear hh62 f62
        rw [show (((E i == 10)) || (0 : Nat) != 0) = ((E i == 10)) from Bool.or_false _]
        clear kr kb kwk kus kkp kpt ka ke kI kMat hc60 hw hm24 hMt
        obtain ⟨⟨hc60, hw, hm24, hMt⟩, kr, kb, kwk, kus, kkp, kpt, ed, N, P, ka, ke, kI, kMat⟩ := id kJ
        dsimp only [Option.toList, List.cons_append, List.nil_append]
        refine wi_if_ne hX (tgt := 93) dX12_extend_65 (by decide) (by exact b2n_inR _) (fun c65 => ?_) (fun c65 => ?_)
        · skip
          refine wi_iconst hX dX12_extend_93 ?_
          refine wa_iret hX dX12_extend_94 ?_
          have z := b2n_t c65
          rw [z, if_pos ⟨rfl, rfl⟩] at k1
          exact ⟨ff.mono (fun x hx => by omega), Or.inr ⟨i, hi, rfl, Or.inr ⟨t, ht, rfl, Or.inl ⟨beq_iff_eq.mp z, ⟨_, rfl⟩, row, brk, al, wk, us, kp, pt, k1, kJ⟩⟩⟩⟩
        · skip
          have hv65 := b2n_f c65
          rw [hv65, if_neg (fun z => Bool.false_ne_true z.1)] at k1
          have he9 : E i ≤ 9 := by
            have := beq_eq_false_iff_ne.mp hv65
            omega
          refine wa_aload_n hX (i := 0) dX12_extend_68 rfl rfl ?_
          refine wa_aload_n hX (i := 0) dX12_extend_69 rfl rfl ?_
          refine wa_get hX 4 (by assumption) (by rfl) (by decide +kernel) dX12_extend_70 ?_
          have t86 : WA X h62 rmc rms 86 [.val (.ref a), .val (I (i : Int)), .val (I (t : Int)), .val (.ref pM), .unset, .unset, .unset] [I ((b2n (m == 24) : Nat) : Int), .ref a] := by
            refine wi_iconst hX dX12_extend_86 ?_
            refine wa_callV hX (c_X12_fails hW d (th := 0) (k := 4) (b := (m == 24)) k1 (by omega) (by omega)) (by assumption) (by rfl) (by rfl) (by omega) (nA := 2) (by rfl) (by decide +kernel) rfl (by exact Nat.le_of_ble_eq_true rfl) dX12_extend_87 (fun r87 h87 p87 => ?_) (fun _ _ q => q.elim)
            obtain ⟨rfl, hh87⟩ := p87
            have f87 : Fr (fun x => x = 120) h62 h87 := by rw [hh87]; exact Fr.hset Fr.rf k1 rfl
            replace k1 : h87 a = some (120, oMod ((if ((m == 24)) = true ∧ (0 : Nat) = 0 then 4 else 0 : Nat) : Int) (c : Int) row brk al wk us kp pt) := by rw [hh87]; exact hset_eq
            replace kJ := kJ.fr f87 (fun x hx => by omega)
            replace ff := ff.trans f87
            replace g1 := f87 _ _ _ g1 (by omega)
            replace g2 := f87 _ _ _ g2 (by omega)
            clear hh87 f87
            rw [show (((m == 24)) || (0 : Nat) != 0) = ((m == 24)) from Bool.or_false _]
            clear kr kb kwk kus kkp kpt ka ke kI kMat hc60 hw hm24 hMt
            obtain ⟨⟨hc60, hw, hm24, hMt⟩, kr, kb, kwk, kus, kkp, kpt, ed, N, P, ka, ke, kI, kMat⟩ := id kJ
            dsimp only [Option.toList, List.cons_append, List.nil_append]
            refine wi_if_eq hX (tgt := 95) dX12_extend_90 (by decide) (by exact b2n_inR _) (fun c90 => ?_) (fun c90 => ?_)
            · skip
              have hv90 := b2n_f c90
              rw [hv90, if_neg (fun z => Bool.false_ne_true z.1)] at k1
              have hmne : m ≠ 24 := beq_eq_false_iff_ne.mp hv90
              have hm9 : m < 24 := by omega
              refine wa_aload_n hX (i := 3) dX12_extend_95 rfl rfl ?_
              refine wa_get hX 0 (by assumption) (by rfl) (by decide +kernel) dX12_extend_96 ?_
              refine wi_iconst hX dX12_extend_99 ?_
              refine wi_iadd hX dX12_extend_100 ?_
              rw [show ((E i : Nat) : Int) + 1 = ((E i + 1 : Nat) : Int) by omega]
              obtain ⟨hkk, hss⟩ := hroom ⟨⟨i, t, hi, rfl, ht, rfl, he9⟩, hm9⟩
              refine WA.room (k2 := 1 + 2) (sl2 := 40 + 1030) (by omega) (by omega) ?_
              refine wa_callS hX (c_X12_sized hW d (e := E i + 1) (by omega)) (by rfl) (by omega) (nA := 1) (by rfl) (by decide +kernel) rfl (by exact Nat.le_of_ble_eq_true rfl) dX12_extend_101 (fun r101 h101 p101 => ?_) (fun _ _ q => q.elim)
              obtain ⟨p, q, rfl, fS, p1, q1⟩ := p101
              have k1S := fS _ _ _ k1 id
              have kJS := kJ.fr fS (fun x hx => hx.elim)
              dsimp only [Option.toList, List.cons_append, List.nil_append]
              refine wa_astore hX dX12_extend_104 (by first | rfl | assumption) ?_
              dsimp only [List.set]
              refine wi_iconst hX dX12_extend_106 ?_
              refine wa_istore hX dX12_extend_107 (by first | rfl | assumption) ?_
              dsimp only [List.set]
              have hpe : 2 ^ (E i + 1) ≤ 1024 := p2_le (by omega)
              have hp2 : 2 ^ (E i + 1) = 2 ^ E i + 2 ^ E i := by rw [Nat.pow_succ]; omega
              refine WA.heap (h2 := hset h101 q (134, aI .int 1024 (fun _ => 0))) (hset_self q1).symm ?_
              refine WA.loop (σ := Nat × (Nat → Int) × Slot) (fun z => 2 ^ E i - z.1) (fun z => z.1 ≤ 2 ^ E i ∧ (∀ s, s < z.1 → z.2.1 s = ((extM (R i) (E i) t s : Nat) : Int) ∧ z.2.1 (2 ^ E i + s) = ((extM (R i) (E i) t (2 ^ E i + s) : Nat) : Int)) ∧ okS [z.2.2] 0 = true) (fun z => hset h101 q (134, aI .int 1024 z.2.1)) (fun z => [.val (.ref a), .val (I (i : Int)), .val (I (t : Int)), .val (.ref pM), .val (.ref p), .val (I (z.1 : Nat)), z.2.2]) ?_ (0, (fun _ => 0), .unset) ⟨Nat.zero_le _, fun s hs => absurd hs (Nat.not_lt_zero s), rfl⟩
              rintro ⟨z, F, u6⟩ ⟨hz, hF, hu6⟩ ih
              dsimp only at hz hF hu6 ⊢
              have fF : Fr (fun x => x = 134) h101 (hset h101 q (134, aI .int 1024 F)) := Fr.hset Fr.rf q1 rfl
              have p2 := hset_lab (x := (134, aI .int 1024 F)) q1 p1 (by decide)
              have q2 : (hset h101 q (134, aI .int 1024 F)) q = some (134, aI .int 1024 F) := hset_eq
              have k2 := fF _ _ _ k1S (by decide)
              have kJ2 := kJS.fr fF (fun x hx => by omega)
              have g1F := fF _ _ _ (fS _ _ _ g1 id) (by decide)
              have g2F := fF _ _ _ (fS _ _ _ g2 id) (by decide)
              have hbz := bc_le z
              have t183 : ∀ (x : Nat) (b : Bool), z < 2 ^ E i → x = (if cloN (R i) (E i) z &&& t = t then 0 else 1) → WA X (hset h101 q (134, aI .int 1024 (up F z ((R i z : Nat) : Int)))) 1 40 183 [.val (.ref a), .val (I (i : Int)), .val (I (t : Int)), .val (.ref pM), .val (.ref p), .val (I (z : Nat)), .val (I ((b2n b : Nat) : Int))] [I (x : Int), I ((R i z : Nat) : Int), I ((z ||| 2 ^ E i : Nat) : Int), .ref q] := by
                intro x b hzl hx
                have hrz := hMi.le10 (s := z) hzl
                have hxx : x ≤ 1 := by rw [hx]; split <;> omega
                have q3 : hset h101 q (134, aI .int 1024 (up F z ((R i z : Nat) : Int))) q = some (134, aI .int 1024 (up F z ((R i z : Nat) : Int))) := hset_eq
                rw [or_p2 hzl]
                refine wi_iadd hX dX12_extend_183 ?_
                refine wi_iastore hX q3 (by omega) (by omega) (by omega) dX12_extend_184 ?_
                rw [hset_hset, Int.toNat_natCast, show ((R i z : Nat) : Int) + (x : Int) = ((extM (R i) (E i) t (2 ^ E i + z) : Nat) : Int) by rw [extM_hi hzl, ← hx]; omega]
                refine wi_iinc hX dX12_extend_185 rfl ?_
                dsimp only [List.set]
                refine wa_goto hX (tgt := 109) dX12_extend_188 (by decide) ?_
                refine ih (z + 1, up (up F z ((R i z : Nat) : Int)) (2 ^ E i + z) ((extM (R i) (E i) t (2 ^ E i + z) : Nat) : Int), .val (I ((b2n b : Nat) : Int))) ⟨by show z + 1 ≤ _; omega, fun s hs => ?_, rfl⟩ (by show _ - (z + 1) < _; omega)
                have hs9 : s < z + 1 := hs
                show up (up F z ((R i z : Nat) : Int)) (2 ^ E i + z) ((extM (R i) (E i) t (2 ^ E i + z) : Nat) : Int) s = _ ∧ up (up F z ((R i z : Nat) : Int)) (2 ^ E i + z) ((extM (R i) (E i) t (2 ^ E i + z) : Nat) : Int) (2 ^ E i + s) = _
                by_cases g : s = z
                · subst g
                  refine ⟨?_, up_s⟩
                  rw [up_n (by omega), up_s, extM_lo hzl]
                · rw [up_n (show s ≠ 2 ^ E i + z by omega), up_n g, up_n (show 2 ^ E i + s ≠ 2 ^ E i + z by omega), up_n (show 2 ^ E i + s ≠ z by omega)]
                  exact hF s (by omega)
              have t135 : ∀ b : Bool, z < 2 ^ E i → (b = true ↔ cloN (R i) (E i) z &&& t = t) → WA X (hset h101 q (134, aI .int 1024 F)) 1 40 135 [.val (.ref a), .val (I (i : Int)), .val (I (t : Int)), .val (.ref pM), .val (.ref p), .val (I (z : Nat)), u6] [I ((b2n b : Nat) : Int)] := by
                intro b hzl hb
                have hrz := hMi.le10 (s := z) hzl
                refine wa_istore hX dX12_extend_135 (by first | rfl | assumption) ?_
                dsimp only [List.set]
                refine wa_aload hX dX12_extend_137 rfl ?_
                refine wa_get hX 1 (by assumption) (by rfl) (by decide +kernel) dX12_extend_139 ?_
                refine wa_iload hX dX12_extend_142 rfl ?_
                refine wa_aload_n hX (i := 3) dX12_extend_144 rfl rfl ?_
                refine wa_get hX 1 (by assumption) (by rfl) (by decide +kernel) dX12_extend_145 ?_
                refine wa_iload hX dX12_extend_148 rfl ?_
                refine wi_iaload hX (by assumption) (by omega) (by omega) (by omega) dX12_extend_150 ?_
                rw [Int.toNat_natCast, g3 z hzl]
                refine wi_iastore hX q2 (by omega) (by omega) (by omega) dX12_extend_151 ?_
                rw [hset_hset, Int.toNat_natCast]
                have fG : Fr (fun x => x = 134) h101 (hset h101 q (134, aI .int 1024 (up F z ((R i z : Nat) : Int)))) := Fr.hset Fr.rf q1 rfl
                have p3 := hset_lab (x := (134, aI .int 1024 (up F z ((R i z : Nat) : Int)))) q1 p1 (by decide)
                have g1G := fG _ _ _ (fS _ _ _ g1 id) (by decide)
                have g2G := fG _ _ _ (fS _ _ _ g2 id) (by decide)
                refine wa_aload hX dX12_extend_152 rfl ?_
                refine wa_get hX 1 (by assumption) (by rfl) (by decide +kernel) dX12_extend_154 ?_
                refine wa_iload hX dX12_extend_157 rfl ?_
                refine wi_iconst hX dX12_extend_159 ?_
                refine wa_aload_n hX (i := 3) dX12_extend_160 rfl rfl ?_
                refine wa_get hX 0 (by assumption) (by rfl) (by decide +kernel) dX12_extend_161 ?_
                refine wn_ishl hX dX12_extend_164 (by rfl) (by rfl) (by omega) ?_
                rw [Nat.one_shiftLeft]
                refine wn_ior hX dX12_extend_165 (by rfl) (by rfl) ?_
                refine wa_aload_n hX (i := 3) dX12_extend_166 rfl rfl ?_
                refine wa_get hX 1 (by assumption) (by rfl) (by decide +kernel) dX12_extend_167 ?_
                refine wa_iload hX dX12_extend_170 rfl ?_
                refine wi_iaload hX (by assumption) (by omega) (by omega) (by omega) dX12_extend_172 ?_
                rw [Int.toNat_natCast, g3 z hzl]
                refine wa_iload hX dX12_extend_173 rfl ?_
                refine wi_if_eq hX (tgt := 182) dX12_extend_175 (by decide) (by exact b2n_inR _) (fun c175 => ?_) (fun c175 => ?_)
                · skip
                  refine wi_iconst hX dX12_extend_182 ?_
                  first
                    | (have q := b2n_t c175
                       exact WA.eq rfl rfl rfl (t183 0 b hzl (by rw [if_pos (hb.mp q)])))
                    | (have q := b2n_f c175
                       exact WA.eq rfl rfl rfl (t183 1 b hzl (by rw [if_neg (fun z9 => by rw [hb.mpr z9] at q; cases q)])))
                · skip
                  refine wi_iconst hX dX12_extend_178 ?_
                  refine wa_goto hX (tgt := 183) dX12_extend_179 (by decide) ?_
                  first
                    | (have q := b2n_t c175
                       exact WA.eq rfl rfl rfl (t183 0 b hzl (by rw [if_pos (hb.mp q)])))
                    | (have q := b2n_f c175
                       exact WA.eq rfl rfl rfl (t183 1 b hzl (by rw [if_neg (fun z9 => by rw [hb.mpr z9] at q; cases q)])))
              refine wa_iload hX dX12_extend_109 rfl ?_
              refine wa_aload_n hX (i := 3) dX12_extend_111 rfl rfl ?_
              refine wa_callV hX (c_X11_full hW d g1F he) (by assumption) (by rfl) (by rfl) (by omega) (nA := 0) (by rfl) (by decide +kernel) rfl (by exact Nat.le_of_ble_eq_true rfl) dX12_extend_112 (fun r112 h112 p112 => ?_) (fun _ _ q => q.elim)
              obtain ⟨rfl, qq112⟩ := p112; subst h112
              dsimp only [Option.toList, List.cons_append, List.nil_append]
              refine wi_icmp_gt hX (tgt := 191) dX12_extend_115 (by decide) (by omega) (by omega) (fun c115 => ?_) (fun c115 => ?_)
              · skip
                refine wa_aload_n hX (i := 0) dX12_extend_191 rfl rfl ?_
                refine wa_aload hX dX12_extend_192 rfl ?_
                refine WA.room (k2 := 0 + 1) (sl2 := 0 + 40) (by omega) (by omega) ?_
                have hfin : ∀ s, s < 2 ^ (E i + 1) → F s = ((extM (R i) (E i) t s : Nat) : Int) := fun s hs => by
                  by_cases g : s < 2 ^ E i
                  · exact (hF s (by omega)).1
                  · have q := (hF (s - 2 ^ E i) (by omega)).2
                    rw [show 2 ^ E i + (s - 2 ^ E i) = s by omega] at q
                    exact q
                refine wa_callV hX (c_X12_add hW d (e := E i + 1) (rk := fun s => extM (R i) (E i) t s) k2 kJ2 hm9 p2 q2 hfin (hN i t hi ht he9)) (by assumption) (by rfl) (by rfl) (by omega) (nA := 1) (by rfl) (by decide +kernel) rfl (by exact Nat.le_of_ble_eq_true rfl) dX12_extend_194 (fun r194 h194 p194 => ?_) (fun _ _ q => q.elim)
                obtain ⟨rfl, f9, kJ9⟩ := p194
                have k19 := f9 _ _ _ k2 (by omega)
                dsimp only [Option.toList, List.cons_append, List.nil_append]
                refine wa_iret hX dX12_extend_197 ?_
                exact ⟨(((ff.mono (fun x hx => by omega)).trans (fS.mono (fun x hx => hx.elim))).trans (fF.mono (fun x hx => by omega))).trans (f9.mono (fun x hx => by omega)), Or.inr ⟨i, hi, rfl, Or.inr ⟨t, ht, rfl, Or.inr ⟨he9, Or.inr ⟨hmne, rfl, row, brk, al, wk, us, kp, pt, k19, kJ9⟩⟩⟩⟩⟩
              · skip
                refine wa_aload_n hX (i := 3) dX12_extend_118 rfl rfl ?_
                refine wa_iload hX dX12_extend_119 rfl ?_
                refine wa_callV hX (c_X11_closure hW d g1F g2F g3 he (fun s hs => hMi.le10 hs) (s := z) (by omega)) (by assumption) (by rfl) (by rfl) (by omega) (nA := 1) (by rfl) (by decide +kernel) rfl (by exact Nat.le_of_ble_eq_true rfl) dX12_extend_121 (fun r121 h121 p121 => ?_) (fun _ _ q => q.elim)
                obtain ⟨rfl, qq121⟩ := p121; subst h121
                dsimp only [Option.toList, List.cons_append, List.nil_append]
                refine wa_iload_n hX (i := 2) dX12_extend_124 rfl rfl ?_
                refine wn_iand hX dX12_extend_125 (by rfl) (by rfl) ?_
                have hca : cloN (R i) (E i) z &&& t ≤ t := Nat.and_le_right
                refine wa_iload_n hX (i := 2) dX12_extend_126 rfl rfl ?_
                refine wi_icmp_ne hX (tgt := 134) dX12_extend_127 (by decide) (by omega) (by omega) (fun c127 => ?_) (fun c127 => ?_)
                · skip
                  refine wi_iconst hX dX12_extend_134 ?_
                  first
                    | exact t135 true (by omega) (by constructor <;> intro _ <;> first | rfl | omega)
                    | exact t135 false (by omega) (by constructor <;> intro q <;> first | (cases q; done) | (exfalso; omega))
                · skip
                  refine wi_iconst hX dX12_extend_130 ?_
                  refine wa_goto hX (tgt := 135) dX12_extend_131 (by decide) ?_
                  first
                    | exact t135 true (by omega) (by constructor <;> intro _ <;> first | rfl | omega)
                    | exact t135 false (by omega) (by constructor <;> intro q <;> first | (cases q; done) | (exfalso; omega))
            · skip
              refine wi_iconst hX dX12_extend_93 ?_
              refine wa_iret hX dX12_extend_94 ?_
              have z := b2n_t c90
              rw [z, if_pos ⟨rfl, rfl⟩] at k1
              exact ⟨ff.mono (fun x hx => by omega), Or.inr ⟨i, hi, rfl, Or.inr ⟨t, ht, rfl, Or.inr ⟨he9, Or.inl ⟨beq_iff_eq.mp z, ⟨_, rfl⟩, row, brk, al, wk, us, kp, pt, k1, kJ⟩⟩⟩⟩⟩
          refine wa_callV hX (c_AL_size hW d ka) (by assumption) (by rfl) (by rfl) (by omega) (nA := 0) (by rfl) (by decide +kernel) rfl (by exact Nat.le_of_ble_eq_true rfl) dX12_extend_73 (fun r73 h73 p73 => ?_) (fun _ _ q => q.elim)
          obtain ⟨rfl, qq73⟩ := p73; subst h73
          dsimp only [Option.toList, List.cons_append, List.nil_append]
          refine wi_bipush hX dX12_extend_76 (by decide) ?_
          refine wi_icmp_ne hX (tgt := 85) dX12_extend_78 (by decide) (by omega) (by omega) (fun c78 => ?_) (fun c78 => ?_)
          · skip
            refine wi_iconst hX dX12_extend_85 ?_
            refine WA.eq rfl rfl ?_ t86
            first
              | (rw [show (m == 24) = true from beq_iff_eq.mpr (by omega)]; rfl)
              | (rw [show (m == 24) = false from beq_eq_false_iff_ne.mpr (by omega)]; rfl)
          · skip
            refine wi_iconst hX dX12_extend_81 ?_
            refine wa_goto hX (tgt := 86) dX12_extend_82 (by decide) ?_
            refine WA.eq rfl rfl ?_ t86
            first
              | (rw [show (m == 24) = true from beq_iff_eq.mpr (by omega)]; rfl)
              | (rw [show (m == 24) = false from beq_eq_false_iff_ne.mpr (by omega)]; rfl)
      refine wa_get hX 0 (by assumption) (by rfl) (by decide +kernel) dX12_extend_48 ?_
      refine wi_bipush hX dX12_extend_51 (by decide) ?_
      refine wi_icmp_ne hX (tgt := 60) dX12_extend_53 (by decide) (by omega) (by omega) (fun c53 => ?_) (fun c53 => ?_)
      · skip
        refine wi_iconst hX dX12_extend_60 ?_
        refine WA.eq rfl rfl ?_ t61
        first
          | (rw [show (E i == 10) = true from beq_iff_eq.mpr (by omega)]; rfl)
          | (rw [show (E i == 10) = false from beq_eq_false_iff_ne.mpr (by omega)]; rfl)
      · skip
        refine wi_iconst hX dX12_extend_56 ?_
        refine wa_goto hX (tgt := 61) dX12_extend_57 (by decide) ?_
        refine WA.eq rfl rfl ?_ t61
        first
          | (rw [show (E i == 10) = true from beq_iff_eq.mpr (by omega)]; rfl)
          | (rw [show (E i == 10) = false from beq_eq_false_iff_ne.mpr (by omega)]; rfl)
    · skip
      refine wi_iconst hX dX12_extend_32 ?_
      refine wa_iret hX dX12_extend_33 ?_
      first
        | (have z := b2n_t c15
           rw [z, if_pos ⟨rfl, rfl⟩] at k1
           rw [Bool.not_eq_true', decide_eq_false_iff_not] at z
           exact ⟨ff.mono (fun x hx => by omega), Or.inl ⟨z, ⟨_, rfl⟩, row, brk, al, wk, us, kp, pt, k1, kJ⟩⟩)
        | (have z := b2n_t c29
           rw [z, if_pos ⟨rfl, rfl⟩] at k1
           rw [Bool.not_eq_true', decide_eq_false_iff_not] at z
           exact ⟨ff.mono (fun x hx => by omega), Or.inr ⟨i, hi, rfl, Or.inl ⟨z, ⟨_, rfl⟩, row, brk, al, wk, us, kp, pt, k1, kJ⟩⟩⟩)
set_option maxHeartbeats 2000000 in
set_option maxRecDepth 100000 in
theorem c_X12_sum (hW : WOK l D S0) (d : Nat) {h : AH} {a th : Nat} {c m : Nat} {w : Nat → Nat} {E : Nat → Nat} {R : Nat → Nat → Nat} {b0 b1 b2 : Int} (hI : RI (zA S0) DR h a th c w m E R b0 b1 b2) {n v : Int} (hn : inR n) (hv : inR v) (hN : ∀ i j : Nat, i < m → j < m → E i + E j ≤ 10 → Mtr (E i + E j) (fun s => sumR (R i) (R j) (E i) s)) {rmc rms : Nat} (hroom : ((∃ i j : Nat, i < m ∧ n = (i : Int) ∧ j < m ∧ v = (j : Int) ∧ E i + E j ≤ 10) ∧ m < 24) → 3 ≤ rmc ∧ 1100 ≤ rms) : MA l D S0 yX12_sum cX12_sum 7 (some .int) (d + 7) [.ref a, I n, I v] h rmc rms (fun r h' => Fr (fun x => 120 ≤ x ∧ x ≤ 134) h h' ∧ (((noM n m ∨ noM v m) ∧ (∃ z, r = some (I z)) ∧ RI (zA S0) DR h' a 1 c w m E R b0 b1 b2) ∨ ∃ i j : Nat, i < m ∧ n = (i : Int) ∧ j < m ∧ v = (j : Int) ∧ ((10 < E i + E j ∧ (∃ z, r = some (I z)) ∧ RI (zA S0) DR h' a 2 c w m E R b0 b1 b2) ∨ (E i + E j ≤ 10 ∧ ((m = 24 ∧ (∃ z, r = some (I z)) ∧ RI (zA S0) DR h' a 3 c w m E R b0 b1 b2) ∨ (m ≠ 24 ∧ r = some (I (m : Nat)) ∧ RI (zA S0) DR h' a 0 c w (m + 1) (up E m (E i + E j)) (up R m (fun s => sumR (R i) (R j) (E i) s)) b0 b1 b2)))))) (fun _ _ => False) := by
  obtain ⟨row, brk, al, wk, us, kp, pt, k1, kJ⟩ := hI
  refine MA.start hW (by decide) [.val (.ref a), .val (I n), .val (I v), .unset, .unset, .unset, .unset] rfl ?_
  rintro X rfl rfl rfl hX
  refine wa_aload_n hX (i := 0) dX12_sum_0 rfl rfl ?_
  refine wi_iconst hX dX12_sum_1 ?_
  refine wa_put hX 0 k1 (Nat.le_of_ble_eq_true rfl) (by decide +kernel) (by rfl) (by rfl) (by rfl) dX12_sum_2 ?_
  refine WA.heap (h2 := hset h a (120, oMod ((0 : Nat) : Int) (c : Int) row brk al wk us kp pt)) rfl ?_
  refine WA.hgq (fun hA hh2 => ?_)
  have ff : Fr (fun x => x = 120) h hA := by rw [hh2]; exact Fr.hset Fr.rf k1 rfl
  replace k1 : hA a = some (120, oMod ((0 : Nat) : Int) (c : Int) row brk al wk us kp pt) := by rw [hh2]; exact hset_eq
  replace kJ := kJ.fr ff (fun x hx => by omega)
  clear hh2
  obtain ⟨⟨hc60, hw, hm24, hMt⟩, kr, kb, kwk, kus, kkp, kpt, ed, N, P, ka, ke, kI, kMat⟩ := id kJ
  refine wa_aload_n hX (i := 0) dX12_sum_5 rfl rfl ?_
  refine wa_aload_n hX (i := 0) dX12_sum_6 rfl rfl ?_
  refine wa_iload_n hX (i := 1) dX12_sum_7 rfl rfl ?_
  have t27 : WA X hA rmc rms 27 [.val (.ref a), .val (I n), .val (I v), .unset, .unset, .unset, .unset] [I ((b2n (!decide (0 ≤ n ∧ n < (m : Int)) || !decide (0 ≤ v ∧ v < (m : Int))) : Nat) : Int), .ref a] := by
    refine wi_iconst hX dX12_sum_27 ?_
    refine wa_callV hX (c_X12_fails hW d (th := 0) (k := 1) (b := (!decide (0 ≤ n ∧ n < (m : Int)) || !decide (0 ≤ v ∧ v < (m : Int)))) k1 (by omega) (by omega)) (by assumption) (by rfl) (by rfl) (by omega) (nA := 2) (by rfl) (by decide +kernel) rfl (by exact Nat.le_of_ble_eq_true rfl) dX12_sum_28 (fun r28 h28 p28 => ?_) (fun _ _ q => q.elim)
    obtain ⟨rfl, hh28⟩ := p28
    have f28 : Fr (fun x => x = 120) hA h28 := by rw [hh28]; exact Fr.hset Fr.rf k1 rfl
    replace k1 : h28 a = some (120, oMod ((if ((!decide (0 ≤ n ∧ n < (m : Int)) || !decide (0 ≤ v ∧ v < (m : Int)))) = true ∧ (0 : Nat) = 0 then 1 else 0 : Nat) : Int) (c : Int) row brk al wk us kp pt) := by rw [hh28]; exact hset_eq
    replace kJ := kJ.fr f28 (fun x hx => by omega)
    replace ff := ff.trans f28
    clear hh28 f28
    rw [show (((!decide (0 ≤ n ∧ n < (m : Int)) || !decide (0 ≤ v ∧ v < (m : Int)))) || (0 : Nat) != 0) = ((!decide (0 ≤ n ∧ n < (m : Int)) || !decide (0 ≤ v ∧ v < (m : Int)))) from Bool.or_false _]
    clear kr kb kwk kus kkp kpt ka ke kI kMat hc60 hw hm24 hMt
    obtain ⟨⟨hc60, hw, hm24, hMt⟩, kr, kb, kwk, kus, kkp, kpt, ed, N, P, ka, ke, kI, kMat⟩ := id kJ
    dsimp only [Option.toList, List.cons_append, List.nil_append]
    refine wi_if_eq hX (tgt := 36) dX12_sum_31 (by decide) (by exact b2n_inR _) (fun c31 => ?_) (fun c31 => ?_)
    · skip
      have hv31 := b2n_f c31
      rw [hv31, if_neg (fun z => Bool.false_ne_true z.1)] at k1
      rw [Bool.or_eq_false_iff, Bool.not_eq_false', decide_eq_true_eq, Bool.not_eq_false', decide_eq_true_eq] at hv31
      obtain ⟨i, rfl⟩ := Int.eq_ofNat_of_zero_le hv31.1.1
      obtain ⟨j, rfl⟩ := Int.eq_ofNat_of_zero_le hv31.2.1
      have hi : i < m := by omega
      have hj : j < m := by omega
      obtain ⟨e3, hN1, hN2⟩ : h28 ed = some (124, aR (.object "java/lang/Object") N (fun j => if j < m then some (P j) else none)) ∧ m ≤ N ∧ N ≤ 100 := by
        rcases ke with z | z
        · exfalso; omega
        · exact z
      obtain ⟨rq, m2, m3, l2, l3, G, g1, g2, g3, g4, g5⟩ := id (kMat i hi)
      have hMi := hMt i hi
      have he := hMi.1
      have hp := p2_le he
      have hp0 := p2_pos (E i)
      obtain ⟨rq', m2', m3', l2', l3', G', u1, u2, u3, u4, u5⟩ := id (kMat j hj)
      have hMj := hMt j hj
      obtain ⟨pM, hPM⟩ : ∃ q, P i = q := ⟨_, rfl⟩
      rw [hPM] at g1
      obtain ⟨pN, hPN⟩ : ∃ q, P j = q := ⟨_, rfl⟩
      rw [hPN] at u1
      have hej := hMj.1
      refine wa_aload_n hX (i := 0) dX12_sum_36 rfl rfl ?_
      refine wa_get hX 4 (by assumption) (by rfl) (by decide +kernel) dX12_sum_37 ?_
      refine wa_iload_n hX (i := 1) dX12_sum_40 rfl rfl ?_
      refine wa_callV hX (c_AL_get hW d ka e3 (i := i) (q := pM) hi hN1 (by omega) ((if_pos hi).trans (congrArg some hPM))) (by assumption) (by rfl) (by rfl) (by omega) (nA := 1) (by rfl) (by decide +kernel) rfl (by exact Nat.le_of_ble_eq_true rfl) dX12_sum_41 (fun r41 h41 p41 => ?_) (fun _ _ q => q.elim)
      obtain ⟨rfl, qq41⟩ := p41; subst h41
      dsimp only [Option.toList, List.cons_append, List.nil_append]
      refine wa_ccast hX g1 (by rfl) (by decide +kernel) dX12_sum_44 ?_
      refine wa_astore_n hX (i := 3) dX12_sum_47 rfl rfl ?_
      dsimp only [List.set]
      refine wa_aload_n hX (i := 0) dX12_sum_48 rfl rfl ?_
      refine wa_get hX 4 (by assumption) (by rfl) (by decide +kernel) dX12_sum_49 ?_
      refine wa_iload_n hX (i := 2) dX12_sum_52 rfl rfl ?_
      refine wa_callV hX (c_AL_get hW d ka e3 (i := j) (q := pN) hj hN1 (by omega) ((if_pos hj).trans (congrArg some hPN))) (by assumption) (by rfl) (by rfl) (by omega) (nA := 1) (by rfl) (by decide +kernel) rfl (by exact Nat.le_of_ble_eq_true rfl) dX12_sum_53 (fun r53 h53 p53 => ?_) (fun _ _ q => q.elim)
      obtain ⟨rfl, qq53⟩ := p53; subst h53
      dsimp only [Option.toList, List.cons_append, List.nil_append]
      refine wa_ccast hX u1 (by rfl) (by decide +kernel) dX12_sum_56 ?_
      refine wa_astore hX dX12_sum_59 rfl ?_
      dsimp only [List.set]
      refine wa_aload_n hX (i := 0) dX12_sum_61 rfl rfl ?_
      refine wa_aload_n hX (i := 3) dX12_sum_62 rfl rfl ?_
      have t82 : WA X h28 rmc rms 82 [.val (.ref a), .val (I (i : Int)), .val (I (j : Int)), .val (.ref pM), .val (.ref pN), .unset, .unset] [I ((b2n (decide (10 < E i + E j)) : Nat) : Int), .ref a] := by
        refine wi_iconst hX dX12_sum_82 ?_
        refine wa_callV hX (c_X12_fails hW d (th := 0) (k := 2) (b := (decide (10 < E i + E j))) k1 (by omega) (by omega)) (by assumption) (by rfl) (by rfl) (by omega) (nA := 2) (by rfl) (by decide +kernel) rfl (by exact Nat.le_of_ble_eq_true rfl) dX12_sum_83 (fun r83 h83 p83 => ?_) (fun _ _ q => q.elim)
        obtain ⟨rfl, hh83⟩ := p83
        have f83 : Fr (fun x => x = 120) h28 h83 := by rw [hh83]; exact Fr.hset Fr.rf k1 rfl
        replace k1 : h83 a = some (120, oMod ((if ((decide (10 < E i + E j))) = true ∧ (0 : Nat) = 0 then 2 else 0 : Nat) : Int) (c : Int) row brk al wk us kp pt) := by rw [hh83]; exact hset_eq
        replace kJ := kJ.fr f83 (fun x hx => by omega)
        replace ff := ff.trans f83
        replace g1 := f83 _ _ _ g1 (by omega)
        replace g2 := f83 _ _ _ g2 (by omega)
        replace u1 := f83 _ _ _ u1 (by omega)
        replace u2 := f83 _ _ _ u2 (by omega)
        clear hh83 f83
        rw [show (((decide (10 < E i + E j))) || (0 : Nat) != 0) = ((decide (10 < E i + E j))) from Bool.or_false _]
        clear kr kb kwk kus kkp kpt ka ke kI kMat hc60 hw hm24 hMt
        obtain ⟨⟨hc60, hw, hm24, hMt⟩, kr, kb, kwk, kus, kkp, kpt, ed, N, P, ka, ke, kI, kMat⟩ := id kJ
        dsimp only [Option.toList, List.cons_append, List.nil_append]
        refine wi_if_ne hX (tgt := 114) dX12_sum_86 (by decide) (by exact b2n_inR _) (fun c86 => ?_) (fun c86 => ?_)
        · skip
          refine wi_iconst hX dX12_sum_114 ?_
          refine wa_iret hX dX12_sum_115 ?_
          have z := b2n_t c86
          rw [z, if_pos ⟨rfl, rfl⟩] at k1
          exact ⟨ff.mono (fun x hx => by omega), Or.inr ⟨i, j, hi, rfl, hj, rfl, Or.inl ⟨of_decide_eq_true z, ⟨_, rfl⟩, row, brk, al, wk, us, kp, pt, k1, kJ⟩⟩⟩
        · skip
          have hv86 := b2n_f c86
          rw [hv86, if_neg (fun z => Bool.false_ne_true z.1)] at k1
          have hij : E i + E j ≤ 10 := by
            have := of_decide_eq_false hv86
            omega
          refine wa_aload_n hX (i := 0) dX12_sum_89 rfl rfl ?_
          refine wa_aload_n hX (i := 0) dX12_sum_90 rfl rfl ?_
          refine wa_get hX 4 (by assumption) (by rfl) (by decide +kernel) dX12_sum_91 ?_
          have t107 : WA X h83 rmc rms 107 [.val (.ref a), .val (I (i : Int)), .val (I (j : Int)), .val (.ref pM), .val (.ref pN), .unset, .unset] [I ((b2n (m == 24) : Nat) : Int), .ref a] := by
            refine wi_iconst hX dX12_sum_107 ?_
            refine wa_callV hX (c_X12_fails hW d (th := 0) (k := 3) (b := (m == 24)) k1 (by omega) (by omega)) (by assumption) (by rfl) (by rfl) (by omega) (nA := 2) (by rfl) (by decide +kernel) rfl (by exact Nat.le_of_ble_eq_true rfl) dX12_sum_108 (fun r108 h108 p108 => ?_) (fun _ _ q => q.elim)
            obtain ⟨rfl, hh108⟩ := p108
            have f108 : Fr (fun x => x = 120) h83 h108 := by rw [hh108]; exact Fr.hset Fr.rf k1 rfl
            replace k1 : h108 a = some (120, oMod ((if ((m == 24)) = true ∧ (0 : Nat) = 0 then 3 else 0 : Nat) : Int) (c : Int) row brk al wk us kp pt) := by rw [hh108]; exact hset_eq
            replace kJ := kJ.fr f108 (fun x hx => by omega)
            replace ff := ff.trans f108
            replace g1 := f108 _ _ _ g1 (by omega)
            replace g2 := f108 _ _ _ g2 (by omega)
            replace u1 := f108 _ _ _ u1 (by omega)
            replace u2 := f108 _ _ _ u2 (by omega)
            clear hh108 f108
            rw [show (((m == 24)) || (0 : Nat) != 0) = ((m == 24)) from Bool.or_false _]
            clear kr kb kwk kus kkp kpt ka ke kI kMat hc60 hw hm24 hMt
            obtain ⟨⟨hc60, hw, hm24, hMt⟩, kr, kb, kwk, kus, kkp, kpt, ed, N, P, ka, ke, kI, kMat⟩ := id kJ
            dsimp only [Option.toList, List.cons_append, List.nil_append]
            refine wi_if_eq hX (tgt := 116) dX12_sum_111 (by decide) (by exact b2n_inR _) (fun c111 => ?_) (fun c111 => ?_)
            · skip
              have hv111 := b2n_f c111
              rw [hv111, if_neg (fun z => Bool.false_ne_true z.1)] at k1
              have hmne : m ≠ 24 := beq_eq_false_iff_ne.mp hv111
              have hm9 : m < 24 := by omega
              refine wa_aload_n hX (i := 3) dX12_sum_116 rfl rfl ?_
              refine wa_get hX 0 (by assumption) (by rfl) (by decide +kernel) dX12_sum_117 ?_
              refine wa_aload hX dX12_sum_120 rfl ?_
              refine wa_get hX 0 (by assumption) (by rfl) (by decide +kernel) dX12_sum_122 ?_
              refine wi_iadd hX dX12_sum_125 ?_
              rw [show ((E i : Nat) : Int) + ((E j : Nat) : Int) = ((E i + E j : Nat) : Int) by omega]
              obtain ⟨hkk, hss⟩ := hroom ⟨⟨i, j, hi, rfl, hj, rfl, hij⟩, hm9⟩
              refine WA.room (k2 := 1 + 2) (sl2 := 40 + 1030) (by omega) (by omega) ?_
              refine wa_callS hX (c_X12_sized hW d (e := E i + E j) (by omega)) (by rfl) (by omega) (nA := 1) (by rfl) (by decide +kernel) rfl (by exact Nat.le_of_ble_eq_true rfl) dX12_sum_126 (fun r126 h126 p126 => ?_) (fun _ _ q => q.elim)
              obtain ⟨p, q, rfl, fS, p1, q1⟩ := p126
              have k1S := fS _ _ _ k1 id
              have kJS := kJ.fr fS (fun x hx => hx.elim)
              dsimp only [Option.toList, List.cons_append, List.nil_append]
              refine wa_astore hX dX12_sum_129 rfl ?_
              dsimp only [List.set]
              refine wi_iconst hX dX12_sum_131 ?_
              refine wa_istore hX dX12_sum_132 rfl ?_
              dsimp only [List.set]
              have hpe : 2 ^ (E i + E j) ≤ 1024 := p2_le (by omega)
              have hpe0 := p2_pos (E i + E j)
              refine WA.heap (h2 := hset h126 q (134, aI .int 1024 (fun _ => 0))) (hset_self q1).symm ?_
              refine WA.loop (σ := Nat × (Nat → Int)) (fun z => 2 ^ (E i + E j) - z.1) (fun z => z.1 ≤ 2 ^ (E i + E j) ∧ ∀ s, s < z.1 → z.2 s = (((fun s => sumR (R i) (R j) (E i) s) s : Nat) : Int)) (fun z => hset h126 q (134, aI .int 1024 z.2)) (fun z => [.val (.ref a), .val (I (i : Int)), .val (I (j : Int)), .val (.ref pM), .val (.ref pN), .val (.ref p), .val (I (z.1 : Nat))]) ?_ (0, fun _ => 0) ⟨Nat.zero_le _, fun s hs => absurd hs (Nat.not_lt_zero s)⟩
              rintro ⟨z, F⟩ ⟨hz, hF⟩ ih
              dsimp only at hz hF ⊢
              have fF : Fr (fun x => x = 134) h126 (hset h126 q (134, aI .int 1024 F)) := Fr.hset Fr.rf q1 rfl
              have p2 := hset_lab (x := (134, aI .int 1024 F)) q1 p1 (by decide)
              have q2 : hset h126 q (134, aI .int 1024 F) q = some (134, aI .int 1024 F) := hset_eq
              have k2 := fF _ _ _ k1S (by decide)
              have kJ2 := kJS.fr fF (fun x hx => by omega)
              have g1F := fF _ _ _ (fS _ _ _ g1 id) (by decide)
              have g2F := fF _ _ _ (fS _ _ _ g2 id) (by decide)
              have hbz := bc_le z
              have u1F := fF _ _ _ (fS _ _ _ u1 id) (by decide)
              have u2F := fF _ _ _ (fS _ _ _ u2 id) (by decide)
              have hsl : z &&& (2 ^ E i - 1) < 2 ^ E i := Nat.lt_of_le_of_lt Nat.and_le_right (by omega)
              have hsr : z < 2 ^ (E i + E j) → z >>> E i < 2 ^ E j := fun q => by
                rw [Nat.shiftRight_eq_div_pow]
                exact Nat.div_lt_of_lt_mul (by rw [← Nat.pow_add]; exact q)
              refine wa_iload hX dX12_sum_134 rfl ?_
              refine wa_aload hX dX12_sum_136 rfl ?_
              refine wa_callV hX (c_X11_full hW d p2 (by omega)) (by assumption) (by rfl) (by rfl) (by omega) (nA := 0) (by rfl) (by decide +kernel) rfl (by exact Nat.le_of_ble_eq_true rfl) dX12_sum_138 (fun r138 h138 p138 => ?_) (fun _ _ q => q.elim)
              obtain ⟨rfl, qq138⟩ := p138; subst h138
              dsimp only [Option.toList, List.cons_append, List.nil_append]
              refine wi_icmp_gt hX (tgt := 184) dX12_sum_141 (by decide) (by omega) (by omega) (fun c141 => ?_) (fun c141 => ?_)
              · skip
                refine wa_aload_n hX (i := 0) dX12_sum_184 rfl rfl ?_
                refine wa_aload hX dX12_sum_185 rfl ?_
                refine WA.room (k2 := 0 + 1) (sl2 := 0 + 40) (by omega) (by omega) ?_
                refine wa_callV hX (c_X12_add hW d (e := E i + E j) (rk := fun s => sumR (R i) (R j) (E i) s) k2 kJ2 hm9 p2 q2 (fun s hs => hF s (by omega)) (hN i j hi hj hij)) (by assumption) (by rfl) (by rfl) (by omega) (nA := 1) (by rfl) (by decide +kernel) rfl (by exact Nat.le_of_ble_eq_true rfl) dX12_sum_187 (fun r187 h187 p187 => ?_) (fun _ _ q => q.elim)
                obtain ⟨rfl, f9, kJ9⟩ := p187
                have k19 := f9 _ _ _ k2 (by omega)
                dsimp only [Option.toList, List.cons_append, List.nil_append]
                refine wa_iret hX dX12_sum_190 ?_
                exact ⟨(((ff.mono (fun x hx => by omega)).trans (fS.mono (fun x hx => hx.elim))).trans (fF.mono (fun x hx => by omega))).trans (f9.mono (fun x hx => by omega)), Or.inr ⟨i, j, hi, rfl, hj, rfl, Or.inr ⟨hij, Or.inr ⟨hmne, rfl, row, brk, al, wk, us, kp, pt, k19, kJ9⟩⟩⟩⟩
              · skip
                refine wa_aload hX dX12_sum_144 rfl ?_
                refine wa_get hX 1 (by assumption) (by rfl) (by decide +kernel) dX12_sum_146 ?_
                refine wa_iload hX dX12_sum_149 rfl ?_
                refine wa_aload_n hX (i := 3) dX12_sum_151 rfl rfl ?_
                refine wa_get hX 1 (by assumption) (by rfl) (by decide +kernel) dX12_sum_152 ?_
                refine wa_iload hX dX12_sum_155 rfl ?_
                refine wa_aload_n hX (i := 3) dX12_sum_157 rfl rfl ?_
                refine wa_callV hX (c_X11_full hW d g1F he) (by assumption) (by rfl) (by rfl) (by omega) (nA := 0) (by rfl) (by decide +kernel) rfl (by exact Nat.le_of_ble_eq_true rfl) dX12_sum_158 (fun r158 h158 p158 => ?_) (fun _ _ q => q.elim)
                obtain ⟨rfl, qq158⟩ := p158; subst h158
                dsimp only [Option.toList, List.cons_append, List.nil_append]
                refine wn_iand hX dX12_sum_161 (by rfl) (by rfl) ?_
                refine wi_iaload hX (by assumption) (by first | omega | exact inR_nat (and_ltl (by omega)) | exact inR_nat (and_ltr (by omega))) (by first | omega | exact inR_nat (and_ltl (by omega)) | exact inR_nat (and_ltr (by omega))) (by first | omega | exact inR_nat (and_ltl (by omega)) | exact inR_nat (and_ltr (by omega))) dX12_sum_162 ?_
                rw [Int.toNat_natCast, g3 _ hsl]
                refine wa_aload hX dX12_sum_163 rfl ?_
                refine wa_get hX 1 (by assumption) (by rfl) (by decide +kernel) dX12_sum_165 ?_
                refine wa_iload hX dX12_sum_168 rfl ?_
                refine wa_aload_n hX (i := 3) dX12_sum_170 rfl rfl ?_
                refine wa_get hX 0 (by assumption) (by rfl) (by decide +kernel) dX12_sum_171 ?_
                have hsr2 := hsr (by omega)
                refine wn_ishr hX dX12_sum_174 (by rfl) (by rfl) (by omega) (by omega) ?_
                have hpj := p2_le hej
                obtain ⟨zs, hzs⟩ : ∃ y, z >>> E i = y := ⟨_, rfl⟩
                rw [hzs] at hsr2 ⊢
                refine wi_iaload hX (by assumption) (by omega) (by omega) (by omega) dX12_sum_175 ?_
                rw [Int.toNat_natCast, u3 _ hsr2]
                refine wi_iadd hX dX12_sum_176 ?_
                have hq1 := hMi.le10 hsl
                have hq2 := hMj.le10 hsr2
                rw [show ((R i (z &&& (2 ^ E i - 1)) : Nat) : Int) + ((R j zs : Nat) : Int) = ((sumR (R i) (R j) (E i) z : Nat) : Int) by unfold sumR; rw [hzs]; omega]
                refine wi_iastore hX q2 (by omega) (by omega) (by omega) dX12_sum_177 ?_
                rw [hset_hset, Int.toNat_natCast]
                refine wi_iinc hX dX12_sum_178 rfl ?_
                dsimp only [List.set]
                refine wa_goto hX (tgt := 134) dX12_sum_181 (by decide) ?_
                refine ih (z + 1, _) ⟨by show z + 1 ≤ _; omega, fill_step (spec := fun s => (((fun s => sumR (R i) (R j) (E i) s) s : Nat) : Int)) hF⟩ (by show _ - (z + 1) < _; omega)
            · skip
              refine wi_iconst hX dX12_sum_114 ?_
              refine wa_iret hX dX12_sum_115 ?_
              have z := b2n_t c111
              rw [z, if_pos ⟨rfl, rfl⟩] at k1
              exact ⟨ff.mono (fun x hx => by omega), Or.inr ⟨i, j, hi, rfl, hj, rfl, Or.inr ⟨hij, Or.inl ⟨beq_iff_eq.mp z, ⟨_, rfl⟩, row, brk, al, wk, us, kp, pt, k1, kJ⟩⟩⟩⟩
          refine wa_callV hX (c_AL_size hW d ka) (by assumption) (by rfl) (by rfl) (by omega) (nA := 0) (by rfl) (by decide +kernel) rfl (by exact Nat.le_of_ble_eq_true rfl) dX12_sum_94 (fun r94 h94 p94 => ?_) (fun _ _ q => q.elim)
          obtain ⟨rfl, qq94⟩ := p94; subst h94
          dsimp only [Option.toList, List.cons_append, List.nil_append]
          refine wi_bipush hX dX12_sum_97 (by decide) ?_
          refine wi_icmp_ne hX (tgt := 106) dX12_sum_99 (by decide) (by omega) (by omega) (fun c99 => ?_) (fun c99 => ?_)
          · skip
            refine wi_iconst hX dX12_sum_106 ?_
            refine WA.eq rfl rfl ?_ t107
            first
              | (rw [show (m == 24) = true from beq_iff_eq.mpr (by omega)]; rfl)
              | (rw [show (m == 24) = false from beq_eq_false_iff_ne.mpr (by omega)]; rfl)
          · skip
            refine wi_iconst hX dX12_sum_102 ?_
            refine wa_goto hX (tgt := 107) dX12_sum_103 (by decide) ?_
            refine WA.eq rfl rfl ?_ t107
            first
              | (rw [show (m == 24) = true from beq_iff_eq.mpr (by omega)]; rfl)
              | (rw [show (m == 24) = false from beq_eq_false_iff_ne.mpr (by omega)]; rfl)
      refine wa_get hX 0 (by assumption) (by rfl) (by decide +kernel) dX12_sum_63 ?_
      refine wa_aload hX dX12_sum_66 rfl ?_
      refine wa_get hX 0 (by assumption) (by rfl) (by decide +kernel) dX12_sum_68 ?_
      refine wi_iadd hX dX12_sum_71 ?_
      refine wi_bipush hX dX12_sum_72 (by decide) ?_
      refine wi_icmp_le hX (tgt := 81) dX12_sum_74 (by decide) (by omega) (by omega) (fun c74 => ?_) (fun c74 => ?_)
      · skip
        refine wi_iconst hX dX12_sum_81 ?_
        refine WA.eq rfl rfl ?_ t82
        first
          | (rw [show (decide (10 < E i + E j)) = true from decide_eq_true (by omega)]; rfl)
          | (rw [show (decide (10 < E i + E j)) = false from decide_eq_false (by omega)]; rfl)
      · skip
        refine wi_iconst hX dX12_sum_77 ?_
        refine wa_goto hX (tgt := 82) dX12_sum_78 (by decide) ?_
        refine WA.eq rfl rfl ?_ t82
        first
          | (rw [show (decide (10 < E i + E j)) = true from decide_eq_true (by omega)]; rfl)
          | (rw [show (decide (10 < E i + E j)) = false from decide_eq_false (by omega)]; rfl)
    · skip
      refine wi_iconst hX dX12_sum_34 ?_
      refine wa_iret hX dX12_sum_35 ?_
      have z := b2n_t c31
      rw [z, if_pos ⟨rfl, rfl⟩] at k1
      refine ⟨ff.mono (fun x hx => by omega), Or.inl ⟨?_, ⟨_, rfl⟩, row, brk, al, wk, us, kp, pt, k1, kJ⟩⟩
      rw [Bool.or_eq_true, Bool.not_eq_true', decide_eq_false_iff_not, Bool.not_eq_true', decide_eq_false_iff_not] at z
      exact z
  refine wa_callV hX (c_X12_no hW (d + 1) k1 ka hm24 hn) (by assumption) (by rfl) (by rfl) (by omega) (nA := 1) (by rfl) (by decide +kernel) rfl (by exact Nat.le_of_ble_eq_true rfl) dX12_sum_8 (fun r8 h8 p8 => ?_) (fun _ _ q => q.elim)
  obtain ⟨rfl, qq8⟩ := p8; subst h8
  dsimp only [Option.toList, List.cons_append, List.nil_append]
  refine wi_if_ne hX (tgt := 22) dX12_sum_11 (by decide) (by exact b2n_inR _) (fun c11 => ?_) (fun c11 => ?_)
  · skip
    refine wi_iconst hX dX12_sum_22 ?_
    refine wa_goto hX (tgt := 27) dX12_sum_23 (by decide) ?_
    refine WA.eq rfl rfl ?_ t27
    first
      | (have q := b2n_t c11; rw [q]; rfl)
      | (have q := b2n_f c11; have q2 := b2n_t c19; rw [q, q2]; rfl)
      | (have q := b2n_f c11; have q2 := b2n_f c19; rw [q, q2]; rfl)
  · skip
    refine wa_aload_n hX (i := 0) dX12_sum_14 rfl rfl ?_
    refine wa_iload_n hX (i := 2) dX12_sum_15 rfl rfl ?_
    refine wa_callV hX (c_X12_no hW (d + 1) k1 ka hm24 hv) (by assumption) (by rfl) (by rfl) (by omega) (nA := 1) (by rfl) (by decide +kernel) rfl (by exact Nat.le_of_ble_eq_true rfl) dX12_sum_16 (fun r16 h16 p16 => ?_) (fun _ _ q => q.elim)
    obtain ⟨rfl, qq16⟩ := p16; subst h16
    dsimp only [Option.toList, List.cons_append, List.nil_append]
    refine wi_if_eq hX (tgt := 26) dX12_sum_19 (by decide) (by exact b2n_inR _) (fun c19 => ?_) (fun c19 => ?_)
    · skip
      refine wi_iconst hX dX12_sum_26 ?_
      refine WA.eq rfl rfl ?_ t27
      first
        | (have q := b2n_t c11; rw [q]; rfl)
        | (have q := b2n_f c11; have q2 := b2n_t c19; rw [q, q2]; rfl)
        | (have q := b2n_f c11; have q2 := b2n_f c19; rw [q, q2]; rfl)
    · skip
      refine wi_iconst hX dX12_sum_22 ?_
      refine wa_goto hX (tgt := 27) dX12_sum_23 (by decide) ?_
      refine WA.eq rfl rfl ?_ t27
      first
        | (have q := b2n_t c11; rw [q]; rfl)
        | (have q := b2n_f c11; have q2 := b2n_t c19; rw [q, q2]; rfl)
        | (have q := b2n_f c11; have q2 := b2n_f c19; rw [q, q2]; rfl)
end C97
