/-! The reference (X12): dual, delete, contract, truncate -/
def witR (rk : Nat → Nat) (k : Nat) (b : Bool) (s : Nat) : Nat := rk (sprN k s b) - (if b = true then rk (2 ^ k) else 0)
theorem sprN_lt {e k s : Nat} {b : Bool} (hk : k < e) (hs : s < 2 ^ (e - 1)) : sprN k s b < 2 ^ e := by
  have h0 : s &&& (2 ^ k - 1) ≤ s := Nat.and_le_left
  have h1 : sdf s (s &&& (2 ^ k - 1)) < 2 ^ (e - 1) := sdf_lt hs
  have h2 : (2 : Nat) ^ (e - 1) + 2 ^ (e - 1) = 2 ^ e := by
    have := Nat.two_pow_pred_add_two_pow_pred (show 0 < e by omega)
    exact this
  have h3 : (sdf s (s &&& (2 ^ k - 1))) <<< 1 < 2 ^ e := by
    rw [Nat.shiftLeft_eq]
    omega
  have h4 : (if b = true then 2 ^ k else 0) < 2 ^ e := by
    split
    · exact bit_lt hk
    · exact p2_pos e
  unfold sprN
  exact or_lt (or_lt h3 (by omega)) h4
theorem sprN_sub {k s : Nat} : sbs (2 ^ k) (sprN k s true) := by
  intro i hi
  unfold sprN
  rw [if_pos rfl, Nat.testBit_or, hi, Bool.or_true]
section C96
variable {l : Launch} {D : va_G} {S0 : State} {DR : (Nat → Nat) → Nat → Nat → Option (Nat → Nat) → Prop}
set_option maxHeartbeats 2000000 in
set_option maxRecDepth 100000 in
theorem c_X12_dual (hW : WOK l D S0) (d : Nat) {h : AH} {a th : Nat} {c m : Nat} {w : Nat → Nat} {E : Nat → Nat} {R : Nat → Nat → Nat} {b0 b1 b2 : Int} (hI : RI (zA S0) DR h a th c w m E R b0 b1 b2) {n : Int} (hn : inR n) (hN : ∀ i, i < m → Mtr (E i) (fun s => dualR (R i) (E i) s)) {rmc rms : Nat} (hroom : ((∃ i, i < m ∧ n = (i : Int)) ∧ m < 24) → 3 ≤ rmc ∧ 1100 ≤ rms) : MA l D S0 yX12_dual cX12_dual 5 (some .int) (d + 7) [.ref a, I n] h rmc rms (fun r h' => Fr (fun x => 120 ≤ x ∧ x ≤ 134) h h' ∧ ((noM n m ∧ (∃ z, r = some (I z)) ∧ RI (zA S0) DR h' a 1 c w m E R b0 b1 b2) ∨ ∃ i, i < m ∧ n = (i : Int) ∧ ((m = 24 ∧ (∃ z, r = some (I z)) ∧ RI (zA S0) DR h' a 2 c w m E R b0 b1 b2) ∨ (m ≠ 24 ∧ r = some (I (m : Nat)) ∧ RI (zA S0) DR h' a 0 c w (m + 1) (up E m (E i)) (up R m (fun s => dualR (R i) (E i) s)) b0 b1 b2)))) (fun _ _ => False) := by
  obtain ⟨row, brk, al, wk, us, kp, pt, k1, kJ⟩ := hI
  refine MA.start hW (by decide) [.val (.ref a), .val (I n), .unset, .unset, .unset] rfl ?_
  rintro X rfl rfl rfl hX
  refine wa_aload_n hX (i := 0) dX12_dual_0 rfl rfl ?_
  refine wi_iconst hX dX12_dual_1 ?_
  refine wa_put hX 0 k1 (Nat.le_of_ble_eq_true rfl) (by decide +kernel) (by rfl) (by rfl) (by rfl) dX12_dual_2 ?_
  refine WA.heap (h2 := hset h a (120, oMod ((0 : Nat) : Int) (c : Int) row brk al wk us kp pt)) rfl ?_
  refine WA.hgq (fun hA hh2 => ?_)
  have ff : Fr (fun x => x = 120) h hA := by rw [hh2]; exact Fr.hset Fr.rf k1 rfl
  replace k1 : hA a = some (120, oMod ((0 : Nat) : Int) (c : Int) row brk al wk us kp pt) := by rw [hh2]; exact hset_eq
  replace kJ := kJ.fr ff (fun x hx => by omega)
  clear hh2
  obtain ⟨⟨hc60, hw, hm24, hMt⟩, kr, kb, kwk, kus, kkp, kpt, ed, N, P, ka, ke, kI, kMat⟩ := id kJ
  refine wa_aload_n hX (i := 0) dX12_dual_5 rfl rfl ?_
  refine wa_aload_n hX (i := 0) dX12_dual_6 rfl rfl ?_
  refine wa_iload_n hX (i := 1) dX12_dual_7 rfl rfl ?_
  refine wa_callV hX (c_X12_no hW (d + 1) k1 ka hm24 hn) (by assumption) (by rfl) (by rfl) (by omega) (nA := 1) (by rfl) (by decide +kernel) rfl (by exact Nat.le_of_ble_eq_true rfl) dX12_dual_8 (fun r8 h8 p8 => ?_) (fun _ _ q => q.elim)
  obtain ⟨rfl, qq8⟩ := p8; subst h8
  dsimp only [Option.toList, List.cons_append, List.nil_append]
  refine wi_iconst hX dX12_dual_11 ?_
  refine wa_callV hX (c_X12_fails hW d (th := 0) (k := 1) (b := (!decide (0 ≤ n ∧ n < (m : Int)))) k1 (by omega) (by omega)) (by assumption) (by rfl) (by rfl) (by omega) (nA := 2) (by rfl) (by decide +kernel) rfl (by exact Nat.le_of_ble_eq_true rfl) dX12_dual_12 (fun r12 h12 p12 => ?_) (fun _ _ q => q.elim)
  obtain ⟨rfl, hh12⟩ := p12
  have f12 : Fr (fun x => x = 120) hA h12 := by rw [hh12]; exact Fr.hset Fr.rf k1 rfl
  replace k1 : h12 a = some (120, oMod ((if ((!decide (0 ≤ n ∧ n < (m : Int)))) = true ∧ (0 : Nat) = 0 then 1 else 0 : Nat) : Int) (c : Int) row brk al wk us kp pt) := by rw [hh12]; exact hset_eq
  replace kJ := kJ.fr f12 (fun x hx => by omega)
  replace ff := ff.trans f12
  clear hh12 f12
  rw [show (((!decide (0 ≤ n ∧ n < (m : Int)))) || (0 : Nat) != 0) = ((!decide (0 ≤ n ∧ n < (m : Int)))) from Bool.or_false _]
  clear kr kb kwk kus kkp kpt ka ke kI kMat hc60 hw hm24 hMt
  obtain ⟨⟨hc60, hw, hm24, hMt⟩, kr, kb, kwk, kus, kkp, kpt, ed, N, P, ka, ke, kI, kMat⟩ := id kJ
  dsimp only [Option.toList, List.cons_append, List.nil_append]
  refine wi_if_ne hX (tgt := 43) dX12_dual_15 (by decide) (by exact b2n_inR _) (fun c15 => ?_) (fun c15 => ?_)
  · skip
    refine wi_iconst hX dX12_dual_43 ?_
    refine wa_iret hX dX12_dual_44 ?_
    have z := b2n_t c15
    rw [z, if_pos ⟨rfl, rfl⟩] at k1
    rw [Bool.not_eq_true', decide_eq_false_iff_not] at z
    exact ⟨ff.mono (fun x hx => by omega), Or.inl ⟨z, ⟨_, rfl⟩, row, brk, al, wk, us, kp, pt, k1, kJ⟩⟩
  · skip
    have hv15 := b2n_f c15
    rw [hv15, if_neg (fun z => Bool.false_ne_true z.1)] at k1
    rw [Bool.not_eq_false', decide_eq_true_eq] at hv15
    obtain ⟨i, rfl⟩ := Int.eq_ofNat_of_zero_le hv15.1
    have hi : i < m := by omega
    refine wa_aload_n hX (i := 0) dX12_dual_18 rfl rfl ?_
    refine wa_aload_n hX (i := 0) dX12_dual_19 rfl rfl ?_
    refine wa_get hX 4 (by assumption) (by rfl) (by decide +kernel) dX12_dual_20 ?_
    have t36 : WA X h12 rmc rms 36 [.val (.ref a), .val (I (i : Int)), .unset, .unset, .unset] [I ((b2n (m == 24) : Nat) : Int), .ref a] := by
      refine wi_iconst hX dX12_dual_36 ?_
      refine wa_callV hX (c_X12_fails hW d (th := 0) (k := 2) (b := (m == 24)) k1 (by omega) (by omega)) (by assumption) (by rfl) (by rfl) (by omega) (nA := 2) (by rfl) (by decide +kernel) rfl (by exact Nat.le_of_ble_eq_true rfl) dX12_dual_37 (fun r37 h37 p37 => ?_) (fun _ _ q => q.elim)
      obtain ⟨rfl, hh37⟩ := p37
      have f37 : Fr (fun x => x = 120) h12 h37 := by rw [hh37]; exact Fr.hset Fr.rf k1 rfl
      replace k1 : h37 a = some (120, oMod ((if ((m == 24)) = true ∧ (0 : Nat) = 0 then 2 else 0 : Nat) : Int) (c : Int) row brk al wk us kp pt) := by rw [hh37]; exact hset_eq
      replace kJ := kJ.fr f37 (fun x hx => by omega)
      replace ff := ff.trans f37
      clear hh37 f37
      rw [show (((m == 24)) || (0 : Nat) != 0) = ((m == 24)) from Bool.or_false _]
      clear kr kb kwk kus kkp kpt ka ke kI kMat hc60 hw hm24 hMt
      obtain ⟨⟨hc60, hw, hm24, hMt⟩, kr, kb, kwk, kus, kkp, kpt, ed, N, P, ka, ke, kI, kMat⟩ := id kJ
      dsimp only [Option.toList, List.cons_append, List.nil_append]
      refine wi_if_eq hX (tgt := 45) dX12_dual_40 (by decide) (by exact b2n_inR _) (fun c40 => ?_) (fun c40 => ?_)
      · skip
        have hv40 := b2n_f c40
        rw [hv40, if_neg (fun z => Bool.false_ne_true z.1)] at k1
        have hmne : m ≠ 24 := beq_eq_false_iff_ne.mp hv40
        have hm9 : m < 24 := by omega
        obtain ⟨e3, hN1, hN2⟩ : h37 ed = some (124, aR (.object "java/lang/Object") N (fun j => if j < m then some (P j) else none)) ∧ m ≤ N ∧ N ≤ 100 := by
          rcases ke with z | z
          · exfalso; omega
          · exact z
        obtain ⟨rq, m2, m3, l2, l3, G, g1, g2, g3, g4, g5⟩ := id (kMat i hi)
        have hMi := hMt i hi
        have he := hMi.1
        have hp := p2_le he
        have hp0 := p2_pos (E i)
        refine wa_aload_n hX (i := 0) dX12_dual_45 rfl rfl ?_
        refine wa_get hX 4 (by assumption) (by rfl) (by decide +kernel) dX12_dual_46 ?_
        refine wa_iload_n hX (i := 1) dX12_dual_49 rfl rfl ?_
        refine wa_callV hX (c_AL_get hW d ka e3 (i := i) (q := P i) hi hN1 (by omega) (if_pos hi)) (by assumption) (by rfl) (by rfl) (by omega) (nA := 1) (by rfl) (by decide +kernel) rfl (by exact Nat.le_of_ble_eq_true rfl) dX12_dual_50 (fun r50 h50 p50 => ?_) (fun _ _ q => q.elim)
        obtain ⟨rfl, qq50⟩ := p50; subst h50
        dsimp only [Option.toList, List.cons_append, List.nil_append]
        refine wa_ccast hX g1 (by rfl) (by decide +kernel) dX12_dual_53 ?_
        refine wa_astore_n hX (i := 2) dX12_dual_56 rfl rfl ?_
        dsimp only [List.set]
        refine wa_aload_n hX (i := 2) dX12_dual_57 rfl rfl ?_
        refine wa_get hX 0 (by assumption) (by rfl) (by decide +kernel) dX12_dual_58 ?_
        obtain ⟨hkk, hss⟩ := hroom ⟨⟨i, hi, rfl⟩, hm9⟩
        refine WA.room (k2 := 1 + 2) (sl2 := 40 + 1030) (by omega) (by omega) ?_
        refine wa_callS hX (c_X12_sized hW d (e := E i) he) (by rfl) (by omega) (nA := 1) (by rfl) (by decide +kernel) rfl (by exact Nat.le_of_ble_eq_true rfl) dX12_dual_61 (fun r61 h61 p61 => ?_) (fun _ _ q => q.elim)
        obtain ⟨p, q, rfl, fS, p1, q1⟩ := p61
        have k1S := fS _ _ _ k1 id
        have kJS := kJ.fr fS (fun x hx => hx.elim)
        dsimp only [Option.toList, List.cons_append, List.nil_append]
        refine wa_astore_n hX (i := 3) dX12_dual_64 rfl rfl ?_
        dsimp only [List.set]
        refine wi_iconst hX dX12_dual_65 ?_
        refine wa_istore hX dX12_dual_66 rfl ?_
        dsimp only [List.set]
        have hpe : 2 ^ (E i) ≤ 1024 := p2_le (by omega)
        have hpe0 := p2_pos (E i)
        refine WA.heap (h2 := hset h61 q (134, aI .int 1024 (fun _ => 0))) (hset_self q1).symm ?_
        refine WA.loop (σ := Nat × (Nat → Int)) (fun z => 2 ^ (E i) - z.1) (fun z => z.1 ≤ 2 ^ (E i) ∧ ∀ s, s < z.1 → z.2 s = (((fun s => dualR (R i) (E i) s) s : Nat) : Int)) (fun z => hset h61 q (134, aI .int 1024 z.2)) (fun z => [.val (.ref a), .val (I (i : Int)), .val (.ref (P i)), .val (.ref p), .val (I (z.1 : Nat))]) ?_ (0, fun _ => 0) ⟨Nat.zero_le _, fun s hs => absurd hs (Nat.not_lt_zero s)⟩
        rintro ⟨z, F⟩ ⟨hz, hF⟩ ih
        dsimp only at hz hF ⊢
        have fF : Fr (fun x => x = 134) h61 (hset h61 q (134, aI .int 1024 F)) := Fr.hset Fr.rf q1 rfl
        have p2 := hset_lab (x := (134, aI .int 1024 F)) q1 p1 (by decide)
        have q2 : hset h61 q (134, aI .int 1024 F) q = some (134, aI .int 1024 F) := hset_eq
        have k2 := fF _ _ _ k1S (by decide)
        have kJ2 := kJS.fr fF (fun x hx => by omega)
        have g1F := fF _ _ _ (fS _ _ _ g1 id) (by decide)
        have g2F := fF _ _ _ (fS _ _ _ g2 id) (by decide)
        have hbz := bc_le z
        refine wa_iload hX dX12_dual_68 rfl ?_
        refine wa_aload_n hX (i := 3) dX12_dual_70 rfl rfl ?_
        refine wa_callV hX (c_X11_full hW d p2 he) (by assumption) (by rfl) (by rfl) (by omega) (nA := 0) (by rfl) (by decide +kernel) rfl (by exact Nat.le_of_ble_eq_true rfl) dX12_dual_71 (fun r71 h71 p71 => ?_) (fun _ _ q => q.elim)
        obtain ⟨rfl, qq71⟩ := p71; subst h71
        dsimp only [Option.toList, List.cons_append, List.nil_append]
        refine wi_icmp_gt hX (tgt := 115) dX12_dual_74 (by decide) (by omega) (by omega) (fun c74 => ?_) (fun c74 => ?_)
        · skip
          refine wa_aload_n hX (i := 0) dX12_dual_115 rfl rfl ?_
          refine wa_aload_n hX (i := 3) dX12_dual_116 rfl rfl ?_
          refine WA.room (k2 := 0 + 1) (sl2 := 0 + 40) (by omega) (by omega) ?_
          refine wa_callV hX (c_X12_add hW d (e := E i) (rk := fun s => dualR (R i) (E i) s) k2 kJ2 hm9 p2 q2 (fun s hs => hF s (by omega)) (hN i hi)) (by assumption) (by rfl) (by rfl) (by omega) (nA := 1) (by rfl) (by decide +kernel) rfl (by exact Nat.le_of_ble_eq_true rfl) dX12_dual_117 (fun r117 h117 p117 => ?_) (fun _ _ q => q.elim)
          obtain ⟨rfl, f9, kJ9⟩ := p117
          have k19 := f9 _ _ _ k2 (by omega)
          dsimp only [Option.toList, List.cons_append, List.nil_append]
          refine wa_iret hX dX12_dual_120 ?_
          exact ⟨(((ff.mono (fun x hx => by omega)).trans (fS.mono (fun x hx => hx.elim))).trans (fF.mono (fun x hx => by omega))).trans (f9.mono (fun x hx => by omega)), Or.inr ⟨i, hi, rfl, Or.inr ⟨hmne, rfl, row, brk, al, wk, us, kp, pt, k19, kJ9⟩⟩⟩
        · skip
          refine wa_aload_n hX (i := 3) dX12_dual_77 rfl rfl ?_
          refine wa_get hX 1 (by assumption) (by rfl) (by decide +kernel) dX12_dual_78 ?_
          refine wa_iload hX dX12_dual_81 rfl ?_
          refine wa_iload hX dX12_dual_83 rfl ?_
          refine wa_callS hX (c_J6_bitCount hW d (s := z) (by omega)) (by rfl) (by omega) (nA := 1) (by rfl) (by decide +kernel) rfl (by exact Nat.le_of_ble_eq_true rfl) dX12_dual_85 (fun r85 h85 p85 => ?_) (fun _ _ q => q.elim)
          obtain ⟨rfl, qq85⟩ := p85; subst h85
          dsimp only [Option.toList, List.cons_append, List.nil_append]
          refine wa_aload_n hX (i := 2) dX12_dual_88 rfl rfl ?_
          refine wa_callV hX (c_X11_rank hW d g1F g2F g3 he (fun s hs => hMi.le10 hs)) (by assumption) (by rfl) (by rfl) (by omega) (nA := 0) (by rfl) (by decide +kernel) rfl (by exact Nat.le_of_ble_eq_true rfl) dX12_dual_89 (fun r89 h89 p89 => ?_) (fun _ _ q => q.elim)
          obtain ⟨rfl, qq89⟩ := p89; subst h89
          dsimp only [Option.toList, List.cons_append, List.nil_append]
          refine wi_isub hX dX12_dual_92 ?_
          refine wa_aload_n hX (i := 2) dX12_dual_93 rfl rfl ?_
          refine wa_get hX 1 (by assumption) (by rfl) (by decide +kernel) dX12_dual_94 ?_
          refine wa_aload_n hX (i := 2) dX12_dual_97 rfl rfl ?_
          refine wa_callV hX (c_X11_full hW d g1F he) (by assumption) (by rfl) (by rfl) (by omega) (nA := 0) (by rfl) (by decide +kernel) rfl (by exact Nat.le_of_ble_eq_true rfl) dX12_dual_98 (fun r98 h98 p98 => ?_) (fun _ _ q => q.elim)
          obtain ⟨rfl, qq98⟩ := p98; subst h98
          dsimp only [Option.toList, List.cons_append, List.nil_append]
          refine wa_iload hX dX12_dual_101 rfl ?_
          refine wi_iconst hX dX12_dual_103 ?_
          refine wa_ixor hX dX12_dual_104 ?_
          refine wn_andn hX dX12_dual_105 (by rfl) (by rfl) ?_
          have hsd : sdf (2 ^ E i - 1) z < 2 ^ E i := sdf_lt (by omega)
          refine wi_iaload hX (by assumption) (by first | omega | exact inR_nat (and_ltl (by omega)) | exact inR_nat (and_ltr (by omega))) (by first | omega | exact inR_nat (and_ltl (by omega)) | exact inR_nat (and_ltr (by omega))) (by first | omega | exact inR_nat (and_ltl (by omega)) | exact inR_nat (and_ltr (by omega))) dX12_dual_106 ?_
          rw [Int.toNat_natCast, g3 _ hsd]
          refine wi_iadd hX dX12_dual_107 ?_
          have hdu := hMi.dual (s := z) (by omega)
          rw [show ((bc z : Nat) : Int) - ((R i (2 ^ E i - 1) : Nat) : Int) + ((R i (sdf (2 ^ E i - 1) z) : Nat) : Int) = ((dualR (R i) (E i) z : Nat) : Int) by unfold dualR; omega]
          refine wi_iastore hX q2 (by omega) (by omega) (by omega) dX12_dual_108 ?_
          rw [hset_hset, Int.toNat_natCast]
          refine wi_iinc hX dX12_dual_109 rfl ?_
          dsimp only [List.set]
          refine wa_goto hX (tgt := 68) dX12_dual_112 (by decide) ?_
          refine ih (z + 1, _) ⟨by show z + 1 ≤ _; omega, fill_step (spec := fun s => (((fun s => dualR (R i) (E i) s) s : Nat) : Int)) hF⟩ (by show _ - (z + 1) < _; omega)
      · skip
        refine wi_iconst hX dX12_dual_43 ?_
        refine wa_iret hX dX12_dual_44 ?_
        have z := b2n_t c40
        rw [z, if_pos ⟨rfl, rfl⟩] at k1
        exact ⟨ff.mono (fun x hx => by omega), Or.inr ⟨i, hi, rfl, Or.inl ⟨beq_iff_eq.mp z, ⟨_, rfl⟩, row, brk, al, wk, us, kp, pt, k1, kJ⟩⟩⟩
    refine wa_callV hX (c_AL_size hW d ka) (by assumption) (by rfl) (by rfl) (by omega) (nA := 0) (by rfl) (by decide +kernel) rfl (by exact Nat.le_of_ble_eq_true rfl) dX12_dual_23 (fun r23 h23 p23 => ?_) (fun _ _ q => q.elim)
    obtain ⟨rfl, qq23⟩ := p23; subst h23
    dsimp only [Option.toList, List.cons_append, List.nil_append]
    refine wi_bipush hX dX12_dual_26 (by decide) ?_
    refine wi_icmp_ne hX (tgt := 35) dX12_dual_28 (by decide) (by omega) (by omega) (fun c28 => ?_) (fun c28 => ?_)
    · skip
      refine wi_iconst hX dX12_dual_35 ?_
      refine WA.eq rfl rfl ?_ t36
      first
        | (rw [show (m == 24) = true from beq_iff_eq.mpr (by omega)]; rfl)
        | (rw [show (m == 24) = false from beq_eq_false_iff_ne.mpr (by omega)]; rfl)
    · skip
      refine wi_iconst hX dX12_dual_31 ?_
      refine wa_goto hX (tgt := 36) dX12_dual_32 (by decide) ?_
      refine WA.eq rfl rfl ?_ t36
      first
        | (rw [show (m == 24) = true from beq_iff_eq.mpr (by omega)]; rfl)
        | (rw [show (m == 24) = false from beq_eq_false_iff_ne.mpr (by omega)]; rfl)
set_option maxHeartbeats 2000000 in
set_option maxRecDepth 100000 in
theorem c_X12_truncate (hW : WOK l D S0) (d : Nat) {h : AH} {a th : Nat} {c m : Nat} {w : Nat → Nat} {E : Nat → Nat} {R : Nat → Nat → Nat} {b0 b1 b2 : Int} (hI : RI (zA S0) DR h a th c w m E R b0 b1 b2) {n : Int} (hn : inR n) (hN : ∀ i, i < m → R i (2 ^ E i - 1) ≠ 0 → Mtr (E i) (fun s => min (R i s) (R i (2 ^ E i - 1) - 1))) {rmc rms : Nat} (hroom : ((∃ i, i < m ∧ n = (i : Int) ∧ R i (2 ^ E i - 1) ≠ 0) ∧ m < 24) → 3 ≤ rmc ∧ 1100 ≤ rms) : MA l D S0 yX12_truncate cX12_truncate 5 (some .int) (d + 7) [.ref a, I n] h rmc rms (fun r h' => Fr (fun x => 120 ≤ x ∧ x ≤ 134) h h' ∧ ((noM n m ∧ (∃ z, r = some (I z)) ∧ RI (zA S0) DR h' a 1 c w m E R b0 b1 b2) ∨ ∃ i, i < m ∧ n = (i : Int) ∧ ((R i (2 ^ E i - 1) = 0 ∧ (∃ z, r = some (I z)) ∧ RI (zA S0) DR h' a 2 c w m E R b0 b1 b2) ∨ (R i (2 ^ E i - 1) ≠ 0 ∧ ((m = 24 ∧ (∃ z, r = some (I z)) ∧ RI (zA S0) DR h' a 3 c w m E R b0 b1 b2) ∨ (m ≠ 24 ∧ r = some (I (m : Nat)) ∧ RI (zA S0) DR h' a 0 c w (m + 1) (up E m (E i)) (up R m (fun s => min (R i s) (R i (2 ^ E i - 1) - 1))) b0 b1 b2)))))) (fun _ _ => False) := by
  obtain ⟨row, brk, al, wk, us, kp, pt, k1, kJ⟩ := hI
  refine MA.start hW (by decide) [.val (.ref a), .val (I n), .unset, .unset, .unset] rfl ?_
  rintro X rfl rfl rfl hX
  refine wa_aload_n hX (i := 0) dX12_truncate_0 rfl rfl ?_
  refine wi_iconst hX dX12_truncate_1 ?_
  refine wa_put hX 0 k1 (Nat.le_of_ble_eq_true rfl) (by decide +kernel) (by rfl) (by rfl) (by rfl) dX12_truncate_2 ?_
  refine WA.heap (h2 := hset h a (120, oMod ((0 : Nat) : Int) (c : Int) row brk al wk us kp pt)) rfl ?_
  refine WA.hgq (fun hA hh2 => ?_)
  have ff : Fr (fun x => x = 120) h hA := by rw [hh2]; exact Fr.hset Fr.rf k1 rfl
  replace k1 : hA a = some (120, oMod ((0 : Nat) : Int) (c : Int) row brk al wk us kp pt) := by rw [hh2]; exact hset_eq
  replace kJ := kJ.fr ff (fun x hx => by omega)
  clear hh2
  obtain ⟨⟨hc60, hw, hm24, hMt⟩, kr, kb, kwk, kus, kkp, kpt, ed, N, P, ka, ke, kI, kMat⟩ := id kJ
  refine wa_aload_n hX (i := 0) dX12_truncate_5 rfl rfl ?_
  refine wa_aload_n hX (i := 0) dX12_truncate_6 rfl rfl ?_
  refine wa_iload_n hX (i := 1) dX12_truncate_7 rfl rfl ?_
  refine wa_callV hX (c_X12_no hW (d + 1) k1 ka hm24 hn) (by assumption) (by rfl) (by rfl) (by omega) (nA := 1) (by rfl) (by decide +kernel) rfl (by exact Nat.le_of_ble_eq_true rfl) dX12_truncate_8 (fun r8 h8 p8 => ?_) (fun _ _ q => q.elim)
  obtain ⟨rfl, qq8⟩ := p8; subst h8
  dsimp only [Option.toList, List.cons_append, List.nil_append]
  refine wi_iconst hX dX12_truncate_11 ?_
  refine wa_callV hX (c_X12_fails hW d (th := 0) (k := 1) (b := (!decide (0 ≤ n ∧ n < (m : Int)))) k1 (by omega) (by omega)) (by assumption) (by rfl) (by rfl) (by omega) (nA := 2) (by rfl) (by decide +kernel) rfl (by exact Nat.le_of_ble_eq_true rfl) dX12_truncate_12 (fun r12 h12 p12 => ?_) (fun _ _ q => q.elim)
  obtain ⟨rfl, hh12⟩ := p12
  have f12 : Fr (fun x => x = 120) hA h12 := by rw [hh12]; exact Fr.hset Fr.rf k1 rfl
  replace k1 : h12 a = some (120, oMod ((if ((!decide (0 ≤ n ∧ n < (m : Int)))) = true ∧ (0 : Nat) = 0 then 1 else 0 : Nat) : Int) (c : Int) row brk al wk us kp pt) := by rw [hh12]; exact hset_eq
  replace kJ := kJ.fr f12 (fun x hx => by omega)
  replace ff := ff.trans f12
  clear hh12 f12
  rw [show (((!decide (0 ≤ n ∧ n < (m : Int)))) || (0 : Nat) != 0) = ((!decide (0 ≤ n ∧ n < (m : Int)))) from Bool.or_false _]
  clear kr kb kwk kus kkp kpt ka ke kI kMat hc60 hw hm24 hMt
  obtain ⟨⟨hc60, hw, hm24, hMt⟩, kr, kb, kwk, kus, kkp, kpt, ed, N, P, ka, ke, kI, kMat⟩ := id kJ
  dsimp only [Option.toList, List.cons_append, List.nil_append]
  refine wi_if_ne hX (tgt := 73) dX12_truncate_15 (by decide) (by exact b2n_inR _) (fun c15 => ?_) (fun c15 => ?_)
  · skip
    refine wi_iconst hX dX12_truncate_73 ?_
    refine wa_iret hX dX12_truncate_74 ?_
    have z := b2n_t c15
    rw [z, if_pos ⟨rfl, rfl⟩] at k1
    rw [Bool.not_eq_true', decide_eq_false_iff_not] at z
    exact ⟨ff.mono (fun x hx => by omega), Or.inl ⟨z, ⟨_, rfl⟩, row, brk, al, wk, us, kp, pt, k1, kJ⟩⟩
  · skip
    have hv15 := b2n_f c15
    rw [hv15, if_neg (fun z => Bool.false_ne_true z.1)] at k1
    rw [Bool.not_eq_false', decide_eq_true_eq] at hv15
    obtain ⟨i, rfl⟩ := Int.eq_ofNat_of_zero_le hv15.1
    have hi : i < m := by omega
    obtain ⟨e3, hN1, hN2⟩ : h12 ed = some (124, aR (.object "java/lang/Object") N (fun j => if j < m then some (P j) else none)) ∧ m ≤ N ∧ N ≤ 100 := by
      rcases ke with z | z
      · exfalso; omega
      · exact z
    obtain ⟨rq, m2, m3, l2, l3, G, g1, g2, g3, g4, g5⟩ := id (kMat i hi)
    have hMi := hMt i hi
    have he := hMi.1
    have hp := p2_le he
    have hp0 := p2_pos (E i)
    have hr0 := hMi.le10 (s := 2 ^ E i - 1) (by omega)
    refine wa_aload_n hX (i := 0) dX12_truncate_18 rfl rfl ?_
    refine wa_aload_n hX (i := 0) dX12_truncate_19 rfl rfl ?_
    refine wa_get hX 4 (by assumption) (by rfl) (by decide +kernel) dX12_truncate_20 ?_
    refine wa_iload_n hX (i := 1) dX12_truncate_23 rfl rfl ?_
    have t41 : WA X h12 rmc rms 41 [.val (.ref a), .val (I (i : Int)), .unset, .unset, .unset] [I ((b2n (R i (2 ^ E i - 1) == 0) : Nat) : Int), .ref a] := by
      refine wi_iconst hX dX12_truncate_41 ?_
      refine wa_callV hX (c_X12_fails hW d (th := 0) (k := 2) (b := (R i (2 ^ E i - 1) == 0)) k1 (by omega) (by omega)) (by assumption) (by rfl) (by rfl) (by omega) (nA := 2) (by rfl) (by decide +kernel) rfl (by exact Nat.le_of_ble_eq_true rfl) dX12_truncate_42 (fun r42 h42 p42 => ?_) (fun _ _ q => q.elim)
      obtain ⟨rfl, hh42⟩ := p42
      have f42 : Fr (fun x => x = 120) h12 h42 := by rw [hh42]; exact Fr.hset Fr.rf k1 rfl
      replace k1 : h42 a = some (120, oMod ((if ((R i (2 ^ E i - 1) == 0)) = true ∧ (0 : Nat) = 0 then 2 else 0 : Nat) : Int) (c : Int) row brk al wk us kp pt) := by rw [hh42]; exact hset_eq
      replace kJ := kJ.fr f42 (fun x hx => by omega)
      replace ff := ff.trans f42
      clear hh42 f42
      rw [show (((R i (2 ^ E i - 1) == 0)) || (0 : Nat) != 0) = ((R i (2 ^ E i - 1) == 0)) from Bool.or_false _]
      clear kr kb kwk kus kkp kpt ka ke kI kMat hc60 hw hm24 hMt
      obtain ⟨⟨hc60, hw, hm24, hMt⟩, kr, kb, kwk, kus, kkp, kpt, ed, N, P, ka, ke, kI, kMat⟩ := id kJ
      dsimp only [Option.toList, List.cons_append, List.nil_append]
      refine wi_if_ne hX (tgt := 73) dX12_truncate_45 (by decide) (by exact b2n_inR _) (fun c45 => ?_) (fun c45 => ?_)
      · skip
        refine wi_iconst hX dX12_truncate_73 ?_
        refine wa_iret hX dX12_truncate_74 ?_
        have z := b2n_t c45
        rw [z, if_pos ⟨rfl, rfl⟩] at k1
        exact ⟨ff.mono (fun x hx => by omega), Or.inr ⟨i, hi, rfl, Or.inl ⟨beq_iff_eq.mp z, ⟨_, rfl⟩, row, brk, al, wk, us, kp, pt, k1, kJ⟩⟩⟩
      · skip
        have hv45 := b2n_f c45
        rw [hv45, if_neg (fun z => Bool.false_ne_true z.1)] at k1
        have hr9 : R i (2 ^ E i - 1) ≠ 0 := beq_eq_false_iff_ne.mp hv45
        refine wa_aload_n hX (i := 0) dX12_truncate_48 rfl rfl ?_
        refine wa_aload_n hX (i := 0) dX12_truncate_49 rfl rfl ?_
        refine wa_get hX 4 (by assumption) (by rfl) (by decide +kernel) dX12_truncate_50 ?_
        have t66 : WA X h42 rmc rms 66 [.val (.ref a), .val (I (i : Int)), .unset, .unset, .unset] [I ((b2n (m == 24) : Nat) : Int), .ref a] := by
          refine wi_iconst hX dX12_truncate_66 ?_
          refine wa_callV hX (c_X12_fails hW d (th := 0) (k := 3) (b := (m == 24)) k1 (by omega) (by omega)) (by assumption) (by rfl) (by rfl) (by omega) (nA := 2) (by rfl) (by decide +kernel) rfl (by exact Nat.le_of_ble_eq_true rfl) dX12_truncate_67 (fun r67 h67 p67 => ?_) (fun _ _ q => q.elim)
          obtain ⟨rfl, hh67⟩ := p67
          have f67 : Fr (fun x => x = 120) h42 h67 := by rw [hh67]; exact Fr.hset Fr.rf k1 rfl
          replace k1 : h67 a = some (120, oMod ((if ((m == 24)) = true ∧ (0 : Nat) = 0 then 3 else 0 : Nat) : Int) (c : Int) row brk al wk us kp pt) := by rw [hh67]; exact hset_eq
          replace kJ := kJ.fr f67 (fun x hx => by omega)
          replace ff := ff.trans f67
          clear hh67 f67
          rw [show (((m == 24)) || (0 : Nat) != 0) = ((m == 24)) from Bool.or_false _]
          clear kr kb kwk kus kkp kpt ka ke kI kMat hc60 hw hm24 hMt
          obtain ⟨⟨hc60, hw, hm24, hMt⟩, kr, kb, kwk, kus, kkp, kpt, ed, N, P, ka, ke, kI, kMat⟩ := id kJ
          dsimp only [Option.toList, List.cons_append, List.nil_append]
          refine wi_if_eq hX (tgt := 75) dX12_truncate_70 (by decide) (by exact b2n_inR _) (fun c70 => ?_) (fun c70 => ?_)
          · skip
            have hv70 := b2n_f c70
            rw [hv70, if_neg (fun z => Bool.false_ne_true z.1)] at k1
            have hmne : m ≠ 24 := beq_eq_false_iff_ne.mp hv70
            have hm9 : m < 24 := by omega
            obtain ⟨e3, hN1, hN2⟩ : h67 ed = some (124, aR (.object "java/lang/Object") N (fun j => if j < m then some (P j) else none)) ∧ m ≤ N ∧ N ≤ 100 := by
              rcases ke with z | z
              · exfalso; omega
              · exact z
            obtain ⟨rq, m2, m3, l2, l3, G, g1, g2, g3, g4, g5⟩ := id (kMat i hi)
            have hMi := hMt i hi
            have he := hMi.1
            have hp := p2_le he
            have hp0 := p2_pos (E i)
            have hr0 := hMi.le10 (s := 2 ^ E i - 1) (by omega)
            refine wa_aload_n hX (i := 0) dX12_truncate_75 rfl rfl ?_
            refine wa_get hX 4 (by assumption) (by rfl) (by decide +kernel) dX12_truncate_76 ?_
            refine wa_iload_n hX (i := 1) dX12_truncate_79 rfl rfl ?_
            refine wa_callV hX (c_AL_get hW d ka e3 (i := i) (q := P i) hi hN1 (by omega) (if_pos hi)) (by assumption) (by rfl) (by rfl) (by omega) (nA := 1) (by rfl) (by decide +kernel) rfl (by exact Nat.le_of_ble_eq_true rfl) dX12_truncate_80 (fun r80 h80 p80 => ?_) (fun _ _ q => q.elim)
            obtain ⟨rfl, qq80⟩ := p80; subst h80
            dsimp only [Option.toList, List.cons_append, List.nil_append]
            refine wa_ccast hX g1 (by rfl) (by decide +kernel) dX12_truncate_83 ?_
            refine wa_astore_n hX (i := 2) dX12_truncate_86 rfl rfl ?_
            dsimp only [List.set]
            refine wa_aload_n hX (i := 2) dX12_truncate_87 rfl rfl ?_
            refine wa_get hX 0 (by assumption) (by rfl) (by decide +kernel) dX12_truncate_88 ?_
            obtain ⟨hkk, hss⟩ := hroom ⟨⟨i, hi, rfl, hr9⟩, hm9⟩
            refine WA.room (k2 := 1 + 2) (sl2 := 40 + 1030) (by omega) (by omega) ?_
            refine wa_callS hX (c_X12_sized hW d (e := E i) he) (by rfl) (by omega) (nA := 1) (by rfl) (by decide +kernel) rfl (by exact Nat.le_of_ble_eq_true rfl) dX12_truncate_91 (fun r91 h91 p91 => ?_) (fun _ _ q => q.elim)
            obtain ⟨p, q, rfl, fS, p1, q1⟩ := p91
            have k1S := fS _ _ _ k1 id
            have kJS := kJ.fr fS (fun x hx => hx.elim)
            dsimp only [Option.toList, List.cons_append, List.nil_append]
            refine wa_astore_n hX (i := 3) dX12_truncate_94 rfl rfl ?_
            dsimp only [List.set]
            refine wi_iconst hX dX12_truncate_95 ?_
            refine wa_istore hX dX12_truncate_96 rfl ?_
            dsimp only [List.set]
            have hpe : 2 ^ (E i) ≤ 1024 := p2_le (by omega)
            have hpe0 := p2_pos (E i)
            refine WA.heap (h2 := hset h91 q (134, aI .int 1024 (fun _ => 0))) (hset_self q1).symm ?_
            refine WA.loop (σ := Nat × (Nat → Int)) (fun z => 2 ^ (E i) - z.1) (fun z => z.1 ≤ 2 ^ (E i) ∧ ∀ s, s < z.1 → z.2 s = (((fun s => min (R i s) (R i (2 ^ E i - 1) - 1)) s : Nat) : Int)) (fun z => hset h91 q (134, aI .int 1024 z.2)) (fun z => [.val (.ref a), .val (I (i : Int)), .val (.ref (P i)), .val (.ref p), .val (I (z.1 : Nat))]) ?_ (0, fun _ => 0) ⟨Nat.zero_le _, fun s hs => absurd hs (Nat.not_lt_zero s)⟩
            rintro ⟨z, F⟩ ⟨hz, hF⟩ ih
            dsimp only at hz hF ⊢
            have fF : Fr (fun x => x = 134) h91 (hset h91 q (134, aI .int 1024 F)) := Fr.hset Fr.rf q1 rfl
            have p2 := hset_lab (x := (134, aI .int 1024 F)) q1 p1 (by decide)
            have q2 : hset h91 q (134, aI .int 1024 F) q = some (134, aI .int 1024 F) := hset_eq
            have k2 := fF _ _ _ k1S (by decide)
            have kJ2 := kJS.fr fF (fun x hx => by omega)
            have g1F := fF _ _ _ (fS _ _ _ g1 id) (by decide)
            have g2F := fF _ _ _ (fS _ _ _ g2 id) (by decide)
            have hbz := bc_le z
            refine wa_iload hX dX12_truncate_98 rfl ?_
            refine wa_aload_n hX (i := 3) dX12_truncate_100 rfl rfl ?_
            refine wa_callV hX (c_X11_full hW d p2 he) (by assumption) (by rfl) (by rfl) (by omega) (nA := 0) (by rfl) (by decide +kernel) rfl (by exact Nat.le_of_ble_eq_true rfl) dX12_truncate_101 (fun r101 h101 p101 => ?_) (fun _ _ q => q.elim)
            obtain ⟨rfl, qq101⟩ := p101; subst h101
            dsimp only [Option.toList, List.cons_append, List.nil_append]
            refine wi_icmp_gt hX (tgt := 136) dX12_truncate_104 (by decide) (by omega) (by omega) (fun c104 => ?_) (fun c104 => ?_)
            · skip
              refine wa_aload_n hX (i := 0) dX12_truncate_136 rfl rfl ?_
              refine wa_aload_n hX (i := 3) dX12_truncate_137 rfl rfl ?_
              refine WA.room (k2 := 0 + 1) (sl2 := 0 + 40) (by omega) (by omega) ?_
              refine wa_callV hX (c_X12_add hW d (e := E i) (rk := fun s => min (R i s) (R i (2 ^ E i - 1) - 1)) k2 kJ2 hm9 p2 q2 (fun s hs => hF s (by omega)) (hN i hi hr9)) (by assumption) (by rfl) (by rfl) (by omega) (nA := 1) (by rfl) (by decide +kernel) rfl (by exact Nat.le_of_ble_eq_true rfl) dX12_truncate_138 (fun r138 h138 p138 => ?_) (fun _ _ q => q.elim)
              obtain ⟨rfl, f9, kJ9⟩ := p138
              have k19 := f9 _ _ _ k2 (by omega)
              dsimp only [Option.toList, List.cons_append, List.nil_append]
              refine wa_iret hX dX12_truncate_141 ?_
              exact ⟨(((ff.mono (fun x hx => by omega)).trans (fS.mono (fun x hx => hx.elim))).trans (fF.mono (fun x hx => by omega))).trans (f9.mono (fun x hx => by omega)), Or.inr ⟨i, hi, rfl, Or.inr ⟨hr9, Or.inr ⟨hmne, rfl, row, brk, al, wk, us, kp, pt, k19, kJ9⟩⟩⟩⟩
            · skip
              refine wa_aload_n hX (i := 3) dX12_truncate_107 rfl rfl ?_
              refine wa_get hX 1 (by assumption) (by rfl) (by decide +kernel) dX12_truncate_108 ?_
              refine wa_iload hX dX12_truncate_111 rfl ?_
              refine wa_aload_n hX (i := 2) dX12_truncate_113 rfl rfl ?_
              refine wa_get hX 1 (by assumption) (by rfl) (by decide +kernel) dX12_truncate_114 ?_
              refine wa_iload hX dX12_truncate_117 rfl ?_
              refine wi_iaload hX (by assumption) (by omega) (by omega) (by omega) dX12_truncate_119 ?_
              have hrz := hMi.le10 (s := z) (by omega)
              rw [Int.toNat_natCast, g3 _ (by omega)]
              refine wa_aload_n hX (i := 2) dX12_truncate_120 rfl rfl ?_
              refine wa_callV hX (c_X11_rank hW d g1F g2F g3 he (fun s hs => hMi.le10 hs)) (by assumption) (by rfl) (by rfl) (by omega) (nA := 0) (by rfl) (by decide +kernel) rfl (by exact Nat.le_of_ble_eq_true rfl) dX12_truncate_121 (fun r121 h121 p121 => ?_) (fun _ _ q => q.elim)
              obtain ⟨rfl, qq121⟩ := p121; subst h121
              dsimp only [Option.toList, List.cons_append, List.nil_append]
              refine wi_iconst hX dX12_truncate_124 ?_
              refine wi_isub hX dX12_truncate_125 ?_
              refine wi_min hX (by decide +kernel) rfl (by exact Nat.le_of_ble_eq_true rfl) (by omega) (by omega) dX12_truncate_126 ?_
              rw [show min ((R i z : Nat) : Int) (((R i (2 ^ E i - 1) : Nat) : Int) - 1) = ((min (R i z) (R i (2 ^ E i - 1) - 1) : Nat) : Int) by omega]
              refine wi_iastore hX q2 (by omega) (by omega) (by omega) dX12_truncate_129 ?_
              rw [hset_hset, Int.toNat_natCast]
              refine wi_iinc hX dX12_truncate_130 rfl ?_
              dsimp only [List.set]
              refine wa_goto hX (tgt := 98) dX12_truncate_133 (by decide) ?_
              refine ih (z + 1, _) ⟨by show z + 1 ≤ _; omega, fill_step (spec := fun s => (((fun s => min (R i s) (R i (2 ^ E i - 1) - 1)) s : Nat) : Int)) hF⟩ (by show _ - (z + 1) < _; omega)
          · skip
            refine wi_iconst hX dX12_truncate_73 ?_
            refine wa_iret hX dX12_truncate_74 ?_
            have z := b2n_t c70
            rw [z, if_pos ⟨rfl, rfl⟩] at k1
            exact ⟨ff.mono (fun x hx => by omega), Or.inr ⟨i, hi, rfl, Or.inr ⟨hr9, Or.inl ⟨beq_iff_eq.mp z, ⟨_, rfl⟩, row, brk, al, wk, us, kp, pt, k1, kJ⟩⟩⟩⟩
        refine wa_callV hX (c_AL_size hW d ka) (by assumption) (by rfl) (by rfl) (by omega) (nA := 0) (by rfl) (by decide +kernel) rfl (by exact Nat.le_of_ble_eq_true rfl) dX12_truncate_53 (fun r53 h53 p53 => ?_) (fun _ _ q => q.elim)
        obtain ⟨rfl, qq53⟩ := p53; subst h53
        dsimp only [Option.toList, List.cons_append, List.nil_append]
        refine wi_bipush hX dX12_truncate_56 (by decide) ?_
        refine wi_icmp_ne hX (tgt := 65) dX12_truncate_58 (by decide) (by omega) (by omega) (fun c58 => ?_) (fun c58 => ?_)
        · skip
          refine wi_iconst hX dX12_truncate_65 ?_
          refine WA.eq rfl rfl ?_ t66
          first
            | (rw [show (m == 24) = true from beq_iff_eq.mpr (by omega)]; rfl)
            | (rw [show (m == 24) = false from beq_eq_false_iff_ne.mpr (by omega)]; rfl)
        · skip
          refine wi_iconst hX dX12_truncate_61 ?_
          refine wa_goto hX (tgt := 66) dX12_truncate_62 (by decide) ?_
          refine WA.eq rfl rfl ?_ t66
          first
            | (rw [show (m == 24) = true from beq_iff_eq.mpr (by omega)]; rfl)
            | (rw [show (m == 24) = false from beq_eq_false_iff_ne.mpr (by omega)]; rfl)
    refine wa_callV hX (c_AL_get hW d ka e3 (i := i) (q := P i) hi hN1 (by omega) (if_pos hi)) (by assumption) (by rfl) (by rfl) (by omega) (nA := 1) (by rfl) (by decide +kernel) rfl (by exact Nat.le_of_ble_eq_true rfl) dX12_truncate_24 (fun r24 h24 p24 => ?_) (fun _ _ q => q.elim)
    obtain ⟨rfl, qq24⟩ := p24; subst h24
    dsimp only [Option.toList, List.cons_append, List.nil_append]
    refine wa_ccast hX g1 (by rfl) (by decide +kernel) dX12_truncate_27 ?_
    refine wa_callV hX (c_X11_rank hW d g1 g2 g3 he (fun s hs => hMi.le10 hs)) (by assumption) (by rfl) (by rfl) (by omega) (nA := 0) (by rfl) (by decide +kernel) rfl (by exact Nat.le_of_ble_eq_true rfl) dX12_truncate_30 (fun r30 h30 p30 => ?_) (fun _ _ q => q.elim)
    obtain ⟨rfl, qq30⟩ := p30; subst h30
    dsimp only [Option.toList, List.cons_append, List.nil_append]
    refine wi_if_ne hX (tgt := 40) dX12_truncate_33 (by decide) (by omega) (fun c33 => ?_) (fun c33 => ?_)
    · skip
      refine wi_iconst hX dX12_truncate_40 ?_
      refine WA.eq rfl rfl ?_ t41
      first
        | (rw [show (R i (2 ^ E i - 1) == 0) = true from beq_iff_eq.mpr (by omega)]; rfl)
        | (rw [show (R i (2 ^ E i - 1) == 0) = false from beq_eq_false_iff_ne.mpr (by omega)]; rfl)
    · skip
      refine wi_iconst hX dX12_truncate_36 ?_
      refine wa_goto hX (tgt := 41) dX12_truncate_37 (by decide) ?_
      refine WA.eq rfl rfl ?_ t41
      first
        | (rw [show (R i (2 ^ E i - 1) == 0) = true from beq_iff_eq.mpr (by omega)]; rfl)
        | (rw [show (R i (2 ^ E i - 1) == 0) = false from beq_eq_false_iff_ne.mpr (by omega)]; rfl)
set_option maxHeartbeats 2000000 in
set_option maxRecDepth 100000 in
theorem c_X12_without (hW : WOK l D S0) (d : Nat) {h : AH} {a th : Nat} {c m : Nat} {w : Nat → Nat} {E : Nat → Nat} {R : Nat → Nat → Nat} {b0 b1 b2 : Int} (hI : RI (zA S0) DR h a th c w m E R b0 b1 b2) {n el : Int} {bb : Bool} (hn : inR n) (hl : inR el) (hN : ∀ i k, i < m → k < E i → Mtr (E i - 1) (fun s => witR (R i) k bb s)) {rmc rms : Nat} (hroom : ((∃ i k : Nat, i < m ∧ n = (i : Int) ∧ k < E i ∧ el = (k : Int)) ∧ m < 24) → 3 ≤ rmc ∧ 1100 ≤ rms) : MA l D S0 yX12_without cX12_without 8 (some .int) (d + 7) [.ref a, I n, I el, I ((b2n bb : Nat) : Int)] h rmc rms (fun r h' => Fr (fun x => 120 ≤ x ∧ x ≤ 134) h h' ∧ (((noM n m ∨ ∃ i, i < m ∧ n = (i : Int) ∧ ¬ (0 ≤ el ∧ el < ((E i : Nat) : Int))) ∧ (∃ z, r = some (I z)) ∧ RI (zA S0) DR h' a 1 c w m E R b0 b1 b2) ∨ ∃ i k : Nat, i < m ∧ n = (i : Int) ∧ k < E i ∧ el = (k : Int) ∧ ((m = 24 ∧ (∃ z, r = some (I z)) ∧ RI (zA S0) DR h' a 2 c w m E R b0 b1 b2) ∨ (m ≠ 24 ∧ r = some (I (m : Nat)) ∧ RI (zA S0) DR h' a 0 c w (m + 1) (up E m (E i - 1)) (up R m (fun s => witR (R i) k bb s)) b0 b1 b2)))) (fun _ _ => False) := by
  obtain ⟨row, brk, al, wk, us, kp, pt, k1, kJ⟩ := hI
  refine MA.start hW (by decide) [.val (.ref a), .val (I n), .val (I el), .val (I ((b2n bb : Nat) : Int)), .unset, .unset, .unset, .unset] rfl ?_
  rintro X rfl rfl rfl hX
  refine wa_aload_n hX (i := 0) dX12_without_0 rfl rfl ?_
  refine wi_iconst hX dX12_without_1 ?_
  refine wa_put hX 0 k1 (Nat.le_of_ble_eq_true rfl) (by decide +kernel) (by rfl) (by rfl) (by rfl) dX12_without_2 ?_
  refine WA.heap (h2 := hset h a (120, oMod ((0 : Nat) : Int) (c : Int) row brk al wk us kp pt)) rfl ?_
  refine WA.hgq (fun hA hh2 => ?_)
  have ff : Fr (fun x => x = 120) h hA := by rw [hh2]; exact Fr.hset Fr.rf k1 rfl
  replace k1 : hA a = some (120, oMod ((0 : Nat) : Int) (c : Int) row brk al wk us kp pt) := by rw [hh2]; exact hset_eq
  replace kJ := kJ.fr ff (fun x hx => by omega)
  clear hh2
  obtain ⟨⟨hc60, hw, hm24, hMt⟩, kr, kb, kwk, kus, kkp, kpt, ed, N, P, ka, ke, kI, kMat⟩ := id kJ
  refine wa_aload_n hX (i := 0) dX12_without_5 rfl rfl ?_
  refine wa_aload_n hX (i := 0) dX12_without_6 rfl rfl ?_
  refine wa_iload_n hX (i := 1) dX12_without_7 rfl rfl ?_
  refine wa_iload_n hX (i := 2) dX12_without_8 rfl rfl ?_
  have h4E : ∀ j, j < m → ∃ lp rq m2 m3 l2 l3, hA (P j) = some (lp, oRef (E j) rq m2 m3 l2 l3) := fun j hj => by
    obtain ⟨rq, m2, m3, l2, l3, G, g1, g2⟩ := kMat j hj
    exact ⟨130, rq, m2, m3, l2, l3, g1⟩
  refine wa_callV hX (c_X12_noElement hW d k1 ka (ke.imp (fun q => q.1) id) hm24 h4E (fun j hj => (hMt j hj).1) hn hl) (by assumption) (by rfl) (by rfl) (by omega) (nA := 2) (by rfl) (by decide +kernel) rfl (by exact Nat.le_of_ble_eq_true rfl) dX12_without_9 (fun r9 h9 p9 => ?_) (fun _ _ q => q.elim)
  obtain ⟨hq9, hz9⟩ := p9
  subst h9
  obtain ⟨NE, rfl, hNE⟩ : ∃ NE : Bool, r9 = some (I ((b2n NE : Nat) : Int)) ∧ ((NE = true ∧ noM n m) ∨ ∃ i, i < m ∧ n = (i : Int) ∧ NE = !decide (0 ≤ el ∧ el < ((E i : Nat) : Int))) := by
    rcases hz9 with ⟨z1, z2⟩ | ⟨i, hi, z1, z2⟩
    · exact ⟨true, z2, Or.inl ⟨rfl, z1⟩⟩
    · exact ⟨_, z2, Or.inr ⟨i, hi, z1, rfl⟩⟩
  clear hz9
  dsimp only [Option.toList, List.cons_append, List.nil_append]
  refine wi_iconst hX dX12_without_12 ?_
  refine wa_callV hX (c_X12_fails hW d (th := 0) (k := 1) (b := NE) k1 (by omega) (by omega)) (by assumption) (by rfl) (by rfl) (by omega) (nA := 2) (by rfl) (by decide +kernel) rfl (by exact Nat.le_of_ble_eq_true rfl) dX12_without_13 (fun r13 h13 p13 => ?_) (fun _ _ q => q.elim)
  obtain ⟨rfl, hh13⟩ := p13
  have f13 : Fr (fun x => x = 120) hA h13 := by rw [hh13]; exact Fr.hset Fr.rf k1 rfl
  replace k1 : h13 a = some (120, oMod ((if (NE) = true ∧ (0 : Nat) = 0 then 1 else 0 : Nat) : Int) (c : Int) row brk al wk us kp pt) := by rw [hh13]; exact hset_eq
  replace kJ := kJ.fr f13 (fun x hx => by omega)
  replace ff := ff.trans f13
  clear hh13 f13
  rw [show ((NE) || (0 : Nat) != 0) = (NE) from Bool.or_false _]
  clear kr kb kwk kus kkp kpt ka ke kI kMat hc60 hw hm24 hMt
  obtain ⟨⟨hc60, hw, hm24, hMt⟩, kr, kb, kwk, kus, kkp, kpt, ed, N, P, ka, ke, kI, kMat⟩ := id kJ
  dsimp only [Option.toList, List.cons_append, List.nil_append]
  refine wi_if_ne hX (tgt := 44) dX12_without_16 (by decide) (by exact b2n_inR _) (fun c16 => ?_) (fun c16 => ?_)
  · skip
    refine wi_iconst hX dX12_without_44 ?_
    refine wa_iret hX dX12_without_45 ?_
    have z := b2n_t c16
    rw [z, if_pos ⟨rfl, rfl⟩] at k1
    refine ⟨ff.mono (fun x hx => by omega), Or.inl ⟨?_, ⟨_, rfl⟩, row, brk, al, wk, us, kp, pt, k1, kJ⟩⟩
    rcases hNE with ⟨_, q⟩ | ⟨i, hi, q, q2⟩
    · exact Or.inl q
    · have q3 := q2.symm.trans z
      rw [Bool.not_eq_true', decide_eq_false_iff_not] at q3
      exact Or.inr ⟨i, hi, q, q3⟩
  · skip
    have hv16 := b2n_f c16
    rw [hv16, if_neg (fun z => Bool.false_ne_true z.1)] at k1
    obtain ⟨i, hi, rfl, hNE2⟩ : ∃ i, i < m ∧ n = (i : Int) ∧ NE = !decide (0 ≤ el ∧ el < ((E i : Nat) : Int)) := by
      rcases hNE with ⟨z, _⟩ | z
      · rw [z] at hv16; cases hv16
      · exact z
    rw [hNE2, Bool.not_eq_false', decide_eq_true_eq] at hv16
    obtain ⟨k, rfl⟩ := Int.eq_ofNat_of_zero_le hv16.1
    have hk : k < E i := by omega
    obtain ⟨e3, hN1, hN2⟩ : h13 ed = some (124, aR (.object "java/lang/Object") N (fun j => if j < m then some (P j) else none)) ∧ m ≤ N ∧ N ≤ 100 := by
      rcases ke with z | z
      · exfalso; omega
      · exact z
    obtain ⟨rq, m2, m3, l2, l3, G, g1, g2, g3, g4, g5⟩ := id (kMat i hi)
    have hMi := hMt i hi
    have he := hMi.1
    have hp := p2_le he
    have hp0 := p2_pos (E i)
    refine wa_aload_n hX (i := 0) dX12_without_19 rfl rfl ?_
    refine wa_aload_n hX (i := 0) dX12_without_20 rfl rfl ?_
    refine wa_get hX 4 (by assumption) (by rfl) (by decide +kernel) dX12_without_21 ?_
    have t37 : WA X h13 rmc rms 37 [.val (.ref a), .val (I (i : Int)), .val (I (k : Int)), .val (I ((b2n bb : Nat) : Int)), .unset, .unset, .unset, .unset] [I ((b2n (m == 24) : Nat) : Int), .ref a] := by
      refine wi_iconst hX dX12_without_37 ?_
      refine wa_callV hX (c_X12_fails hW d (th := 0) (k := 2) (b := (m == 24)) k1 (by omega) (by omega)) (by assumption) (by rfl) (by rfl) (by omega) (nA := 2) (by rfl) (by decide +kernel) rfl (by exact Nat.le_of_ble_eq_true rfl) dX12_without_38 (fun r38 h38 p38 => ?_) (fun _ _ q => q.elim)
      obtain ⟨rfl, hh38⟩ := p38
      have f38 : Fr (fun x => x = 120) h13 h38 := by rw [hh38]; exact Fr.hset Fr.rf k1 rfl
      replace k1 : h38 a = some (120, oMod ((if ((m == 24)) = true ∧ (0 : Nat) = 0 then 2 else 0 : Nat) : Int) (c : Int) row brk al wk us kp pt) := by rw [hh38]; exact hset_eq
      replace kJ := kJ.fr f38 (fun x hx => by omega)
      replace ff := ff.trans f38
      clear hh38 f38
      rw [show (((m == 24)) || (0 : Nat) != 0) = ((m == 24)) from Bool.or_false _]
      clear kr kb kwk kus kkp kpt ka ke kI kMat hc60 hw hm24 hMt
      obtain ⟨⟨hc60, hw, hm24, hMt⟩, kr, kb, kwk, kus, kkp, kpt, ed, N, P, ka, ke, kI, kMat⟩ := id kJ
      dsimp only [Option.toList, List.cons_append, List.nil_append]
      refine wi_if_eq hX (tgt := 46) dX12_without_41 (by decide) (by exact b2n_inR _) (fun c41 => ?_) (fun c41 => ?_)
      · skip
        have hv41 := b2n_f c41
        rw [hv41, if_neg (fun z => Bool.false_ne_true z.1)] at k1
        have hmne : m ≠ 24 := beq_eq_false_iff_ne.mp hv41
        have hm9 : m < 24 := by omega
        obtain ⟨e3, hN1, hN2⟩ : h38 ed = some (124, aR (.object "java/lang/Object") N (fun j => if j < m then some (P j) else none)) ∧ m ≤ N ∧ N ≤ 100 := by
          rcases ke with z | z
          · exfalso; omega
          · exact z
        obtain ⟨rq, m2, m3, l2, l3, G, g1, g2, g3, g4, g5⟩ := id (kMat i hi)
        have hMi := hMt i hi
        have he := hMi.1
        have hp := p2_le he
        have hp0 := p2_pos (E i)
        refine wa_aload_n hX (i := 0) dX12_without_46 rfl rfl ?_
        refine wa_get hX 4 (by assumption) (by rfl) (by decide +kernel) dX12_without_47 ?_
        refine wa_iload_n hX (i := 1) dX12_without_50 rfl rfl ?_
        refine wa_callV hX (c_AL_get hW d ka e3 (i := i) (q := P i) hi hN1 (by omega) (if_pos hi)) (by assumption) (by rfl) (by rfl) (by omega) (nA := 1) (by rfl) (by decide +kernel) rfl (by exact Nat.le_of_ble_eq_true rfl) dX12_without_51 (fun r51 h51 p51 => ?_) (fun _ _ q => q.elim)
        obtain ⟨rfl, qq51⟩ := p51; subst h51
        dsimp only [Option.toList, List.cons_append, List.nil_append]
        refine wa_ccast hX g1 (by rfl) (by decide +kernel) dX12_without_54 ?_
        refine wa_astore hX dX12_without_57 rfl ?_
        dsimp only [List.set]
        refine wa_aload hX dX12_without_59 rfl ?_
        refine wa_get hX 0 (by assumption) (by rfl) (by decide +kernel) dX12_without_61 ?_
        refine wi_iconst hX dX12_without_64 ?_
        refine wi_isub hX dX12_without_65 ?_
        rw [show ((E i : Nat) : Int) - 1 = ((E i - 1 : Nat) : Int) by omega]
        obtain ⟨hkk, hss⟩ := hroom ⟨⟨i, k, hi, rfl, hk, rfl⟩, hm9⟩
        refine WA.room (k2 := 1 + 2) (sl2 := 40 + 1030) (by omega) (by omega) ?_
        refine wa_callS hX (c_X12_sized hW d (e := E i - 1) (by omega)) (by rfl) (by omega) (nA := 1) (by rfl) (by decide +kernel) rfl (by exact Nat.le_of_ble_eq_true rfl) dX12_without_66 (fun r66 h66 p66 => ?_) (fun _ _ q => q.elim)
        obtain ⟨p, q, rfl, fS, p1, q1⟩ := p66
        have k1S := fS _ _ _ k1 id
        have kJS := kJ.fr fS (fun x hx => hx.elim)
        dsimp only [Option.toList, List.cons_append, List.nil_append]
        refine wa_astore hX dX12_without_69 rfl ?_
        dsimp only [List.set]
        have g1S := fS _ _ _ g1 id
        have g2S := fS _ _ _ g2 id
        have hbk : 2 ^ k < 2 ^ E i := bit_lt hk
        have hbk0 := p2_pos k
        have hrb := hMi.le10 hbk
        have t88 : ∀ less : Nat, less = (if bb = true then R i (2 ^ k) else 0) → less ≤ 10 → WA X h66 1 40 88 [.val (.ref a), .val (I (i : Int)), .val (I (k : Int)), .val (I ((b2n bb : Nat) : Int)), .val (.ref (P i)), .val (.ref p), .unset, .unset] [I (less : Int)] := by
          intro less hless hle10
          refine wa_istore hX dX12_without_88 rfl ?_
          dsimp only [List.set]
          refine wi_iconst hX dX12_without_90 ?_
          refine wa_istore hX dX12_without_91 rfl ?_
          dsimp only [List.set]
          have hpe : 2 ^ (E i - 1) ≤ 1024 := p2_le (by omega)
          have hpe0 := p2_pos (E i - 1)
          refine WA.heap (h2 := hset h66 q (134, aI .int 1024 (fun _ => 0))) (hset_self q1).symm ?_
          refine WA.loop (σ := Nat × (Nat → Int)) (fun z => 2 ^ (E i - 1) - z.1) (fun z => z.1 ≤ 2 ^ (E i - 1) ∧ ∀ s, s < z.1 → z.2 s = (((fun s => witR (R i) k bb s) s : Nat) : Int)) (fun z => hset h66 q (134, aI .int 1024 z.2)) (fun z => [.val (.ref a), .val (I (i : Int)), .val (I (k : Int)), .val (I ((b2n bb : Nat) : Int)), .val (.ref (P i)), .val (.ref p), .val (I (less : Nat)), .val (I (z.1 : Nat))]) ?_ (0, fun _ => 0) ⟨Nat.zero_le _, fun s hs => absurd hs (Nat.not_lt_zero s)⟩
          rintro ⟨z, F⟩ ⟨hz, hF⟩ ih
          dsimp only at hz hF ⊢
          have fF : Fr (fun x => x = 134) h66 (hset h66 q (134, aI .int 1024 F)) := Fr.hset Fr.rf q1 rfl
          have p2 := hset_lab (x := (134, aI .int 1024 F)) q1 p1 (by decide)
          have q2 : hset h66 q (134, aI .int 1024 F) q = some (134, aI .int 1024 F) := hset_eq
          have k2 := fF _ _ _ k1S (by decide)
          have kJ2 := kJS.fr fF (fun x hx => by omega)
          have g1F := fF _ _ _ (fS _ _ _ g1 id) (by decide)
          have g2F := fF _ _ _ (fS _ _ _ g2 id) (by decide)
          have hbz := bc_le z
          refine wa_iload hX dX12_without_93 rfl ?_
          refine wa_aload hX dX12_without_95 rfl ?_
          refine wa_callV hX (c_X11_full hW d p2 (by omega)) (by assumption) (by rfl) (by rfl) (by omega) (nA := 0) (by rfl) (by decide +kernel) rfl (by exact Nat.le_of_ble_eq_true rfl) dX12_without_97 (fun r97 h97 p97 => ?_) (fun _ _ q => q.elim)
          obtain ⟨rfl, qq97⟩ := p97; subst h97
          dsimp only [Option.toList, List.cons_append, List.nil_append]
          refine wi_icmp_gt hX (tgt := 133) dX12_without_100 (by decide) (by omega) (by omega) (fun c100 => ?_) (fun c100 => ?_)
          · skip
            refine wa_aload_n hX (i := 0) dX12_without_133 rfl rfl ?_
            refine wa_aload hX dX12_without_134 rfl ?_
            refine WA.room (k2 := 0 + 1) (sl2 := 0 + 40) (by omega) (by omega) ?_
            refine wa_callV hX (c_X12_add hW d (e := E i - 1) (rk := fun s => witR (R i) k bb s) k2 kJ2 hm9 p2 q2 (fun s hs => hF s (by omega)) (hN i k hi hk)) (by assumption) (by rfl) (by rfl) (by omega) (nA := 1) (by rfl) (by decide +kernel) rfl (by exact Nat.le_of_ble_eq_true rfl) dX12_without_136 (fun r136 h136 p136 => ?_) (fun _ _ q => q.elim)
            obtain ⟨rfl, f9, kJ9⟩ := p136
            have k19 := f9 _ _ _ k2 (by omega)
            dsimp only [Option.toList, List.cons_append, List.nil_append]
            refine wa_iret hX dX12_without_139 ?_
            exact ⟨(((ff.mono (fun x hx => by omega)).trans (fS.mono (fun x hx => hx.elim))).trans (fF.mono (fun x hx => by omega))).trans (f9.mono (fun x hx => by omega)), Or.inr ⟨i, k, hi, rfl, hk, rfl, Or.inr ⟨hmne, rfl, row, brk, al, wk, us, kp, pt, k19, kJ9⟩⟩⟩
          · skip
            refine wa_aload hX dX12_without_103 rfl ?_
            refine wa_get hX 1 (by assumption) (by rfl) (by decide +kernel) dX12_without_105 ?_
            refine wa_iload hX dX12_without_108 rfl ?_
            refine wa_aload hX dX12_without_110 rfl ?_
            refine wa_get hX 1 (by assumption) (by rfl) (by decide +kernel) dX12_without_112 ?_
            refine wa_iload hX dX12_without_115 rfl ?_
            refine wa_iload_n hX (i := 2) dX12_without_117 rfl rfl ?_
            refine wa_iload_n hX (i := 3) dX12_without_118 rfl rfl ?_
            have hsp := sprN_lt (b := bb) hk (s := z) (by omega)
            refine wa_callS hX (c_X12_spread hW d (el := k) (s := z) (b := bb) (by omega) (by omega)) (by rfl) (by omega) (nA := 3) (by rfl) (by decide +kernel) rfl (by exact Nat.le_of_ble_eq_true rfl) dX12_without_119 (fun r119 h119 p119 => ?_) (fun _ _ q => q.elim)
            obtain ⟨rfl, qq119⟩ := p119; subst h119
            dsimp only [Option.toList, List.cons_append, List.nil_append]
            refine wi_iaload hX (by assumption) (by omega) (by omega) (by omega) dX12_without_122 ?_
            rw [Int.toNat_natCast, g3 _ hsp]
            refine wa_iload hX dX12_without_123 rfl ?_
            refine wi_isub hX dX12_without_125 ?_
            have hle : less ≤ R i (sprN k z bb) := by
              rw [hless]
              cases bb
              · exact Nat.zero_le _
              · exact hMi.mono hsp sprN_sub
            rw [show ((R i (sprN k z bb) : Nat) : Int) - (less : Int) = ((witR (R i) k bb z : Nat) : Int) by
              unfold witR
              rw [← hless]
              omega]
            refine wi_iastore hX q2 (by omega) (by omega) (by omega) dX12_without_126 ?_
            rw [hset_hset, Int.toNat_natCast]
            refine wi_iinc hX dX12_without_127 rfl ?_
            dsimp only [List.set]
            refine wa_goto hX (tgt := 93) dX12_without_130 (by decide) ?_
            refine ih (z + 1, _) ⟨by show z + 1 ≤ _; omega, fill_step (spec := fun s => (((fun s => witR (R i) k bb s) s : Nat) : Int)) hF⟩ (by show _ - (z + 1) < _; omega)
        refine wa_iload_n hX (i := 3) dX12_without_71 rfl rfl ?_
        refine wi_if_eq hX (tgt := 87) dX12_without_72 (by decide) (by exact b2n_inR _) (fun c72 => ?_) (fun c72 => ?_)
        · skip
          refine wi_iconst hX dX12_without_87 ?_
          first
            | (have hb9 := b2n_f c72
               exact t88 0 (by rw [hb9]; rfl) (by omega))
            | (have hb9 := b2n_t c72
               exact t88 (R i (2 ^ k)) (by rw [hb9]; rfl) hrb)
        · skip
          refine wa_aload hX dX12_without_75 rfl ?_
          refine wa_get hX 1 (by assumption) (by rfl) (by decide +kernel) dX12_without_77 ?_
          refine wi_iconst hX dX12_without_80 ?_
          refine wa_iload_n hX (i := 2) dX12_without_81 rfl rfl ?_
          refine wn_shl1 hX dX12_without_82 (by rfl) (by omega) ?_
          refine wi_iaload hX (by assumption) (by omega) (by omega) (by omega) dX12_without_83 ?_
          have hb9 := b2n_t c72
          rw [Int.toNat_natCast, g3 _ hbk]
          refine wa_goto hX (tgt := 88) dX12_without_84 (by decide) ?_
          first
            | (have hb9 := b2n_f c72
               exact t88 0 (by rw [hb9]; rfl) (by omega))
            | (have hb9 := b2n_t c72
               exact t88 (R i (2 ^ k)) (by rw [hb9]; rfl) hrb)
      · skip
        refine wi_iconst hX dX12_without_44 ?_
        refine wa_iret hX dX12_without_45 ?_
        have z := b2n_t c41
        rw [z, if_pos ⟨rfl, rfl⟩] at k1
        exact ⟨ff.mono (fun x hx => by omega), Or.inr ⟨i, k, hi, rfl, hk, rfl, Or.inl ⟨beq_iff_eq.mp z, ⟨_, rfl⟩, row, brk, al, wk, us, kp, pt, k1, kJ⟩⟩⟩
    refine wa_callV hX (c_AL_size hW d ka) (by assumption) (by rfl) (by rfl) (by omega) (nA := 0) (by rfl) (by decide +kernel) rfl (by exact Nat.le_of_ble_eq_true rfl) dX12_without_24 (fun r24 h24 p24 => ?_) (fun _ _ q => q.elim)
    obtain ⟨rfl, qq24⟩ := p24; subst h24
    dsimp only [Option.toList, List.cons_append, List.nil_append]
    refine wi_bipush hX dX12_without_27 (by decide) ?_
    refine wi_icmp_ne hX (tgt := 36) dX12_without_29 (by decide) (by omega) (by omega) (fun c29 => ?_) (fun c29 => ?_)
    · skip
      refine wi_iconst hX dX12_without_36 ?_
      refine WA.eq rfl rfl ?_ t37
      first
        | (rw [show (m == 24) = true from beq_iff_eq.mpr (by omega)]; rfl)
        | (rw [show (m == 24) = false from beq_eq_false_iff_ne.mpr (by omega)]; rfl)
    · skip
      refine wi_iconst hX dX12_without_32 ?_
      refine wa_goto hX (tgt := 37) dX12_without_33 (by decide) ?_
      refine WA.eq rfl rfl ?_ t37
      first
        | (rw [show (m == 24) = true from beq_iff_eq.mpr (by omega)]; rfl)
        | (rw [show (m == 24) = false from beq_eq_false_iff_ne.mpr (by omega)]; rfl)
set_option maxHeartbeats 1000000 in
set_option maxRecDepth 100000 in
theorem c_X12_delete (hW : WOK l D S0) (d : Nat) {h : AH} {a th : Nat} {c m : Nat} {w : Nat → Nat} {E : Nat → Nat} {R : Nat → Nat → Nat} {b0 b1 b2 : Int} (hI : RI (zA S0) DR h a th c w m E R b0 b1 b2) {n el : Int} (hn : inR n) (hl : inR el) (hN : ∀ i k, i < m → k < E i → Mtr (E i - 1) (fun s => witR (R i) k false s)) {rmc rms : Nat} (hroom : ((∃ i k : Nat, i < m ∧ n = (i : Int) ∧ k < E i ∧ el = (k : Int)) ∧ m < 24) → 3 ≤ rmc ∧ 1100 ≤ rms) : MA l D S0 yX12_delete cX12_delete 3 (some .int) (d + 8) [.ref a, I n, I el] h rmc rms (fun r h' => Fr (fun x => 120 ≤ x ∧ x ≤ 134) h h' ∧ (((noM n m ∨ ∃ i, i < m ∧ n = (i : Int) ∧ ¬ (0 ≤ el ∧ el < ((E i : Nat) : Int))) ∧ (∃ z, r = some (I z)) ∧ RI (zA S0) DR h' a 1 c w m E R b0 b1 b2) ∨ ∃ i k : Nat, i < m ∧ n = (i : Int) ∧ k < E i ∧ el = (k : Int) ∧ ((m = 24 ∧ (∃ z, r = some (I z)) ∧ RI (zA S0) DR h' a 2 c w m E R b0 b1 b2) ∨ (m ≠ 24 ∧ r = some (I (m : Nat)) ∧ RI (zA S0) DR h' a 0 c w (m + 1) (up E m (E i - 1)) (up R m (fun s => witR (R i) k false s)) b0 b1 b2)))) (fun _ _ => False) := by
  obtain ⟨row9, brk9, al9, wk9, us9, kp9, pt9, k9, _⟩ := id hI
  refine MA.start hW (by decide) [.val (.ref a), .val (I n), .val (I el)] rfl ?_
  rintro X rfl rfl rfl hX
  refine wa_aload_n hX (i := 0) dX12_delete_0 rfl rfl ?_
  refine wa_iload_n hX (i := 1) dX12_delete_1 rfl rfl ?_
  refine wa_iload_n hX (i := 2) dX12_delete_2 rfl rfl ?_
  refine wi_iconst hX dX12_delete_3 ?_
  refine WA.eq (st2 := [I ((b2n false : Nat) : Int), I el, I n, .ref a]) rfl rfl rfl ?_
  refine WA.room (k2 := 0 + rmc) (sl2 := 0 + rms) (by omega) (by omega) ?_
  refine wa_callV hX (c_X12_without hW d (bb := false) hI hn hl hN hroom) (by assumption) (by rfl) (by rfl) (by omega) (nA := 3) (by rfl) (by decide +kernel) rfl (by exact Nat.le_of_ble_eq_true rfl) dX12_delete_4 (fun r4 h4 p4 => ?_) (fun _ _ q => q.elim)
  obtain ⟨f4, p4⟩ := p4
  obtain ⟨z4, rfl⟩ : ∃ z, r4 = some (I z) := by
    rcases p4 with ⟨_, q, _⟩ | ⟨i, k, _, _, _, _, ⟨_, q, _⟩ | ⟨_, q, _⟩⟩
    · exact q
    · exact q
    · exact ⟨_, q⟩
  dsimp only [Option.toList, List.cons_append, List.nil_append]
  refine wa_iret hX dX12_delete_7 ?_
  exact ⟨f4, p4⟩
set_option maxHeartbeats 1000000 in
set_option maxRecDepth 100000 in
theorem c_X12_contract (hW : WOK l D S0) (d : Nat) {h : AH} {a th : Nat} {c m : Nat} {w : Nat → Nat} {E : Nat → Nat} {R : Nat → Nat → Nat} {b0 b1 b2 : Int} (hI : RI (zA S0) DR h a th c w m E R b0 b1 b2) {n el : Int} (hn : inR n) (hl : inR el) (hN : ∀ i k, i < m → k < E i → Mtr (E i - 1) (fun s => witR (R i) k true s)) {rmc rms : Nat} (hroom : ((∃ i k : Nat, i < m ∧ n = (i : Int) ∧ k < E i ∧ el = (k : Int)) ∧ m < 24) → 3 ≤ rmc ∧ 1100 ≤ rms) : MA l D S0 yX12_contract cX12_contract 3 (some .int) (d + 8) [.ref a, I n, I el] h rmc rms (fun r h' => Fr (fun x => 120 ≤ x ∧ x ≤ 134) h h' ∧ (((noM n m ∨ ∃ i, i < m ∧ n = (i : Int) ∧ ¬ (0 ≤ el ∧ el < ((E i : Nat) : Int))) ∧ (∃ z, r = some (I z)) ∧ RI (zA S0) DR h' a 1 c w m E R b0 b1 b2) ∨ ∃ i k : Nat, i < m ∧ n = (i : Int) ∧ k < E i ∧ el = (k : Int) ∧ ((m = 24 ∧ (∃ z, r = some (I z)) ∧ RI (zA S0) DR h' a 2 c w m E R b0 b1 b2) ∨ (m ≠ 24 ∧ r = some (I (m : Nat)) ∧ RI (zA S0) DR h' a 0 c w (m + 1) (up E m (E i - 1)) (up R m (fun s => witR (R i) k true s)) b0 b1 b2)))) (fun _ _ => False) := by
  obtain ⟨row9, brk9, al9, wk9, us9, kp9, pt9, k9, _⟩ := id hI
  refine MA.start hW (by decide) [.val (.ref a), .val (I n), .val (I el)] rfl ?_
  rintro X rfl rfl rfl hX
  refine wa_aload_n hX (i := 0) dX12_contract_0 rfl rfl ?_
  refine wa_iload_n hX (i := 1) dX12_contract_1 rfl rfl ?_
  refine wa_iload_n hX (i := 2) dX12_contract_2 rfl rfl ?_
  refine wi_iconst hX dX12_contract_3 ?_
  refine WA.eq (st2 := [I ((b2n true : Nat) : Int), I el, I n, .ref a]) rfl rfl rfl ?_
  refine WA.room (k2 := 0 + rmc) (sl2 := 0 + rms) (by omega) (by omega) ?_
  refine wa_callV hX (c_X12_without hW d (bb := true) hI hn hl hN hroom) (by assumption) (by rfl) (by rfl) (by omega) (nA := 3) (by rfl) (by decide +kernel) rfl (by exact Nat.le_of_ble_eq_true rfl) dX12_contract_4 (fun r4 h4 p4 => ?_) (fun _ _ q => q.elim)
  obtain ⟨f4, p4⟩ := p4
  obtain ⟨z4, rfl⟩ : ∃ z, r4 = some (I z) := by
    rcases p4 with ⟨_, q, _⟩ | ⟨i, k, _, _, _, _, ⟨_, q, _⟩ | ⟨_, q, _⟩⟩
    · exact q
    · exact q
    · exact ⟨_, q⟩
  dsimp only [Option.toList, List.cons_append, List.nil_append]
  refine wa_iret hX dX12_contract_7 ?_
  exact ⟨f4, p4⟩
end C96
