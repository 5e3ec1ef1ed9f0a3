/-! The reference (X12): greedy, commonSet, commonBound -/
def grI (rk w : Nat → Nat) (q s0 : Nat) : Nat → Nat
  | 0 => s0
  | k + 1 => grI rk w q s0 k ||| (if (w k == q && frB rk (grI rk w q s0 k ||| 2 ^ k)) = true then 2 ^ k else 0)
def grO (rk w : Nat → Nat) (e : Nat) : Nat → Nat
  | 0 => 0
  | z + 1 => grI rk w (1023 - z) (grO rk w e z) e
theorem grI_lt {rk w : Nat → Nat} {e q s0 : Nat} (h0 : s0 < 2 ^ e) : ∀ k, k ≤ e → grI rk w q s0 k < 2 ^ e := by
  intro k
  induction k with
  | zero => intro _; exact h0
  | succ k ih =>
    intro hk
    have h1 := ih (by omega)
    unfold grI
    refine or_lt h1 ?_
    split
    · exact bit_lt (by omega)
    · exact p2_pos e
theorem grO_lt {rk w : Nat → Nat} {e : Nat} : ∀ z, grO rk w e z < 2 ^ e := by
  intro z
  induction z with
  | zero => exact p2_pos e
  | succ z ih => exact grI_lt ih e (Nat.le_refl e)
theorem mstN_some {r1 r2 : Nat → Nat} (h1 : r1 0 = 0) (h2 : r2 0 = 0) : ∀ n, 1 ≤ n → ∃ s, s < n ∧ frB r1 s = true ∧ frB r2 s = true ∧ bc s = mstN r1 r2 n := by
  intro n
  induction n with
  | zero => intro h; omega
  | succ n ih =>
    intro h
    have hst : mstN r1 r2 (n + 1) = if (frB r1 n && frB r2 n) = true then max (mstN r1 r2 n) (bc n) else mstN r1 r2 n := rfl
    by_cases g : n = 0
    · subst g
      have hb : bc 0 = 0 := by decide +kernel
      have f1 : frB r1 0 = true := beq_iff_eq.mpr (by omega)
      have f2 : frB r2 0 = true := beq_iff_eq.mpr (by omega)
      refine ⟨0, by omega, f1, f2, ?_⟩
      rw [hst, f1, f2, if_pos (show (true && true) = true from rfl), show mstN r1 r2 0 = 0 from rfl, hb]
      rfl
    · obtain ⟨s, s1, s2, s3, s4⟩ := ih (by omega)
      cases q : (frB r1 n && frB r2 n)
      · rw [q, if_neg Bool.false_ne_true] at hst
        exact ⟨s, by omega, s2, s3, by omega⟩
      · rw [q, if_pos rfl] at hst
        rw [Bool.and_eq_true] at q
        by_cases g2 : bc n ≤ mstN r1 r2 n
        · exact ⟨s, by omega, s2, s3, by omega⟩
        · exact ⟨n, by omega, q.1, q.2, by omega⟩
section C91
variable {l : Launch} {D : va_G} {S0 : State} {Z : Nat → Prop} {DR : (Nat → Nat) → Nat → Nat → Option (Nat → Nat) → Prop}
set_option maxHeartbeats 2000000 in
set_option maxRecDepth 100000 in
theorem c_X12_greedy (hW : WOK l D S0) (d : Nat) {h : AH} {a th : Nat} {c m : Nat} {w : Nat → Nat} {E : Nat → Nat} {R : Nat → Nat → Nat} {b0 b1 b2 : Int} (hI : RI Z DR h a th c w m E R b0 b1 b2) {n : Int} (hn : inR n) : MA l D S0 yX12_greedy cX12_greedy 6 (some .int) (d + 4) [.ref a, I n] h 0 0 (fun r h' => Fr (fun x => x = 120) h h' ∧ ((noM n m ∧ (∃ z, r = some (I z)) ∧ RI Z DR h' a 1 c w m E R b0 b1 b2) ∨ ∃ i, i < m ∧ n = (i : Int) ∧ ((c ≠ E i ∧ (∃ z, r = some (I z)) ∧ RI Z DR h' a 2 c w m E R b0 b1 b2) ∨ (c = E i ∧ r = some (I (grO (R i) w (E i) 1024 : Nat)) ∧ RI Z DR h' a 0 c w m E R b0 b1 b2)))) (fun _ _ => False) := by
  obtain ⟨row, brk, al, wk, us, kp, pt, k1, kJ⟩ := hI
  refine MA.start hW (by decide) [.val (.ref a), .val (I n), .unset, .unset, .unset, .unset] rfl ?_
  rintro X rfl rfl rfl hX
  refine wa_aload_n hX (i := 0) dX12_greedy_0 rfl rfl ?_
  refine wi_iconst hX dX12_greedy_1 ?_
  refine wa_put hX 0 k1 (Nat.le_of_ble_eq_true rfl) (by decide +kernel) (by rfl) (by rfl) (by rfl) dX12_greedy_2 ?_
  refine WA.heap (h2 := hset h a (120, oMod ((0 : Nat) : Int) (c : Int) row brk al wk us kp pt)) rfl ?_
  refine WA.hgq (fun hA hh2 => ?_)
  have ff : Fr (fun x => x = 120) h hA := by rw [hh2]; exact Fr.hset Fr.rf k1 rfl
  replace k1 : hA a = some (120, oMod ((0 : Nat) : Int) (c : Int) row brk al wk us kp pt) := by rw [hh2]; exact hset_eq
  replace kJ := kJ.fr ff (fun x hx => by omega)
  clear hh2
  obtain ⟨⟨hc60, hw, hm24, hMt⟩, kr, kb, kwk, kus, kkp, kpt, ed, N, P, ka, ke, kI, kMat⟩ := id kJ
  refine wa_aload_n hX (i := 0) dX12_greedy_5 rfl rfl ?_
  refine wa_aload_n hX (i := 0) dX12_greedy_6 rfl rfl ?_
  refine wa_iload_n hX (i := 1) dX12_greedy_7 rfl rfl ?_
  refine wa_callV hX (c_X12_no hW (d + 1) k1 ka hm24 hn) (by assumption) (by rfl) (by rfl) (by omega) (nA := 1) (by rfl) (by decide +kernel) rfl (by exact Nat.le_of_ble_eq_true rfl) dX12_greedy_8 (fun r8 h8 p8 => ?_) (fun _ _ q => q.elim)
  obtain ⟨rfl, qq8⟩ := p8; subst h8
  dsimp only [Option.toList, List.cons_append, List.nil_append]
  refine wi_iconst hX dX12_greedy_11 ?_
  refine wa_callV hX (c_X12_fails hW d (th := 0) (k := 1) (b := (!decide (0 ≤ n ∧ n < (m : Int)))) k1 (by omega) (by omega)) (by assumption) (by rfl) (by rfl) (by omega) (nA := 2) (by rfl) (by decide +kernel) rfl (by exact Nat.le_of_ble_eq_true rfl) dX12_greedy_12 (fun r12 h12 p12 => ?_) (fun _ _ q => q.elim)
  obtain ⟨rfl, hh12⟩ := p12
  have f12 : Fr (fun x => x = 120) hA h12 := by rw [hh12]; exact Fr.hset Fr.rf k1 rfl
  replace k1 : h12 a = some (120, oMod ((if ((!decide (0 ≤ n ∧ n < (m : Int)))) = true ∧ (0 : Nat) = 0 then 1 else 0 : Nat) : Int) (c : Int) row brk al wk us kp pt) := by rw [hh12]; exact hset_eq
  replace kJ := kJ.fr f12 (fun x hx => by omega)
  replace ff := ff.trans f12
  clear hh12 f12
  rw [show (((!decide (0 ≤ n ∧ n < (m : Int)))) || (0 : Nat) != 0) = ((!decide (0 ≤ n ∧ n < (m : Int)))) from Bool.or_false _]
  clear kr kb kwk kus kkp kpt ka ke kI kMat hc60 hw hm24 hMt
  obtain ⟨⟨hc60, hw, hm24, hMt⟩, kr, kb, kwk, kus, kkp, kpt, ed, N, P, ka, ke, kI, kMat⟩ := id kJ
  dsimp only [Option.toList, List.cons_append, List.nil_append]
  refine wi_if_ne hX (tgt := 52) dX12_greedy_15 (by decide) (by exact b2n_inR _) (fun c15 => ?_) (fun c15 => ?_)
  · skip
    refine wi_iconst hX dX12_greedy_52 ?_
    refine wa_iret hX dX12_greedy_53 ?_
    have z := b2n_t c15
    rw [z, if_pos ⟨rfl, rfl⟩] at k1
    rw [Bool.not_eq_true', decide_eq_false_iff_not] at z
    exact ⟨ff, Or.inl ⟨z, ⟨_, rfl⟩, row, brk, al, wk, us, kp, pt, k1, kJ⟩⟩
  · skip
    have hv := b2n_f c15
    rw [hv, if_neg (fun z => Bool.false_ne_true z.1)] at k1
    rw [Bool.not_eq_false', decide_eq_true_eq] at hv
    obtain ⟨i, rfl⟩ := Int.eq_ofNat_of_zero_le hv.1
    have hi : i < m := by omega
    obtain ⟨e3, hN1, hN2⟩ : h12 ed = some (124, aR (.object "java/lang/Object") N (fun j => if j < m then some (P j) else none)) ∧ m ≤ N ∧ N ≤ 100 := by
      rcases ke with z | z
      · exfalso; omega
      · exact z
    obtain ⟨rq, m2, m3, l2, l3, G, g1, g2, g3, g4, g5⟩ := id (kMat i hi)
    have hMi := hMt i hi
    have he := hMi.1
    have hp := p2_le he
    have hp0 := p2_pos (E i)
    refine wa_aload_n hX (i := 0) dX12_greedy_18 rfl rfl ?_
    refine wa_aload_n hX (i := 0) dX12_greedy_19 rfl rfl ?_
    refine wa_get hX 1 (by assumption) (by rfl) (by decide +kernel) dX12_greedy_20 ?_
    refine wa_aload_n hX (i := 0) dX12_greedy_23 rfl rfl ?_
    refine wa_get hX 4 (by assumption) (by rfl) (by decide +kernel) dX12_greedy_24 ?_
    refine wa_iload_n hX (i := 1) dX12_greedy_27 rfl rfl ?_
    refine wa_callV hX (c_AL_get hW d ka e3 (i := i) (q := P i) hi hN1 (by omega) (if_pos hi)) (by assumption) (by rfl) (by rfl) (by omega) (nA := 1) (by rfl) (by decide +kernel) rfl (by exact Nat.le_of_ble_eq_true rfl) dX12_greedy_28 (fun r28 h28 p28 => ?_) (fun _ _ q => q.elim)
    obtain ⟨rfl, qq28⟩ := p28; subst h28
    dsimp only [Option.toList, List.cons_append, List.nil_append]
    refine wa_ccast hX g1 (by rfl) (by decide +kernel) dX12_greedy_31 ?_
    refine wa_get hX 0 (by assumption) (by rfl) (by decide +kernel) dX12_greedy_34 ?_
    refine wi_icmp_eq hX (tgt := 44) dX12_greedy_37 (by decide) (by omega) (by omega) (fun c37 => ?_) (fun c37 => ?_)
    · skip
      refine wi_iconst hX dX12_greedy_44 ?_
      refine WA.eq (pc2 := 45) (st2 := [I ((b2n (c != E i) : Nat) : Int), .ref a]) rfl rfl (by
        first
          | (rw [show (c != E i) = true from bne_iff_ne.mpr (by omega)]; rfl)
          | (rw [show (c != E i) = false from bne_eq_false_iff_eq.mpr (by omega)]; rfl)) ?_
      clear c37
      refine wi_iconst hX dX12_greedy_45 ?_
      refine wa_callV hX (c_X12_fails hW d (th := 0) (k := 2) (b := (c != E i)) k1 (by omega) (by omega)) (by assumption) (by rfl) (by rfl) (by omega) (nA := 2) (by rfl) (by decide +kernel) rfl (by exact Nat.le_of_ble_eq_true rfl) dX12_greedy_46 (fun r46 h46 p46 => ?_) (fun _ _ q => q.elim)
      obtain ⟨rfl, hh46⟩ := p46
      have f46 : Fr (fun x => x = 120) h12 h46 := by rw [hh46]; exact Fr.hset Fr.rf k1 rfl
      replace k1 : h46 a = some (120, oMod ((if ((c != E i)) = true ∧ (0 : Nat) = 0 then 2 else 0 : Nat) : Int) (c : Int) row brk al wk us kp pt) := by rw [hh46]; exact hset_eq
      replace kJ := kJ.fr f46 (fun x hx => by omega)
      replace ff := ff.trans f46
      clear hh46 f46
      rw [show (((c != E i)) || (0 : Nat) != 0) = ((c != E i)) from Bool.or_false _]
      clear kr kb kwk kus kkp kpt ka ke kI kMat hc60 hw hm24 hMt
      obtain ⟨⟨hc60, hw, hm24, hMt⟩, kr, kb, kwk, kus, kkp, kpt, ed, N, P, ka, ke, kI, kMat⟩ := id kJ
      dsimp only [Option.toList, List.cons_append, List.nil_append]
      refine wi_if_eq hX (tgt := 54) dX12_greedy_49 (by decide) (by exact b2n_inR _) (fun c49 => ?_) (fun c49 => ?_)
      · skip
        have hv49 := b2n_f c49
        rw [hv49, if_neg (fun z => Bool.false_ne_true z.1)] at k1
        rw [bne_eq_false_iff_eq] at hv49
        obtain ⟨e3, hN1, hN2⟩ : h46 ed = some (124, aR (.object "java/lang/Object") N (fun j => if j < m then some (P j) else none)) ∧ m ≤ N ∧ N ≤ 100 := by
          rcases ke with z | z
          · exfalso; omega
          · exact z
        obtain ⟨rq, m2, m3, l2, l3, G, g1, g2, g3, g4, g5⟩ := id (kMat i hi)
        have hMi := hMt i hi
        have he := hMi.1
        have hp := p2_le he
        have hp0 := p2_pos (E i)
        refine wa_aload_n hX (i := 0) dX12_greedy_54 rfl rfl ?_
        refine wa_get hX 4 (by assumption) (by rfl) (by decide +kernel) dX12_greedy_55 ?_
        refine wa_iload_n hX (i := 1) dX12_greedy_58 rfl rfl ?_
        refine wa_callV hX (c_AL_get hW d ka e3 (i := i) (q := P i) hi hN1 (by omega) (if_pos hi)) (by assumption) (by rfl) (by rfl) (by omega) (nA := 1) (by rfl) (by decide +kernel) rfl (by exact Nat.le_of_ble_eq_true rfl) dX12_greedy_59 (fun r59 h59 p59 => ?_) (fun _ _ q => q.elim)
        obtain ⟨rfl, qq59⟩ := p59; subst h59
        dsimp only [Option.toList, List.cons_append, List.nil_append]
        refine wa_ccast hX g1 (by rfl) (by decide +kernel) dX12_greedy_62 ?_
        refine wa_astore_n hX (i := 2) dX12_greedy_65 rfl (by first | rfl | assumption) ?_
        dsimp only [List.set]
        refine wi_iconst hX dX12_greedy_66 ?_
        refine wa_istore_n hX (i := 3) dX12_greedy_67 rfl (by first | rfl | assumption) ?_
        dsimp only [List.set]
        refine wi_sipush hX dX12_greedy_68 (by decide) ?_
        refine wa_istore hX dX12_greedy_71 (by first | rfl | assumption) ?_
        dsimp only [List.set]
        refine WA.loop (σ := Nat × Slot) (fun z => 1024 - z.1) (fun z => z.1 ≤ 1024 ∧ okS [z.2] 0 = true) (fun _ => h46) (fun z => [.val (.ref a), .val (I (i : Int)), .val (.ref (P i)), .val (I (grO (R i) w (E i) z.1 : Nat)), .val (I (1023 - (z.1 : Int))), z.2]) ?_ (0, .unset) ⟨Nat.zero_le _, rfl⟩
        rintro ⟨z, u5⟩ ⟨hz, hu5⟩ ih
        dsimp only at hz hu5 ⊢
        have hgo := grO_lt (rk := R i) (w := w) (e := E i) z
        refine wa_iload hX dX12_greedy_73 rfl ?_
        refine wi_if_lt hX (tgt := 138) dX12_greedy_75 (by decide) (by omega) (fun c75 => ?_) (fun c75 => ?_)
        · skip
          refine wa_iload_n hX (i := 3) dX12_greedy_138 rfl rfl ?_
          refine wa_iret hX dX12_greedy_139 ?_
          exact ⟨ff, Or.inr ⟨i, hi, rfl, Or.inr ⟨hv49, by rw [show z = 1024 by omega], row, brk, al, wk, us, kp, pt, k1, kJ⟩⟩⟩
        · skip
          refine wi_iconst hX dX12_greedy_78 ?_
          refine wa_istore hX dX12_greedy_79 (by first | rfl | assumption) ?_
          dsimp only [List.set]
          refine WA.loop (σ := Nat) (fun k => E i - k) (fun k => k ≤ E i) (fun _ => h46) (fun k => [.val (.ref a), .val (I (i : Int)), .val (.ref (P i)), .val (I (grI (R i) w (1023 - z) (grO (R i) w (E i) z) k : Nat)), .val (I (1023 - (z : Int))), .val (I (k : Nat))]) ?_ 0 (Nat.zero_le _)
          intro k hk ih2
          have hgk := grI_lt (rk := R i) (w := w) (q := 1023 - z) hgo k hk
          have hst : grI (R i) w (1023 - z) (grO (R i) w (E i) z) (k + 1) = grI (R i) w (1023 - z) (grO (R i) w (E i) z) k ||| (if (w k == 1023 - z && frB (R i) (grI (R i) w (1023 - z) (grO (R i) w (E i) z) k ||| 2 ^ k)) = true then 2 ^ k else 0) := rfl
          have hwk := hw k
          generalize hgg : grI (R i) w (1023 - z) (grO (R i) w (E i) z) k = gk at hgk hst ⊢
          have t124 : k < E i → ∀ v, v < 2 ^ E i → grI (R i) w (1023 - z) (grO (R i) w (E i) z) (k + 1) = gk ||| v → WA X h46 0 0 124 [.val (.ref a), .val (I (i : Int)), .val (.ref (P i)), .val (I (gk : Nat)), .val (I (1023 - (z : Int))), .val (I (k : Nat))] [I ((v : Nat) : Int), I ((gk : Nat) : Int)] := by
            intro hkl v hvl hv
            have hol := or_lt hgk hvl
            refine wn_ior hX dX12_greedy_124 (by rfl) (by rfl) ?_
            refine wa_istore_n hX (i := 3) dX12_greedy_125 rfl (by first | rfl | assumption) ?_
            dsimp only [List.set]
            refine wi_iinc hX dX12_greedy_126 rfl ?_
            dsimp only [List.set]
            refine wa_goto hX (tgt := 81) dX12_greedy_129 (by decide) ?_
            refine WA.eq rfl ?_ rfl (ih2 (k + 1) (by omega) (by omega)); rw [hv]; rfl
          refine wa_iload hX dX12_greedy_81 rfl ?_
          refine wa_aload_n hX (i := 2) dX12_greedy_83 rfl rfl ?_
          refine wa_get hX 0 (by assumption) (by rfl) (by decide +kernel) dX12_greedy_84 ?_
          refine wi_icmp_ge hX (tgt := 132) dX12_greedy_87 (by decide) (by omega) (by omega) (fun c87 => ?_) (fun c87 => ?_)
          · skip
            refine wi_iinc hX dX12_greedy_132 rfl ?_
            dsimp only [List.set]
            refine wa_goto hX (tgt := 73) dX12_greedy_135 (by decide) ?_
            have hke : k = E i := by omega
            refine WA.eq rfl ?_ rfl (ih (z + 1, .val (I (k : Nat))) ⟨by show z + 1 ≤ 1024; omega, rfl⟩ (by show 1024 - (z + 1) < 1024 - z; omega))
            dsimp only
            rw [show grO (R i) w (E i) (z + 1) = grI (R i) w (1023 - z) (grO (R i) w (E i) z) (E i) from rfl, ← hgg, hke, show (1023 - ((z + 1 : Nat) : Int)) = 1023 - (z : Int) - 1 by omega]
            rfl
          · skip
            refine wa_iload_n hX (i := 3) dX12_greedy_90 rfl rfl ?_
            refine wa_aload_n hX (i := 0) dX12_greedy_91 rfl rfl ?_
            refine wa_get hX 2 (by assumption) (by rfl) (by decide +kernel) dX12_greedy_92 ?_
            refine wa_iload hX dX12_greedy_95 rfl ?_
            refine wi_iaload hX (by assumption) (by omega) (by omega) (by omega) dX12_greedy_97 ?_
            rw [Int.toNat_natCast]
            refine wa_iload hX dX12_greedy_98 rfl ?_
            refine wi_icmp_ne hX (tgt := 123) dX12_greedy_100 (by decide) (by omega) (by omega) (fun c100 => ?_) (fun c100 => ?_)
            · skip
              refine wi_iconst hX dX12_greedy_123 ?_
              first
                | (have q1 := b2n_t c113
                   refine t124 (by omega) (2 ^ k) hbk ?_
                   rw [hst, if_pos]
                   rw [q1, show (w k == 1023 - z) = true from beq_iff_eq.mpr (by omega)]
                   rfl)
                | (have q1 := b2n_f c113
                   refine t124 (by omega) 0 hp0 ?_
                   rw [hst, if_neg]
                   rw [q1, Bool.and_false]
                   exact Bool.false_ne_true)
                | (refine t124 (by omega) 0 hp0 ?_
                   rw [hst, if_neg]
                   rw [show (w k == 1023 - z) = false from beq_eq_false_iff_ne.mpr (by omega), Bool.false_and]
                   exact Bool.false_ne_true)
            · skip
              have hbk : 2 ^ k < 2 ^ E i := bit_lt (by omega)
              have hol := or_lt hgk hbk
              refine wa_aload_n hX (i := 2) dX12_greedy_103 rfl rfl ?_
              refine wa_iload_n hX (i := 3) dX12_greedy_104 rfl rfl ?_
              refine wi_iconst hX dX12_greedy_105 ?_
              refine wa_iload hX dX12_greedy_106 rfl ?_
              refine wn_shl1 hX dX12_greedy_108 (by rfl) (by omega) ?_
              refine wn_ior hX dX12_greedy_109 (by rfl) (by rfl) ?_
              refine wa_callV hX (c_X11_isFree hW d g1 g2 g3 he (fun s hs => hMi.le10 hs) (s := gk ||| 2 ^ k) hol) (by assumption) (by rfl) (by rfl) (by omega) (nA := 1) (by rfl) (by decide +kernel) rfl (by exact Nat.le_of_ble_eq_true rfl) dX12_greedy_110 (fun r110 h110 p110 => ?_) (fun _ _ q => q.elim)
              obtain ⟨rfl, qq110⟩ := p110; subst h110
              dsimp only [Option.toList, List.cons_append, List.nil_append]
              refine wi_if_eq hX (tgt := 123) dX12_greedy_113 (by decide) (by exact b2n_inR _) (fun c113 => ?_) (fun c113 => ?_)
              · skip
                refine wi_iconst hX dX12_greedy_123 ?_
                first
                  | (have q1 := b2n_t c113
                     refine t124 (by omega) (2 ^ k) hbk ?_
                     rw [hst, if_pos]
                     rw [q1, show (w k == 1023 - z) = true from beq_iff_eq.mpr (by omega)]
                     rfl)
                  | (have q1 := b2n_f c113
                     refine t124 (by omega) 0 hp0 ?_
                     rw [hst, if_neg]
                     rw [q1, Bool.and_false]
                     exact Bool.false_ne_true)
                  | (refine t124 (by omega) 0 hp0 ?_
                     rw [hst, if_neg]
                     rw [show (w k == 1023 - z) = false from beq_eq_false_iff_ne.mpr (by omega), Bool.false_and]
                     exact Bool.false_ne_true)
              · skip
                refine wi_iconst hX dX12_greedy_116 ?_
                refine wa_iload hX dX12_greedy_117 rfl ?_
                refine wn_shl1 hX dX12_greedy_119 (by rfl) (by omega) ?_
                refine wa_goto hX (tgt := 124) dX12_greedy_120 (by decide) ?_
                first
                  | (have q1 := b2n_t c113
                     refine t124 (by omega) (2 ^ k) hbk ?_
                     rw [hst, if_pos]
                     rw [q1, show (w k == 1023 - z) = true from beq_iff_eq.mpr (by omega)]
                     rfl)
                  | (have q1 := b2n_f c113
                     refine t124 (by omega) 0 hp0 ?_
                     rw [hst, if_neg]
                     rw [q1, Bool.and_false]
                     exact Bool.false_ne_true)
                  | (refine t124 (by omega) 0 hp0 ?_
                     rw [hst, if_neg]
                     rw [show (w k == 1023 - z) = false from beq_eq_false_iff_ne.mpr (by omega), Bool.false_and]
                     exact Bool.false_ne_true)
      · skip
        refine wi_iconst hX dX12_greedy_52 ?_
        refine wa_iret hX dX12_greedy_53 ?_
        have z := b2n_t c49
        rw [z, if_pos ⟨rfl, rfl⟩] at k1
        exact ⟨ff, Or.inr ⟨i, hi, rfl, Or.inl ⟨bne_iff_ne.mp z, ⟨_, rfl⟩, row, brk, al, wk, us, kp, pt, k1, kJ⟩⟩⟩
    · skip
      refine wi_iconst hX dX12_greedy_40 ?_
      refine wa_goto hX (tgt := 45) dX12_greedy_41 (by decide) ?_
      refine WA.eq (pc2 := 45) (st2 := [I ((b2n (c != E i) : Nat) : Int), .ref a]) rfl rfl (by
        first
          | (rw [show (c != E i) = true from bne_iff_ne.mpr (by omega)]; rfl)
          | (rw [show (c != E i) = false from bne_eq_false_iff_eq.mpr (by omega)]; rfl)) ?_
      clear c37
      refine wi_iconst hX dX12_greedy_45 ?_
      refine wa_callV hX (c_X12_fails hW d (th := 0) (k := 2) (b := (c != E i)) k1 (by omega) (by omega)) (by assumption) (by rfl) (by rfl) (by omega) (nA := 2) (by rfl) (by decide +kernel) rfl (by exact Nat.le_of_ble_eq_true rfl) dX12_greedy_46 (fun r46 h46 p46 => ?_) (fun _ _ q => q.elim)
      obtain ⟨rfl, hh46⟩ := p46
      have f46 : Fr (fun x => x = 120) h12 h46 := by rw [hh46]; exact Fr.hset Fr.rf k1 rfl
      replace k1 : h46 a = some (120, oMod ((if ((c != E i)) = true ∧ (0 : Nat) = 0 then 2 else 0 : Nat) : Int) (c : Int) row brk al wk us kp pt) := by rw [hh46]; exact hset_eq
      replace kJ := kJ.fr f46 (fun x hx => by omega)
      replace ff := ff.trans f46
      clear hh46 f46
      rw [show (((c != E i)) || (0 : Nat) != 0) = ((c != E i)) from Bool.or_false _]
      clear kr kb kwk kus kkp kpt ka ke kI kMat hc60 hw hm24 hMt
      obtain ⟨⟨hc60, hw, hm24, hMt⟩, kr, kb, kwk, kus, kkp, kpt, ed, N, P, ka, ke, kI, kMat⟩ := id kJ
      dsimp only [Option.toList, List.cons_append, List.nil_append]
      refine wi_if_eq hX (tgt := 54) dX12_greedy_49 (by decide) (by exact b2n_inR _) (fun c49 => ?_) (fun c49 => ?_)
      · skip
        have hv49 := b2n_f c49
        rw [hv49, if_neg (fun z => Bool.false_ne_true z.1)] at k1
        rw [bne_eq_false_iff_eq] at hv49
        obtain ⟨e3, hN1, hN2⟩ : h46 ed = some (124, aR (.object "java/lang/Object") N (fun j => if j < m then some (P j) else none)) ∧ m ≤ N ∧ N ≤ 100 := by
          rcases ke with z | z
          · exfalso; omega
          · exact z
        obtain ⟨rq, m2, m3, l2, l3, G, g1, g2, g3, g4, g5⟩ := id (kMat i hi)
        have hMi := hMt i hi
        have he := hMi.1
        have hp := p2_le he
        have hp0 := p2_pos (E i)
        refine wa_aload_n hX (i := 0) dX12_greedy_54 rfl rfl ?_
        refine wa_get hX 4 (by assumption) (by rfl) (by decide +kernel) dX12_greedy_55 ?_
        refine wa_iload_n hX (i := 1) dX12_greedy_58 rfl rfl ?_
        refine wa_callV hX (c_AL_get hW d ka e3 (i := i) (q := P i) hi hN1 (by omega) (if_pos hi)) (by assumption) (by rfl) (by rfl) (by omega) (nA := 1) (by rfl) (by decide +kernel) rfl (by exact Nat.le_of_ble_eq_true rfl) dX12_greedy_59 (fun r59 h59 p59 => ?_) (fun _ _ q => q.elim)
        obtain ⟨rfl, qq59⟩ := p59; subst h59
        dsimp only [Option.toList, List.cons_append, List.nil_append]
        refine wa_ccast hX g1 (by rfl) (by decide +kernel) dX12_greedy_62 ?_
        refine wa_astore_n hX (i := 2) dX12_greedy_65 rfl (by first | rfl | assumption) ?_
        dsimp only [List.set]
        refine wi_iconst hX dX12_greedy_66 ?_
        refine wa_istore_n hX (i := 3) dX12_greedy_67 rfl (by first | rfl | assumption) ?_
        dsimp only [List.set]
        refine wi_sipush hX dX12_greedy_68 (by decide) ?_
        refine wa_istore hX dX12_greedy_71 (by first | rfl | assumption) ?_
        dsimp only [List.set]
        refine WA.loop (σ := Nat × Slot) (fun z => 1024 - z.1) (fun z => z.1 ≤ 1024 ∧ okS [z.2] 0 = true) (fun _ => h46) (fun z => [.val (.ref a), .val (I (i : Int)), .val (.ref (P i)), .val (I (grO (R i) w (E i) z.1 : Nat)), .val (I (1023 - (z.1 : Int))), z.2]) ?_ (0, .unset) ⟨Nat.zero_le _, rfl⟩
        rintro ⟨z, u5⟩ ⟨hz, hu5⟩ ih
        dsimp only at hz hu5 ⊢
        have hgo := grO_lt (rk := R i) (w := w) (e := E i) z
        refine wa_iload hX dX12_greedy_73 rfl ?_
        refine wi_if_lt hX (tgt := 138) dX12_greedy_75 (by decide) (by omega) (fun c75 => ?_) (fun c75 => ?_)
        · skip
          refine wa_iload_n hX (i := 3) dX12_greedy_138 rfl rfl ?_
          refine wa_iret hX dX12_greedy_139 ?_
          exact ⟨ff, Or.inr ⟨i, hi, rfl, Or.inr ⟨hv49, by rw [show z = 1024 by omega], row, brk, al, wk, us, kp, pt, k1, kJ⟩⟩⟩
        · skip
          refine wi_iconst hX dX12_greedy_78 ?_
          refine wa_istore hX dX12_greedy_79 (by first | rfl | assumption) ?_
          dsimp only [List.set]
          refine WA.loop (σ := Nat) (fun k => E i - k) (fun k => k ≤ E i) (fun _ => h46) (fun k => [.val (.ref a), .val (I (i : Int)), .val (.ref (P i)), .val (I (grI (R i) w (1023 - z) (grO (R i) w (E i) z) k : Nat)), .val (I (1023 - (z : Int))), .val (I (k : Nat))]) ?_ 0 (Nat.zero_le _)
          intro k hk ih2
          have hgk := grI_lt (rk := R i) (w := w) (q := 1023 - z) hgo k hk
          have hst : grI (R i) w (1023 - z) (grO (R i) w (E i) z) (k + 1) = grI (R i) w (1023 - z) (grO (R i) w (E i) z) k ||| (if (w k == 1023 - z && frB (R i) (grI (R i) w (1023 - z) (grO (R i) w (E i) z) k ||| 2 ^ k)) = true then 2 ^ k else 0) := rfl
          have hwk := hw k
          generalize hgg : grI (R i) w (1023 - z) (grO (R i) w (E i) z) k = gk at hgk hst ⊢
          have t124 : k < E i → ∀ v, v < 2 ^ E i → grI (R i) w (1023 - z) (grO (R i) w (E i) z) (k + 1) = gk ||| v → WA X h46 0 0 124 [.val (.ref a), .val (I (i : Int)), .val (.ref (P i)), .val (I (gk : Nat)), .val (I (1023 - (z : Int))), .val (I (k : Nat))] [I ((v : Nat) : Int), I ((gk : Nat) : Int)] := by
            intro hkl v hvl hv
            have hol := or_lt hgk hvl
            refine wn_ior hX dX12_greedy_124 (by rfl) (by rfl) ?_
            refine wa_istore_n hX (i := 3) dX12_greedy_125 rfl (by first | rfl | assumption) ?_
            dsimp only [List.set]
            refine wi_iinc hX dX12_greedy_126 rfl ?_
            dsimp only [List.set]
            refine wa_goto hX (tgt := 81) dX12_greedy_129 (by decide) ?_
            refine WA.eq rfl ?_ rfl (ih2 (k + 1) (by omega) (by omega)); rw [hv]; rfl
          refine wa_iload hX dX12_greedy_81 rfl ?_
          refine wa_aload_n hX (i := 2) dX12_greedy_83 rfl rfl ?_
          refine wa_get hX 0 (by assumption) (by rfl) (by decide +kernel) dX12_greedy_84 ?_
          refine wi_icmp_ge hX (tgt := 132) dX12_greedy_87 (by decide) (by omega) (by omega) (fun c87 => ?_) (fun c87 => ?_)
          · skip
            refine wi_iinc hX dX12_greedy_132 rfl ?_
            dsimp only [List.set]
            refine wa_goto hX (tgt := 73) dX12_greedy_135 (by decide) ?_
            have hke : k = E i := by omega
            refine WA.eq rfl ?_ rfl (ih (z + 1, .val (I (k : Nat))) ⟨by show z + 1 ≤ 1024; omega, rfl⟩ (by show 1024 - (z + 1) < 1024 - z; omega))
            dsimp only
            rw [show grO (R i) w (E i) (z + 1) = grI (R i) w (1023 - z) (grO (R i) w (E i) z) (E i) from rfl, ← hgg, hke, show (1023 - ((z + 1 : Nat) : Int)) = 1023 - (z : Int) - 1 by omega]
            rfl
          · skip
            refine wa_iload_n hX (i := 3) dX12_greedy_90 rfl rfl ?_
            refine wa_aload_n hX (i := 0) dX12_greedy_91 rfl rfl ?_
            refine wa_get hX 2 (by assumption) (by rfl) (by decide +kernel) dX12_greedy_92 ?_
            refine wa_iload hX dX12_greedy_95 rfl ?_
            refine wi_iaload hX (by assumption) (by omega) (by omega) (by omega) dX12_greedy_97 ?_
            rw [Int.toNat_natCast]
            refine wa_iload hX dX12_greedy_98 rfl ?_
            refine wi_icmp_ne hX (tgt := 123) dX12_greedy_100 (by decide) (by omega) (by omega) (fun c100 => ?_) (fun c100 => ?_)
            · skip
              refine wi_iconst hX dX12_greedy_123 ?_
              first
                | (have q1 := b2n_t c113
                   refine t124 (by omega) (2 ^ k) hbk ?_
                   rw [hst, if_pos]
                   rw [q1, show (w k == 1023 - z) = true from beq_iff_eq.mpr (by omega)]
                   rfl)
                | (have q1 := b2n_f c113
                   refine t124 (by omega) 0 hp0 ?_
                   rw [hst, if_neg]
                   rw [q1, Bool.and_false]
                   exact Bool.false_ne_true)
                | (refine t124 (by omega) 0 hp0 ?_
                   rw [hst, if_neg]
                   rw [show (w k == 1023 - z) = false from beq_eq_false_iff_ne.mpr (by omega), Bool.false_and]
                   exact Bool.false_ne_true)
            · skip
              have hbk : 2 ^ k < 2 ^ E i := bit_lt (by omega)
              have hol := or_lt hgk hbk
              refine wa_aload_n hX (i := 2) dX12_greedy_103 rfl rfl ?_
              refine wa_iload_n hX (i := 3) dX12_greedy_104 rfl rfl ?_
              refine wi_iconst hX dX12_greedy_105 ?_
              refine wa_iload hX dX12_greedy_106 rfl ?_
              refine wn_shl1 hX dX12_greedy_108 (by rfl) (by omega) ?_
              refine wn_ior hX dX12_greedy_109 (by rfl) (by rfl) ?_
              refine wa_callV hX (c_X11_isFree hW d g1 g2 g3 he (fun s hs => hMi.le10 hs) (s := gk ||| 2 ^ k) hol) (by assumption) (by rfl) (by rfl) (by omega) (nA := 1) (by rfl) (by decide +kernel) rfl (by exact Nat.le_of_ble_eq_true rfl) dX12_greedy_110 (fun r110 h110 p110 => ?_) (fun _ _ q => q.elim)
              obtain ⟨rfl, qq110⟩ := p110; subst h110
              dsimp only [Option.toList, List.cons_append, List.nil_append]
              refine wi_if_eq hX (tgt := 123) dX12_greedy_113 (by decide) (by exact b2n_inR _) (fun c113 => ?_) (fun c113 => ?_)
              · skip
                refine wi_iconst hX dX12_greedy_123 ?_
                first
                  | (have q1 := b2n_t c113
                     refine t124 (by omega) (2 ^ k) hbk ?_
                     rw [hst, if_pos]
                     rw [q1, show (w k == 1023 - z) = true from beq_iff_eq.mpr (by omega)]
                     rfl)
                  | (have q1 := b2n_f c113
                     refine t124 (by omega) 0 hp0 ?_
                     rw [hst, if_neg]
                     rw [q1, Bool.and_false]
                     exact Bool.false_ne_true)
                  | (refine t124 (by omega) 0 hp0 ?_
                     rw [hst, if_neg]
                     rw [show (w k == 1023 - z) = false from beq_eq_false_iff_ne.mpr (by omega), Bool.false_and]
                     exact Bool.false_ne_true)
              · skip
                refine wi_iconst hX dX12_greedy_116 ?_
                refine wa_iload hX dX12_greedy_117 rfl ?_
                refine wn_shl1 hX dX12_greedy_119 (by rfl) (by omega) ?_
                refine wa_goto hX (tgt := 124) dX12_greedy_120 (by decide) ?_
                first
                  | (have q1 := b2n_t c113
                     refine t124 (by omega) (2 ^ k) hbk ?_
                     rw [hst, if_pos]
                     rw [q1, show (w k == 1023 - z) = true from beq_iff_eq.mpr (by omega)]
                     rfl)
                  | (have q1 := b2n_f c113
                     refine t124 (by omega) 0 hp0 ?_
                     rw [hst, if_neg]
                     rw [q1, Bool.and_false]
                     exact Bool.false_ne_true)
                  | (refine t124 (by omega) 0 hp0 ?_
                     rw [hst, if_neg]
                     rw [show (w k == 1023 - z) = false from beq_eq_false_iff_ne.mpr (by omega), Bool.false_and]
                     exact Bool.false_ne_true)
      · skip
        refine wi_iconst hX dX12_greedy_52 ?_
        refine wa_iret hX dX12_greedy_53 ?_
        have z := b2n_t c49
        rw [z, if_pos ⟨rfl, rfl⟩] at k1
        exact ⟨ff, Or.inr ⟨i, hi, rfl, Or.inl ⟨bne_iff_ne.mp z, ⟨_, rfl⟩, row, brk, al, wk, us, kp, pt, k1, kJ⟩⟩⟩
set_option maxHeartbeats 2000000 in
set_option maxRecDepth 100000 in
theorem c_X12_commonSet (hW : WOK l D S0) (d : Nat) {h : AH} {a th : Nat} {c m : Nat} {w : Nat → Nat} {E : Nat → Nat} {R : Nat → Nat → Nat} {b0 b1 b2 : Int} (hI : RI Z DR h a th c w m E R b0 b1 b2) {n v : Int} (hn : inR n) (hv : inR v) : MA l D S0 yX12_commonSet cX12_commonSet 5 (some .int) (d + 6) [.ref a, I n, I v] h 0 0 (fun r h' => Fr (fun x => x = 120) h h' ∧ (((∃ z, r = some (I z)) ∧ (((noM n m ∨ noM v m) ∧ RI Z DR h' a 1 c w m E R b0 b1 b2) ∨ ∃ i j : Nat, i < m ∧ n = (i : Int) ∧ j < m ∧ v = (j : Int) ∧ E i ≠ E j ∧ RI Z DR h' a 2 c w m E R b0 b1 b2)) ∨ ∃ i j : Nat, i < m ∧ n = (i : Int) ∧ j < m ∧ v = (j : Int) ∧ E i = E j ∧ (∃ t : Nat, t < 2 ^ E i ∧ (fun u => frB (R i) u = true ∧ frB (R j) u = true ∧ bc u = mstN (R i) (R j) (2 ^ E i)) t ∧ (∀ u, u < t → ¬ (fun u => frB (R i) u = true ∧ frB (R j) u = true ∧ bc u = mstN (R i) (R j) (2 ^ E i)) u) ∧ r = some (I (t : Int))) ∧ RI Z DR h' a 0 c w m E R b0 b1 b2)) (fun _ _ => False) := by
  obtain ⟨row9, brk9, al9, wk9, us9, kp9, pt9, k9, _⟩ := id hI
  refine MA.start hW (by decide) [.val (.ref a), .val (I n), .val (I v), .unset, .unset] rfl ?_
  rintro X rfl rfl rfl hX
  refine wa_aload_n hX (i := 0) dX12_commonSet_0 rfl rfl ?_
  refine wa_iload_n hX (i := 1) dX12_commonSet_1 rfl rfl ?_
  refine wa_iload_n hX (i := 2) dX12_commonSet_2 rfl rfl ?_
  refine wa_callV hX (c_X12_cannotMeet hW d hI hn hv) (by assumption) (by rfl) (by rfl) (by omega) (nA := 2) (by rfl) (by decide +kernel) rfl (by exact Nat.le_of_ble_eq_true rfl) dX12_commonSet_3 (fun r3 h3 p3 => ?_) (fun _ _ q => q.elim)
  obtain ⟨ff, hz⟩ := p3
  obtain ⟨b, rfl, hb⟩ : ∃ b : Bool, r3 = some (I ((b2n b : Nat) : Int)) ∧ ((b = true ∧ (((noM n m ∨ noM v m) ∧ RI Z DR h3 a 1 c w m E R b0 b1 b2) ∨ ∃ i j : Nat, i < m ∧ n = (i : Int) ∧ j < m ∧ v = (j : Int) ∧ E i ≠ E j ∧ RI Z DR h3 a 2 c w m E R b0 b1 b2)) ∨ (b = false ∧ ∃ i j : Nat, i < m ∧ n = (i : Int) ∧ j < m ∧ v = (j : Int) ∧ E i = E j ∧ RI Z DR h3 a 0 c w m E R b0 b1 b2)) := by
    rcases hz with ⟨z1, z2, z3⟩ | ⟨i, j, z1, z2, z3, z4, ⟨z5, z6, z7⟩ | ⟨z5, z6, z7⟩⟩
    · exact ⟨true, z2, Or.inl ⟨rfl, Or.inl ⟨z1, z3⟩⟩⟩
    · exact ⟨true, z6, Or.inl ⟨rfl, Or.inr ⟨i, j, z1, z2, z3, z4, z5, z7⟩⟩⟩
    · exact ⟨false, z6, Or.inr ⟨rfl, i, j, z1, z2, z3, z4, z5, z7⟩⟩
  clear hz
  dsimp only [Option.toList, List.cons_append, List.nil_append]
  refine wi_if_eq hX (tgt := 11) dX12_commonSet_6 (by decide) (by exact b2n_inR _) (fun c6 => ?_) (fun c6 => ?_)
  · skip
    have hf := b2n_f c6
    obtain ⟨i, j, hi, rfl, hj, rfl, hE, hI2⟩ : ∃ i j : Nat, i < m ∧ n = (i : Int) ∧ j < m ∧ v = (j : Int) ∧ E i = E j ∧ RI Z DR h3 a 0 c w m E R b0 b1 b2 := by
      rcases hb with ⟨z, _⟩ | ⟨_, z⟩
      · rw [z] at hf; cases hf
      · exact z
    obtain ⟨row, brk, al, wk, us, kp, pt, k1, kJ⟩ := id hI2
    obtain ⟨⟨hc60, hw, hm24, hMt⟩, kr, kb, kwk, kus, kkp, kpt, ed, N, P, ka, ke, kI, kMat⟩ := id kJ
    obtain ⟨e3, hN1, hN2⟩ : h3 ed = some (124, aR (.object "java/lang/Object") N (fun j => if j < m then some (P j) else none)) ∧ m ≤ N ∧ N ≤ 100 := by
      rcases ke with z | z
      · exfalso; omega
      · exact z
    obtain ⟨rq, m2, m3, l2, l3, G, g1, g2, g3, g4, g5⟩ := id (kMat i hi)
    have hMi := hMt i hi
    have he := hMi.1
    have hp := p2_le he
    have hp0 := p2_pos (E i)
    obtain ⟨rq', m2', m3', l2', l3', G', u1, u2, u3, u4, u5⟩ := id (kMat j hj)
    rw [← hE] at u1 u3
    have hMj := hMt j hj
    rw [← hE] at hMj
    refine wi_iconst hX dX12_commonSet_11 ?_
    refine wa_istore_n hX (i := 3) dX12_commonSet_12 rfl rfl ?_
    dsimp only [List.set]
    refine wa_aload_n hX (i := 0) dX12_commonSet_13 rfl rfl ?_
    refine wa_iload_n hX (i := 1) dX12_commonSet_14 rfl rfl ?_
    refine wa_iload_n hX (i := 2) dX12_commonSet_15 rfl rfl ?_
    refine wa_callV hX (c_X12_most hW d k1 ka e3 hN1 hN2 hi hj g1 g2 g3 u1 u2 u3 he (fun s hs => hMi.le10 hs) (fun s hs => hMj.le10 hs)) (by assumption) (by rfl) (by rfl) (by omega) (nA := 2) (by rfl) (by decide +kernel) rfl (by exact Nat.le_of_ble_eq_true rfl) dX12_commonSet_16 (fun r16 h16 p16 => ?_) (fun _ _ q => q.elim)
    obtain ⟨rfl, qq16⟩ := p16; subst h16
    dsimp only [Option.toList, List.cons_append, List.nil_append]
    refine wa_istore hX dX12_commonSet_19 rfl ?_
    dsimp only [List.set]
    obtain ⟨t0, t1, t2, t3, t4⟩ := mstN_some (r1 := R i) (r2 := R j) hMi.2.1 hMj.2.1 (2 ^ E i) hp0
    refine WA.loop (σ := Nat) (fun z => t0 - z) (fun z => z ≤ t0 ∧ ∀ u, u < z → ¬ (fun u => frB (R i) u = true ∧ frB (R j) u = true ∧ bc u = mstN (R i) (R j) (2 ^ E i)) u) (fun _ => h3) (fun z => [.val (.ref a), .val (I (i : Int)), .val (I (j : Int)), .val (I (z : Nat)), .val (I (mstN (R i) (R j) (2 ^ E i) : Nat))]) ?_ 0 ⟨Nat.zero_le _, fun u q2 => by omega⟩
    rintro z ⟨z2, z3⟩ ih
    have hz2 : z < 2 ^ E i := by omega
    have hbz := bc_le z
    have hms := mstN_le (r1 := R i) (r2 := R j) (2 ^ E i)
    have t66 : ¬ (fun u => frB (R i) u = true ∧ frB (R j) u = true ∧ bc u = mstN (R i) (R j) (2 ^ E i)) z → WA X h3 0 0 66 [.val (.ref a), .val (I (i : Int)), .val (I (j : Int)), .val (I (z : Nat)), .val (I (mstN (R i) (R j) (2 ^ E i) : Nat))] [] := by
      intro hq
      have hlt : z < t0 := by
        apply Classical.byContradiction
        intro q
        have : z = t0 := by omega
        rw [this] at hq
        exact hq ⟨t2, t3, t4⟩
      refine wi_iinc hX dX12_commonSet_66 rfl ?_
      dsimp only [List.set]
      refine wa_goto hX (tgt := 21) dX12_commonSet_69 (by decide) ?_
      exact ih (z + 1) ⟨hlt, fun u q2 => by
        by_cases q : u = z
        · subst q; exact hq
        · exact z3 u (by omega)⟩ (by omega)
    refine wa_iload_n hX (i := 3) dX12_commonSet_21 rfl rfl ?_
    refine wa_callS hX (c_J6_bitCount hW d (s := z) (by omega)) (by rfl) (by omega) (nA := 1) (by rfl) (by decide +kernel) rfl (by exact Nat.le_of_ble_eq_true rfl) dX12_commonSet_22 (fun r22 h22 p22 => ?_) (fun _ _ q => q.elim)
    obtain ⟨rfl, qq22⟩ := p22; subst h22
    dsimp only [Option.toList, List.cons_append, List.nil_append]
    refine wa_iload hX dX12_commonSet_25 rfl ?_
    refine wi_icmp_ne hX (tgt := 66) dX12_commonSet_27 (by decide) (by omega) (by omega) (fun c27 => ?_) (fun c27 => ?_)
    · skip
      refine t66 (fun q => ?_)
      first
        | (have q1 := b2n_f c63
           rw [q.2.1] at q1
           cases q1)
        | (have q1 := b2n_f c45
           rw [q.1] at q1
           cases q1)
        | (have q1 := q.2.2
           omega)
    · skip
      refine wa_aload_n hX (i := 0) dX12_commonSet_30 rfl rfl ?_
      refine wa_get hX 4 (by assumption) (by rfl) (by decide +kernel) dX12_commonSet_31 ?_
      refine wa_iload_n hX (i := 1) dX12_commonSet_34 rfl rfl ?_
      refine wa_callV hX (c_AL_get hW d ka e3 (i := i) (q := P i) hi hN1 (by omega) (if_pos hi)) (by assumption) (by rfl) (by rfl) (by omega) (nA := 1) (by rfl) (by decide +kernel) rfl (by exact Nat.le_of_ble_eq_true rfl) dX12_commonSet_35 (fun r35 h35 p35 => ?_) (fun _ _ q => q.elim)
      obtain ⟨rfl, qq35⟩ := p35; subst h35
      dsimp only [Option.toList, List.cons_append, List.nil_append]
      refine wa_ccast hX g1 (by rfl) (by decide +kernel) dX12_commonSet_38 ?_
      refine wa_iload_n hX (i := 3) dX12_commonSet_41 rfl rfl ?_
      refine wa_callV hX (c_X11_isFree hW d g1 g2 g3 he (fun s hs => hMi.le10 hs) (s := z) hz2) (by assumption) (by rfl) (by rfl) (by omega) (nA := 1) (by rfl) (by decide +kernel) rfl (by exact Nat.le_of_ble_eq_true rfl) dX12_commonSet_42 (fun r42 h42 p42 => ?_) (fun _ _ q => q.elim)
      obtain ⟨rfl, qq42⟩ := p42; subst h42
      dsimp only [Option.toList, List.cons_append, List.nil_append]
      refine wi_if_eq hX (tgt := 66) dX12_commonSet_45 (by decide) (by exact b2n_inR _) (fun c45 => ?_) (fun c45 => ?_)
      · skip
        refine t66 (fun q => ?_)
        first
          | (have q1 := b2n_f c63
             rw [q.2.1] at q1
             cases q1)
          | (have q1 := b2n_f c45
             rw [q.1] at q1
             cases q1)
          | (have q1 := q.2.2
             omega)
      · skip
        refine wa_aload_n hX (i := 0) dX12_commonSet_48 rfl rfl ?_
        refine wa_get hX 4 (by assumption) (by rfl) (by decide +kernel) dX12_commonSet_49 ?_
        refine wa_iload_n hX (i := 2) dX12_commonSet_52 rfl rfl ?_
        refine wa_callV hX (c_AL_get hW d ka e3 (i := j) (q := P j) hj hN1 (by omega) (if_pos hj)) (by assumption) (by rfl) (by rfl) (by omega) (nA := 1) (by rfl) (by decide +kernel) rfl (by exact Nat.le_of_ble_eq_true rfl) dX12_commonSet_53 (fun r53 h53 p53 => ?_) (fun _ _ q => q.elim)
        obtain ⟨rfl, qq53⟩ := p53; subst h53
        dsimp only [Option.toList, List.cons_append, List.nil_append]
        refine wa_ccast hX u1 (by rfl) (by decide +kernel) dX12_commonSet_56 ?_
        refine wa_iload_n hX (i := 3) dX12_commonSet_59 rfl rfl ?_
        refine wa_callV hX (c_X11_isFree hW d u1 u2 u3 he (fun s hs => hMj.le10 hs) (s := z) hz2) (by assumption) (by rfl) (by rfl) (by omega) (nA := 1) (by rfl) (by decide +kernel) rfl (by exact Nat.le_of_ble_eq_true rfl) dX12_commonSet_60 (fun r60 h60 p60 => ?_) (fun _ _ q => q.elim)
        obtain ⟨rfl, qq60⟩ := p60; subst h60
        dsimp only [Option.toList, List.cons_append, List.nil_append]
        refine wi_if_ne hX (tgt := 72) dX12_commonSet_63 (by decide) (by exact b2n_inR _) (fun c63 => ?_) (fun c63 => ?_)
        · skip
          refine wa_iload_n hX (i := 3) dX12_commonSet_72 rfl rfl ?_
          refine wa_iret hX dX12_commonSet_73 ?_
          exact ⟨ff, Or.inr ⟨i, j, hi, rfl, hj, rfl, hE, ⟨z, hz2, ⟨b2n_t c45, b2n_t c63, by omega⟩, z3, rfl⟩, hI2⟩⟩
        · skip
          refine t66 (fun q => ?_)
          first
            | (have q1 := b2n_f c63
               rw [q.2.1] at q1
               cases q1)
            | (have q1 := b2n_f c45
               rw [q.1] at q1
               cases q1)
            | (have q1 := q.2.2
               omega)
  · skip
    refine wi_iconst hX dX12_commonSet_9 ?_
    refine wa_iret hX dX12_commonSet_10 ?_
    (have z := b2n_t c6
     rcases hb with ⟨_, q⟩ | ⟨q, _⟩
     · exact ⟨ff, Or.inl ⟨⟨_, rfl⟩, q⟩⟩
     · rw [q] at z; cases z)
set_option maxHeartbeats 2000000 in
set_option maxRecDepth 100000 in
theorem c_X12_commonBound (hW : WOK l D S0) (d : Nat) {h : AH} {a th : Nat} {c m : Nat} {w : Nat → Nat} {E : Nat → Nat} {R : Nat → Nat → Nat} {b0 b1 b2 : Int} (hI : RI Z DR h a th c w m E R b0 b1 b2) {n v : Int} (hn : inR n) (hv : inR v) (hB : ∀ i j, i < m → j < m → E i = E j → ∃ t, t < 2 ^ E i ∧ (fun u => R i u + R j (sdf (2 ^ E i - 1) u) = mstN (R i) (R j) (2 ^ E i)) t) : MA l D S0 yX12_commonBound cX12_commonBound 7 (some .int) (d + 6) [.ref a, I n, I v] h 0 0 (fun r h' => Fr (fun x => x = 120) h h' ∧ (((∃ z, r = some (I z)) ∧ (((noM n m ∨ noM v m) ∧ RI Z DR h' a 1 c w m E R b0 b1 b2) ∨ ∃ i j : Nat, i < m ∧ n = (i : Int) ∧ j < m ∧ v = (j : Int) ∧ E i ≠ E j ∧ RI Z DR h' a 2 c w m E R b0 b1 b2)) ∨ ∃ i j : Nat, i < m ∧ n = (i : Int) ∧ j < m ∧ v = (j : Int) ∧ E i = E j ∧ (∃ t : Nat, t < 2 ^ E i ∧ (fun u => R i u + R j (sdf (2 ^ E i - 1) u) = mstN (R i) (R j) (2 ^ E i)) t ∧ (∀ u, u < t → ¬ (fun u => R i u + R j (sdf (2 ^ E i - 1) u) = mstN (R i) (R j) (2 ^ E i)) u) ∧ r = some (I (t : Int))) ∧ RI Z DR h' a 0 c w m E R b0 b1 b2)) (fun _ _ => False) := by
  obtain ⟨row9, brk9, al9, wk9, us9, kp9, pt9, k9, _⟩ := id hI
  refine MA.start hW (by decide) [.val (.ref a), .val (I n), .val (I v), .unset, .unset, .unset, .unset] rfl ?_
  rintro X rfl rfl rfl hX
  refine wa_aload_n hX (i := 0) dX12_commonBound_0 rfl rfl ?_
  refine wa_iload_n hX (i := 1) dX12_commonBound_1 rfl rfl ?_
  refine wa_iload_n hX (i := 2) dX12_commonBound_2 rfl rfl ?_
  refine wa_callV hX (c_X12_cannotMeet hW d hI hn hv) (by assumption) (by rfl) (by rfl) (by omega) (nA := 2) (by rfl) (by decide +kernel) rfl (by exact Nat.le_of_ble_eq_true rfl) dX12_commonBound_3 (fun r3 h3 p3 => ?_) (fun _ _ q => q.elim)
  obtain ⟨ff, hz⟩ := p3
  obtain ⟨b, rfl, hb⟩ : ∃ b : Bool, r3 = some (I ((b2n b : Nat) : Int)) ∧ ((b = true ∧ (((noM n m ∨ noM v m) ∧ RI Z DR h3 a 1 c w m E R b0 b1 b2) ∨ ∃ i j : Nat, i < m ∧ n = (i : Int) ∧ j < m ∧ v = (j : Int) ∧ E i ≠ E j ∧ RI Z DR h3 a 2 c w m E R b0 b1 b2)) ∨ (b = false ∧ ∃ i j : Nat, i < m ∧ n = (i : Int) ∧ j < m ∧ v = (j : Int) ∧ E i = E j ∧ RI Z DR h3 a 0 c w m E R b0 b1 b2)) := by
    rcases hz with ⟨z1, z2, z3⟩ | ⟨i, j, z1, z2, z3, z4, ⟨z5, z6, z7⟩ | ⟨z5, z6, z7⟩⟩
    · exact ⟨true, z2, Or.inl ⟨rfl, Or.inl ⟨z1, z3⟩⟩⟩
    · exact ⟨true, z6, Or.inl ⟨rfl, Or.inr ⟨i, j, z1, z2, z3, z4, z5, z7⟩⟩⟩
    · exact ⟨false, z6, Or.inr ⟨rfl, i, j, z1, z2, z3, z4, z5, z7⟩⟩
  clear hz
  dsimp only [Option.toList, List.cons_append, List.nil_append]
  refine wi_if_eq hX (tgt := 11) dX12_commonBound_6 (by decide) (by exact b2n_inR _) (fun c6 => ?_) (fun c6 => ?_)
  · skip
    have hf := b2n_f c6
    obtain ⟨i, j, hi, rfl, hj, rfl, hE, hI2⟩ : ∃ i j : Nat, i < m ∧ n = (i : Int) ∧ j < m ∧ v = (j : Int) ∧ E i = E j ∧ RI Z DR h3 a 0 c w m E R b0 b1 b2 := by
      rcases hb with ⟨z, _⟩ | ⟨_, z⟩
      · rw [z] at hf; cases hf
      · exact z
    obtain ⟨row, brk, al, wk, us, kp, pt, k1, kJ⟩ := id hI2
    obtain ⟨⟨hc60, hw, hm24, hMt⟩, kr, kb, kwk, kus, kkp, kpt, ed, N, P, ka, ke, kI, kMat⟩ := id kJ
    obtain ⟨e3, hN1, hN2⟩ : h3 ed = some (124, aR (.object "java/lang/Object") N (fun j => if j < m then some (P j) else none)) ∧ m ≤ N ∧ N ≤ 100 := by
      rcases ke with z | z
      · exfalso; omega
      · exact z
    obtain ⟨rq, m2, m3, l2, l3, G, g1, g2, g3, g4, g5⟩ := id (kMat i hi)
    have hMi := hMt i hi
    have he := hMi.1
    have hp := p2_le he
    have hp0 := p2_pos (E i)
    obtain ⟨rq', m2', m3', l2', l3', G', u1, u2, u3, u4, u5⟩ := id (kMat j hj)
    rw [← hE] at u1 u3
    have hMj := hMt j hj
    rw [← hE] at hMj
    refine wa_aload_n hX (i := 0) dX12_commonBound_11 rfl rfl ?_
    refine wa_get hX 4 (by assumption) (by rfl) (by decide +kernel) dX12_commonBound_12 ?_
    refine wa_iload_n hX (i := 1) dX12_commonBound_15 rfl rfl ?_
    refine wa_callV hX (c_AL_get hW d ka e3 (i := i) (q := P i) hi hN1 (by omega) (if_pos hi)) (by assumption) (by rfl) (by rfl) (by omega) (nA := 1) (by rfl) (by decide +kernel) rfl (by exact Nat.le_of_ble_eq_true rfl) dX12_commonBound_16 (fun r16 h16 p16 => ?_) (fun _ _ q => q.elim)
    obtain ⟨rfl, qq16⟩ := p16; subst h16
    dsimp only [Option.toList, List.cons_append, List.nil_append]
    refine wa_ccast hX g1 (by rfl) (by decide +kernel) dX12_commonBound_19 ?_
    refine wa_astore_n hX (i := 3) dX12_commonBound_22 rfl rfl ?_
    dsimp only [List.set]
    refine wa_aload_n hX (i := 0) dX12_commonBound_23 rfl rfl ?_
    refine wa_get hX 4 (by assumption) (by rfl) (by decide +kernel) dX12_commonBound_24 ?_
    refine wa_iload_n hX (i := 2) dX12_commonBound_27 rfl rfl ?_
    refine wa_callV hX (c_AL_get hW d ka e3 (i := j) (q := P j) hj hN1 (by omega) (if_pos hj)) (by assumption) (by rfl) (by rfl) (by omega) (nA := 1) (by rfl) (by decide +kernel) rfl (by exact Nat.le_of_ble_eq_true rfl) dX12_commonBound_28 (fun r28 h28 p28 => ?_) (fun _ _ q => q.elim)
    obtain ⟨rfl, qq28⟩ := p28; subst h28
    dsimp only [Option.toList, List.cons_append, List.nil_append]
    refine wa_ccast hX u1 (by rfl) (by decide +kernel) dX12_commonBound_31 ?_
    refine wa_astore hX dX12_commonBound_34 rfl ?_
    dsimp only [List.set]
    refine wi_iconst hX dX12_commonBound_36 ?_
    refine wa_istore hX dX12_commonBound_37 rfl ?_
    dsimp only [List.set]
    refine wa_aload_n hX (i := 0) dX12_commonBound_39 rfl rfl ?_
    refine wa_iload_n hX (i := 1) dX12_commonBound_40 rfl rfl ?_
    refine wa_iload_n hX (i := 2) dX12_commonBound_41 rfl rfl ?_
    refine wa_callV hX (c_X12_most hW d k1 ka e3 hN1 hN2 hi hj g1 g2 g3 u1 u2 u3 he (fun s hs => hMi.le10 hs) (fun s hs => hMj.le10 hs)) (by assumption) (by rfl) (by rfl) (by omega) (nA := 2) (by rfl) (by decide +kernel) rfl (by exact Nat.le_of_ble_eq_true rfl) dX12_commonBound_42 (fun r42 h42 p42 => ?_) (fun _ _ q => q.elim)
    obtain ⟨rfl, qq42⟩ := p42; subst h42
    dsimp only [Option.toList, List.cons_append, List.nil_append]
    refine wa_istore hX dX12_commonBound_45 rfl ?_
    dsimp only [List.set]
    obtain ⟨t0, t1, t2⟩ := hB i j hi hj hE
    refine WA.loop (σ := Nat) (fun z => t0 - z) (fun z => z ≤ t0 ∧ ∀ u, u < z → ¬ (fun u => R i u + R j (sdf (2 ^ E i - 1) u) = mstN (R i) (R j) (2 ^ E i)) u) (fun _ => h3) (fun z => [.val (.ref a), .val (I (i : Int)), .val (I (j : Int)), .val (.ref (P i)), .val (.ref (P j)), .val (I (z : Nat)), .val (I (mstN (R i) (R j) (2 ^ E i) : Nat))]) ?_ 0 ⟨Nat.zero_le _, fun u q2 => by omega⟩
    rintro z ⟨z2, z3⟩ ih
    have hz2 : z < 2 ^ E i := by omega
    have hms := mstN_le (r1 := R i) (r2 := R j) (2 ^ E i)
    have hr1 := hMi.le10 hz2
    have hr2 := hMj.le10 (s := sdf (2 ^ E i - 1) z) (sdf_lt (by omega))
    refine wa_aload_n hX (i := 3) dX12_commonBound_47 rfl rfl ?_
    refine wa_get hX 1 (by assumption) (by rfl) (by decide +kernel) dX12_commonBound_48 ?_
    refine wa_iload hX dX12_commonBound_51 rfl ?_
    refine wi_iaload hX (by assumption) (by omega) (by omega) (by omega) dX12_commonBound_53 ?_
    rw [Int.toNat_natCast, g3 z hz2]
    refine wa_aload hX dX12_commonBound_54 rfl ?_
    refine wa_get hX 1 (by assumption) (by rfl) (by decide +kernel) dX12_commonBound_56 ?_
    refine wa_aload hX dX12_commonBound_59 rfl ?_
    refine wa_callV hX (c_X11_full hW d u1 he) (by assumption) (by rfl) (by rfl) (by omega) (nA := 0) (by rfl) (by decide +kernel) rfl (by exact Nat.le_of_ble_eq_true rfl) dX12_commonBound_61 (fun r61 h61 p61 => ?_) (fun _ _ q => q.elim)
    obtain ⟨rfl, qq61⟩ := p61; subst h61
    dsimp only [Option.toList, List.cons_append, List.nil_append]
    refine wa_iload hX dX12_commonBound_64 rfl ?_
    refine wi_iconst hX dX12_commonBound_66 ?_
    refine wa_ixor hX dX12_commonBound_67 ?_
    refine wn_andn hX dX12_commonBound_68 (by rfl) (by rfl) ?_
    have hsd : sdf (2 ^ E i - 1) z < 2 ^ E i := sdf_lt (by omega)
    refine wi_iaload hX (by assumption) (by first | omega | exact inR_nat (and_ltl (by omega)) | exact inR_nat (and_ltr (by omega))) (by first | omega | exact inR_nat (and_ltl (by omega)) | exact inR_nat (and_ltr (by omega))) (by first | omega | exact inR_nat (and_ltl (by omega)) | exact inR_nat (and_ltr (by omega))) dX12_commonBound_69 ?_
    rw [Int.toNat_natCast, u3 (sdf (2 ^ E i - 1) z) (sdf_lt (by omega))]
    refine wi_iadd hX dX12_commonBound_70 ?_
    refine wa_iload hX dX12_commonBound_71 rfl ?_
    refine wi_icmp_eq hX (tgt := 82) dX12_commonBound_73 (by decide) (by omega) (by omega) (fun c73 => ?_) (fun c73 => ?_)
    · skip
      refine wa_iload hX dX12_commonBound_82 rfl ?_
      refine wa_iret hX dX12_commonBound_84 ?_
      exact ⟨ff, Or.inr ⟨i, j, hi, rfl, hj, rfl, hE, ⟨z, hz2, (by show R i z + R j (sdf (2 ^ E i - 1) z) = mstN (R i) (R j) (2 ^ E i); omega), z3, rfl⟩, hI2⟩⟩
    · skip
      refine wi_iinc hX dX12_commonBound_76 rfl ?_
      dsimp only [List.set]
      refine wa_goto hX (tgt := 47) dX12_commonBound_79 (by decide) ?_
      have hq : ¬ (fun u => R i u + R j (sdf (2 ^ E i - 1) u) = mstN (R i) (R j) (2 ^ E i)) z := fun q => by
        have q2 : R i z + R j (sdf (2 ^ E i - 1) z) = mstN (R i) (R j) (2 ^ E i) := q
        omega
      have hlt : z < t0 := by
        apply Classical.byContradiction
        intro q
        have : z = t0 := by omega
        rw [this] at hq
        exact hq t2
      exact ih (z + 1) ⟨hlt, fun u q2 => by
        by_cases q : u = z
        · subst q; exact hq
        · exact z3 u (by omega)⟩ (by omega)
  · skip
    refine wi_iconst hX dX12_commonBound_9 ?_
    refine wa_iret hX dX12_commonBound_10 ?_
    (have z := b2n_t c6
     rcases hb with ⟨_, q⟩ | ⟨q, _⟩
     · exact ⟨ff, Or.inl ⟨⟨_, rfl⟩, q⟩⟩
     · rw [q] at z; cases z)
end C91
