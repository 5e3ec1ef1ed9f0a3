/-! The reference (X12): meeting -/
theorem cnt_sub {p q : Nat → Bool} (h : ∀ k, p k = true → q k = true) : ∀ n, cnt p n ≤ cnt q n := by
  intro n
  induction n with
  | zero => exact Nat.le_refl _
  | succ n ih =>
    by_cases g : p n = true
    · rw [cnt_y g, cnt_y (h n g)]
      omega
    · rw [cnt_n g]
      by_cases g2 : q n = true
      · rw [cnt_y g2]
        omega
      · rw [cnt_n g2]
        exact ih
theorem bc_sub {q s : Nat} (hs : s < 1024) (h : q &&& s = q) : bc q ≤ bc s := by
  have hq : q ≤ s := by rw [← h]; exact Nat.and_le_right
  rw [← cnt_bc 10 (by decide) q (by omega), ← cnt_bc 10 (by decide) s hs]
  refine cnt_sub (fun k hk => ?_) 10
  rw [← h, Nat.testBit_and, Bool.and_eq_true] at hk
  exact hk.2
def mtV (w : Nat → Nat) (c s q : Nat) : Nat := bc s - bc q + cnt (fun k => w k &&& q != 0) c
def mtA (w : Nat → Nat) (c s : Nat) : Nat → Nat
  | 0 => bc s
  | q + 1 => if ((q &&& s == q) && q != 0) = true then min (mtA w c s q) (mtV w c s q) else mtA w c s q
def mtM (w : Nat → Nat) (c s : Nat) : Nat := mtA w c s (s + 1)
theorem mtA_ok {w : Nat → Nat} {c s : Nat} : ∀ n, mtA w c s n ≤ bc s ∧ (∀ q, q < n → q &&& s = q → 0 < q → mtA w c s n ≤ mtV w c s q) ∧ (mtA w c s n = bc s ∨ ∃ q, q &&& s = q ∧ 0 < q ∧ mtA w c s n = mtV w c s q) := by
  intro n
  induction n with
  | zero => exact ⟨Nat.le_refl _, fun q hq => absurd hq (Nat.not_lt_zero q), Or.inl rfl⟩
  | succ n ih =>
    obtain ⟨i1, i2, i3⟩ := ih
    have hst : mtA w c s (n + 1) = if ((n &&& s == n) && n != 0) = true then min (mtA w c s n) (mtV w c s n) else mtA w c s n := rfl
    by_cases g : ((n &&& s == n) && n != 0) = true
    · rw [if_pos g] at hst
      rw [Bool.and_eq_true, beq_iff_eq, bne_iff_ne] at g
      rw [hst]
      refine ⟨by omega, fun q hq h1 h2 => ?_, ?_⟩
      · by_cases e : q = n
        · subst e; omega
        · have := i2 q (by omega) h1 h2
          omega
      · by_cases h : mtV w c s n ≤ mtA w c s n
        · exact Or.inr ⟨n, g.1, by omega, by omega⟩
        · rw [Nat.min_eq_left (by omega)]
          exact i3
    · rw [if_neg g] at hst
      rw [hst]
      refine ⟨i1, fun q hq h1 h2 => ?_, i3⟩
      by_cases e : q = n
      · subst e
        exact absurd (by rw [Bool.and_eq_true, beq_iff_eq, bne_iff_ne]; exact ⟨h1, by omega⟩) g
      · exact i2 q (by omega) h1 h2
theorem mtM_eq {w : Nat → Nat} {c s v : Nat} (h1 : v ≤ bc s) (h2 : ∀ q, q &&& s = q → 0 < q → v ≤ mtV w c s q) (h3 : v = bc s ∨ ∃ q, q &&& s = q ∧ 0 < q ∧ v = mtV w c s q) : v = mtM w c s := by
  obtain ⟨i1, i2, i3⟩ := mtA_ok (w := w) (c := c) (s := s) (s + 1)
  have e1 : mtM w c s ≤ v := by
    rcases h3 with h | ⟨q, q1, q2, q3⟩
    · rw [h]; exact i1
    · rw [q3]
      exact i2 q (Nat.lt_succ_of_le (by rw [← q1]; exact Nat.and_le_right)) q1 q2
  have e2 : v ≤ mtM w c s := by
    rcases i3 with h | ⟨q, q1, q2, q3⟩
    · exact Nat.le_trans h1 (Nat.le_of_eq h.symm)
    · exact Nat.le_trans (h2 q q1 q2) (Nat.le_of_eq q3.symm)
  omega
section C99
variable {l : Launch} {D : va_G} {S0 : State} {DR : (Nat → Nat) → Nat → Nat → Option (Nat → Nat) → Prop}
set_option maxHeartbeats 2000000 in
set_option maxRecDepth 100000 in
theorem c_X12_meeting (hW : WOK l D S0) (d : Nat) {h : AH} {a th : Nat} {c m : Nat} {w : Nat → Nat} {E : Nat → Nat} {R : Nat → Nat → Nat} {b0 b1 b2 : Int} (hI : RI (zA S0) DR h a th c w m E R b0 b1 b2) {n : Int} (hn : inR n) (hN : ∀ e : Nat, e ≤ 10 → c ≤ 10 → (∀ k, k < c → w k < 2 ^ e) → Mtr e (fun s => mtM w c s)) {rmc rms : Nat} (hroom : ((∃ e : Nat, n = (e : Int) ∧ e ≤ 10 ∧ c ≤ 10 ∧ (∀ k, k < c → w k < 2 ^ e)) ∧ m < 24) → 3 ≤ rmc ∧ 1100 ≤ rms) : MA l D S0 yX12_meeting cX12_meeting 9 (some .int) (d + 7) [.ref a, I n] h rmc rms (fun r h' => Fr (fun x => 120 ≤ x ∧ x ≤ 134) h h' ∧ ((¬ (0 ≤ n ∧ n ≤ 10) ∧ (∃ z, r = some (I z)) ∧ RI (zA S0) DR h' a 1 c w m E R b0 b1 b2) ∨ ∃ e : Nat, n = (e : Int) ∧ e ≤ 10 ∧ (((c ≤ 10 → (∀ k, k < c → w k < 2 ^ e) → False) ∧ (∃ z, r = some (I z)) ∧ RI (zA S0) DR h' a 2 c w m E R b0 b1 b2) ∨ (c ≤ 10 ∧ (∀ k, k < c → w k < 2 ^ e) ∧ ((m = 24 ∧ (∃ z, r = some (I z)) ∧ RI (zA S0) DR h' a 3 c w m E R b0 b1 b2) ∨ (m ≠ 24 ∧ r = some (I (m : Nat)) ∧ RI (zA S0) DR h' a 0 0 w (m + 1) (up E m (e)) (up R m (fun s => mtM w c s)) b0 b1 b2)))))) (fun _ _ => False) := by
  obtain ⟨row, brk, al, wk, us, kp, pt, k1, kJ⟩ := hI
  refine MA.start hW (by decide) [.val (.ref a), .val (I n), .unset, .unset, .unset, .unset, .unset, .unset, .unset] rfl ?_
  rintro X rfl rfl rfl hX
  refine wa_aload_n hX (i := 0) dX12_meeting_0 rfl rfl ?_
  refine wi_iconst hX dX12_meeting_1 ?_
  refine wa_put hX 0 k1 (Nat.le_of_ble_eq_true rfl) (by decide +kernel) (by rfl) (by rfl) (by rfl) dX12_meeting_2 ?_
  refine WA.heap (h2 := hset h a (120, oMod ((0 : Nat) : Int) (c : Int) row brk al wk us kp pt)) rfl ?_
  refine WA.hgq (fun hA hh2 => ?_)
  have ff : Fr (fun x => x = 120) h hA := by rw [hh2]; exact Fr.hset Fr.rf k1 rfl
  replace k1 : hA a = some (120, oMod ((0 : Nat) : Int) (c : Int) row brk al wk us kp pt) := by rw [hh2]; exact hset_eq
  replace kJ := kJ.fr ff (fun x hx => by omega)
  clear hh2
  obtain ⟨⟨hc60, hw, hm24, hMt⟩, kr, kb, kwk, kus, kkp, kpt, ed, N, P, ka, ke, kI, kMat⟩ := id kJ
  refine wa_aload_n hX (i := 0) dX12_meeting_5 rfl rfl ?_
  refine wa_iload_n hX (i := 1) dX12_meeting_6 rfl rfl ?_
  refine wi_iconst hX dX12_meeting_7 ?_
  refine wi_bipush hX dX12_meeting_8 (by decide) ?_
  have t21 : WA X hA rmc rms 21 [.val (.ref a), .val (I n), .unset, .unset, .unset, .unset, .unset, .unset, .unset] [I ((b2n (!decide ((0 : Int) ≤ n ∧ n ≤ 10)) : Nat) : Int), .ref a] := by
    refine wi_iconst hX dX12_meeting_21 ?_
    refine wa_callV hX (c_X12_fails hW d (th := 0) (k := 1) (b := (!decide ((0 : Int) ≤ n ∧ n ≤ 10))) k1 (by omega) (by omega)) (by assumption) (by rfl) (by rfl) (by omega) (nA := 2) (by rfl) (by decide +kernel) rfl (by exact Nat.le_of_ble_eq_true rfl) dX12_meeting_22 (fun r22 h22 p22 => ?_) (fun _ _ q => q.elim)
    obtain ⟨rfl, hh22⟩ := p22
    have f22 : Fr (fun x => x = 120) hA h22 := by rw [hh22]; exact Fr.hset Fr.rf k1 rfl
    replace k1 : h22 a = some (120, oMod ((if ((!decide ((0 : Int) ≤ n ∧ n ≤ 10))) = true ∧ (0 : Nat) = 0 then 1 else 0 : Nat) : Int) (c : Int) row brk al wk us kp pt) := by rw [hh22]; exact hset_eq
    replace kJ := kJ.fr f22 (fun x hx => by omega)
    replace ff := ff.trans f22
    clear hh22 f22
    rw [show (((!decide ((0 : Int) ≤ n ∧ n ≤ 10))) || (0 : Nat) != 0) = ((!decide ((0 : Int) ≤ n ∧ n ≤ 10))) from Bool.or_false _]
    clear kr kb kwk kus kkp kpt ka ke kI kMat hc60 hw hm24 hMt
    obtain ⟨⟨hc60, hw, hm24, hMt⟩, kr, kb, kwk, kus, kkp, kpt, ed, N, P, ka, ke, kI, kMat⟩ := id kJ
    dsimp only [Option.toList, List.cons_append, List.nil_append]
    refine wi_if_eq hX (tgt := 30) dX12_meeting_25 (by decide) (by exact b2n_inR _) (fun c25 => ?_) (fun c25 => ?_)
    · skip
      have hv25 := b2n_f c25
      rw [hv25, if_neg (fun z => Bool.false_ne_true z.1)] at k1
      rw [Bool.not_eq_false', decide_eq_true_eq] at hv25
      obtain ⟨hn1, hn2⟩ := hv25
      obtain ⟨e, rfl⟩ := Int.eq_ofNat_of_zero_le hn1
      have hpe9 : 2 ^ e ≤ 1024 := p2_le (by omega)
      have hpe8 := p2_pos e
      refine wa_aload_n hX (i := 0) dX12_meeting_30 rfl rfl ?_
      have t44 : WA X h22 rmc rms 44 [.val (.ref a), .val (I (e : Int)), .unset, .unset, .unset, .unset, .unset, .unset, .unset] [I ((b2n (decide (c ≤ 10)) : Nat) : Int)] := by
       refine wa_istore_n hX (i := 2) dX12_meeting_44 rfl (by first | rfl | assumption) ?_
       dsimp only [List.set]
       refine wi_iconst hX dX12_meeting_45 ?_
       refine wa_istore_n hX (i := 3) dX12_meeting_46 rfl (by first | rfl | assumption) ?_
       dsimp only [List.set]
       refine WA.eq rfl (by simp only [allB, Bool.and_true]; rfl) rfl (WA.loop (σ := Nat) (fun k => c - k) (fun k => k ≤ c) (fun _ => h22) (fun k => [.val (.ref a), .val (I (e : Int)), .val (I ((b2n ((decide (c ≤ 10)) && allB (fun k => decide (w k < 2 ^ e)) k) : Nat) : Int)), .val (I (k : Nat)), .unset, .unset, .unset, .unset, .unset]) ?_ 0 (Nat.zero_le _))
       intro k hk ih
       have hwk := hw k
       have hst : allB (fun k => decide (w k < 2 ^ e)) (k + 1) = (allB (fun k => decide (w k < 2 ^ e)) k && decide (w k < 2 ^ e)) := rfl
       refine wa_iload_n hX (i := 3) dX12_meeting_47 rfl rfl ?_
       refine wa_aload_n hX (i := 0) dX12_meeting_48 rfl rfl ?_
       refine wa_get hX 1 (by assumption) (by rfl) (by decide +kernel) dX12_meeting_49 ?_
       refine wi_icmp_ge hX (tgt := 83) dX12_meeting_52 (by decide) (by omega) (by omega) (fun c52 => ?_) (fun c52 => ?_)
       · skip
         have hkc : k = c := by omega
         rw [hkc]
         clear ih hst hwk hk c52
         refine wa_aload_n hX (i := 0) dX12_meeting_83 rfl rfl ?_
         have t93 : WA X h22 rmc rms 93 [.val (.ref a), .val (I (e : Int)), .val (I ((b2n (decide (c ≤ 10) && allB (fun k => decide (w k < 2 ^ e)) c) : Nat) : Int)), .val (I (c : Int)), .unset, .unset, .unset, .unset, .unset] [I ((b2n (!((decide (c ≤ 10)) && allB (fun k => decide (w k < 2 ^ e)) c)) : Nat) : Int), .ref a] := by
           refine wi_iconst hX dX12_meeting_93 ?_
           refine wa_callV hX (c_X12_fails hW d (th := 0) (k := 2) (b := (!((decide (c ≤ 10)) && allB (fun k => decide (w k < 2 ^ e)) c))) k1 (by omega) (by omega)) (by assumption) (by rfl) (by rfl) (by omega) (nA := 2) (by rfl) (by decide +kernel) rfl (by exact Nat.le_of_ble_eq_true rfl) dX12_meeting_94 (fun r94 h94 p94 => ?_) (fun _ _ q => q.elim)
           obtain ⟨rfl, hh94⟩ := p94
           have f94 : Fr (fun x => x = 120) h22 h94 := by rw [hh94]; exact Fr.hset Fr.rf k1 rfl
           replace k1 : h94 a = some (120, oMod ((if ((!((decide (c ≤ 10)) && allB (fun k => decide (w k < 2 ^ e)) c))) = true ∧ (0 : Nat) = 0 then 2 else 0 : Nat) : Int) (c : Int) row brk al wk us kp pt) := by rw [hh94]; exact hset_eq
           replace kJ := kJ.fr f94 (fun x hx => by omega)
           replace ff := ff.trans f94
           clear hh94 f94
           rw [show (((!((decide (c ≤ 10)) && allB (fun k => decide (w k < 2 ^ e)) c))) || (0 : Nat) != 0) = ((!((decide (c ≤ 10)) && allB (fun k => decide (w k < 2 ^ e)) c))) from Bool.or_false _]
           clear kr kb kwk kus kkp kpt ka ke kI kMat hc60 hw hm24 hMt
           obtain ⟨⟨hc60, hw, hm24, hMt⟩, kr, kb, kwk, kus, kkp, kpt, ed, N, P, ka, ke, kI, kMat⟩ := id kJ
           dsimp only [Option.toList, List.cons_append, List.nil_append]
           refine wi_if_ne hX (tgt := 125) dX12_meeting_97 (by decide) (by exact b2n_inR _) (fun c97 => ?_) (fun c97 => ?_)
           · skip
             refine wi_iconst hX dX12_meeting_125 ?_
             refine wa_iret hX dX12_meeting_126 ?_
             have z := b2n_t c97
             rw [z, if_pos ⟨rfl, rfl⟩] at k1
             refine ⟨ff.mono (fun x hx => by omega), Or.inr ⟨e, rfl, by omega, Or.inl ⟨?_, ⟨_, rfl⟩, row, brk, al, wk, us, kp, pt, k1, kJ⟩⟩⟩
             intro q1 q2
             rw [Bool.not_eq_true', Bool.and_eq_false_iff] at z
             rcases z with z | z
             · exact absurd q1 (of_decide_eq_false z)
             · rw [allB_iff.mpr (fun k hk => decide_eq_true (q2 k hk))] at z
               cases z
           · skip
             have hv97 := b2n_f c97
             rw [hv97, if_neg (fun z => Bool.false_ne_true z.1)] at k1
             rw [Bool.not_eq_false', Bool.and_eq_true, decide_eq_true_eq, allB_iff] at hv97
             obtain ⟨hR1, hR2⟩ := hv97
             replace hR2 : ∀ k, k < c → w k < 2 ^ e := fun k hk => of_decide_eq_true (hR2 k hk)
             refine wa_aload_n hX (i := 0) dX12_meeting_100 rfl rfl ?_
             refine wa_aload_n hX (i := 0) dX12_meeting_101 rfl rfl ?_
             refine wa_get hX 4 (by assumption) (by rfl) (by decide +kernel) dX12_meeting_102 ?_
             have t118 : WA X h94 rmc rms 118 [.val (.ref a), .val (I (e : Int)), .val (I ((b2n (decide (c ≤ 10) && allB (fun k => decide (w k < 2 ^ e)) c) : Nat) : Int)), .val (I (c : Int)), .unset, .unset, .unset, .unset, .unset] [I ((b2n (m == 24) : Nat) : Int), .ref a] := by
               refine wi_iconst hX dX12_meeting_118 ?_
               refine wa_callV hX (c_X12_fails hW d (th := 0) (k := 3) (b := (m == 24)) k1 (by omega) (by omega)) (by assumption) (by rfl) (by rfl) (by omega) (nA := 2) (by rfl) (by decide +kernel) rfl (by exact Nat.le_of_ble_eq_true rfl) dX12_meeting_119 (fun r119 h119 p119 => ?_) (fun _ _ q => q.elim)
               obtain ⟨rfl, hh119⟩ := p119
               have f119 : Fr (fun x => x = 120) h94 h119 := by rw [hh119]; exact Fr.hset Fr.rf k1 rfl
               replace k1 : h119 a = some (120, oMod ((if ((m == 24)) = true ∧ (0 : Nat) = 0 then 3 else 0 : Nat) : Int) (c : Int) row brk al wk us kp pt) := by rw [hh119]; exact hset_eq
               replace kJ := kJ.fr f119 (fun x hx => by omega)
               replace ff := ff.trans f119
               clear hh119 f119
               rw [show (((m == 24)) || (0 : Nat) != 0) = ((m == 24)) from Bool.or_false _]
               clear kr kb kwk kus kkp kpt ka ke kI kMat hc60 hw hm24 hMt
               obtain ⟨⟨hc60, hw, hm24, hMt⟩, kr, kb, kwk, kus, kkp, kpt, ed, N, P, ka, ke, kI, kMat⟩ := id kJ
               dsimp only [Option.toList, List.cons_append, List.nil_append]
               refine wi_if_eq hX (tgt := 127) dX12_meeting_122 (by decide) (by exact b2n_inR _) (fun c122 => ?_) (fun c122 => ?_)
               · skip
                 have hv122 := b2n_f c122
                 rw [hv122, if_neg (fun z => Bool.false_ne_true z.1)] at k1
                 have hmne : m ≠ 24 := beq_eq_false_iff_ne.mp hv122
                 have hm9 : m < 24 := by omega
                 refine wa_iload_n hX (i := 1) dX12_meeting_127 rfl rfl ?_
                 obtain ⟨hkk, hss⟩ := hroom ⟨⟨e, rfl, by omega, hR1, hR2⟩, hm9⟩
                 refine WA.room (k2 := 1 + 2) (sl2 := 40 + 1030) (by omega) (by omega) ?_
                 refine wa_callS hX (c_X12_sized hW d (e := e) (by omega)) (by rfl) (by omega) (nA := 1) (by rfl) (by decide +kernel) rfl (by exact Nat.le_of_ble_eq_true rfl) dX12_meeting_128 (fun r128 h128 p128 => ?_) (fun _ _ q => q.elim)
                 obtain ⟨p, q, rfl, fS, p1, q1⟩ := p128
                 have k1S := fS _ _ _ k1 id
                 have kJS := kJ.fr fS (fun x hx => hx.elim)
                 dsimp only [Option.toList, List.cons_append, List.nil_append]
                 refine wa_astore_n hX (i := 3) dX12_meeting_131 rfl (by first | rfl | assumption) ?_
                 dsimp only [List.set]
                 refine wi_iconst hX dX12_meeting_132 ?_
                 refine wa_istore hX dX12_meeting_133 (by first | rfl | assumption) ?_
                 dsimp only [List.set]
                 have hpe : 2 ^ e ≤ 1024 := p2_le (by omega)
                 have hpe0 := p2_pos e
                 refine WA.heap (h2 := hset h128 q (134, aI .int 1024 (fun _ => 0))) (hset_self q1).symm ?_
                 refine WA.loop (σ := Nat × (Nat → Int) × Slot × Slot × Slot × Slot) (fun z => 2 ^ e - z.1) (fun z => z.1 ≤ 2 ^ e ∧ (∀ s, s < z.1 → z.2.1 s = ((mtM w c s : Nat) : Int)) ∧ okS [z.2.2.1] 0 = true ∧ okS [z.2.2.2.1] 0 = true ∧ okS [z.2.2.2.2.1] 0 = true ∧ okS [z.2.2.2.2.2] 0 = true) (fun z => hset h128 q (134, aI .int 1024 z.2.1)) (fun z => [.val (.ref a), .val (I (e : Int)), .val (I ((b2n (decide (c ≤ 10) && allB (fun k => decide (w k < 2 ^ e)) c) : Nat) : Int)), .val (.ref p), .val (I (z.1 : Nat)), z.2.2.1, z.2.2.2.1, z.2.2.2.2.1, z.2.2.2.2.2]) ?_ (0, (fun _ => 0), .unset, .unset, .unset, .unset) ⟨Nat.zero_le _, fun s hs => absurd hs (Nat.not_lt_zero s), rfl, rfl, rfl, rfl⟩
                 rintro ⟨z, F, u5, u6, u7, u8⟩ ⟨hz, hF, hu5, hu6, hu7, hu8⟩ ih
                 dsimp only at hz hF hu5 hu6 hu7 hu8 ⊢
                 have fF : Fr (fun x => x = 134) h128 (hset h128 q (134, aI .int 1024 F)) := Fr.hset Fr.rf q1 rfl
                 have p2 := hset_lab (x := (134, aI .int 1024 F)) q1 p1 (by decide)
                 have q2 : (hset h128 q (134, aI .int 1024 F)) q = some (134, aI .int 1024 F) := hset_eq
                 have k2 := fF _ _ _ k1S (by decide)
                 have kJ2 := kJS.fr fF (fun x hx => by omega)
                 have kr2 := kJ2.2.1
                 have hbz := bc_le z
                 have t155 : z < 2 ^ e → WA X (hset h128 q (134, aI .int 1024 F)) 1 40 155 [.val (.ref a), .val (I (e : Int)), .val (I ((b2n (decide (c ≤ 10) && allB (fun k => decide (w k < 2 ^ e)) c) : Nat) : Int)), .val (.ref p), .val (I (z : Nat)), .val (I ((bc z : Nat) : Int)), .val (I ((z : Nat) : Int)), u7, u8] [] := by
                   intro hzl
                   refine WA.loop (σ := Nat × Nat × Slot × Slot) (fun y => y.1) (fun y => y.1 &&& z = y.1 ∧ y.2.1 ≤ bc z ∧ (∀ q, q &&& z = q → y.1 < q → y.2.1 ≤ mtV w c z q) ∧ (y.2.1 = bc z ∨ ∃ q, q &&& z = q ∧ 0 < q ∧ y.2.1 = mtV w c z q) ∧ okS [y.2.2.1] 0 = true ∧ okS [y.2.2.2] 0 = true) (fun _ => (hset h128 q (134, aI .int 1024 F))) (fun y => [.val (.ref a), .val (I (e : Int)), .val (I ((b2n (decide (c ≤ 10) && allB (fun k => decide (w k < 2 ^ e)) c) : Nat) : Int)), .val (.ref p), .val (I (z : Nat)), .val (I ((y.2.1 : Nat) : Int)), .val (I ((y.1 : Nat) : Int)), y.2.2.1, y.2.2.2]) ?_ (z, bc z, u7, u8) ⟨Nat.and_self z, Nat.le_refl _, fun q h1 h2 => by
                     have : q ≤ z := by rw [← h1]; exact Nat.and_le_right
                     have h3 : z < q := h2
                     omega, Or.inl rfl, hu7, hu8⟩
                   rintro ⟨t, v, u7, u8⟩ ⟨ht1, ht2, ht3, ht4, hu7, hu8⟩ ih2
                   dsimp only at ht1 ht2 ht3 ht4 hu7 hu8 ⊢
                   have htz : t ≤ z := by rw [← ht1]; exact Nat.and_le_right
                   refine wa_iload hX dX12_meeting_155 rfl ?_
                   refine wi_if_le hX (tgt := 237) dX12_meeting_157 (by decide) (by omega) (fun c157 => ?_) (fun c157 => ?_)
                   · skip
                     refine wa_aload_n hX (i := 3) dX12_meeting_237 rfl rfl ?_
                     refine wa_get hX 1 (by assumption) (by rfl) (by decide +kernel) dX12_meeting_238 ?_
                     refine wa_iload hX dX12_meeting_241 rfl ?_
                     refine wa_iload hX dX12_meeting_243 rfl ?_
                     have hv9 : v = mtM w c z := mtM_eq ht2 (fun q h1 h2 => ht3 q h1 (by omega)) ht4
                     rw [hv9]
                     refine wi_iastore hX q2 (by omega) (by omega) (by omega) dX12_meeting_245 ?_
                     rw [hset_hset, Int.toNat_natCast]
                     refine wi_iinc hX dX12_meeting_246 rfl ?_
                     dsimp only [List.set]
                     refine wa_goto hX (tgt := 135) dX12_meeting_249 (by decide) ?_
                     refine ih (z + 1, up F z ((mtM w c z : Nat) : Int), _, _, _, _) ⟨by show z + 1 ≤ _; omega, fill_step (spec := fun s => ((mtM w c s : Nat) : Int)) hF, rfl, rfl, hu7, hu8⟩ (by show _ - (z + 1) < _; omega)
                   · skip
                     refine wi_iconst hX dX12_meeting_160 ?_
                     refine wa_istore hX dX12_meeting_161 (by first | rfl | assumption) ?_
                     dsimp only [List.set]
                     refine wi_iconst hX dX12_meeting_163 ?_
                     refine wa_istore hX dX12_meeting_164 (by first | rfl | assumption) ?_
                     dsimp only [List.set]
                     refine WA.loop (σ := Nat) (fun k => c - k) (fun k => k ≤ c) (fun _ => (hset h128 q (134, aI .int 1024 F))) (fun k => [.val (.ref a), .val (I (e : Int)), .val (I ((b2n (decide (c ≤ 10) && allB (fun k => decide (w k < 2 ^ e)) c) : Nat) : Int)), .val (.ref p), .val (I (z : Nat)), .val (I ((v : Nat) : Int)), .val (I ((t : Nat) : Int)), .val (I ((cnt (fun k => w k &&& t != 0) k : Nat) : Int)), .val (I ((k : Nat) : Int))]) ?_ 0 (Nat.zero_le _)
                     intro k hk ih3
                     have hck := cnt_le (fun k => w k &&& t != 0) k
                     have hand : w k &&& t ≤ t := Nat.and_le_right
                     refine wa_iload hX dX12_meeting_166 rfl ?_
                     refine wa_aload_n hX (i := 0) dX12_meeting_168 rfl rfl ?_
                     refine wa_get hX 1 (by assumption) (by rfl) (by decide +kernel) dX12_meeting_169 ?_
                     refine wi_icmp_ge hX (tgt := 204) dX12_meeting_172 (by decide) (by omega) (by omega) (fun c172 => ?_) (fun c172 => ?_)
                     · skip
                       refine wa_iload hX dX12_meeting_204 rfl ?_
                       refine wa_iload hX dX12_meeting_206 rfl ?_
                       refine wa_callS hX (c_J6_bitCount hW d (s := z) (by omega)) (by rfl) (by omega) (nA := 1) (by rfl) (by decide +kernel) rfl (by exact Nat.le_of_ble_eq_true rfl) dX12_meeting_208 (fun r208 h208 p208 => ?_) (fun _ _ q => q.elim)
                       obtain ⟨rfl, qq208⟩ := p208; subst h208
                       dsimp only [Option.toList, List.cons_append, List.nil_append]
                       refine wa_iload hX dX12_meeting_211 rfl ?_
                       refine wa_callS hX (c_J6_bitCount hW d (s := t) (by omega)) (by rfl) (by omega) (nA := 1) (by rfl) (by decide +kernel) rfl (by exact Nat.le_of_ble_eq_true rfl) dX12_meeting_213 (fun r213 h213 p213 => ?_) (fun _ _ q => q.elim)
                       obtain ⟨rfl, qq213⟩ := p213; subst h213
                       dsimp only [Option.toList, List.cons_append, List.nil_append]
                       refine wi_isub hX dX12_meeting_216 ?_
                       refine wa_iload hX dX12_meeting_217 rfl ?_
                       refine wi_iadd hX dX12_meeting_219 ?_
                       have hkc : k = c := by omega
                       have hb1 := bc_sub (by omega) ht1
                       have hb2 := bc_le t
                       rw [show ((bc z : Nat) : Int) - ((bc t : Nat) : Int) + ((cnt (fun k => w k &&& t != 0) k : Nat) : Int) = ((mtV w c z t : Nat) : Int) by unfold mtV; rw [hkc]; omega]
                       have hcc := cnt_le (fun k => w k &&& t != 0) c
                       have hmv : mtV w c z t ≤ 100 := by unfold mtV; omega
                       refine wi_min hX (by decide +kernel) rfl (by exact Nat.le_of_ble_eq_true rfl) (by omega) (by omega) dX12_meeting_220 ?_
                       rw [show min ((v : Nat) : Int) ((mtV w c z t : Nat) : Int) = ((min v (mtV w c z t) : Nat) : Int) by omega]
                       refine wa_istore hX dX12_meeting_223 (by first | rfl | assumption) ?_
                       dsimp only [List.set]
                       refine wa_iload hX dX12_meeting_225 rfl ?_
                       refine wi_iconst hX dX12_meeting_227 ?_
                       refine wi_isub hX dX12_meeting_228 ?_
                       rw [show ((t : Nat) : Int) - 1 = ((t - 1 : Nat) : Int) by omega]
                       have hta : (t - 1) &&& z ≤ t - 1 := Nat.and_le_left
                       refine wa_iload hX dX12_meeting_229 rfl ?_
                       refine wn_iand hX dX12_meeting_231 (by rfl) (by rfl) ?_
                       refine wa_istore hX dX12_meeting_232 (by first | rfl | assumption) ?_
                       dsimp only [List.set]
                       refine wa_goto hX (tgt := 155) dX12_meeting_234 (by decide) ?_
                       refine ih2 ((t - 1) &&& z, min v (mtV w c z t), _, _) ⟨by rw [Nat.and_assoc, Nat.and_self], by show min v (mtV w c z t) ≤ _; omega, fun q h1 h2 => ?_, ?_, rfl, rfl⟩ (by show (t - 1) &&& z < t; omega)
                       · show min v (mtV w c z t) ≤ _
                         have h3 : (t - 1) &&& z < q := h2
                         by_cases g1 : t < q
                         · have := ht3 q h1 g1
                           omega
                         · by_cases g2 : q = t
                           · subst g2; omega
                           · have := sub_pred t z q ht1 h1 (by omega)
                             omega
                       · show min v (mtV w c z t) = _ ∨ ∃ q, q &&& z = q ∧ 0 < q ∧ min v (mtV w c z t) = _
                         by_cases g : mtV w c z t ≤ v
                         · exact Or.inr ⟨t, ht1, by omega, by omega⟩
                         · rw [Nat.min_eq_left (by omega)]
                           exact ht4
                     · skip
                       refine wa_iload hX dX12_meeting_175 rfl ?_
                       refine wa_aload_n hX (i := 0) dX12_meeting_177 rfl rfl ?_
                       refine wa_get hX 2 (by assumption) (by rfl) (by decide +kernel) dX12_meeting_178 ?_
                       refine wa_iload hX dX12_meeting_181 rfl ?_
                       refine wi_iaload hX (by assumption) (by omega) (by omega) (by omega) dX12_meeting_183 ?_
                       rw [Int.toNat_natCast]
                       refine wa_iload hX dX12_meeting_184 rfl ?_
                       refine wn_iand hX dX12_meeting_186 (by rfl) (by rfl) ?_
                       refine wi_if_eq hX (tgt := 194) dX12_meeting_187 (by decide) (by first | omega | exact inR_nat (and_ltl (by omega)) | exact inR_nat (and_ltr (by omega))) (fun c187 => ?_) (fun c187 => ?_)
                       · skip
                         refine wi_iconst hX dX12_meeting_194 ?_
                         first
                           | (have hx : (w k &&& t != 0) = false := bne_eq_false_iff_eq.mpr (by omega)
                              refine WA.eq (pc2 := 195) (st2 := [I (((0 : Nat)) : Int), I ((cnt (fun k => w k &&& t != 0) k : Nat) : Int)]) rfl rfl rfl ?_
                              refine wi_iadd hX dX12_meeting_195 ?_
                              refine wa_istore hX dX12_meeting_196 (by first | rfl | assumption) ?_
                              dsimp only [List.set]
                              refine wi_iinc hX dX12_meeting_198 rfl ?_
                              dsimp only [List.set]
                              refine wa_goto hX (tgt := 166) dX12_meeting_201 (by decide) ?_
                              refine WA.eq rfl ?_ rfl (ih3 (k + 1) (by omega) (by omega))
                              rw [cnt_n (by rw [hx]; exact Bool.false_ne_true)]
                              rfl
                              done)
                           | (have hx : (w k &&& t != 0) = true := bne_iff_ne.mpr (by omega)
                              refine WA.eq (pc2 := 195) (st2 := [I (((1 : Nat)) : Int), I ((cnt (fun k => w k &&& t != 0) k : Nat) : Int)]) rfl rfl rfl ?_
                              refine wi_iadd hX dX12_meeting_195 ?_
                              refine wa_istore hX dX12_meeting_196 (by first | rfl | assumption) ?_
                              dsimp only [List.set]
                              refine wi_iinc hX dX12_meeting_198 rfl ?_
                              dsimp only [List.set]
                              refine wa_goto hX (tgt := 166) dX12_meeting_201 (by decide) ?_
                              refine WA.eq rfl ?_ rfl (ih3 (k + 1) (by omega) (by omega))
                              rw [cnt_y (p := fun k => w k &&& t != 0) hx]
                              rfl
                              done)
                       · skip
                         refine wi_iconst hX dX12_meeting_190 ?_
                         refine wa_goto hX (tgt := 195) dX12_meeting_191 (by decide) ?_
                         first
                           | (have hx : (w k &&& t != 0) = false := bne_eq_false_iff_eq.mpr (by omega)
                              refine WA.eq (pc2 := 195) (st2 := [I (((0 : Nat)) : Int), I ((cnt (fun k => w k &&& t != 0) k : Nat) : Int)]) rfl rfl rfl ?_
                              refine wi_iadd hX dX12_meeting_195 ?_
                              refine wa_istore hX dX12_meeting_196 (by first | rfl | assumption) ?_
                              dsimp only [List.set]
                              refine wi_iinc hX dX12_meeting_198 rfl ?_
                              dsimp only [List.set]
                              refine wa_goto hX (tgt := 166) dX12_meeting_201 (by decide) ?_
                              refine WA.eq rfl ?_ rfl (ih3 (k + 1) (by omega) (by omega))
                              rw [cnt_n (by rw [hx]; exact Bool.false_ne_true)]
                              rfl
                              done)
                           | (have hx : (w k &&& t != 0) = true := bne_iff_ne.mpr (by omega)
                              refine WA.eq (pc2 := 195) (st2 := [I (((1 : Nat)) : Int), I ((cnt (fun k => w k &&& t != 0) k : Nat) : Int)]) rfl rfl rfl ?_
                              refine wi_iadd hX dX12_meeting_195 ?_
                              refine wa_istore hX dX12_meeting_196 (by first | rfl | assumption) ?_
                              dsimp only [List.set]
                              refine wi_iinc hX dX12_meeting_198 rfl ?_
                              dsimp only [List.set]
                              refine wa_goto hX (tgt := 166) dX12_meeting_201 (by decide) ?_
                              refine WA.eq rfl ?_ rfl (ih3 (k + 1) (by omega) (by omega))
                              rw [cnt_y (p := fun k => w k &&& t != 0) hx]
                              rfl
                              done)
                 refine wa_iload hX dX12_meeting_135 rfl ?_
                 refine wa_aload_n hX (i := 3) dX12_meeting_137 rfl rfl ?_
                 refine wa_callV hX (c_X11_full hW d p2 (by omega)) (by assumption) (by rfl) (by rfl) (by omega) (nA := 0) (by rfl) (by decide +kernel) rfl (by exact Nat.le_of_ble_eq_true rfl) dX12_meeting_138 (fun r138 h138 p138 => ?_) (fun _ _ q => q.elim)
                 obtain ⟨rfl, qq138⟩ := p138; subst h138
                 dsimp only [Option.toList, List.cons_append, List.nil_append]
                 refine wi_icmp_gt hX (tgt := 252) dX12_meeting_141 (by decide) (by omega) (by omega) (fun c141 => ?_) (fun c141 => ?_)
                 · skip
                   refine wa_aload_n hX (i := 0) dX12_meeting_252 rfl rfl ?_
                   refine wi_iconst hX dX12_meeting_253 ?_
                   refine wa_put hX 1 k2 (Nat.le_of_ble_eq_true rfl) (by decide +kernel) (by rfl) (by rfl) (by rfl) dX12_meeting_254 ?_
                   refine WA.heap (h2 := hset (hset h128 q (134, aI .int 1024 F)) a (120, oMod ((0 : Nat) : Int) ((0 : Nat) : Int) row brk al wk us kp pt)) rfl ?_
                   refine WA.hgq (fun hG hhG => ?_)
                   have fG : Fr (fun x => x = 120) (hset h128 q (134, aI .int 1024 F)) hG := by rw [hhG]; exact Fr.hset Fr.rf k2 rfl
                   have k3 : hG a = some (120, oMod ((0 : Nat) : Int) ((0 : Nat) : Int) row brk al wk us kp pt) := by rw [hhG]; exact hset_eq
                   have p3 := fG _ _ _ p2 (by decide)
                   have q3 := fG _ _ _ q2 (by decide)
                   have kJ3 := kJ2.fr fG (fun x hx => by omega)
                   replace kJ3 : RJ (zA (cxS X)) DR hG row brk al wk us kp pt 0 w m E R b0 b1 b2 := ⟨⟨Nat.zero_le _, kJ3.1.2⟩, kJ3.2⟩
                   clear hhG
                   refine wa_aload_n hX (i := 0) dX12_meeting_257 rfl rfl ?_
                   refine wa_aload_n hX (i := 3) dX12_meeting_258 rfl rfl ?_
                   refine WA.room (k2 := 0 + 1) (sl2 := 0 + 40) (by omega) (by omega) ?_
                   refine wa_callV hX (c_X12_add hW d (e := e) (rk := fun s => mtM w c s) k3 kJ3 hm9 p3 q3 (fun s hs => hF s (by omega)) (hN e (by omega) hR1 hR2)) (by assumption) (by rfl) (by rfl) (by omega) (nA := 1) (by rfl) (by decide +kernel) rfl (by exact Nat.le_of_ble_eq_true rfl) dX12_meeting_259 (fun r259 h259 p259 => ?_) (fun _ _ q => q.elim)
                   obtain ⟨rfl, f9, kJ9⟩ := p259
                   have k19 := f9 _ _ _ k3 (by omega)
                   dsimp only [Option.toList, List.cons_append, List.nil_append]
                   refine wa_iret hX dX12_meeting_262 ?_
                   exact ⟨((((ff.mono (fun x hx => by omega)).trans (fS.mono (fun x hx => hx.elim))).trans (fF.mono (fun x hx => by omega))).trans (fG.mono (fun x hx => by omega))).trans (f9.mono (fun x hx => by omega)), Or.inr ⟨e, rfl, by omega, Or.inr ⟨hR1, hR2, Or.inr ⟨hmne, rfl, row, brk, al, wk, us, kp, pt, k19, kJ9⟩⟩⟩⟩
                 · skip
                   refine wa_iload hX dX12_meeting_144 rfl ?_
                   refine wa_callS hX (c_J6_bitCount hW d (s := z) (by omega)) (by rfl) (by omega) (nA := 1) (by rfl) (by decide +kernel) rfl (by exact Nat.le_of_ble_eq_true rfl) dX12_meeting_146 (fun r146 h146 p146 => ?_) (fun _ _ q => q.elim)
                   obtain ⟨rfl, qq146⟩ := p146; subst h146
                   dsimp only [Option.toList, List.cons_append, List.nil_append]
                   refine wa_istore hX dX12_meeting_149 (by first | rfl | assumption) ?_
                   dsimp only [List.set]
                   refine wa_iload hX dX12_meeting_151 rfl ?_
                   refine wa_istore hX dX12_meeting_153 (by first | rfl | assumption) ?_
                   dsimp only [List.set]
                   exact t155 (by omega)
               · skip
                 refine wi_iconst hX dX12_meeting_125 ?_
                 refine wa_iret hX dX12_meeting_126 ?_
                 have z := b2n_t c122
                 rw [z, if_pos ⟨rfl, rfl⟩] at k1
                 exact ⟨ff.mono (fun x hx => by omega), Or.inr ⟨e, rfl, by omega, Or.inr ⟨hR1, hR2, Or.inl ⟨beq_iff_eq.mp z, ⟨_, rfl⟩, row, brk, al, wk, us, kp, pt, k1, kJ⟩⟩⟩⟩
             refine wa_callV hX (c_AL_size hW d ka) (by assumption) (by rfl) (by rfl) (by omega) (nA := 0) (by rfl) (by decide +kernel) rfl (by exact Nat.le_of_ble_eq_true rfl) dX12_meeting_105 (fun r105 h105 p105 => ?_) (fun _ _ q => q.elim)
             obtain ⟨rfl, qq105⟩ := p105; subst h105
             dsimp only [Option.toList, List.cons_append, List.nil_append]
             refine wi_bipush hX dX12_meeting_108 (by decide) ?_
             refine wi_icmp_ne hX (tgt := 117) dX12_meeting_110 (by decide) (by omega) (by omega) (fun c110 => ?_) (fun c110 => ?_)
             · skip
               refine wi_iconst hX dX12_meeting_117 ?_
               refine WA.eq rfl rfl ?_ t118
               first
                 | (rw [show (m == 24) = true from beq_iff_eq.mpr (by omega)]; rfl)
                 | (rw [show (m == 24) = false from beq_eq_false_iff_ne.mpr (by omega)]; rfl)
             · skip
               refine wi_iconst hX dX12_meeting_113 ?_
               refine wa_goto hX (tgt := 118) dX12_meeting_114 (by decide) ?_
               refine WA.eq rfl rfl ?_ t118
               first
                 | (rw [show (m == 24) = true from beq_iff_eq.mpr (by omega)]; rfl)
                 | (rw [show (m == 24) = false from beq_eq_false_iff_ne.mpr (by omega)]; rfl)
         refine wa_iload_n hX (i := 2) dX12_meeting_84 rfl rfl ?_
         refine wi_if_ne hX (tgt := 92) dX12_meeting_85 (by decide) (by exact b2n_inR _) (fun c85 => ?_) (fun c85 => ?_)
         · skip
           refine wi_iconst hX dX12_meeting_92 ?_
           refine WA.eq rfl rfl ?_ t93
           first
             | (have q := b2n_t c85; rw [q]; rfl)
             | (have q := b2n_f c85; rw [q]; rfl)
         · skip
           refine wi_iconst hX dX12_meeting_88 ?_
           refine wa_goto hX (tgt := 93) dX12_meeting_89 (by decide) ?_
           refine WA.eq rfl rfl ?_ t93
           first
             | (have q := b2n_t c85; rw [q]; rfl)
             | (have q := b2n_f c85; rw [q]; rfl)
       · skip
         refine wa_iload_n hX (i := 2) dX12_meeting_55 rfl rfl ?_
         refine wi_if_eq hX (tgt := 75) dX12_meeting_56 (by decide) (by exact b2n_inR _) (fun c56 => ?_) (fun c56 => ?_)
         · skip
           refine wi_iconst hX dX12_meeting_75 ?_
           refine WA.eq (pc2 := 76) (st2 := [I ((b2n ((decide (c ≤ 10)) && allB (fun k => decide (w k < 2 ^ e)) (k + 1)) : Nat) : Int)]) rfl rfl (by
             rw [hst]
             first
               | (have q := b2n_f c56
                  rw [← Bool.and_assoc, q]; rfl)
               | (have q := b2n_t c56
                  rw [← Bool.and_assoc, q, Bool.true_and]
                  first
                    | (rw [decide_eq_true (show w k < 2 ^ e by omega)]; rfl)
                    | (rw [decide_eq_false (show ¬ w k < 2 ^ e by omega)]; rfl))) ?_
           clear c56
           refine wa_istore_n hX (i := 2) dX12_meeting_76 rfl (by first | rfl | assumption) ?_
           dsimp only [List.set]
           refine wi_iinc hX dX12_meeting_77 rfl ?_
           dsimp only [List.set]
           refine wa_goto hX (tgt := 47) dX12_meeting_80 (by decide) ?_
           exact ih (k + 1) (by omega) (by omega)
         · skip
           refine wa_aload_n hX (i := 0) dX12_meeting_59 rfl rfl ?_
           refine wa_get hX 2 (by assumption) (by rfl) (by decide +kernel) dX12_meeting_60 ?_
           refine wa_iload_n hX (i := 3) dX12_meeting_63 rfl rfl ?_
           refine wi_iaload hX (by assumption) (by omega) (by omega) (by omega) dX12_meeting_64 ?_
           rw [Int.toNat_natCast]
           refine wi_iconst hX dX12_meeting_65 ?_
           refine wa_iload_n hX (i := 1) dX12_meeting_66 rfl rfl ?_
           refine wn_shl1 hX dX12_meeting_67 (by rfl) (by omega) ?_
           refine wi_icmp_ge hX (tgt := 75) dX12_meeting_68 (by decide) (by omega) (by omega) (fun c68 => ?_) (fun c68 => ?_)
           · skip
             refine wi_iconst hX dX12_meeting_75 ?_
             refine WA.eq (pc2 := 76) (st2 := [I ((b2n ((decide (c ≤ 10)) && allB (fun k => decide (w k < 2 ^ e)) (k + 1)) : Nat) : Int)]) rfl rfl (by
               rw [hst]
               first
                 | (have q := b2n_f c56
                    rw [← Bool.and_assoc, q]; rfl)
                 | (have q := b2n_t c56
                    rw [← Bool.and_assoc, q, Bool.true_and]
                    first
                      | (rw [decide_eq_true (show w k < 2 ^ e by omega)]; rfl)
                      | (rw [decide_eq_false (show ¬ w k < 2 ^ e by omega)]; rfl))) ?_
             clear c56
             refine wa_istore_n hX (i := 2) dX12_meeting_76 rfl (by first | rfl | assumption) ?_
             dsimp only [List.set]
             refine wi_iinc hX dX12_meeting_77 rfl ?_
             dsimp only [List.set]
             refine wa_goto hX (tgt := 47) dX12_meeting_80 (by decide) ?_
             exact ih (k + 1) (by omega) (by omega)
           · skip
             refine wi_iconst hX dX12_meeting_71 ?_
             refine wa_goto hX (tgt := 76) dX12_meeting_72 (by decide) ?_
             refine WA.eq (pc2 := 76) (st2 := [I ((b2n ((decide (c ≤ 10)) && allB (fun k => decide (w k < 2 ^ e)) (k + 1)) : Nat) : Int)]) rfl rfl (by
               rw [hst]
               first
                 | (have q := b2n_f c56
                    rw [← Bool.and_assoc, q]; rfl)
                 | (have q := b2n_t c56
                    rw [← Bool.and_assoc, q, Bool.true_and]
                    first
                      | (rw [decide_eq_true (show w k < 2 ^ e by omega)]; rfl)
                      | (rw [decide_eq_false (show ¬ w k < 2 ^ e by omega)]; rfl))) ?_
             clear c56
             refine wa_istore_n hX (i := 2) dX12_meeting_76 rfl (by first | rfl | assumption) ?_
             dsimp only [List.set]
             refine wi_iinc hX dX12_meeting_77 rfl ?_
             dsimp only [List.set]
             refine wa_goto hX (tgt := 47) dX12_meeting_80 (by decide) ?_
             exact ih (k + 1) (by omega) (by omega)
      refine wa_get hX 1 (by assumption) (by rfl) (by decide +kernel) dX12_meeting_31 ?_
      refine wi_bipush hX dX12_meeting_34 (by decide) ?_
      refine wi_icmp_gt hX (tgt := 43) dX12_meeting_36 (by decide) (by omega) (by omega) (fun c36 => ?_) (fun c36 => ?_)
      · skip
        refine wi_iconst hX dX12_meeting_43 ?_
        refine WA.eq rfl rfl ?_ t44
        first
          | (rw [show (decide (c ≤ 10)) = true from decide_eq_true (by omega)]; rfl)
          | (rw [show (decide (c ≤ 10)) = false from decide_eq_false (by omega)]; rfl)
      · skip
        refine wi_iconst hX dX12_meeting_39 ?_
        refine wa_goto hX (tgt := 44) dX12_meeting_40 (by decide) ?_
        refine WA.eq rfl rfl ?_ t44
        first
          | (rw [show (decide (c ≤ 10)) = true from decide_eq_true (by omega)]; rfl)
          | (rw [show (decide (c ≤ 10)) = false from decide_eq_false (by omega)]; rfl)
    · skip
      refine wi_iconst hX dX12_meeting_28 ?_
      refine wa_iret hX dX12_meeting_29 ?_
      have z := b2n_t c25
      rw [z, if_pos ⟨rfl, rfl⟩] at k1
      refine ⟨ff.mono (fun x hx => by omega), Or.inl ⟨?_, ⟨_, rfl⟩, row, brk, al, wk, us, kp, pt, k1, kJ⟩⟩
      rw [Bool.not_eq_true', decide_eq_false_iff_not] at z
      exact z
  refine wa_callS hX (c_X12_in hW d (v := n) (lo := 0) (hi := 10) hn (by omega) (by omega)) (by rfl) (by omega) (nA := 3) (by rfl) (by decide +kernel) rfl (by exact Nat.le_of_ble_eq_true rfl) dX12_meeting_10 (fun r10 h10 p10 => ?_) (fun _ _ q => q.elim)
  obtain ⟨rfl, qq10⟩ := p10; subst h10
  dsimp only [Option.toList, List.cons_append, List.nil_append]
  refine wi_if_ne hX (tgt := 20) dX12_meeting_13 (by decide) (by exact b2n_inR _) (fun c13 => ?_) (fun c13 => ?_)
  · skip
    refine wi_iconst hX dX12_meeting_20 ?_
    refine WA.eq rfl rfl ?_ t21
    first
      | (have q := b2n_t c13; rw [q]; rfl)
      | (have q := b2n_f c13; rw [q]; rfl)
  · skip
    refine wi_iconst hX dX12_meeting_16 ?_
    refine wa_goto hX (tgt := 21) dX12_meeting_17 (by decide) ?_
    refine WA.eq rfl rfl ?_ t21
    first
      | (have q := b2n_t c13; rw [q]; rfl)
      | (have q := b2n_f c13; rw [q]; rfl)
end C99
