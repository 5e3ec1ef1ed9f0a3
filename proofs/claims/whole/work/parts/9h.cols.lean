/-! The reference (X12): columns -/
theorem RJ.chgS {Z : Nat → Prop} {DR : (Nat → Nat) → Nat → Nat → Option (Nat → Nat) → Prop} {h h' : AH} {row brk al wk us kp pt c m : Nat} {w : Nat → Nat} {E : Nat → Nat} {R : Nat → Nat → Nat} {b0 b1 b2 : Int} (q : RJ Z DR h row brk al wk us kp pt c w m E R b0 b1 b2) (f : Fr (fun x => x = 125 ∨ x = 126 ∨ x = 134) h h') (w1 : ∃ WK : Nat → Int, h' wk = some (125, aI .int 100 WK)) (w2 : ∃ US : Nat → Bool, h' us = some (126, aI .boolean 10 (fun j => ((b2n (US j) : Nat) : Int)))) : RJ Z DR h' row brk al wk us kp pt c w m E R b0 b1 b2 := by
  obtain ⟨q0, q1, q2, q3, q4, ⟨KP, q5⟩, ⟨e0, rq, m2, m3, l2, l3, G0, q6, q7⟩, ed, N, P, q8, q9, q10, q11⟩ := q
  refine ⟨q0, f _ _ _ q1 (by omega), f _ _ _ q2 (by omega), w1, w2, ⟨KP, f _ _ _ q5 (by omega)⟩, ⟨e0, rq, m2, m3, l2, l3, G0, f _ _ _ q6 (by omega), f _ _ _ q7 (by omega)⟩, ed, N, P, f _ _ _ q8 (by omega), ?_, q10, fun j hj => (q11 j hj).fr f (fun x hx => by omega)⟩
  rcases q9 with z | ⟨z, z2⟩
  · exact Or.inl z
  · exact Or.inr ⟨f _ _ _ z (by omega), z2⟩
def colM (w : Nat → Nat) (f rows cols s : Nat) : Nat := rkM f rows cols s (fun i k => w (rows * i + k))
section C9h
variable {l : Launch} {D : va_G} {S0 : State} {DR : (Nat → Nat) → Nat → Nat → Option (Nat → Nat) → Prop}
set_option maxHeartbeats 2000000 in
set_option maxRecDepth 100000 in
theorem c_X12_columns (hW : WOK l D S0) (d : Nat) {h : AH} {a th : Nat} {c m : Nat} {w : Nat → Nat} {E : Nat → Nat} {R : Nat → Nat → Nat} {b0 b1 b2 : Int} (hI : RI (zA S0) DR h a th c w m E R b0 b1 b2) {n v : Int} (hn : inR n) (hv : inR v) (hN : ∀ f rws : Nat, (f = 2 ∨ f = 3 ∨ f = 5) → 1 ≤ rws → rws ≤ 6 → c % rws = 0 → c / rws ≤ 10 → (∀ k, k < c → w k < f) → Mtr (c / rws) (fun s => colM w f rws (c / rws) s)) {rmc rms : Nat} (hroom : ((∃ f rws : Nat, n = (f : Int) ∧ v = (rws : Int) ∧ (f = 2 ∨ f = 3 ∨ f = 5) ∧ 1 ≤ rws ∧ rws ≤ 6 ∧ (c % rws = 0 ∧ c / rws ≤ 10) ∧ (∀ k, k < c → w k < f)) ∧ m < 24) → 3 ≤ rmc ∧ 1100 ≤ rms) : MA l D S0 yX12_columns cX12_columns 6 (some .int) (d + 7) [.ref a, I n, I v] h rmc rms (fun r h' => Fr (fun x => 120 ≤ x ∧ x ≤ 139) h h' ∧ ((¬ ((n = 2 ∨ n = 3 ∨ n = 5) ∧ 1 ≤ v ∧ v ≤ 6) ∧ (∃ z, r = some (I z)) ∧ RI (zA S0) DR h' a 1 c w m E R b0 b1 b2) ∨ ∃ f rws : Nat, n = (f : Int) ∧ v = (rws : Int) ∧ (f = 2 ∨ f = 3 ∨ f = 5) ∧ 1 ≤ rws ∧ rws ≤ 6 ∧ ((((c % rws = 0 ∧ c / rws ≤ 10) → (∀ k, k < c → w k < f) → False) ∧ (∃ z, r = some (I z)) ∧ RI (zA S0) DR h' a 2 c w m E R b0 b1 b2) ∨ ((c % rws = 0 ∧ c / rws ≤ 10) ∧ (∀ k, k < c → w k < f) ∧ ((m = 24 ∧ (∃ z, r = some (I z)) ∧ RI (zA S0) DR h' a 3 c w m E R b0 b1 b2) ∨ (m ≠ 24 ∧ r = some (I (m : Nat)) ∧ RI (zA S0) DR h' a 0 0 w (m + 1) (up E m (c / rws)) (up R m (fun s => colM w f rws (c / rws) s)) b0 b1 b2)))))) (fun _ _ => False) := by
  obtain ⟨row, brk, al, wk, us, kp, pt, k1, kJ⟩ := hI
  refine MA.start hW (by decide) [.val (.ref a), .val (I n), .val (I v), .unset, .unset, .unset] rfl ?_
  rintro X rfl rfl rfl hX
  refine wa_aload_n hX (i := 0) dX12_columns_0 rfl rfl ?_
  refine wi_iconst hX dX12_columns_1 ?_
  refine wa_put hX 0 k1 (Nat.le_of_ble_eq_true rfl) (by decide +kernel) (by rfl) (by rfl) (by rfl) dX12_columns_2 ?_
  refine WA.heap (h2 := hset h a (120, oMod ((0 : Nat) : Int) (c : Int) row brk al wk us kp pt)) rfl ?_
  refine WA.hgq (fun hA hh2 => ?_)
  have ff : Fr (fun x => x = 120) h hA := by rw [hh2]; exact Fr.hset Fr.rf k1 rfl
  replace k1 : hA a = some (120, oMod ((0 : Nat) : Int) (c : Int) row brk al wk us kp pt) := by rw [hh2]; exact hset_eq
  replace kJ := kJ.fr ff (fun x hx => by omega)
  clear hh2
  obtain ⟨⟨hc60, hw, hm24, hMt⟩, kr, kb, kwk, kus, kkp, kpt, ed, N, P, ka, ke, kI, kMat⟩ := id kJ
  refine wa_aload_n hX (i := 0) dX12_columns_5 rfl rfl ?_
  have t36 : WA X hA rmc rms 36 [.val (.ref a), .val (I n), .val (I v), .unset, .unset, .unset] [I ((b2n (!decide ((n = 2 ∨ n = 3 ∨ n = 5) ∧ 1 ≤ v ∧ v ≤ 6)) : Nat) : Int), .ref a] := by
    refine wi_iconst hX dX12_columns_36 ?_
    refine wa_callV hX (c_X12_fails hW d (th := 0) (k := 1) (b := (!decide ((n = 2 ∨ n = 3 ∨ n = 5) ∧ 1 ≤ v ∧ v ≤ 6))) k1 (by omega) (by omega)) (by assumption) (by rfl) (by rfl) (by omega) (nA := 2) (by rfl) (by decide +kernel) rfl (by exact Nat.le_of_ble_eq_true rfl) dX12_columns_37 (fun r37 h37 p37 => ?_) (fun _ _ q => q.elim)
    obtain ⟨rfl, hh37⟩ := p37
    have f37 : Fr (fun x => x = 120) hA h37 := by rw [hh37]; exact Fr.hset Fr.rf k1 rfl
    replace k1 : h37 a = some (120, oMod ((if ((!decide ((n = 2 ∨ n = 3 ∨ n = 5) ∧ 1 ≤ v ∧ v ≤ 6))) = true ∧ (0 : Nat) = 0 then 1 else 0 : Nat) : Int) (c : Int) row brk al wk us kp pt) := by rw [hh37]; exact hset_eq
    replace kJ := kJ.fr f37 (fun x hx => by omega)
    replace ff := ff.trans f37
    clear hh37 f37
    rw [show (((!decide ((n = 2 ∨ n = 3 ∨ n = 5) ∧ 1 ≤ v ∧ v ≤ 6))) || (0 : Nat) != 0) = ((!decide ((n = 2 ∨ n = 3 ∨ n = 5) ∧ 1 ≤ v ∧ v ≤ 6))) from Bool.or_false _]
    clear kr kb kwk kus kkp kpt ka ke kI kMat hc60 hw hm24 hMt
    obtain ⟨⟨hc60, hw, hm24, hMt⟩, kr, kb, kwk, kus, kkp, kpt, ed, N, P, ka, ke, kI, kMat⟩ := id kJ
    dsimp only [Option.toList, List.cons_append, List.nil_append]
    refine wi_if_eq hX (tgt := 45) dX12_columns_40 (by decide) (by exact b2n_inR _) (fun c40 => ?_) (fun c40 => ?_)
    · skip
      have hv40 := b2n_f c40
      rw [hv40, if_neg (fun z => Bool.false_ne_true z.1)] at k1
      rw [Bool.not_eq_false', decide_eq_true_eq] at hv40
      obtain ⟨hf9, hv1, hv2⟩ := hv40
      obtain ⟨f, rfl⟩ := Int.eq_ofNat_of_zero_le (show 0 ≤ n by omega)
      obtain ⟨rws, rfl⟩ := Int.eq_ofNat_of_zero_le (show 0 ≤ v by omega)
      have hf : f = 2 ∨ f = 3 ∨ f = 5 := by omega
      have hr1 : 1 ≤ rws := by omega
      have hr6 : rws ≤ 6 := by omega
      have hdl : c / rws ≤ c := Nat.div_le_self _ _
      have hml : c % rws < rws := Nat.mod_lt _ (by omega)
      refine wa_aload_n hX (i := 0) dX12_columns_45 rfl rfl ?_
      have t70 : WA X h37 rmc rms 70 [.val (.ref a), .val (I (f : Int)), .val (I (rws : Int)), .unset, .unset, .unset] [I ((b2n (decide (c % rws = 0 ∧ c / rws ≤ 10)) : Nat) : Int)] := by
       refine wa_istore_n hX (i := 3) dX12_columns_70 rfl rfl ?_
       dsimp only [List.set]
       refine wi_iconst hX dX12_columns_71 ?_
       refine wa_istore hX dX12_columns_72 rfl ?_
       dsimp only [List.set]
       refine WA.eq rfl (by simp only [allB, Bool.and_true]; rfl) rfl (WA.loop (σ := Nat) (fun k => c - k) (fun k => k ≤ c) (fun _ => h37) (fun k => [.val (.ref a), .val (I (f : Int)), .val (I (rws : Int)), .val (I ((b2n ((decide (c % rws = 0 ∧ c / rws ≤ 10)) && allB (fun k => decide (w k < f)) k) : Nat) : Int)), .val (I (k : Nat)), .unset]) ?_ 0 (Nat.zero_le _))
       intro k hk ih
       have hwk := hw k
       have hst : allB (fun k => decide (w k < f)) (k + 1) = (allB (fun k => decide (w k < f)) k && decide (w k < f)) := rfl
       refine wa_iload hX dX12_columns_74 rfl ?_
       refine wa_aload_n hX (i := 0) dX12_columns_76 rfl rfl ?_
       refine wa_get hX 1 (by assumption) (by rfl) (by decide +kernel) dX12_columns_77 ?_
       refine wi_icmp_ge hX (tgt := 110) dX12_columns_80 (by decide) (by omega) (by omega) (fun c80 => ?_) (fun c80 => ?_)
       · skip
         have hkc : k = c := by omega
         rw [hkc]
         clear ih hst hwk hk c80
         refine wa_aload_n hX (i := 0) dX12_columns_110 rfl rfl ?_
         have t120 : WA X h37 rmc rms 120 [.val (.ref a), .val (I (f : Int)), .val (I (rws : Int)), .val (I ((b2n ((decide (c % rws = 0 ∧ c / rws ≤ 10)) && allB (fun k => decide (w k < f)) c) : Nat) : Int)), .val (I (c : Int)), .unset] [I ((b2n (!((decide (c % rws = 0 ∧ c / rws ≤ 10)) && allB (fun k => decide (w k < f)) c)) : Nat) : Int), .ref a] := by
           refine wi_iconst hX dX12_columns_120 ?_
           refine wa_callV hX (c_X12_fails hW d (th := 0) (k := 2) (b := (!((decide (c % rws = 0 ∧ c / rws ≤ 10)) && allB (fun k => decide (w k < f)) c))) k1 (by omega) (by omega)) (by assumption) (by rfl) (by rfl) (by omega) (nA := 2) (by rfl) (by decide +kernel) rfl (by exact Nat.le_of_ble_eq_true rfl) dX12_columns_121 (fun r121 h121 p121 => ?_) (fun _ _ q => q.elim)
           obtain ⟨rfl, hh121⟩ := p121
           have f121 : Fr (fun x => x = 120) h37 h121 := by rw [hh121]; exact Fr.hset Fr.rf k1 rfl
           replace k1 : h121 a = some (120, oMod ((if ((!((decide (c % rws = 0 ∧ c / rws ≤ 10)) && allB (fun k => decide (w k < f)) c))) = true ∧ (0 : Nat) = 0 then 2 else 0 : Nat) : Int) (c : Int) row brk al wk us kp pt) := by rw [hh121]; exact hset_eq
           replace kJ := kJ.fr f121 (fun x hx => by omega)
           replace ff := ff.trans f121
           clear hh121 f121
           rw [show (((!((decide (c % rws = 0 ∧ c / rws ≤ 10)) && allB (fun k => decide (w k < f)) c))) || (0 : Nat) != 0) = ((!((decide (c % rws = 0 ∧ c / rws ≤ 10)) && allB (fun k => decide (w k < f)) c))) from Bool.or_false _]
           clear kr kb kwk kus kkp kpt ka ke kI kMat hc60 hw hm24 hMt
           obtain ⟨⟨hc60, hw, hm24, hMt⟩, kr, kb, kwk, kus, kkp, kpt, ed, N, P, ka, ke, kI, kMat⟩ := id kJ
           dsimp only [Option.toList, List.cons_append, List.nil_append]
           refine wi_if_ne hX (tgt := 152) dX12_columns_124 (by decide) (by exact b2n_inR _) (fun c124 => ?_) (fun c124 => ?_)
           · skip
             refine wi_iconst hX dX12_columns_152 ?_
             refine wa_iret hX dX12_columns_153 ?_
             have z := b2n_t c124
             rw [z, if_pos ⟨rfl, rfl⟩] at k1
             refine ⟨ff.mono (fun x hx => by omega), Or.inr ⟨f, rws, rfl, rfl, hf, hr1, hr6, Or.inl ⟨?_, ⟨_, rfl⟩, row, brk, al, wk, us, kp, pt, k1, kJ⟩⟩⟩
             intro q1 q2
             rw [Bool.not_eq_true', Bool.and_eq_false_iff] at z
             rcases z with z | z
             · exact absurd q1 (of_decide_eq_false z)
             · rw [allB_iff.mpr (fun k hk => decide_eq_true (q2 k hk))] at z
               cases z
           · skip
             have hv124 := b2n_f c124
             rw [hv124, if_neg (fun z => Bool.false_ne_true z.1)] at k1
             rw [Bool.not_eq_false', Bool.and_eq_true, decide_eq_true_eq, allB_iff] at hv124
             obtain ⟨hR0, hR2⟩ := hv124
             replace hR2 : ∀ k, k < c → w k < f := fun k hk => of_decide_eq_true (hR2 k hk)
             have hrc : rws * (c / rws) = c := Nat.mul_div_cancel' (Nat.dvd_of_mod_eq_zero hR0.1)
             refine wa_aload_n hX (i := 0) dX12_columns_127 rfl rfl ?_
             refine wa_aload_n hX (i := 0) dX12_columns_128 rfl rfl ?_
             refine wa_get hX 4 (by assumption) (by rfl) (by decide +kernel) dX12_columns_129 ?_
             have t145 : WA X h121 rmc rms 145 [.val (.ref a), .val (I (f : Int)), .val (I (rws : Int)), .val (I ((b2n ((decide (c % rws = 0 ∧ c / rws ≤ 10)) && allB (fun k => decide (w k < f)) c) : Nat) : Int)), .val (I (c : Int)), .unset] [I ((b2n (m == 24) : Nat) : Int), .ref a] := by
               refine wi_iconst hX dX12_columns_145 ?_
               refine wa_callV hX (c_X12_fails hW d (th := 0) (k := 3) (b := (m == 24)) k1 (by omega) (by omega)) (by assumption) (by rfl) (by rfl) (by omega) (nA := 2) (by rfl) (by decide +kernel) rfl (by exact Nat.le_of_ble_eq_true rfl) dX12_columns_146 (fun r146 h146 p146 => ?_) (fun _ _ q => q.elim)
               obtain ⟨rfl, hh146⟩ := p146
               have f146 : Fr (fun x => x = 120) h121 h146 := by rw [hh146]; exact Fr.hset Fr.rf k1 rfl
               replace k1 : h146 a = some (120, oMod ((if ((m == 24)) = true ∧ (0 : Nat) = 0 then 3 else 0 : Nat) : Int) (c : Int) row brk al wk us kp pt) := by rw [hh146]; exact hset_eq
               replace kJ := kJ.fr f146 (fun x hx => by omega)
               replace ff := ff.trans f146
               clear hh146 f146
               rw [show (((m == 24)) || (0 : Nat) != 0) = ((m == 24)) from Bool.or_false _]
               clear kr kb kwk kus kkp kpt ka ke kI kMat hc60 hw hm24 hMt
               obtain ⟨⟨hc60, hw, hm24, hMt⟩, kr, kb, kwk, kus, kkp, kpt, ed, N, P, ka, ke, kI, kMat⟩ := id kJ
               dsimp only [Option.toList, List.cons_append, List.nil_append]
               refine wi_if_eq hX (tgt := 154) dX12_columns_149 (by decide) (by exact b2n_inR _) (fun c149 => ?_) (fun c149 => ?_)
               · skip
                 have hv149 := b2n_f c149
                 rw [hv149, if_neg (fun z => Bool.false_ne_true z.1)] at k1
                 have hmne : m ≠ 24 := beq_eq_false_iff_ne.mp hv149
                 have hm9 : m < 24 := by omega
                 refine wa_aload_n hX (i := 0) dX12_columns_154 rfl rfl ?_
                 refine wa_get hX 1 (by assumption) (by rfl) (by decide +kernel) dX12_columns_155 ?_
                 refine wa_iload_n hX (i := 2) dX12_columns_158 rfl rfl ?_
                 refine wn_idiv hX (a := c) (b := rws) dX12_columns_159 rfl rfl (by omega) (by omega) (by omega) ?_
                 obtain ⟨hkk, hss⟩ := hroom ⟨⟨f, rws, rfl, rfl, hf, hr1, hr6, hR0, hR2⟩, hm9⟩
                 refine WA.room (k2 := 1 + 2) (sl2 := 40 + 1030) (by omega) (by omega) ?_
                 refine wa_callS hX (c_X12_sized hW d (e := c / rws) (by omega)) (by rfl) (by omega) (nA := 1) (by rfl) (by decide +kernel) rfl (by exact Nat.le_of_ble_eq_true rfl) dX12_columns_160 (fun r160 h160 p160 => ?_) (fun _ _ q => q.elim)
                 obtain ⟨p, q, rfl, fS, p1, q1⟩ := p160
                 have k1S := fS _ _ _ k1 id
                 have kJS := kJ.fr fS (fun x hx => hx.elim)
                 dsimp only [Option.toList, List.cons_append, List.nil_append]
                 refine wa_astore hX dX12_columns_163 rfl ?_
                 dsimp only [List.set]
                 refine wi_iconst hX dX12_columns_165 ?_
                 refine wa_istore hX dX12_columns_166 rfl ?_
                 dsimp only [List.set]
                 have hpe : 2 ^ (c / rws) ≤ 1024 := p2_le (by omega)
                 have hpe0 := p2_pos (c / rws)
                 obtain ⟨-, -, -, kwS, kuS, -⟩ := id kJS
                 refine WA.loop (σ := Nat × AH × (Nat → Int)) (fun z => 2 ^ (c / rws) - z.1) (fun z => z.1 ≤ 2 ^ (c / rws) ∧ (∀ s, s < z.1 → z.2.2 s = ((colM w f rws (c / rws) s : Nat) : Int)) ∧ (Fr (fun x => x = 125 ∨ x = 126 ∨ x = 134) h160 z.2.1 ∧ z.2.1 q = some (134, aI .int 1024 z.2.2) ∧ (∃ WK : Nat → Int, z.2.1 wk = some (125, aI .int 100 WK)) ∧ (∃ US : Nat → Bool, z.2.1 us = some (126, aI .boolean 10 (fun j => ((b2n (US j) : Nat) : Int)))))) (fun z => z.2.1) (fun z => [.val (.ref a), .val (I (f : Int)), .val (I (rws : Int)), .val (I ((b2n ((decide (c % rws = 0 ∧ c / rws ≤ 10)) && allB (fun k => decide (w k < f)) c) : Nat) : Int)), .val (.ref p), .val (I (z.1 : Nat))]) ?_ (0, h160, (fun _ => 0)) ⟨Nat.zero_le _, fun s hs => absurd hs (Nat.not_lt_zero s), Fr.rf, q1, kwS, kuS⟩
                 rintro ⟨z, h2, F⟩ ⟨hz, hF, f2, q2, ⟨WK, kw2⟩, ⟨US, ku2⟩⟩ ih
                 dsimp only at hz hF f2 q2 kw2 ku2 ⊢
                 have p2 := f2 _ _ _ p1 (by omega)
                 have k2 := f2 _ _ _ k1S (by omega)
                 have kJ2 := kJS.chgS f2 ⟨WK, kw2⟩ ⟨US, ku2⟩
                 have kr2 := kJ2.2.1
                 refine wa_iload hX dX12_columns_168 rfl ?_
                 refine wa_aload hX dX12_columns_170 rfl ?_
                 refine wa_callV hX (c_X11_full hW d p2 (by omega)) (by assumption) (by rfl) (by rfl) (by omega) (nA := 0) (by rfl) (by decide +kernel) rfl (by exact Nat.le_of_ble_eq_true rfl) dX12_columns_172 (fun r172 h172 p172 => ?_) (fun _ _ q => q.elim)
                 obtain ⟨rfl, qq172⟩ := p172; subst h172
                 dsimp only [Option.toList, List.cons_append, List.nil_append]
                 refine wi_icmp_gt hX (tgt := 209) dX12_columns_175 (by decide) (by omega) (by omega) (fun c175 => ?_) (fun c175 => ?_)
                 · skip
                   refine wa_aload_n hX (i := 0) dX12_columns_209 rfl rfl ?_
                   refine wi_iconst hX dX12_columns_210 ?_
                   refine wa_put hX 1 k2 (Nat.le_of_ble_eq_true rfl) (by decide +kernel) (by rfl) (by rfl) (by rfl) dX12_columns_211 ?_
                   refine WA.heap (h2 := hset h2 a (120, oMod ((0 : Nat) : Int) ((0 : Nat) : Int) row brk al wk us kp pt)) rfl ?_
                   refine WA.hgq (fun hG hhG => ?_)
                   have fG : Fr (fun x => x = 120) h2 hG := by rw [hhG]; exact Fr.hset Fr.rf k2 rfl
                   have k3 : hG a = some (120, oMod ((0 : Nat) : Int) ((0 : Nat) : Int) row brk al wk us kp pt) := by rw [hhG]; exact hset_eq
                   have p3 := fG _ _ _ p2 (by decide)
                   have q3 := fG _ _ _ q2 (by decide)
                   have kJ3 := kJ2.fr fG (fun x hx => by omega)
                   replace kJ3 : RJ (zA (cxS X)) DR hG row brk al wk us kp pt 0 w m E R b0 b1 b2 := ⟨⟨Nat.zero_le _, kJ3.1.2⟩, kJ3.2⟩
                   clear hhG
                   refine wa_aload_n hX (i := 0) dX12_columns_214 rfl rfl ?_
                   refine wa_aload hX dX12_columns_215 rfl ?_
                   refine WA.room (k2 := 0 + 1) (sl2 := 0 + 40) (by omega) (by omega) ?_
                   refine wa_callV hX (c_X12_add hW d (e := c / rws) (rk := fun s => colM w f rws (c / rws) s) k3 kJ3 hm9 p3 q3 (fun s hs => hF s (by omega)) (hN f rws hf hr1 hr6 hR0.1 hR0.2 hR2)) (by assumption) (by rfl) (by rfl) (by omega) (nA := 1) (by rfl) (by decide +kernel) rfl (by exact Nat.le_of_ble_eq_true rfl) dX12_columns_217 (fun r217 h217 p217 => ?_) (fun _ _ q => q.elim)
                   obtain ⟨rfl, f9, kJ9⟩ := p217
                   have k19 := f9 _ _ _ k3 (by omega)
                   dsimp only [Option.toList, List.cons_append, List.nil_append]
                   refine wa_iret hX dX12_columns_220 ?_
                   exact ⟨((((ff.mono (fun x hx => by omega)).trans (fS.mono (fun x hx => hx.elim))).trans (f2.mono (fun x hx => by omega))).trans (fG.mono (fun x hx => by omega))).trans (f9.mono (fun x hx => by omega)), Or.inr ⟨f, rws, rfl, rfl, hf, hr1, hr6, Or.inr ⟨hR0, hR2, Or.inr ⟨hmne, rfl, row, brk, al, wk, us, kp, pt, k19, kJ9⟩⟩⟩⟩
                 · skip
                   refine wa_aload hX dX12_columns_178 rfl ?_
                   refine wa_get hX 1 (by assumption) (by rfl) (by decide +kernel) dX12_columns_180 ?_
                   refine wa_iload hX dX12_columns_183 rfl ?_
                   refine wa_aload_n hX (i := 0) dX12_columns_185 rfl rfl ?_
                   refine wa_aload_n hX (i := 0) dX12_columns_186 rfl rfl ?_
                   refine wa_get hX 2 (by assumption) (by rfl) (by decide +kernel) dX12_columns_187 ?_
                   refine wa_iload_n hX (i := 2) dX12_columns_190 rfl rfl ?_
                   refine wa_aload hX dX12_columns_191 rfl ?_
                   refine wa_get hX 0 (by assumption) (by rfl) (by decide +kernel) dX12_columns_193 ?_
                   refine wa_iload hX dX12_columns_196 rfl ?_
                   refine wa_iload_n hX (i := 1) dX12_columns_198 rfl rfl ?_
                   refine wa_callV hX (c_X12_rankOf hW d (rows := rws) (cols := c / rws) (set := z) (f := f) (W0 := fun i k => w (rws * i + k)) k2 kw2 ku2 kr2 (by decide) (by omega) (by omega) (by omega) (by omega) (by omega) hf (fun i hi k hk => rfl) (fun i hi k hk => hR2 _ (by have := idx_lt (rows := rws) (cols := c / rws) hi hk; omega))) (by assumption) (by rfl) (by rfl) (by omega) (nA := 5) (by rfl) (by decide +kernel) rfl (by exact Nat.le_of_ble_eq_true rfl) dX12_columns_199 (fun r199 h199 p199 => ?_) (fun _ _ q => q.elim)
                   obtain ⟨rfl, f3, ⟨WK3, kw3⟩, US3, ku3⟩ := p199
                   have q3 := f3 _ _ _ q2 (by decide)
                   dsimp only [Option.toList, List.cons_append, List.nil_append]
                   refine wi_iastore hX q3 (by omega) (by omega) (by omega) dX12_columns_202 ?_
                   rw [Int.toNat_natCast]
                   refine WA.hgq (fun h4 hh4 => ?_)
                   have f4 : Fr (fun x => x = 134) h199 h4 := by rw [hh4]; exact Fr.hset Fr.rf q3 rfl
                   have q4 : h4 q = some (134, aI .int 1024 (up F z ((colM w f rws (c / rws) z : Nat) : Int))) := by rw [hh4]; exact hset_eq
                   have kw4 := f4 _ _ _ kw3 (by decide)
                   have ku4 := f4 _ _ _ ku3 (by decide)
                   have f24 : Fr (fun x => x = 125 ∨ x = 126 ∨ x = 134) h160 h4 := (f2.trans (f3.mono (fun x hx => by omega))).trans (f4.mono (fun x hx => by omega))
                   clear hh4
                   refine wi_iinc hX dX12_columns_203 rfl ?_
                   dsimp only [List.set]
                   refine wa_goto hX (tgt := 168) dX12_columns_206 (by decide) ?_
                   exact ih (z + 1, h4, up F z ((colM w f rws (c / rws) z : Nat) : Int)) ⟨by show z + 1 ≤ _; omega, fill_step (spec := fun s => ((colM w f rws (c / rws) s : Nat) : Int)) hF, f24, q4, ⟨WK3, kw4⟩, ⟨US3, ku4⟩⟩ (by show _ - (z + 1) < _; omega)
               · skip
                 refine wi_iconst hX dX12_columns_152 ?_
                 refine wa_iret hX dX12_columns_153 ?_
                 have z := b2n_t c149
                 rw [z, if_pos ⟨rfl, rfl⟩] at k1
                 exact ⟨ff.mono (fun x hx => by omega), Or.inr ⟨f, rws, rfl, rfl, hf, hr1, hr6, Or.inr ⟨hR0, hR2, Or.inl ⟨beq_iff_eq.mp z, ⟨_, rfl⟩, row, brk, al, wk, us, kp, pt, k1, kJ⟩⟩⟩⟩
             refine wa_callV hX (c_AL_size hW d ka) (by assumption) (by rfl) (by rfl) (by omega) (nA := 0) (by rfl) (by decide +kernel) rfl (by exact Nat.le_of_ble_eq_true rfl) dX12_columns_132 (fun r132 h132 p132 => ?_) (fun _ _ q => q.elim)
             obtain ⟨rfl, qq132⟩ := p132; subst h132
             dsimp only [Option.toList, List.cons_append, List.nil_append]
             refine wi_bipush hX dX12_columns_135 (by decide) ?_
             refine wi_icmp_ne hX (tgt := 144) dX12_columns_137 (by decide) (by omega) (by omega) (fun c137 => ?_) (fun c137 => ?_)
             · skip
               refine wi_iconst hX dX12_columns_144 ?_
               refine WA.eq rfl rfl ?_ t145
               first
                 | (rw [show (m == 24) = true from beq_iff_eq.mpr (by omega)]; rfl)
                 | (rw [show (m == 24) = false from beq_eq_false_iff_ne.mpr (by omega)]; rfl)
             · skip
               refine wi_iconst hX dX12_columns_140 ?_
               refine wa_goto hX (tgt := 145) dX12_columns_141 (by decide) ?_
               refine WA.eq rfl rfl ?_ t145
               first
                 | (rw [show (m == 24) = true from beq_iff_eq.mpr (by omega)]; rfl)
                 | (rw [show (m == 24) = false from beq_eq_false_iff_ne.mpr (by omega)]; rfl)
         refine wa_iload_n hX (i := 3) dX12_columns_111 rfl rfl ?_
         refine wi_if_ne hX (tgt := 119) dX12_columns_112 (by decide) (by exact b2n_inR _) (fun c112 => ?_) (fun c112 => ?_)
         · skip
           refine wi_iconst hX dX12_columns_119 ?_
           refine WA.eq rfl rfl ?_ t120
           first
             | (have q := b2n_t c112; rw [q]; rfl)
             | (have q := b2n_f c112; rw [q]; rfl)
         · skip
           refine wi_iconst hX dX12_columns_115 ?_
           refine wa_goto hX (tgt := 120) dX12_columns_116 (by decide) ?_
           refine WA.eq rfl rfl ?_ t120
           first
             | (have q := b2n_t c112; rw [q]; rfl)
             | (have q := b2n_f c112; rw [q]; rfl)
       · skip
         refine wa_iload_n hX (i := 3) dX12_columns_83 rfl rfl ?_
         refine wi_if_eq hX (tgt := 102) dX12_columns_84 (by decide) (by exact b2n_inR _) (fun c84 => ?_) (fun c84 => ?_)
         · skip
           refine wi_iconst hX dX12_columns_102 ?_
           refine WA.eq (pc2 := 103) (st2 := [I ((b2n ((decide (c % rws = 0 ∧ c / rws ≤ 10)) && allB (fun k => decide (w k < f)) (k + 1)) : Nat) : Int)]) rfl rfl (by
             rw [hst]
             first
               | (have q := b2n_f c84
                  rw [← Bool.and_assoc, q]; rfl)
               | (have q := b2n_t c84
                  rw [← Bool.and_assoc, q, Bool.true_and]
                  first
                    | (rw [decide_eq_true (show w k < f by omega)]; rfl)
                    | (rw [decide_eq_false (show ¬ (w k < f) by omega)]; rfl))) ?_
           clear c84
           refine wa_istore_n hX (i := 3) dX12_columns_103 rfl rfl ?_
           dsimp only [List.set]
           refine wi_iinc hX dX12_columns_104 rfl ?_
           dsimp only [List.set]
           refine wa_goto hX (tgt := 74) dX12_columns_107 (by decide) ?_
           exact ih (k + 1) (by omega) (by omega)
         · skip
           refine wa_aload_n hX (i := 0) dX12_columns_87 rfl rfl ?_
           refine wa_get hX 2 (by assumption) (by rfl) (by decide +kernel) dX12_columns_88 ?_
           refine wa_iload hX dX12_columns_91 rfl ?_
           refine wi_iaload hX (by assumption) (by omega) (by omega) (by omega) dX12_columns_93 ?_
           rw [Int.toNat_natCast]
           refine wa_iload_n hX (i := 1) dX12_columns_94 rfl rfl ?_
           refine wi_icmp_ge hX (tgt := 102) dX12_columns_95 (by decide) (by omega) (by omega) (fun c95 => ?_) (fun c95 => ?_)
           · skip
             refine wi_iconst hX dX12_columns_102 ?_
             refine WA.eq (pc2 := 103) (st2 := [I ((b2n ((decide (c % rws = 0 ∧ c / rws ≤ 10)) && allB (fun k => decide (w k < f)) (k + 1)) : Nat) : Int)]) rfl rfl (by
               rw [hst]
               first
                 | (have q := b2n_f c84
                    rw [← Bool.and_assoc, q]; rfl)
                 | (have q := b2n_t c84
                    rw [← Bool.and_assoc, q, Bool.true_and]
                    first
                      | (rw [decide_eq_true (show w k < f by omega)]; rfl)
                      | (rw [decide_eq_false (show ¬ (w k < f) by omega)]; rfl))) ?_
             clear c84
             refine wa_istore_n hX (i := 3) dX12_columns_103 rfl rfl ?_
             dsimp only [List.set]
             refine wi_iinc hX dX12_columns_104 rfl ?_
             dsimp only [List.set]
             refine wa_goto hX (tgt := 74) dX12_columns_107 (by decide) ?_
             exact ih (k + 1) (by omega) (by omega)
           · skip
             refine wi_iconst hX dX12_columns_98 ?_
             refine wa_goto hX (tgt := 103) dX12_columns_99 (by decide) ?_
             refine WA.eq (pc2 := 103) (st2 := [I ((b2n ((decide (c % rws = 0 ∧ c / rws ≤ 10)) && allB (fun k => decide (w k < f)) (k + 1)) : Nat) : Int)]) rfl rfl (by
               rw [hst]
               first
                 | (have q := b2n_f c84
                    rw [← Bool.and_assoc, q]; rfl)
                 | (have q := b2n_t c84
                    rw [← Bool.and_assoc, q, Bool.true_and]
                    first
                      | (rw [decide_eq_true (show w k < f by omega)]; rfl)
                      | (rw [decide_eq_false (show ¬ (w k < f) by omega)]; rfl))) ?_
             clear c84
             refine wa_istore_n hX (i := 3) dX12_columns_103 rfl rfl ?_
             dsimp only [List.set]
             refine wi_iinc hX dX12_columns_104 rfl ?_
             dsimp only [List.set]
             refine wa_goto hX (tgt := 74) dX12_columns_107 (by decide) ?_
             exact ih (k + 1) (by omega) (by omega)
      refine wa_get hX 1 (by assumption) (by rfl) (by decide +kernel) dX12_columns_46 ?_
      refine wa_iload_n hX (i := 2) dX12_columns_49 rfl rfl ?_
      refine wn_irem hX (a := c) (b := rws) dX12_columns_50 rfl rfl (by omega) (by omega) (by omega) ?_
      refine wi_if_ne hX (tgt := 69) dX12_columns_51 (by decide) (by omega) (fun c51 => ?_) (fun c51 => ?_)
      · skip
        refine wi_iconst hX dX12_columns_69 ?_
        refine WA.eq rfl rfl ?_ t70
        first
          | (rw [show (decide (c % rws = 0 ∧ c / rws ≤ 10)) = true from decide_eq_true (by omega)]; rfl)
          | (rw [show (decide (c % rws = 0 ∧ c / rws ≤ 10)) = false from decide_eq_false (by omega)]; rfl)
      · skip
        refine wa_aload_n hX (i := 0) dX12_columns_54 rfl rfl ?_
        refine wa_get hX 1 (by assumption) (by rfl) (by decide +kernel) dX12_columns_55 ?_
        refine wa_iload_n hX (i := 2) dX12_columns_58 rfl rfl ?_
        refine wn_idiv hX (a := c) (b := rws) dX12_columns_59 rfl rfl (by omega) (by omega) (by omega) ?_
        refine wi_bipush hX dX12_columns_60 (by decide) ?_
        refine wi_icmp_gt hX (tgt := 69) dX12_columns_62 (by decide) (by first | omega | exact inR_nat (Nat.lt_of_le_of_lt hdl (by omega))) (by first | omega | exact inR_nat (Nat.lt_of_le_of_lt hdl (by omega))) (fun c62 => ?_) (fun c62 => ?_)
        · skip
          refine wi_iconst hX dX12_columns_69 ?_
          refine WA.eq rfl rfl ?_ t70
          first
            | (rw [show (decide (c % rws = 0 ∧ c / rws ≤ 10)) = true from decide_eq_true (by omega)]; rfl)
            | (rw [show (decide (c % rws = 0 ∧ c / rws ≤ 10)) = false from decide_eq_false (by omega)]; rfl)
        · skip
          refine wi_iconst hX dX12_columns_65 ?_
          refine wa_goto hX (tgt := 70) dX12_columns_66 (by decide) ?_
          refine WA.eq rfl rfl ?_ t70
          first
            | (rw [show (decide (c % rws = 0 ∧ c / rws ≤ 10)) = true from decide_eq_true (by omega)]; rfl)
            | (rw [show (decide (c % rws = 0 ∧ c / rws ≤ 10)) = false from decide_eq_false (by omega)]; rfl)
    · skip
      refine wi_iconst hX dX12_columns_43 ?_
      refine wa_iret hX dX12_columns_44 ?_
      have z := b2n_t c40
      rw [z, if_pos ⟨rfl, rfl⟩] at k1
      refine ⟨ff.mono (fun x hx => by omega), Or.inl ⟨?_, ⟨_, rfl⟩, row, brk, al, wk, us, kp, pt, k1, kJ⟩⟩
      rw [Bool.not_eq_true', decide_eq_false_iff_not] at z
      exact z
  refine wa_iload_n hX (i := 1) dX12_columns_6 rfl rfl ?_
  refine wi_iconst hX dX12_columns_7 ?_
  refine wi_icmp_eq hX (tgt := 21) dX12_columns_8 (by decide) (by omega) (by omega) (fun c8 => ?_) (fun c8 => ?_)
  · skip
    refine wa_iload_n hX (i := 2) dX12_columns_21 rfl rfl ?_
    refine wi_iconst hX dX12_columns_22 ?_
    refine wi_bipush hX dX12_columns_23 (by decide) ?_
    refine wa_callS hX (c_X12_in hW d (v := v) (lo := 1) (hi := 6) hv (by omega) (by omega)) (by rfl) (by omega) (nA := 3) (by rfl) (by decide +kernel) rfl (by exact Nat.le_of_ble_eq_true rfl) dX12_columns_25 (fun r25 h25 p25 => ?_) (fun _ _ q => q.elim)
    obtain ⟨rfl, qq25⟩ := p25; subst h25
    dsimp only [Option.toList, List.cons_append, List.nil_append]
    refine wi_if_ne hX (tgt := 35) dX12_columns_28 (by decide) (by exact b2n_inR _) (fun c28 => ?_) (fun c28 => ?_)
    · skip
      refine wi_iconst hX dX12_columns_35 ?_
      refine WA.eq rfl rfl ?_ t36
      first
        | (have q := b2n_t c28
           rw [decide_eq_true_eq] at q
           rw [decide_eq_true (⟨by omega, by omega, by omega⟩ : (n = 2 ∨ n = 3 ∨ n = 5) ∧ 1 ≤ v ∧ v ≤ 6)]; rfl)
        | (have q := b2n_f c28
           rw [decide_eq_false_iff_not] at q
           rw [decide_eq_false (show ¬ ((n = 2 ∨ n = 3 ∨ n = 5) ∧ 1 ≤ v ∧ v ≤ 6) by omega)]; rfl)
        | (rw [decide_eq_false (show ¬ ((n = 2 ∨ n = 3 ∨ n = 5) ∧ 1 ≤ v ∧ v ≤ 6) by omega)]; rfl)
    · skip
      refine wi_iconst hX dX12_columns_31 ?_
      refine wa_goto hX (tgt := 36) dX12_columns_32 (by decide) ?_
      refine WA.eq rfl rfl ?_ t36
      first
        | (have q := b2n_t c28
           rw [decide_eq_true_eq] at q
           rw [decide_eq_true (⟨by omega, by omega, by omega⟩ : (n = 2 ∨ n = 3 ∨ n = 5) ∧ 1 ≤ v ∧ v ≤ 6)]; rfl)
        | (have q := b2n_f c28
           rw [decide_eq_false_iff_not] at q
           rw [decide_eq_false (show ¬ ((n = 2 ∨ n = 3 ∨ n = 5) ∧ 1 ≤ v ∧ v ≤ 6) by omega)]; rfl)
        | (rw [decide_eq_false (show ¬ ((n = 2 ∨ n = 3 ∨ n = 5) ∧ 1 ≤ v ∧ v ≤ 6) by omega)]; rfl)
  · skip
    refine wa_iload_n hX (i := 1) dX12_columns_11 rfl rfl ?_
    refine wi_iconst hX dX12_columns_12 ?_
    refine wi_icmp_eq hX (tgt := 21) dX12_columns_13 (by decide) (by omega) (by omega) (fun c13 => ?_) (fun c13 => ?_)
    · skip
      refine wa_iload_n hX (i := 2) dX12_columns_21 rfl rfl ?_
      refine wi_iconst hX dX12_columns_22 ?_
      refine wi_bipush hX dX12_columns_23 (by decide) ?_
      refine wa_callS hX (c_X12_in hW d (v := v) (lo := 1) (hi := 6) hv (by omega) (by omega)) (by rfl) (by omega) (nA := 3) (by rfl) (by decide +kernel) rfl (by exact Nat.le_of_ble_eq_true rfl) dX12_columns_25 (fun r25 h25 p25 => ?_) (fun _ _ q => q.elim)
      obtain ⟨rfl, qq25⟩ := p25; subst h25
      dsimp only [Option.toList, List.cons_append, List.nil_append]
      refine wi_if_ne hX (tgt := 35) dX12_columns_28 (by decide) (by exact b2n_inR _) (fun c28 => ?_) (fun c28 => ?_)
      · skip
        refine wi_iconst hX dX12_columns_35 ?_
        refine WA.eq rfl rfl ?_ t36
        first
          | (have q := b2n_t c28
             rw [decide_eq_true_eq] at q
             rw [decide_eq_true (⟨by omega, by omega, by omega⟩ : (n = 2 ∨ n = 3 ∨ n = 5) ∧ 1 ≤ v ∧ v ≤ 6)]; rfl)
          | (have q := b2n_f c28
             rw [decide_eq_false_iff_not] at q
             rw [decide_eq_false (show ¬ ((n = 2 ∨ n = 3 ∨ n = 5) ∧ 1 ≤ v ∧ v ≤ 6) by omega)]; rfl)
          | (rw [decide_eq_false (show ¬ ((n = 2 ∨ n = 3 ∨ n = 5) ∧ 1 ≤ v ∧ v ≤ 6) by omega)]; rfl)
      · skip
        refine wi_iconst hX dX12_columns_31 ?_
        refine wa_goto hX (tgt := 36) dX12_columns_32 (by decide) ?_
        refine WA.eq rfl rfl ?_ t36
        first
          | (have q := b2n_t c28
             rw [decide_eq_true_eq] at q
             rw [decide_eq_true (⟨by omega, by omega, by omega⟩ : (n = 2 ∨ n = 3 ∨ n = 5) ∧ 1 ≤ v ∧ v ≤ 6)]; rfl)
          | (have q := b2n_f c28
             rw [decide_eq_false_iff_not] at q
             rw [decide_eq_false (show ¬ ((n = 2 ∨ n = 3 ∨ n = 5) ∧ 1 ≤ v ∧ v ≤ 6) by omega)]; rfl)
          | (rw [decide_eq_false (show ¬ ((n = 2 ∨ n = 3 ∨ n = 5) ∧ 1 ≤ v ∧ v ≤ 6) by omega)]; rfl)
    · skip
      refine wa_iload_n hX (i := 1) dX12_columns_16 rfl rfl ?_
      refine wi_iconst hX dX12_columns_17 ?_
      refine wi_icmp_ne hX (tgt := 31) dX12_columns_18 (by decide) (by omega) (by omega) (fun c18 => ?_) (fun c18 => ?_)
      · skip
        refine wi_iconst hX dX12_columns_31 ?_
        refine wa_goto hX (tgt := 36) dX12_columns_32 (by decide) ?_
        refine WA.eq rfl rfl ?_ t36
        first
          | (have q := b2n_t c28
             rw [decide_eq_true_eq] at q
             rw [decide_eq_true (⟨by omega, by omega, by omega⟩ : (n = 2 ∨ n = 3 ∨ n = 5) ∧ 1 ≤ v ∧ v ≤ 6)]; rfl)
          | (have q := b2n_f c28
             rw [decide_eq_false_iff_not] at q
             rw [decide_eq_false (show ¬ ((n = 2 ∨ n = 3 ∨ n = 5) ∧ 1 ≤ v ∧ v ≤ 6) by omega)]; rfl)
          | (rw [decide_eq_false (show ¬ ((n = 2 ∨ n = 3 ∨ n = 5) ∧ 1 ≤ v ∧ v ≤ 6) by omega)]; rfl)
      · skip
        refine wa_iload_n hX (i := 2) dX12_columns_21 rfl rfl ?_
        refine wi_iconst hX dX12_columns_22 ?_
        refine wi_bipush hX dX12_columns_23 (by decide) ?_
        refine wa_callS hX (c_X12_in hW d (v := v) (lo := 1) (hi := 6) hv (by omega) (by omega)) (by rfl) (by omega) (nA := 3) (by rfl) (by decide +kernel) rfl (by exact Nat.le_of_ble_eq_true rfl) dX12_columns_25 (fun r25 h25 p25 => ?_) (fun _ _ q => q.elim)
        obtain ⟨rfl, qq25⟩ := p25; subst h25
        dsimp only [Option.toList, List.cons_append, List.nil_append]
        refine wi_if_ne hX (tgt := 35) dX12_columns_28 (by decide) (by exact b2n_inR _) (fun c28 => ?_) (fun c28 => ?_)
        · skip
          refine wi_iconst hX dX12_columns_35 ?_
          refine WA.eq rfl rfl ?_ t36
          first
            | (have q := b2n_t c28
               rw [decide_eq_true_eq] at q
               rw [decide_eq_true (⟨by omega, by omega, by omega⟩ : (n = 2 ∨ n = 3 ∨ n = 5) ∧ 1 ≤ v ∧ v ≤ 6)]; rfl)
            | (have q := b2n_f c28
               rw [decide_eq_false_iff_not] at q
               rw [decide_eq_false (show ¬ ((n = 2 ∨ n = 3 ∨ n = 5) ∧ 1 ≤ v ∧ v ≤ 6) by omega)]; rfl)
            | (rw [decide_eq_false (show ¬ ((n = 2 ∨ n = 3 ∨ n = 5) ∧ 1 ≤ v ∧ v ≤ 6) by omega)]; rfl)
        · skip
          refine wi_iconst hX dX12_columns_31 ?_
          refine wa_goto hX (tgt := 36) dX12_columns_32 (by decide) ?_
          refine WA.eq rfl rfl ?_ t36
          first
            | (have q := b2n_t c28
               rw [decide_eq_true_eq] at q
               rw [decide_eq_true (⟨by omega, by omega, by omega⟩ : (n = 2 ∨ n = 3 ∨ n = 5) ∧ 1 ≤ v ∧ v ≤ 6)]; rfl)
            | (have q := b2n_f c28
               rw [decide_eq_false_iff_not] at q
               rw [decide_eq_false (show ¬ ((n = 2 ∨ n = 3 ∨ n = 5) ∧ 1 ≤ v ∧ v ≤ 6) by omega)]; rfl)
            | (rw [decide_eq_false (show ¬ ((n = 2 ∨ n = 3 ∨ n = 5) ∧ 1 ≤ v ∧ v ≤ 6) by omega)]; rfl)
end C9h
