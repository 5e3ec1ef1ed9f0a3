/-! The reference (X12): a new matroid, the list's growth, uniform -/
section C95
variable {l : Launch} {D : va_G} {S0 : State} {DR : (Nat → Nat) → Nat → Nat → Option (Nat → Nat) → Prop}
set_option maxRecDepth 100000 in
theorem c_X11_made (hW : WOK l D S0) (d : Nat) {h : AH} {a la : Nat} (lr : Nat) (h1 : h a = some (la, oF 12 [I 0, .null, .null, .null, I 0, I 0])) : MA l D S0 yX11_init cX11_init 1 none d [.ref a] h 1 1024 (fun r h' => r = none ∧ ∃ q, h q = none ∧ h' = hset (hset h q (lr, aI .int 1024 (fun _ => 0))) a (la, oRef 0 q .null .null 0 0)) (fun _ _ => False) := by
  refine MA.start hW (by decide) [.val (.ref a)] rfl ?_
  rintro X rfl rfl rfl hX
  refine wa_aload_n hX (i := 0) dX11_init_0 rfl rfl ?_
  refine wa_obj hX (by decide +kernel) rfl (by exact Nat.le_of_ble_eq_true rfl) dX11_init_1 ?_
  refine wa_aload_n hX (i := 0) dX11_init_4 rfl rfl ?_
  refine wi_sipush hX dX11_init_5 (by decide) ?_
  refine WA.room (k2 := 0 + 1) (sl2 := 0 + 1024) (by omega) (by omega) ?_
  refine wa_newa hX 1024 lr .int (.inl (fun j => Int32.ofInt ((fun _ => 0 : Nat → Int) j))) rfl (by rfl) (by omega) (fun cA => by rfl) (by decide +kernel) dX11_init_8 (fun q qn => ?_)
  have g1 := hset_new (x := (lr, aI .int 1024 (fun _ => 0))) qn h1
  refine wa_putF hX 1 g1 (Nat.le_of_ble_eq_true rfl) (by decide +kernel) (by rfl) rfl (by rfl) (by rfl) (by rfl) dX11_init_10 ?_
  refine wa_vret hX dX11_init_13 ?_
  exact ⟨rfl, q, qn, rfl⟩
set_option maxRecDepth 100000 in
theorem c_X12_sized (hW : WOK l D S0) (d : Nat) {h : AH} {e : Nat} (he : e ≤ 10) : MA l D S0 yX12_sized cX12_sized 2 (some (.object "CircuitfoldModel$Matroid")) (d + 1) [I (e : Int)] h 2 1030 (fun r h' => ∃ p q, r = some (.ref p) ∧ Fr (fun _ => False) h h' ∧ h' p = some (133, oRef e q .null .null 0 0) ∧ h' q = some (134, aI .int 1024 (fun _ => 0))) (fun _ _ => False) := by
  refine MA.start hW (by decide) [.val (I (e : Int)), .unset] rfl ?_
  rintro X rfl rfl rfl hX
  refine WA.room (k2 := (0 + 1) + 1) (sl2 := (0 + 1024) + 6) (by omega) (by omega) ?_
  refine wa_new hX 12 133 6 [I 0, .null, .null, .null, I 0, I 0] (by decide +kernel) (by decide +kernel) rfl dX12_sized_0 (fun p pn => ?_)
  refine WA.hgq (fun hA hhA => ?_)
  have f1 : Fr (fun _ => False) h hA := by rw [hhA]; exact fun b lb ob z _ => hset_new pn z
  have p1 : hA p = some (133, oF 12 [I 0, .null, .null, .null, I 0, I 0]) := by rw [hhA]; exact hset_eq
  clear hhA
  refine wa_dup hX dX12_sized_3 rfl ?_
  refine wa_callIN hX "CircuitfoldModel" (c_X11_made hW d 134 p1) (by rfl) (by omega) (nA := 0) (by rfl) (by decide +kernel) rfl (by exact Nat.le_of_ble_eq_true rfl) dX12_sized_4 (fun r4 h4 p4 => ?_) (fun _ _ q => q.elim)
  obtain ⟨rfl, q, qn, hh4⟩ := p4
  dsimp only [Option.toList, List.cons_append, List.nil_append]
  have f2 : Fr (fun _ => False) h h4 := fun b lb ob z _ => by
    have z2 := f1 _ _ _ z id
    have hbp : b ≠ p := fun e9 => by
      subst e9
      rw [pn] at z
      cases z
    rw [hh4, hset_ne hbp]
    exact hset_new qn z2
  have p2 : h4 p = some (133, oRef 0 q .null .null 0 0) := by rw [hh4]; exact hset_eq
  have q2 : h4 q = some (134, aI .int 1024 (fun _ => 0)) := by
    rw [hh4, hset_ne (fun e9 => by rw [← e9, qn] at p1; cases p1)]
    exact hset_eq
  clear hh4
  refine wa_astore_n hX (i := 1) dX12_sized_7 rfl rfl ?_
  dsimp only [List.set]
  refine wa_aload_n hX (i := 1) dX12_sized_8 rfl rfl ?_
  refine wa_iload_n hX (i := 0) dX12_sized_9 rfl rfl ?_
  refine wa_put hX 0 p2 (Nat.le_of_ble_eq_true rfl) (by decide +kernel) (by rfl) (by rfl) (by rfl) dX12_sized_10 ?_
  refine WA.heap (h2 := hset h4 p (133, oRef e q .null .null 0 0)) rfl ?_
  refine wa_aload_n hX (i := 1) dX12_sized_13 rfl rfl ?_
  refine wa_aretR hX dX12_sized_14 (by first | exact Or.inl ⟨_, rfl⟩ | exact Or.inr ⟨_, rfl⟩) ?_
  exact ⟨p, q, rfl, fun b lb ob z _ => by
    have hbp : b ≠ p := fun e9 => by
      subst e9
      rw [pn] at z
      cases z
    rw [hset_ne hbp]
    exact f2 _ _ _ z id, hset_eq, hset_lab p2 q2 (by decide)⟩
set_option maxHeartbeats 1000000 in
set_option maxRecDepth 100000 in
theorem c_X12_add (hW : WOK l D S0) (d : Nat) {h : AH} {a row brk al wk us kp pt c m : Nat} {w E : Nat → Nat} {R : Nat → Nat → Nat} {b0 b1 b2 th : Int} (k1 : h a = some (120, oMod th (c : Int) row brk al wk us kp pt)) (kJ : RJ (zA S0) DR h row brk al wk us kp pt c w m E R b0 b1 b2) (hm : m < 24) {p q e : Nat} {rk : Nat → Nat} {G : Nat → Int} (hp : h p = some (133, oRef e q .null .null 0 0)) (hq : h q = some (134, aI .int 1024 G)) (hG : ∀ s, s < 2 ^ e → G s = ((rk s : Nat) : Int)) (hM : Mtr e rk) : MA l D S0 yX12_add cX12_add 2 (some .int) (d + 6) [.ref a, .ref p] h 1 40 (fun r h' => r = some (I (m : Nat)) ∧ Fr (fun x => 123 ≤ x ∧ x ≤ 134) h h' ∧ RJ (zA S0) DR h' row brk al wk us kp pt c w (m + 1) (up E m e) (up R m rk) b0 b1 b2) (fun _ _ => False) := by
  obtain ⟨⟨hc60, hw, hm24, hMt⟩, kr, kb, ⟨WK, kwk⟩, ⟨US, kus⟩, ⟨KP, kkp⟩, ⟨e0, rq0, m20, m30, l20, l30, G0, kpt, kpq⟩, ed, N, P, ka, ke, kI, kMat⟩ := id kJ
  have l2 : LsA S0 h ed m P := ke.imp id (fun z => ⟨N, z⟩)
  have p2 : LsP h m P := fun j hj => by
    obtain ⟨rq, m2, m3, l2, l3, G, g1, _⟩ := kMat j hj
    exact ⟨130, 12, _, g1, by decide +kernel⟩
  have pl : ∀ j, j < m → P j ≠ al := fun j hj => by
    obtain ⟨rq, m2, m3, l2, l3, G, g1, _⟩ := kMat j hj
    exact lab_ne ka g1 (by decide)
  have pp : ∀ j, j < m → P j ≠ p := fun j hj => by
    obtain ⟨rq, m2, m3, l2, l3, G, g1, _⟩ := kMat j hj
    exact lab_ne hp g1 (by decide)
  refine MA.start hW (by decide) [.val (.ref a), .val (.ref p)] rfl ?_
  rintro X rfl rfl rfl hX
  refine wa_aload_n hX (i := 0) dX12_add_0 rfl rfl ?_
  refine wa_get hX 4 k1 (by rfl) (by decide +kernel) dX12_add_1 ?_
  refine wa_aload_n hX (i := 1) dX12_add_4 rfl rfl ?_
  refine WA.room (k2 := 0 + 1) (sl2 := 0 + 40) (by omega) (by omega) ?_
  refine wa_callV hX (c_AL_add hW d ka l2 p2 (by omega) hp (by decide) (by decide +kernel) pl) (by assumption) (by rfl) (by rfl) (by omega) (nA := 1) (by rfl) (by decide +kernel) rfl (by exact Nat.le_of_ble_eq_true rfl) dX12_add_5 (fun r5 h5 p5 => ?_) (fun _ _ q => q.elim)
  obtain ⟨⟨z0, rfl⟩, f5, ed', N', z1, z2, z3, z4⟩ := p5
  have k15 := f5 _ _ _ k1 (by omega)
  have hp5 := f5 _ _ _ hp (by omega)
  have hq5 := f5 _ _ _ hq (by omega)
  dsimp only [Option.toList, List.cons_append, List.nil_append]
  refine wa_pop hX dX12_add_8 rfl ?_
  refine wa_aload_n hX (i := 0) dX12_add_9 rfl rfl ?_
  refine wa_get hX 4 k15 (by rfl) (by decide +kernel) dX12_add_10 ?_
  refine wa_callV hX (c_AL_size hW d z1) (by assumption) (by rfl) (by rfl) (by omega) (nA := 0) (by rfl) (by decide +kernel) rfl (by exact Nat.le_of_ble_eq_true rfl) dX12_add_13 (fun r13 h13 p13 => ?_) (fun _ _ q => q.elim)
  obtain ⟨rfl, qq13⟩ := p13; subst h13
  dsimp only [Option.toList, List.cons_append, List.nil_append]
  refine wi_iconst hX dX12_add_16 ?_
  refine wi_isub hX dX12_add_17 ?_
  refine WA.lab 130 hp5 ?_
  refine WA.hgq (fun hB hhB => ?_)
  have f6 : Fr (fun x => x = 133) h5 hB := by rw [hhB]; exact Fr.hset Fr.rf hp5 rfl
  have hp6 : hB p = some (130, oRef e q .null .null 0 0) := by rw [hhB]; exact hset_eq
  have hq6 := f6 _ _ _ hq5 (by omega)
  clear hhB
  refine WA.lab 131 hq6 ?_
  refine WA.hgq (fun hC hhC => ?_)
  have f7 : Fr (fun x => x = 134) hB hC := by rw [hhC]; exact Fr.hset Fr.rf hq6 rfl
  have hp7 := f7 _ _ _ hp6 (by omega)
  have hq7 : hC q = some (131, aI .int 1024 G) := by rw [hhC]; exact hset_eq
  clear hhC
  have f67 : Fr (fun x => 133 ≤ x ∧ x ≤ 134) h5 hC := (f6.mono (fun x hx => by omega)).trans (f7.mono (fun x hx => by omega))
  have fA : Fr (fun x => (123 ≤ x ∧ x ≤ 124) ∨ (133 ≤ x ∧ x ≤ 134)) h hC := (f5.mono (fun x hx => by omega)).trans (f67.mono (fun x hx => by omega))
  rw [show ((m + 1 : Nat) : Int) - 1 = (m : Int) by omega]
  refine wa_iret hX dX12_add_18 ?_
  refine ⟨rfl, fA.mono (fun x hx => by omega), ⟨hc60, hw, by omega, fun j hj => ?_⟩, fA _ _ _ kr (by omega), fA _ _ _ kb (by omega), ⟨WK, fA _ _ _ kwk (by omega)⟩, ⟨US, fA _ _ _ kus (by omega)⟩, ⟨KP, fA _ _ _ kkp (by omega)⟩, ⟨e0, rq0, m20, m30, l20, l30, G0, fA _ _ _ kpt (by omega), fA _ _ _ kpq (by omega)⟩, ed', N', up P m p, f67 _ _ _ z1 (by omega), Or.inr ⟨f67 _ _ _ z2 (by omega), z3, z4⟩, fun i j hi hj hij => ?_, fun j hj => ?_⟩
  · by_cases g : j = m
    · subst g
      rw [up_s, up_s]
      exact hM
    · rw [up_n g, up_n g]
      exact hMt j (by omega)
  · by_cases gi : i = m
    · subst gi
      by_cases gj : j = i
      · exact gj.symm
      · rw [up_s, up_n gj] at hij
        exact absurd hij.symm (pp j (by omega))
    · by_cases gj : j = m
      · subst gj
        rw [up_s, up_n gi] at hij
        exact absurd hij (pp i (by omega))
      · rw [up_n gi, up_n gj] at hij
        exact kI i j (by omega) (by omega) hij
  · by_cases g : j = m
    · subst g
      rw [up_s, up_s, up_s]
      exact ⟨q, .null, .null, 0, 0, G, hp7, hq7, hG, Or.inl ⟨rfl, rfl⟩, Or.inl ⟨rfl, rfl⟩⟩
    · rw [up_n g, up_n g, up_n g]
      exact (kMat j (by omega)).fr fA (fun x hx => by omega)
set_option maxHeartbeats 2000000 in
set_option maxRecDepth 100000 in
theorem c_X12_uniform (hW : WOK l D S0) (d : Nat) {h : AH} {a th : Nat} {c m : Nat} {w : Nat → Nat} {E : Nat → Nat} {R : Nat → Nat → Nat} {b0 b1 b2 : Int} (hI : RI (zA S0) DR h a th c w m E R b0 b1 b2) {n k : Int} (hn : inR n) (hk : inR k) (hU : ∀ e k : Nat, e ≤ 10 → k ≤ e → Mtr e (fun s => min k (bc s))) {rmc rms : Nat} (hroom : (0 ≤ n ∧ n ≤ 10 ∧ 0 ≤ k ∧ k ≤ n ∧ m < 24) → 3 ≤ rmc ∧ 1100 ≤ rms) : MA l D S0 yX12_uniform cX12_uniform 5 (some .int) (d + 7) [.ref a, I k, I n] h rmc rms (fun r h' => Fr (fun x => 120 ≤ x ∧ x ≤ 134) h h' ∧ (((¬ (0 ≤ n ∧ n ≤ 10) ∨ ¬ (0 ≤ k ∧ k ≤ n)) ∧ (∃ z, r = some (I z)) ∧ RI (zA S0) DR h' a 1 c w m E R b0 b1 b2) ∨ (0 ≤ n ∧ n ≤ 10 ∧ 0 ≤ k ∧ k ≤ n ∧ m = 24 ∧ (∃ z, r = some (I z)) ∧ RI (zA S0) DR h' a 2 c w m E R b0 b1 b2) ∨ ∃ e kk : Nat, n = (e : Int) ∧ k = (kk : Int) ∧ e ≤ 10 ∧ kk ≤ e ∧ m ≠ 24 ∧ r = some (I (m : Nat)) ∧ RI (zA S0) DR h' a 0 c w (m + 1) (up E m (e)) (up R m (fun s => min kk (bc s))) b0 b1 b2)) (fun _ _ => False) := by
  obtain ⟨row, brk, al, wk, us, kp, pt, k1, kJ⟩ := hI
  refine MA.start hW (by decide) [.val (.ref a), .val (I k), .val (I n), .unset, .unset] rfl ?_
  rintro X rfl rfl rfl hX
  refine wa_aload_n hX (i := 0) dX12_uniform_0 rfl rfl ?_
  refine wi_iconst hX dX12_uniform_1 ?_
  refine wa_put hX 0 k1 (Nat.le_of_ble_eq_true rfl) (by decide +kernel) (by rfl) (by rfl) (by rfl) dX12_uniform_2 ?_
  refine WA.heap (h2 := hset h a (120, oMod ((0 : Nat) : Int) (c : Int) row brk al wk us kp pt)) rfl ?_
  refine WA.hgq (fun hA hh2 => ?_)
  have ff : Fr (fun x => x = 120) h hA := by rw [hh2]; exact Fr.hset Fr.rf k1 rfl
  replace k1 : hA a = some (120, oMod ((0 : Nat) : Int) (c : Int) row brk al wk us kp pt) := by rw [hh2]; exact hset_eq
  replace kJ := kJ.fr ff (fun x hx => by omega)
  clear hh2
  obtain ⟨⟨hc60, hw, hm24, hMt⟩, kr, kb, kwk, kus, kkp, kpt, ed, N, P, ka, ke, kI, kMat⟩ := id kJ
  refine wa_aload_n hX (i := 0) dX12_uniform_5 rfl rfl ?_
  refine wa_iload_n hX (i := 2) dX12_uniform_6 rfl rfl ?_
  refine wi_iconst hX dX12_uniform_7 ?_
  refine wi_bipush hX dX12_uniform_8 (by decide) ?_
  have t30 : WA X hA rmc rms 30 [.val (.ref a), .val (I k), .val (I n), .unset, .unset] [I ((b2n (!decide ((0 : Int) ≤ n ∧ n ≤ 10) || !decide ((0 : Int) ≤ k ∧ k ≤ n)) : Nat) : Int), .ref a] := by
    refine wi_iconst hX dX12_uniform_30 ?_
    refine wa_callV hX (c_X12_fails hW d (th := 0) (k := 1) (b := (!decide ((0 : Int) ≤ n ∧ n ≤ 10) || !decide ((0 : Int) ≤ k ∧ k ≤ n))) k1 (by omega) (by omega)) (by assumption) (by rfl) (by rfl) (by omega) (nA := 2) (by rfl) (by decide +kernel) rfl (by exact Nat.le_of_ble_eq_true rfl) dX12_uniform_31 (fun r31 h31 p31 => ?_) (fun _ _ q => q.elim)
    obtain ⟨rfl, hh31⟩ := p31
    have f31 : Fr (fun x => x = 120) hA h31 := by rw [hh31]; exact Fr.hset Fr.rf k1 rfl
    replace k1 : h31 a = some (120, oMod ((if ((!decide ((0 : Int) ≤ n ∧ n ≤ 10) || !decide ((0 : Int) ≤ k ∧ k ≤ n))) = true ∧ (0 : Nat) = 0 then 1 else 0 : Nat) : Int) (c : Int) row brk al wk us kp pt) := by rw [hh31]; exact hset_eq
    replace kJ := kJ.fr f31 (fun x hx => by omega)
    replace ff := ff.trans f31
    clear hh31 f31
    rw [show (((!decide ((0 : Int) ≤ n ∧ n ≤ 10) || !decide ((0 : Int) ≤ k ∧ k ≤ n))) || (0 : Nat) != 0) = ((!decide ((0 : Int) ≤ n ∧ n ≤ 10) || !decide ((0 : Int) ≤ k ∧ k ≤ n))) from Bool.or_false _]
    clear kr kb kwk kus kkp kpt ka ke kI kMat hc60 hw hm24 hMt
    obtain ⟨⟨hc60, hw, hm24, hMt⟩, kr, kb, kwk, kus, kkp, kpt, ed, N, P, ka, ke, kI, kMat⟩ := id kJ
    dsimp only [Option.toList, List.cons_append, List.nil_append]
    refine wi_if_ne hX (tgt := 62) dX12_uniform_34 (by decide) (by exact b2n_inR _) (fun c34 => ?_) (fun c34 => ?_)
    · skip
      refine wi_iconst hX dX12_uniform_62 ?_
      refine wa_iret hX dX12_uniform_63 ?_
      have z := b2n_t c34
      rw [z, if_pos ⟨rfl, rfl⟩] at k1
      refine ⟨ff.mono (fun x hx => by omega), Or.inl ⟨?_, ⟨_, rfl⟩, row, brk, al, wk, us, kp, pt, k1, kJ⟩⟩
      rw [Bool.or_eq_true, Bool.not_eq_true', decide_eq_false_iff_not, Bool.not_eq_true', decide_eq_false_iff_not] at z
      exact z
    · skip
      have hv34 := b2n_f c34
      rw [hv34, if_neg (fun z => Bool.false_ne_true z.1)] at k1
      rw [Bool.or_eq_false_iff, Bool.not_eq_false', decide_eq_true_eq, Bool.not_eq_false', decide_eq_true_eq] at hv34
      obtain ⟨⟨hn1, hn2⟩, hk1, hk2⟩ := hv34
      obtain ⟨e, rfl⟩ := Int.eq_ofNat_of_zero_le hn1
      obtain ⟨kk, rfl⟩ := Int.eq_ofNat_of_zero_le hk1
      refine wa_aload_n hX (i := 0) dX12_uniform_37 rfl rfl ?_
      refine wa_aload_n hX (i := 0) dX12_uniform_38 rfl rfl ?_
      refine wa_get hX 4 (by assumption) (by rfl) (by decide +kernel) dX12_uniform_39 ?_
      have t55 : WA X h31 rmc rms 55 [.val (.ref a), .val (I (kk : Int)), .val (I (e : Int)), .unset, .unset] [I ((b2n (m == 24) : Nat) : Int), .ref a] := by
        refine wi_iconst hX dX12_uniform_55 ?_
        refine wa_callV hX (c_X12_fails hW d (th := 0) (k := 2) (b := (m == 24)) k1 (by omega) (by omega)) (by assumption) (by rfl) (by rfl) (by omega) (nA := 2) (by rfl) (by decide +kernel) rfl (by exact Nat.le_of_ble_eq_true rfl) dX12_uniform_56 (fun r56 h56 p56 => ?_) (fun _ _ q => q.elim)
        obtain ⟨rfl, hh56⟩ := p56
        have f56 : Fr (fun x => x = 120) h31 h56 := by rw [hh56]; exact Fr.hset Fr.rf k1 rfl
        replace k1 : h56 a = some (120, oMod ((if ((m == 24)) = true ∧ (0 : Nat) = 0 then 2 else 0 : Nat) : Int) (c : Int) row brk al wk us kp pt) := by rw [hh56]; exact hset_eq
        replace kJ := kJ.fr f56 (fun x hx => by omega)
        replace ff := ff.trans f56
        clear hh56 f56
        rw [show (((m == 24)) || (0 : Nat) != 0) = ((m == 24)) from Bool.or_false _]
        clear kr kb kwk kus kkp kpt ka ke kI kMat hc60 hw hm24 hMt
        obtain ⟨⟨hc60, hw, hm24, hMt⟩, kr, kb, kwk, kus, kkp, kpt, ed, N, P, ka, ke, kI, kMat⟩ := id kJ
        dsimp only [Option.toList, List.cons_append, List.nil_append]
        refine wi_if_eq hX (tgt := 64) dX12_uniform_59 (by decide) (by exact b2n_inR _) (fun c59 => ?_) (fun c59 => ?_)
        · skip
          have hv59 := b2n_f c59
          rw [hv59, if_neg (fun z => Bool.false_ne_true z.1)] at k1
          have hmne : m ≠ 24 := beq_eq_false_iff_ne.mp hv59
          have hm9 : m < 24 := by omega
          refine wa_iload_n hX (i := 2) dX12_uniform_64 rfl rfl ?_
          obtain ⟨hkk, hss⟩ := hroom (by omega)
          refine WA.room (k2 := 1 + 2) (sl2 := 40 + 1030) (by omega) (by omega) ?_
          refine wa_callS hX (c_X12_sized hW d (e := e) (by omega)) (by rfl) (by omega) (nA := 1) (by rfl) (by decide +kernel) rfl (by exact Nat.le_of_ble_eq_true rfl) dX12_uniform_65 (fun r65 h65 p65 => ?_) (fun _ _ q => q.elim)
          obtain ⟨p, q, rfl, fS, p1, q1⟩ := p65
          have k1S := fS _ _ _ k1 id
          have kJS := kJ.fr fS (fun x hx => hx.elim)
          dsimp only [Option.toList, List.cons_append, List.nil_append]
          refine wa_astore_n hX (i := 3) dX12_uniform_68 rfl rfl ?_
          dsimp only [List.set]
          refine wi_iconst hX dX12_uniform_69 ?_
          refine wa_istore hX dX12_uniform_70 rfl ?_
          dsimp only [List.set]
          have hpe : 2 ^ (e) ≤ 1024 := p2_le (by omega)
          have hpe0 := p2_pos (e)
          refine WA.heap (h2 := hset h65 q (134, aI .int 1024 (fun _ => 0))) (hset_self q1).symm ?_
          refine WA.loop (σ := Nat × (Nat → Int)) (fun z => 2 ^ (e) - z.1) (fun z => z.1 ≤ 2 ^ (e) ∧ ∀ s, s < z.1 → z.2 s = (((fun s => min kk (bc s)) s : Nat) : Int)) (fun z => hset h65 q (134, aI .int 1024 z.2)) (fun z => [.val (.ref a), .val (I (kk : Int)), .val (I (e : Int)), .val (.ref p), .val (I (z.1 : Nat))]) ?_ (0, fun _ => 0) ⟨Nat.zero_le _, fun s hs => absurd hs (Nat.not_lt_zero s)⟩
          rintro ⟨z, F⟩ ⟨hz, hF⟩ ih
          dsimp only at hz hF ⊢
          have fF : Fr (fun x => x = 134) h65 (hset h65 q (134, aI .int 1024 F)) := Fr.hset Fr.rf q1 rfl
          have p2 := hset_lab (x := (134, aI .int 1024 F)) q1 p1 (by decide)
          have q2 : hset h65 q (134, aI .int 1024 F) q = some (134, aI .int 1024 F) := hset_eq
          have k2 := fF _ _ _ k1S (by decide)
          have kJ2 := kJS.fr fF (fun x hx => by omega)
          have hbz := bc_le z
          refine wa_iload hX dX12_uniform_72 rfl ?_
          refine wa_aload_n hX (i := 3) dX12_uniform_74 rfl rfl ?_
          refine wa_callV hX (c_X11_full hW d p2 (by omega)) (by assumption) (by rfl) (by rfl) (by omega) (nA := 0) (by rfl) (by decide +kernel) rfl (by exact Nat.le_of_ble_eq_true rfl) dX12_uniform_75 (fun r75 h75 p75 => ?_) (fun _ _ q => q.elim)
          obtain ⟨rfl, qq75⟩ := p75; subst h75
          dsimp only [Option.toList, List.cons_append, List.nil_append]
          refine wi_icmp_gt hX (tgt := 103) dX12_uniform_78 (by decide) (by omega) (by omega) (fun c78 => ?_) (fun c78 => ?_)
          · skip
            refine wa_aload_n hX (i := 0) dX12_uniform_103 rfl rfl ?_
            refine wa_aload_n hX (i := 3) dX12_uniform_104 rfl rfl ?_
            refine WA.room (k2 := 0 + 1) (sl2 := 0 + 40) (by omega) (by omega) ?_
            refine wa_callV hX (c_X12_add hW d (e := e) (rk := fun s => min kk (bc s)) k2 kJ2 hm9 p2 q2 (fun s hs => hF s (by omega)) (hU e kk (by omega) (by omega))) (by assumption) (by rfl) (by rfl) (by omega) (nA := 1) (by rfl) (by decide +kernel) rfl (by exact Nat.le_of_ble_eq_true rfl) dX12_uniform_105 (fun r105 h105 p105 => ?_) (fun _ _ q => q.elim)
            obtain ⟨rfl, f9, kJ9⟩ := p105
            have k19 := f9 _ _ _ k2 (by omega)
            dsimp only [Option.toList, List.cons_append, List.nil_append]
            refine wa_iret hX dX12_uniform_108 ?_
            exact ⟨(((ff.mono (fun x hx => by omega)).trans (fS.mono (fun x hx => hx.elim))).trans (fF.mono (fun x hx => by omega))).trans (f9.mono (fun x hx => by omega)), Or.inr (Or.inr ⟨e, kk, rfl, rfl, by omega, by omega, hmne, rfl, row, brk, al, wk, us, kp, pt, k19, kJ9⟩)⟩
          · skip
            refine wa_aload_n hX (i := 3) dX12_uniform_81 rfl rfl ?_
            refine wa_get hX 1 (by assumption) (by rfl) (by decide +kernel) dX12_uniform_82 ?_
            refine wa_iload hX dX12_uniform_85 rfl ?_
            refine wa_iload_n hX (i := 1) dX12_uniform_87 rfl rfl ?_
            refine wa_iload hX dX12_uniform_88 rfl ?_
            refine wa_callS hX (c_J6_bitCount hW d (s := z) (by omega)) (by rfl) (by omega) (nA := 1) (by rfl) (by decide +kernel) rfl (by exact Nat.le_of_ble_eq_true rfl) dX12_uniform_90 (fun r90 h90 p90 => ?_) (fun _ _ q => q.elim)
            obtain ⟨rfl, qq90⟩ := p90; subst h90
            dsimp only [Option.toList, List.cons_append, List.nil_append]
            refine wi_min hX (by decide +kernel) rfl (by exact Nat.le_of_ble_eq_true rfl) (by omega) (by omega) dX12_uniform_93 ?_
            rw [show min (kk : Int) ((bc z : Nat) : Int) = (((min kk (bc z) : Nat)) : Int) by omega]
            refine wi_iastore hX q2 (by omega) (by omega) (by omega) dX12_uniform_96 ?_
            rw [hset_hset, Int.toNat_natCast]
            refine wi_iinc hX dX12_uniform_97 rfl ?_
            dsimp only [List.set]
            refine wa_goto hX (tgt := 72) dX12_uniform_100 (by decide) ?_
            refine ih (z + 1, _) ⟨by show z + 1 ≤ _; omega, fill_step (spec := fun s => (((fun s => min kk (bc s)) s : Nat) : Int)) hF⟩ (by show _ - (z + 1) < _; omega)
        · skip
          refine wi_iconst hX dX12_uniform_62 ?_
          refine wa_iret hX dX12_uniform_63 ?_
          have z := b2n_t c59
          rw [z, if_pos ⟨rfl, rfl⟩] at k1
          exact ⟨ff.mono (fun x hx => by omega), Or.inr (Or.inl ⟨hn1, hn2, hk1, hk2, beq_iff_eq.mp z, ⟨_, rfl⟩, row, brk, al, wk, us, kp, pt, k1, kJ⟩)⟩
      refine wa_callV hX (c_AL_size hW d ka) (by assumption) (by rfl) (by rfl) (by omega) (nA := 0) (by rfl) (by decide +kernel) rfl (by exact Nat.le_of_ble_eq_true rfl) dX12_uniform_42 (fun r42 h42 p42 => ?_) (fun _ _ q => q.elim)
      obtain ⟨rfl, qq42⟩ := p42; subst h42
      dsimp only [Option.toList, List.cons_append, List.nil_append]
      refine wi_bipush hX dX12_uniform_45 (by decide) ?_
      refine wi_icmp_ne hX (tgt := 54) dX12_uniform_47 (by decide) (by omega) (by omega) (fun c47 => ?_) (fun c47 => ?_)
      · skip
        refine wi_iconst hX dX12_uniform_54 ?_
        refine WA.eq rfl rfl ?_ t55
        first
          | (rw [show (m == 24) = true from beq_iff_eq.mpr (by omega)]; rfl)
          | (rw [show (m == 24) = false from beq_eq_false_iff_ne.mpr (by omega)]; rfl)
      · skip
        refine wi_iconst hX dX12_uniform_50 ?_
        refine wa_goto hX (tgt := 55) dX12_uniform_51 (by decide) ?_
        refine WA.eq rfl rfl ?_ t55
        first
          | (rw [show (m == 24) = true from beq_iff_eq.mpr (by omega)]; rfl)
          | (rw [show (m == 24) = false from beq_eq_false_iff_ne.mpr (by omega)]; rfl)
  refine wa_callS hX (c_X12_in hW d (v := n) (lo := 0) (hi := 10) hn (by omega) (by omega)) (by rfl) (by omega) (nA := 3) (by rfl) (by decide +kernel) rfl (by exact Nat.le_of_ble_eq_true rfl) dX12_uniform_10 (fun r10 h10 p10 => ?_) (fun _ _ q => q.elim)
  obtain ⟨rfl, qq10⟩ := p10; subst h10
  dsimp only [Option.toList, List.cons_append, List.nil_append]
  refine wi_if_eq hX (tgt := 25) dX12_uniform_13 (by decide) (by exact b2n_inR _) (fun c13 => ?_) (fun c13 => ?_)
  · skip
    refine wi_iconst hX dX12_uniform_25 ?_
    refine wa_goto hX (tgt := 30) dX12_uniform_26 (by decide) ?_
    refine WA.eq rfl rfl ?_ t30
    first
      | (have q := b2n_f c13; rw [q]; rfl)
      | (have q := b2n_t c13; have q2 := b2n_t c22; rw [q, q2]; rfl)
      | (have q := b2n_t c13; have q2 := b2n_f c22; rw [q, q2]; rfl)
  · skip
    refine wa_iload_n hX (i := 1) dX12_uniform_16 rfl rfl ?_
    refine wi_iconst hX dX12_uniform_17 ?_
    refine wa_iload_n hX (i := 2) dX12_uniform_18 rfl rfl ?_
    have q13 := b2n_t c13
    rw [decide_eq_true_eq] at q13
    refine wa_callS hX (c_X12_in hW d (v := k) (lo := 0) (hi := n) hk (by omega) (by omega)) (by rfl) (by omega) (nA := 3) (by rfl) (by decide +kernel) rfl (by exact Nat.le_of_ble_eq_true rfl) dX12_uniform_19 (fun r19 h19 p19 => ?_) (fun _ _ q => q.elim)
    obtain ⟨rfl, qq19⟩ := p19; subst h19
    dsimp only [Option.toList, List.cons_append, List.nil_append]
    refine wi_if_ne hX (tgt := 29) dX12_uniform_22 (by decide) (by exact b2n_inR _) (fun c22 => ?_) (fun c22 => ?_)
    · skip
      refine wi_iconst hX dX12_uniform_29 ?_
      refine WA.eq rfl rfl ?_ t30
      first
        | (have q := b2n_f c13; rw [q]; rfl)
        | (have q := b2n_t c13; have q2 := b2n_t c22; rw [q, q2]; rfl)
        | (have q := b2n_t c13; have q2 := b2n_f c22; rw [q, q2]; rfl)
    · skip
      refine wi_iconst hX dX12_uniform_25 ?_
      refine wa_goto hX (tgt := 30) dX12_uniform_26 (by decide) ?_
      refine WA.eq rfl rfl ?_ t30
      first
        | (have q := b2n_f c13; rw [q]; rfl)
        | (have q := b2n_t c13; have q2 := b2n_t c22; rw [q, q2]; rfl)
        | (have q := b2n_t c13; have q2 := b2n_f c22; rw [q, q2]; rfl)
end C95
