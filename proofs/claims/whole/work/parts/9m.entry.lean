/-! The reference (X12): canBeDrawn, entry -/
theorem RJ.draw {Z : Nat → Prop} {DR : (Nat → Nat) → Nat → Nat → Option (Nat → Nat) → Prop} {h h' : AH} {row brk al wk us kp pt c m : Nat} {w : Nat → Nat} {E : Nat → Nat} {R : Nat → Nat → Nat} {b0 b1 b2 : Int} {ed N : Nat} {P : Nat → Nat} (q0 : c ≤ 60 ∧ (∀ j, w j < 1024) ∧ m ≤ 24 ∧ ∀ j, j < m → Mtr (E j) (R j)) (kr : h row = some (121, aI .int 60 (fun j => ((w j : Nat) : Int)))) (kb : h brk = some (122, aI .int 3 (fun j => if j = 0 then b0 else if j = 1 then b1 else b2))) (kkp : ∃ KP : Nat → Int, h kp = some (127, aI .int 10 KP)) (kpt : ∃ (e0 rq : Nat) (m2 m3 : Value) (l2 l3 : Int) (G0 : Nat → Int), h pt = some (128, oRef e0 rq m2 m3 l2 l3) ∧ h rq = some (129, aI .int 1024 G0)) (ka : h al = some (123, oAL (m : Int) ed (m : Int))) (ke : (m = 0 ∧ Z ed) ∨ (h ed = some (124, aR (.object "java/lang/Object") N (fun j => if j < m then some (P j) else none)) ∧ m ≤ N ∧ N ≤ 100)) (kI : ∀ i j, i < m → j < m → P i = P j → i = j) (f : Fr (fun x => x = 125 ∨ x = 126 ∨ x = 130 ∨ x = 135) h h') (wu : (∃ WK : Nat → Int, h' wk = some (125, aI .int 100 WK)) ∧ (∃ US : Nat → Bool, h' us = some (126, aI .boolean 10 (fun j => ((b2n (US j) : Nat) : Int))))) (kM : ∀ j, j < m → RMat DR h' (P j) (E j) (R j)) : RJ Z DR h' row brk al wk us kp pt c w m E R b0 b1 b2 := by
  obtain ⟨e0, rq, m2, m3, l2, l3, G0, z1, z2⟩ := kpt
  refine ⟨q0, f _ _ _ kr (by decide), f _ _ _ kb (by decide), wu.1, wu.2, kkp.imp (fun _ z => f _ _ _ z (by decide)), ⟨e0, rq, m2, m3, l2, l3, G0, f _ _ _ z1 (by decide), f _ _ _ z2 (by decide)⟩, ed, N, P, f _ _ _ ka (by decide), ?_, kI, kM⟩
  rcases ke with z | ⟨z, z3⟩
  · exact Or.inl z
  · exact Or.inr ⟨f _ _ _ z (by decide), z3⟩
section C9m
variable {l : Launch} {D : va_G} {S0 : State} {Z : Nat → Prop}
set_option maxHeartbeats 2000000 in
set_option maxRecDepth 100000 in
theorem c_X12_canBeDrawn (hW : WOK l D S0) (d : Nat) {h : AH} {a th : Nat} {c m : Nat} {w : Nat → Nat} {E : Nat → Nat} {R : Nat → Nat → Nat} {b0 b1 b2 : Int} (hI : RI Z DRp h a th c w m E R b0 b1 b2) {n v : Int} (hn : inR n) (hv : inR v) : MA l D S0 yX12_canBeDrawn cX12_canBeDrawn 3 (some .boolean) (d + 15) [.ref a, I n, I v] h 1 100 (fun r h' => Fr (fun x => 120 ≤ x ∧ x ≤ 135) h h' ∧ ((noM n m ∧ (∃ z, r = some (I z)) ∧ RI Z DRp h' a 1 c w m E R b0 b1 b2) ∨ ∃ i, i < m ∧ n = (i : Int) ∧ ((v ≠ 2 ∧ v ≠ 3 ∧ (∃ z, r = some (I z)) ∧ RI Z DRp h' a 2 c w m E R b0 b1 b2) ∨ ∃ f : Nat, v = (f : Int) ∧ (f = 2 ∨ f = 3) ∧ ∃ o : Option (Nat → Nat), DRp (R i) (E i) f o ∧ r = some (I ((b2n o.isSome : Nat) : Int)) ∧ RI Z DRp h' a 0 c w m E R b0 b1 b2))) (fun _ _ => False) := by
  obtain ⟨row, brk, al, wk, us, kp, pt, k1, kJ⟩ := hI
  refine MA.start hW (by decide) [.val (.ref a), .val (I n), .val (I v)] rfl ?_
  rintro X rfl rfl rfl hX
  refine wa_aload_n hX (i := 0) dX12_canBeDrawn_0 rfl rfl ?_
  refine wi_iconst hX dX12_canBeDrawn_1 ?_
  refine wa_put hX 0 k1 (Nat.le_of_ble_eq_true rfl) (by decide +kernel) (by rfl) (by rfl) (by rfl) dX12_canBeDrawn_2 ?_
  refine WA.heap (h2 := hset h a (120, oMod ((0 : Nat) : Int) (c : Int) row brk al wk us kp pt)) rfl ?_
  refine WA.hgq (fun hA hh2 => ?_)
  have ff : Fr (fun x => x = 120) h hA := by rw [hh2]; exact Fr.hset Fr.rf k1 rfl
  replace k1 : hA a = some (120, oMod ((0 : Nat) : Int) (c : Int) row brk al wk us kp pt) := by rw [hh2]; exact hset_eq
  replace kJ := kJ.fr ff (fun x hx => by omega)
  clear hh2
  obtain ⟨⟨hc60, hw, hm24, hMt⟩, kr, kb, kwk, kus, kkp, kpt, ed, N, P, ka, ke, kI, kMat⟩ := id kJ
  refine wa_aload_n hX (i := 0) dX12_canBeDrawn_5 rfl rfl ?_
  refine wa_aload_n hX (i := 0) dX12_canBeDrawn_6 rfl rfl ?_
  refine wa_iload_n hX (i := 1) dX12_canBeDrawn_7 rfl rfl ?_
  refine wa_callV hX (c_X12_no hW (d + 1) k1 ka hm24 hn) (by assumption) (by rfl) (by rfl) (by omega) (nA := 1) (by rfl) (by decide +kernel) rfl (by exact Nat.le_of_ble_eq_true rfl) dX12_canBeDrawn_8 (fun r8 h8 p8 => ?_) (fun _ _ q => q.elim)
  obtain ⟨rfl, qq8⟩ := p8; subst h8
  dsimp only [Option.toList, List.cons_append, List.nil_append]
  refine wi_iconst hX dX12_canBeDrawn_11 ?_
  refine wa_callV hX (c_X12_fails hW d (th := 0) (k := 1) (b := (!decide (0 ≤ n ∧ n < (m : Int)))) k1 (by omega) (by omega)) (by assumption) (by rfl) (by rfl) (by omega) (nA := 2) (by rfl) (by decide +kernel) rfl (by exact Nat.le_of_ble_eq_true rfl) dX12_canBeDrawn_12 (fun r12 h12 p12 => ?_) (fun _ _ q => q.elim)
  obtain ⟨rfl, hh12⟩ := p12
  have f12 : Fr (fun x => x = 120) hA h12 := by rw [hh12]; exact Fr.hset Fr.rf k1 rfl
  replace k1 : h12 a = some (120, oMod ((if ((!decide (0 ≤ n ∧ n < (m : Int)))) = true ∧ (0 : Nat) = 0 then 1 else 0 : Nat) : Int) (c : Int) row brk al wk us kp pt) := by rw [hh12]; exact hset_eq
  replace kJ := kJ.fr f12 (fun x hx => by omega)
  replace ff := ff.trans f12
  clear hh12 f12
  rw [show (((!decide (0 ≤ n ∧ n < (m : Int)))) || (0 : Nat) != 0) = ((!decide (0 ≤ n ∧ n < (m : Int)))) from Bool.or_false _]
  clear kr kb kwk kus kkp kpt ka ke kI kMat hc60 hw hm24 hMt
  obtain ⟨⟨hc60, hw, hm24, hMt⟩, kr, kb, kwk, kus, kkp, kpt, ed, N, P, ka, ke, kI, kMat⟩ := id kJ
  dsimp only [Option.toList, List.cons_append, List.nil_append]
  refine wi_if_ne hX (tgt := 64) dX12_canBeDrawn_15 (by decide) (by exact b2n_inR _) (fun c15 => ?_) (fun c15 => ?_)
  · skip
    refine wi_iconst hX dX12_canBeDrawn_64 ?_
    refine wa_zret hX dX12_canBeDrawn_65 (by rfl) ?_
    have z := b2n_t c15
    rw [z, if_pos ⟨rfl, rfl⟩] at k1
    rw [Bool.not_eq_true', decide_eq_false_iff_not] at z
    exact ⟨ff.mono (fun x hx => by omega), Or.inl ⟨z, ⟨_, rfl⟩, row, brk, al, wk, us, kp, pt, k1, kJ⟩⟩
  · skip
    have hv := b2n_f c15
    rw [hv, if_neg (fun z => Bool.false_ne_true z.1)] at k1
    rw [Bool.not_eq_false', decide_eq_true_eq] at hv
    obtain ⟨i, rfl⟩ := Int.eq_ofNat_of_zero_le hv.1
    have hi : i < m := by omega
    have t34 : WA X h12 1 100 34 [.val (.ref a), .val (I (i : Int)), .val (I v)] [I ((b2n (!decide (v = 2 ∨ v = 3)) : Nat) : Int), .ref a] := by
      refine wi_iconst hX dX12_canBeDrawn_34 ?_
      refine wa_callV hX (c_X12_fails hW d (th := 0) (k := 2) (b := (!decide (v = 2 ∨ v = 3))) k1 (by omega) (by omega)) (by assumption) (by rfl) (by rfl) (by omega) (nA := 2) (by rfl) (by decide +kernel) rfl (by exact Nat.le_of_ble_eq_true rfl) dX12_canBeDrawn_35 (fun r35 h35 p35 => ?_) (fun _ _ q => q.elim)
      obtain ⟨rfl, hh35⟩ := p35
      have f35 : Fr (fun x => x = 120) h12 h35 := by rw [hh35]; exact Fr.hset Fr.rf k1 rfl
      replace k1 : h35 a = some (120, oMod ((if ((!decide (v = 2 ∨ v = 3))) = true ∧ (0 : Nat) = 0 then 2 else 0 : Nat) : Int) (c : Int) row brk al wk us kp pt) := by rw [hh35]; exact hset_eq
      replace kJ := kJ.fr f35 (fun x hx => by omega)
      replace ff := ff.trans f35
      clear hh35 f35
      rw [show (((!decide (v = 2 ∨ v = 3))) || (0 : Nat) != 0) = ((!decide (v = 2 ∨ v = 3))) from Bool.or_false _]
      clear kr kb kwk kus kkp kpt ka ke kI kMat hc60 hw hm24 hMt
      obtain ⟨⟨hc60, hw, hm24, hMt⟩, kr, kb, kwk, kus, kkp, kpt, ed, N, P, ka, ke, kI, kMat⟩ := id kJ
      dsimp only [Option.toList, List.cons_append, List.nil_append]
      refine wi_if_ne hX (tgt := 64) dX12_canBeDrawn_38 (by decide) (by exact b2n_inR _) (fun c38 => ?_) (fun c38 => ?_)
      · skip
        refine wi_iconst hX dX12_canBeDrawn_64 ?_
        refine wa_zret hX dX12_canBeDrawn_65 (by rfl) ?_
        have z := b2n_t c38
        rw [z, if_pos ⟨rfl, rfl⟩] at k1
        rw [Bool.not_eq_true', decide_eq_false_iff_not] at z
        exact ⟨ff.mono (fun x hx => by omega), Or.inr ⟨i, hi, rfl, Or.inl ⟨by omega, by omega, ⟨_, rfl⟩, row, brk, al, wk, us, kp, pt, k1, kJ⟩⟩⟩
      · skip
        have hv38 := b2n_f c38
        rw [hv38, if_neg (fun z => Bool.false_ne_true z.1)] at k1
        rw [Bool.not_eq_false', decide_eq_true_eq] at hv38
        obtain ⟨f, rfl⟩ := Int.eq_ofNat_of_zero_le (show 0 ≤ v by omega)
        have hf9 : f = 2 ∨ f = 3 := by omega
        obtain ⟨e3, hN1, hN2⟩ : h35 ed = some (124, aR (.object "java/lang/Object") N (fun j => if j < m then some (P j) else none)) ∧ m ≤ N ∧ N ≤ 100 := by
          rcases ke with z | z
          · exfalso; omega
          · exact z
        obtain ⟨rq, m2, m3, l2, l3, G, g1, g2, g3, g4, g5⟩ := id (kMat i hi)
        have hMi := hMt i hi
        have he := hMi.1
        have hp := p2_le he
        have hp0 := p2_pos (E i)
        refine wa_aload_n hX (i := 0) dX12_canBeDrawn_41 rfl rfl ?_
        refine wa_aload_n hX (i := 0) dX12_canBeDrawn_42 rfl rfl ?_
        refine wa_get hX 4 (by assumption) (by rfl) (by decide +kernel) dX12_canBeDrawn_43 ?_
        refine wa_iload_n hX (i := 1) dX12_canBeDrawn_46 rfl rfl ?_
        refine wa_callV hX (c_AL_get hW d ka e3 (i := i) (q := P i) hi hN1 (by omega) (if_pos hi)) (by assumption) (by rfl) (by rfl) (by omega) (nA := 1) (by rfl) (by decide +kernel) rfl (by exact Nat.le_of_ble_eq_true rfl) dX12_canBeDrawn_47 (fun r47 h47 p47 => ?_) (fun _ _ q => q.elim)
        obtain ⟨rfl, qq47⟩ := p47; subst h47
        dsimp only [Option.toList, List.cons_append, List.nil_append]
        refine wa_ccast hX g1 (by rfl) (by decide +kernel) dX12_canBeDrawn_50 ?_
        refine wa_iload_n hX (i := 2) dX12_canBeDrawn_53 rfl rfl ?_
        refine WA.room (k2 := 0 + 1) (sl2 := 0 + 100) (by omega) (by omega) ?_
        refine wa_callV hX (c_X12_drawing hW d (f := f) (m := m) (i := i) (E := E) (R := R) k1 ⟨kwk, kus⟩ kI kMat hi g1 g2 g3 g4 g5 hMi hf9 (fun _ => ⟨by omega, by omega⟩)) (by assumption) (by rfl) (by rfl) (by omega) (nA := 2) (by rfl) (by decide +kernel) rfl (by exact Nat.le_of_ble_eq_true rfl) dX12_canBeDrawn_54 (fun r54 h54 p54 => ?_) (fun _ _ q => q.elim)
        obtain ⟨vv, rfl, hv, fD, wuD, kMD⟩ := p54
        have k1D := fD _ _ _ k1 (by decide)
        have kJD : RJ Z DRp h54 row brk al wk us kp pt c w m E R b0 b1 b2 := RJ.draw ⟨hc60, hw, hm24, hMt⟩ kr kb kkp kpt ka ke kI fD wuD kMD
        have ffD : Fr (fun x => 120 ≤ x ∧ x ≤ 135) h h54 := (ff.mono (fun x hx => by omega)).trans (fD.mono (fun x hx => by omega))
        dsimp only [Option.toList, List.cons_append, List.nil_append]
        rcases hv with ⟨rfl, hdr⟩ | ⟨qd, g, rfl, hqd, hdr⟩
        · skip
          refine wa_ifnullN hX (tgt := 64) dX12_canBeDrawn_57 (by decide) ?_
          refine wi_iconst hX dX12_canBeDrawn_64 ?_
          refine wa_zret hX dX12_canBeDrawn_65 (by rfl) ?_
          exact ⟨ffD, Or.inr ⟨i, hi, rfl, Or.inr ⟨f, rfl, hf9, none, hdr, rfl, row, brk, al, wk, us, kp, pt, k1D, kJD⟩⟩⟩
        · skip
          refine wa_ifnull hX dX12_canBeDrawn_57 ?_
          refine wi_iconst hX dX12_canBeDrawn_60 ?_
          refine wa_goto hX (tgt := 65) dX12_canBeDrawn_61 (by decide) ?_
          refine wa_zret hX dX12_canBeDrawn_65 (by rfl) ?_
          exact ⟨ffD, Or.inr ⟨i, hi, rfl, Or.inr ⟨f, rfl, hf9, some g, hdr, rfl, row, brk, al, wk, us, kp, pt, k1D, kJD⟩⟩⟩
    refine wa_aload_n hX (i := 0) dX12_canBeDrawn_18 rfl rfl ?_
    refine wa_iload_n hX (i := 2) dX12_canBeDrawn_19 rfl rfl ?_
    refine wi_iconst hX dX12_canBeDrawn_20 ?_
    refine wi_icmp_eq hX (tgt := 33) dX12_canBeDrawn_21 (by decide) (by omega) (by omega) (fun c21 => ?_) (fun c21 => ?_)
    · skip
      refine wi_iconst hX dX12_canBeDrawn_33 ?_
      refine WA.eq rfl rfl ?_ t34
      first
        | (rw [decide_eq_true (show v = 2 ∨ v = 3 by omega)]; rfl)
        | (rw [decide_eq_false (show ¬ (v = 2 ∨ v = 3) by omega)]; rfl)
    · skip
      refine wa_iload_n hX (i := 2) dX12_canBeDrawn_24 rfl rfl ?_
      refine wi_iconst hX dX12_canBeDrawn_25 ?_
      refine wi_icmp_eq hX (tgt := 33) dX12_canBeDrawn_26 (by decide) (by omega) (by omega) (fun c26 => ?_) (fun c26 => ?_)
      · skip
        refine wi_iconst hX dX12_canBeDrawn_33 ?_
        refine WA.eq rfl rfl ?_ t34
        first
          | (rw [decide_eq_true (show v = 2 ∨ v = 3 by omega)]; rfl)
          | (rw [decide_eq_false (show ¬ (v = 2 ∨ v = 3) by omega)]; rfl)
      · skip
        refine wi_iconst hX dX12_canBeDrawn_29 ?_
        refine wa_goto hX (tgt := 34) dX12_canBeDrawn_30 (by decide) ?_
        refine WA.eq rfl rfl ?_ t34
        first
          | (rw [decide_eq_true (show v = 2 ∨ v = 3 by omega)]; rfl)
          | (rw [decide_eq_false (show ¬ (v = 2 ∨ v = 3) by omega)]; rfl)
set_option maxHeartbeats 2000000 in
set_option maxRecDepth 100000 in
theorem c_X12_entry (hW : WOK l D S0) (d : Nat) {h : AH} {a th : Nat} {c m : Nat} {w : Nat → Nat} {E : Nat → Nat} {R : Nat → Nat → Nat} {b0 b1 b2 : Int} (hI : RI Z DRp h a th c w m E R b0 b1 b2) {n v rw0 el : Int} (hn : inR n) (hv : inR v) (hrw : inR rw0) (hl : inR el) : MA l D S0 yX12_entry cX12_entry 7 (some .int) (d + 15) [.ref a, I n, I v, I rw0, I el] h 1 100 (fun r h' => Fr (fun x => 120 ≤ x ∧ x ≤ 135) h h' ∧ (((noM n m ∨ ∃ i, i < m ∧ n = (i : Int) ∧ ¬ (0 ≤ el ∧ el < ((E i : Nat) : Int))) ∧ (∃ z, r = some (I z)) ∧ RI Z DRp h' a 1 c w m E R b0 b1 b2) ∨ ∃ i k : Nat, i < m ∧ n = (i : Int) ∧ k < E i ∧ el = (k : Int) ∧ ((v ≠ 2 ∧ v ≠ 3 ∧ (∃ z, r = some (I z)) ∧ RI Z DRp h' a 2 c w m E R b0 b1 b2) ∨ ∃ f : Nat, v = (f : Int) ∧ (f = 2 ∨ f = 3) ∧ ∃ o : Option (Nat → Nat), DRp (R i) (E i) f o ∧ (((o = none ∨ ¬ (0 ≤ rw0 ∧ rw0 < ((R i (2 ^ E i - 1) : Nat) : Int))) ∧ (∃ z, r = some (I z)) ∧ RI Z DRp h' a 3 c w m E R b0 b1 b2) ∨ ∃ (g : Nat → Nat) (t : Nat), o = some g ∧ rw0 = (t : Int) ∧ t < R i (2 ^ E i - 1) ∧ r = some (I (g (R i (2 ^ E i - 1) * k + t) : Nat)) ∧ RI Z DRp h' a 0 c w m E R b0 b1 b2)))) (fun _ _ => False) := by
  obtain ⟨row, brk, al, wk, us, kp, pt, k1, kJ⟩ := hI
  refine MA.start hW (by decide) [.val (.ref a), .val (I n), .val (I v), .val (I rw0), .val (I el), .unset, .unset] rfl ?_
  rintro X rfl rfl rfl hX
  refine wa_aload_n hX (i := 0) dX12_entry_0 rfl rfl ?_
  refine wi_iconst hX dX12_entry_1 ?_
  refine wa_put hX 0 k1 (Nat.le_of_ble_eq_true rfl) (by decide +kernel) (by rfl) (by rfl) (by rfl) dX12_entry_2 ?_
  refine WA.heap (h2 := hset h a (120, oMod ((0 : Nat) : Int) (c : Int) row brk al wk us kp pt)) rfl ?_
  refine WA.hgq (fun hA hh2 => ?_)
  have ff : Fr (fun x => x = 120) h hA := by rw [hh2]; exact Fr.hset Fr.rf k1 rfl
  replace k1 : hA a = some (120, oMod ((0 : Nat) : Int) (c : Int) row brk al wk us kp pt) := by rw [hh2]; exact hset_eq
  replace kJ := kJ.fr ff (fun x hx => by omega)
  clear hh2
  obtain ⟨⟨hc60, hw, hm24, hMt⟩, kr, kb, kwk, kus, kkp, kpt, ed, N, P, ka, ke, kI, kMat⟩ := id kJ
  refine wa_aload_n hX (i := 0) dX12_entry_5 rfl rfl ?_
  refine wa_aload_n hX (i := 0) dX12_entry_6 rfl rfl ?_
  refine wa_iload_n hX (i := 1) dX12_entry_7 rfl rfl ?_
  refine wa_iload hX dX12_entry_8 rfl ?_
  have h4E : ∀ j, j < m → ∃ lp rq m2 m3 l2 l3, hA (P j) = some (lp, oRef (E j) rq m2 m3 l2 l3) := fun j hj => by
    obtain ⟨rq, m2, m3, l2, l3, G, g1, g2⟩ := kMat j hj
    exact ⟨130, rq, m2, m3, l2, l3, g1⟩
  refine wa_callV hX (c_X12_noElement hW d k1 ka (ke.imp (fun q => q.1) id) hm24 h4E (fun j hj => (hMt j hj).1) hn hl) (by assumption) (by rfl) (by rfl) (by omega) (nA := 2) (by rfl) (by decide +kernel) rfl (by exact Nat.le_of_ble_eq_true rfl) dX12_entry_10 (fun r10 h10 p10 => ?_) (fun _ _ q => q.elim)
  obtain ⟨hq10, hz10⟩ := p10
  subst h10
  obtain ⟨NE, rfl, hNE⟩ : ∃ NE : Bool, r10 = some (I ((b2n NE : Nat) : Int)) ∧ ((NE = true ∧ noM n m) ∨ ∃ i, i < m ∧ n = (i : Int) ∧ NE = !decide (0 ≤ el ∧ el < ((E i : Nat) : Int))) := by
    rcases hz10 with ⟨z1, z2⟩ | ⟨i, hi, z1, z2⟩
    · exact ⟨true, z2, Or.inl ⟨rfl, z1⟩⟩
    · exact ⟨_, z2, Or.inr ⟨i, hi, z1, rfl⟩⟩
  clear hz10
  dsimp only [Option.toList, List.cons_append, List.nil_append]
  refine wi_iconst hX dX12_entry_13 ?_
  refine wa_callV hX (c_X12_fails hW d (th := 0) (k := 1) (b := NE) k1 (by omega) (by omega)) (by assumption) (by rfl) (by rfl) (by omega) (nA := 2) (by rfl) (by decide +kernel) rfl (by exact Nat.le_of_ble_eq_true rfl) dX12_entry_14 (fun r14 h14 p14 => ?_) (fun _ _ q => q.elim)
  obtain ⟨rfl, hh14⟩ := p14
  have f14 : Fr (fun x => x = 120) hA h14 := by rw [hh14]; exact Fr.hset Fr.rf k1 rfl
  replace k1 : h14 a = some (120, oMod ((if (NE) = true ∧ (0 : Nat) = 0 then 1 else 0 : Nat) : Int) (c : Int) row brk al wk us kp pt) := by rw [hh14]; exact hset_eq
  replace kJ := kJ.fr f14 (fun x hx => by omega)
  replace ff := ff.trans f14
  clear hh14 f14
  rw [show ((NE) || (0 : Nat) != 0) = (NE) from Bool.or_false _]
  clear kr kb kwk kus kkp kpt ka ke kI kMat hc60 hw hm24 hMt
  obtain ⟨⟨hc60, hw, hm24, hMt⟩, kr, kb, kwk, kus, kkp, kpt, ed, N, P, ka, ke, kI, kMat⟩ := id kJ
  dsimp only [Option.toList, List.cons_append, List.nil_append]
  refine wi_if_ne hX (tgt := 43) dX12_entry_17 (by decide) (by exact b2n_inR _) (fun c17 => ?_) (fun c17 => ?_)
  · skip
    refine wi_iconst hX dX12_entry_43 ?_
    refine wa_iret hX dX12_entry_44 ?_
    have z := b2n_t c17
    rw [z, if_pos ⟨rfl, rfl⟩] at k1
    refine ⟨ff.mono (fun x hx => by omega), Or.inl ⟨?_, ⟨_, rfl⟩, row, brk, al, wk, us, kp, pt, k1, kJ⟩⟩
    rcases hNE with ⟨_, q⟩ | ⟨i, hi, q, q2⟩
    · exact Or.inl q
    · have q3 := q2.symm.trans z
      rw [Bool.not_eq_true', decide_eq_false_iff_not] at q3
      exact Or.inr ⟨i, hi, q, q3⟩
  · skip
    have hv17 := b2n_f c17
    rw [hv17, if_neg (fun z => Bool.false_ne_true z.1)] at k1
    obtain ⟨i, hi, rfl, hNE2⟩ : ∃ i, i < m ∧ n = (i : Int) ∧ NE = !decide (0 ≤ el ∧ el < ((E i : Nat) : Int)) := by
      rcases hNE with ⟨z, _⟩ | z
      · rw [z] at hv17; cases hv17
      · exact z
    rw [hNE2, Bool.not_eq_false', decide_eq_true_eq] at hv17
    obtain ⟨k, rfl⟩ := Int.eq_ofNat_of_zero_le hv17.1
    have hk : k < E i := by omega
    have t36 : WA X h14 1 100 36 [.val (.ref a), .val (I (i : Int)), .val (I v), .val (I rw0), .val (I (k : Int)), .unset, .unset] [I ((b2n (!decide (v = 2 ∨ v = 3)) : Nat) : Int), .ref a] := by
      refine wi_iconst hX dX12_entry_36 ?_
      refine wa_callV hX (c_X12_fails hW d (th := 0) (k := 2) (b := (!decide (v = 2 ∨ v = 3))) k1 (by omega) (by omega)) (by assumption) (by rfl) (by rfl) (by omega) (nA := 2) (by rfl) (by decide +kernel) rfl (by exact Nat.le_of_ble_eq_true rfl) dX12_entry_37 (fun r37 h37 p37 => ?_) (fun _ _ q => q.elim)
      obtain ⟨rfl, hh37⟩ := p37
      have f37 : Fr (fun x => x = 120) h14 h37 := by rw [hh37]; exact Fr.hset Fr.rf k1 rfl
      replace k1 : h37 a = some (120, oMod ((if ((!decide (v = 2 ∨ v = 3))) = true ∧ (0 : Nat) = 0 then 2 else 0 : Nat) : Int) (c : Int) row brk al wk us kp pt) := by rw [hh37]; exact hset_eq
      replace kJ := kJ.fr f37 (fun x hx => by omega)
      replace ff := ff.trans f37
      clear hh37 f37
      rw [show (((!decide (v = 2 ∨ v = 3))) || (0 : Nat) != 0) = ((!decide (v = 2 ∨ v = 3))) from Bool.or_false _]
      clear kr kb kwk kus kkp kpt ka ke kI kMat hc60 hw hm24 hMt
      obtain ⟨⟨hc60, hw, hm24, hMt⟩, kr, kb, kwk, kus, kkp, kpt, ed, N, P, ka, ke, kI, kMat⟩ := id kJ
      dsimp only [Option.toList, List.cons_append, List.nil_append]
      refine wi_if_eq hX (tgt := 45) dX12_entry_40 (by decide) (by exact b2n_inR _) (fun c40 => ?_) (fun c40 => ?_)
      · skip
        have hv40 := b2n_f c40
        rw [hv40, if_neg (fun z => Bool.false_ne_true z.1)] at k1
        rw [Bool.not_eq_false', decide_eq_true_eq] at hv40
        obtain ⟨f, rfl⟩ := Int.eq_ofNat_of_zero_le (show 0 ≤ v by omega)
        have hf9 : f = 2 ∨ f = 3 := by omega
        obtain ⟨e3, hN1, hN2⟩ : h37 ed = some (124, aR (.object "java/lang/Object") N (fun j => if j < m then some (P j) else none)) ∧ m ≤ N ∧ N ≤ 100 := by
          rcases ke with z | z
          · exfalso; omega
          · exact z
        obtain ⟨rq, m2, m3, l2, l3, G, g1, g2, g3, g4, g5⟩ := id (kMat i hi)
        have hMi := hMt i hi
        have he := hMi.1
        have hp := p2_le he
        have hp0 := p2_pos (E i)
        refine wa_aload_n hX (i := 0) dX12_entry_45 rfl rfl ?_
        refine wa_get hX 4 (by assumption) (by rfl) (by decide +kernel) dX12_entry_46 ?_
        refine wa_iload_n hX (i := 1) dX12_entry_49 rfl rfl ?_
        refine wa_callV hX (c_AL_get hW d ka e3 (i := i) (q := P i) hi hN1 (by omega) (if_pos hi)) (by assumption) (by rfl) (by rfl) (by omega) (nA := 1) (by rfl) (by decide +kernel) rfl (by exact Nat.le_of_ble_eq_true rfl) dX12_entry_50 (fun r50 h50 p50 => ?_) (fun _ _ q => q.elim)
        obtain ⟨rfl, qq50⟩ := p50; subst h50
        dsimp only [Option.toList, List.cons_append, List.nil_append]
        refine wa_ccast hX g1 (by rfl) (by decide +kernel) dX12_entry_53 ?_
        refine wa_astore hX dX12_entry_56 rfl ?_
        dsimp only [List.set]
        refine wa_aload_n hX (i := 0) dX12_entry_58 rfl rfl ?_
        refine wa_aload hX dX12_entry_59 rfl ?_
        refine wa_iload_n hX (i := 2) dX12_entry_61 rfl rfl ?_
        refine WA.room (k2 := 0 + 1) (sl2 := 0 + 100) (by omega) (by omega) ?_
        refine wa_callV hX (c_X12_drawing hW d (f := f) (m := m) (i := i) (E := E) (R := R) k1 ⟨kwk, kus⟩ kI kMat hi g1 g2 g3 g4 g5 hMi hf9 (fun _ => ⟨by omega, by omega⟩)) (by assumption) (by rfl) (by rfl) (by omega) (nA := 2) (by rfl) (by decide +kernel) rfl (by exact Nat.le_of_ble_eq_true rfl) dX12_entry_62 (fun r62 h62 p62 => ?_) (fun _ _ q => q.elim)
        obtain ⟨vv, rfl, hv, fD, wuD, kMD⟩ := p62
        have k1D := fD _ _ _ k1 (by decide)
        have kJD : RJ Z DRp h62 row brk al wk us kp pt c w m E R b0 b1 b2 := RJ.draw ⟨hc60, hw, hm24, hMt⟩ kr kb kkp kpt ka ke kI fD wuD kMD
        have ffD : Fr (fun x => 120 ≤ x ∧ x ≤ 135) h h62 := (ff.mono (fun x hx => by omega)).trans (fD.mono (fun x hx => by omega))
        obtain ⟨rq', m2', m3', l2', l3', G', u1, u2, u3, -, -⟩ := id (kMD i hi)
        have hrL := hMi.le10 (s := 2 ^ E i - 1) (by omega)
        dsimp only [Option.toList, List.cons_append, List.nil_append]
        rcases hv with ⟨rfl, hdr⟩ | ⟨qd, g, rfl, hqd, hdr⟩
        · skip
          have t93 : WA X h62 0 0 93 [.val (.ref a), .val (I (i : Int)), .val (I (f : Int)), .val (I rw0), .val (I (k : Int)), .val (.ref (P i)), .val (.null)] [I ((b2n true : Nat) : Int), .ref a] := by
            refine wi_iconst hX dX12_entry_93 ?_
            refine wa_callV hX (c_X12_fails hW d (th := 0) (k := 3) (b := true) k1D (by omega) (by omega)) (by assumption) (by rfl) (by rfl) (by omega) (nA := 2) (by rfl) (by decide +kernel) rfl (by exact Nat.le_of_ble_eq_true rfl) dX12_entry_94 (fun r94 h94 p94 => ?_) (fun _ _ q => q.elim)
            obtain ⟨rfl, hh94⟩ := p94
            have f94 : Fr (fun x => x = 120) h62 h94 := by rw [hh94]; exact Fr.hset Fr.rf k1D rfl
            replace k1D : h94 a = some (120, oMod ((if (true) = true ∧ (0 : Nat) = 0 then 3 else 0 : Nat) : Int) (c : Int) row brk al wk us kp pt) := by rw [hh94]; exact hset_eq
            replace kJD := kJD.fr f94 (fun x hx => by omega)
            replace ffD := ffD.trans (f94.mono (fun x hx => by omega))
            clear hh94
            rw [show ((true) || (0 : Nat) != 0) = (true) from Bool.or_false _]
            dsimp only [Option.toList, List.cons_append, List.nil_append]
            refine wi_if_eq hX (tgt := 104) dX12_entry_97 (by decide) (by exact b2n_inR _) (fun c97 => ?_) (fun c97 => ?_)
            · skip
              exact absurd (b2n_f c97) Bool.noConfusion
            · skip
              refine wi_iconst hX dX12_entry_100 ?_
              refine wa_goto hX (tgt := 117) dX12_entry_101 (by decide) ?_
              refine wa_iret hX dX12_entry_117 ?_
              rw [if_pos ⟨rfl, rfl⟩] at k1D
              exact ⟨ffD, Or.inr ⟨i, k, hi, rfl, hk, rfl, Or.inr ⟨f, rfl, hf9, none, hdr, Or.inl ⟨Or.inl rfl, ⟨_, rfl⟩, row, brk, al, wk, us, kp, pt, k1D, kJD⟩⟩⟩⟩
          refine wa_astoreN hX dX12_entry_65 rfl ?_
          dsimp only [List.set]
          refine wa_aload_n hX (i := 0) dX12_entry_67 rfl rfl ?_
          refine wa_aloadN hX dX12_entry_68 rfl ?_
          refine wa_ifnullN hX (tgt := 88) dX12_entry_70 (by decide) ?_
          refine wi_iconst hX dX12_entry_88 ?_
          refine wa_goto hX (tgt := 93) dX12_entry_89 (by decide) ?_
          exact t93
        · skip
          have t93 : WA X h62 0 0 93 [.val (.ref a), .val (I (i : Int)), .val (I (f : Int)), .val (I rw0), .val (I (k : Int)), .val (.ref (P i)), .val (.ref qd)] [I ((b2n (!decide (0 ≤ rw0 ∧ rw0 < ((R i (2 ^ E i - 1) : Nat) : Int))) : Nat) : Int), .ref a] := by
            refine wi_iconst hX dX12_entry_93 ?_
            refine wa_callV hX (c_X12_fails hW d (th := 0) (k := 3) (b := (!decide (0 ≤ rw0 ∧ rw0 < ((R i (2 ^ E i - 1) : Nat) : Int)))) k1D (by omega) (by omega)) (by assumption) (by rfl) (by rfl) (by omega) (nA := 2) (by rfl) (by decide +kernel) rfl (by exact Nat.le_of_ble_eq_true rfl) dX12_entry_94 (fun r94 h94 p94 => ?_) (fun _ _ q => q.elim)
            obtain ⟨rfl, hh94⟩ := p94
            have f94 : Fr (fun x => x = 120) h62 h94 := by rw [hh94]; exact Fr.hset Fr.rf k1D rfl
            replace k1D : h94 a = some (120, oMod ((if ((!decide (0 ≤ rw0 ∧ rw0 < ((R i (2 ^ E i - 1) : Nat) : Int)))) = true ∧ (0 : Nat) = 0 then 3 else 0 : Nat) : Int) (c : Int) row brk al wk us kp pt) := by rw [hh94]; exact hset_eq
            replace kJD := kJD.fr f94 (fun x hx => by omega)
            replace ffD := ffD.trans (f94.mono (fun x hx => by omega))
            clear hh94
            rw [show (((!decide (0 ≤ rw0 ∧ rw0 < ((R i (2 ^ E i - 1) : Nat) : Int)))) || (0 : Nat) != 0) = ((!decide (0 ≤ rw0 ∧ rw0 < ((R i (2 ^ E i - 1) : Nat) : Int)))) from Bool.or_false _]
            dsimp only [Option.toList, List.cons_append, List.nil_append]
            refine wi_if_eq hX (tgt := 104) dX12_entry_97 (by decide) (by exact b2n_inR _) (fun c97 => ?_) (fun c97 => ?_)
            · skip
              have hv97 := b2n_f c97
              rw [hv97, if_neg (fun z => Bool.false_ne_true z.1)] at k1D
              rw [Bool.not_eq_false', decide_eq_true_eq] at hv97
              obtain ⟨t, rfl⟩ := Int.eq_ofNat_of_zero_le hv97.1
              have ht : t < R i (2 ^ E i - 1) := by omega
              have u1L := f94 _ _ _ u1 (by decide)
              have u2L := f94 _ _ _ u2 (by decide)
              have hqL := f94 _ _ _ hqd (by decide)
              have hix := idx_lt (rows := R i (2 ^ E i - 1)) (cols := E i) (c := k) (k := t) hk ht
              have hre : R i (2 ^ E i - 1) * E i ≤ 100 := Nat.mul_le_mul hrL he
              refine wa_aload hX dX12_entry_104 rfl ?_
              refine wa_aload hX dX12_entry_106 rfl ?_
              refine wa_callV hX (c_X11_rank hW d u1L u2L u3 he (fun s hs => hMi.le10 hs)) (by assumption) (by rfl) (by rfl) (by omega) (nA := 0) (by rfl) (by decide +kernel) rfl (by exact Nat.le_of_ble_eq_true rfl) dX12_entry_108 (fun r108 h108 p108 => ?_) (fun _ _ q => q.elim)
              obtain ⟨rfl, qq108⟩ := p108; subst h108
              dsimp only [Option.toList, List.cons_append, List.nil_append]
              refine wa_iload hX dX12_entry_111 rfl ?_
              refine wi_imul hX dX12_entry_113 ?_
              refine wa_iload_n hX (i := 3) dX12_entry_114 rfl rfl ?_
              refine wi_iadd hX dX12_entry_115 ?_
              rw [← Int.natCast_mul, ← Int.natCast_add]
              refine wi_iaload hX hqL (by omega) (by omega) (by omega) dX12_entry_116 ?_
              rw [Int.toNat_natCast]
              refine wa_iret hX dX12_entry_117 ?_
              first
                | (have z := b2n_t c97
                   rw [z, if_pos ⟨rfl, rfl⟩] at k1D
                   rw [Bool.not_eq_true', decide_eq_false_iff_not] at z
                   exact ⟨ffD, Or.inr ⟨i, k, hi, rfl, hk, rfl, Or.inr ⟨f, rfl, hf9, some g, hdr, Or.inl ⟨Or.inr z, ⟨_, rfl⟩, row, brk, al, wk, us, kp, pt, k1D, kJD⟩⟩⟩⟩)
                | exact ⟨ffD, Or.inr ⟨i, k, hi, rfl, hk, rfl, Or.inr ⟨f, rfl, hf9, some g, hdr, Or.inr ⟨g, t, rfl, rfl, ht, rfl, row, brk, al, wk, us, kp, pt, k1D, kJD⟩⟩⟩⟩
            · skip
              refine wi_iconst hX dX12_entry_100 ?_
              refine wa_goto hX (tgt := 117) dX12_entry_101 (by decide) ?_
              refine wa_iret hX dX12_entry_117 ?_
              first
                | (have z := b2n_t c97
                   rw [z, if_pos ⟨rfl, rfl⟩] at k1D
                   rw [Bool.not_eq_true', decide_eq_false_iff_not] at z
                   exact ⟨ffD, Or.inr ⟨i, k, hi, rfl, hk, rfl, Or.inr ⟨f, rfl, hf9, some g, hdr, Or.inl ⟨Or.inr z, ⟨_, rfl⟩, row, brk, al, wk, us, kp, pt, k1D, kJD⟩⟩⟩⟩)
                | exact ⟨ffD, Or.inr ⟨i, k, hi, rfl, hk, rfl, Or.inr ⟨f, rfl, hf9, some g, hdr, Or.inr ⟨g, t, rfl, rfl, ht, rfl, row, brk, al, wk, us, kp, pt, k1D, kJD⟩⟩⟩⟩
          refine wa_astore hX dX12_entry_65 rfl ?_
          dsimp only [List.set]
          refine wa_aload_n hX (i := 0) dX12_entry_67 rfl rfl ?_
          refine wa_aload hX dX12_entry_68 rfl ?_
          refine wa_ifnull hX dX12_entry_70 ?_
          refine wa_iload_n hX (i := 3) dX12_entry_73 rfl rfl ?_
          refine wi_iconst hX dX12_entry_74 ?_
          refine wa_aload hX dX12_entry_75 rfl ?_
          refine wa_callV hX (c_X11_rank hW (d + 12) u1 u2 u3 he (fun s hs => hMi.le10 hs)) (by assumption) (by rfl) (by rfl) (by omega) (nA := 0) (by rfl) (by decide +kernel) rfl (by exact Nat.le_of_ble_eq_true rfl) dX12_entry_77 (fun r77 h77 p77 => ?_) (fun _ _ q => q.elim)
          obtain ⟨rfl, qq77⟩ := p77; subst h77
          dsimp only [Option.toList, List.cons_append, List.nil_append]
          refine wi_iconst hX dX12_entry_80 ?_
          refine wi_isub hX dX12_entry_81 ?_
          refine wa_callS hX (c_X12_in hW d (v := rw0) (lo := 0) (hi := ((R i (2 ^ E i - 1) : Nat) : Int) - 1) hrw (by omega) (by omega)) (by rfl) (by omega) (nA := 3) (by rfl) (by decide +kernel) rfl (by exact Nat.le_of_ble_eq_true rfl) dX12_entry_82 (fun r82 h82 p82 => ?_) (fun _ _ q => q.elim)
          obtain ⟨rfl, qq82⟩ := p82; subst h82
          dsimp only [Option.toList, List.cons_append, List.nil_append]
          refine wi_if_ne hX (tgt := 92) dX12_entry_85 (by decide) (by exact b2n_inR _) (fun c85 => ?_) (fun c85 => ?_)
          · skip
            refine wi_iconst hX dX12_entry_92 ?_
            refine WA.eq rfl rfl ?_ t93
            first
              | (have q := b2n_t c85
                 rw [decide_eq_true_eq] at q
                 rw [decide_eq_true (show 0 ≤ rw0 ∧ rw0 < ((R i (2 ^ E i - 1) : Nat) : Int) by omega)]; rfl)
              | (have q := b2n_f c85
                 rw [decide_eq_false_iff_not] at q
                 rw [decide_eq_false (show ¬ (0 ≤ rw0 ∧ rw0 < ((R i (2 ^ E i - 1) : Nat) : Int)) by omega)]; rfl)
          · skip
            refine wi_iconst hX dX12_entry_88 ?_
            refine wa_goto hX (tgt := 93) dX12_entry_89 (by decide) ?_
            refine WA.eq rfl rfl ?_ t93
            first
              | (have q := b2n_t c85
                 rw [decide_eq_true_eq] at q
                 rw [decide_eq_true (show 0 ≤ rw0 ∧ rw0 < ((R i (2 ^ E i - 1) : Nat) : Int) by omega)]; rfl)
              | (have q := b2n_f c85
                 rw [decide_eq_false_iff_not] at q
                 rw [decide_eq_false (show ¬ (0 ≤ rw0 ∧ rw0 < ((R i (2 ^ E i - 1) : Nat) : Int)) by omega)]; rfl)
      · skip
        refine wi_iconst hX dX12_entry_43 ?_
        refine wa_iret hX dX12_entry_44 ?_
        have z := b2n_t c40
        rw [z, if_pos ⟨rfl, rfl⟩] at k1
        rw [Bool.not_eq_true', decide_eq_false_iff_not] at z
        exact ⟨ff.mono (fun x hx => by omega), Or.inr ⟨i, k, hi, rfl, hk, rfl, Or.inl ⟨by omega, by omega, ⟨_, rfl⟩, row, brk, al, wk, us, kp, pt, k1, kJ⟩⟩⟩
    refine wa_aload_n hX (i := 0) dX12_entry_20 rfl rfl ?_
    refine wa_iload_n hX (i := 2) dX12_entry_21 rfl rfl ?_
    refine wi_iconst hX dX12_entry_22 ?_
    refine wi_icmp_eq hX (tgt := 35) dX12_entry_23 (by decide) (by omega) (by omega) (fun c23 => ?_) (fun c23 => ?_)
    · skip
      refine wi_iconst hX dX12_entry_35 ?_
      refine WA.eq rfl rfl ?_ t36
      first
        | (rw [decide_eq_true (show v = 2 ∨ v = 3 by omega)]; rfl)
        | (rw [decide_eq_false (show ¬ (v = 2 ∨ v = 3) by omega)]; rfl)
    · skip
      refine wa_iload_n hX (i := 2) dX12_entry_26 rfl rfl ?_
      refine wi_iconst hX dX12_entry_27 ?_
      refine wi_icmp_eq hX (tgt := 35) dX12_entry_28 (by decide) (by omega) (by omega) (fun c28 => ?_) (fun c28 => ?_)
      · skip
        refine wi_iconst hX dX12_entry_35 ?_
        refine WA.eq rfl rfl ?_ t36
        first
          | (rw [decide_eq_true (show v = 2 ∨ v = 3 by omega)]; rfl)
          | (rw [decide_eq_false (show ¬ (v = 2 ∨ v = 3) by omega)]; rfl)
      · skip
        refine wi_iconst hX dX12_entry_31 ?_
        refine wa_goto hX (tgt := 36) dX12_entry_32 (by decide) ?_
        refine WA.eq rfl rfl ?_ t36
        first
          | (rw [decide_eq_true (show v = 2 ∨ v = 3 by omega)]; rfl)
          | (rw [decide_eq_false (show ¬ (v = 2 ∨ v = 3) by omega)]; rfl)
end C9m
