/-! The reference (X12): union -/
def parM (r1 r2 : Nat → Nat) (s : Nat) : Bool := anyB (fun p => (p &&& s == p) && (frB r1 p && frB r2 (sdf s p))) (s + 1)
theorem parM_t {r1 r2 : Nat → Nat} {s p : Nat} (h : p &&& s = p) (h2 : (frB r1 p && frB r2 (sdf s p)) = true) : parM r1 r2 s = true := by
  have hle : p ≤ s := by rw [← h]; exact Nat.and_le_right
  exact anyB_iff.mpr ⟨p, by omega, by rw [h2, Bool.and_true]; exact beq_iff_eq.mpr h⟩
theorem parM_f {r1 r2 : Nat → Nat} {s : Nat} (h : ∀ p, p &&& s = p → (frB r1 p && frB r2 (sdf s p)) = false) : parM r1 r2 s = false := by
  rw [← Bool.not_eq_true]
  intro q
  obtain ⟨p, hp, q2⟩ := anyB_iff.mp q
  rw [Bool.and_eq_true, beq_iff_eq] at q2
  rw [h p q2.1] at q2
  cases q2.2
def uniM (r1 r2 : Nat → Nat) (e : Nat) : Nat → Nat := filN (fun j => decide (j < 2 ^ e) && parM r1 r2 j) e (fun _ => 0) (2 ^ e)
theorem narZ (b : Bool) : narrow .boolean (I ((b2n b : Nat) : Int)) = I ((b2n b : Nat) : Int) := by cases b <;> rfl
theorem up_same {f : Nat → Int} {k : Nat} {x : Int} (h : f k = x) : up f k x = f := by
  funext j
  by_cases g : j = k
  · subst g; rw [up_s, h]
  · rw [up_n g]
theorem up_up {f : Nat → Int} {k : Nat} {x y : Int} : up (up f k x) k y = up f k y := by
  funext j
  by_cases g : j = k
  · subst g; rw [up_s, up_s]
  · rw [up_n g, up_n g, up_n g]
section C98
variable {l : Launch} {D : va_G} {S0 : State} {DR : (Nat → Nat) → Nat → Nat → Option (Nat → Nat) → Prop}
set_option maxHeartbeats 2000000 in
set_option maxRecDepth 100000 in
theorem c_X12_union (hW : WOK l D S0) (d : Nat) {h : AH} {a th : Nat} {c m : Nat} {w : Nat → Nat} {E : Nat → Nat} {R : Nat → Nat → Nat} {b0 b1 b2 : Int} (hI : RI (zA S0) DR h a th c w m E R b0 b1 b2) {n v : Int} (hn : inR n) (hv : inR v) (hN : ∀ i j : Nat, i < m → j < m → E i = E j → Mtr (E i) (uniM (R i) (R j) (E i))) {rmc rms : Nat} (hroom : ((∃ i j : Nat, i < m ∧ n = (i : Int) ∧ j < m ∧ v = (j : Int) ∧ E i = E j) ∧ m < 24) → 4 ≤ rmc ∧ 2200 ≤ rms) : MA l D S0 yX12_union cX12_union 9 (some .int) (d + 7) [.ref a, I n, I v] h rmc rms (fun r h' => Fr (fun x => 120 ≤ x ∧ x ≤ 139) h h' ∧ (((noM n m ∨ noM v m) ∧ (∃ z, r = some (I z)) ∧ RI (zA S0) DR h' a 1 c w m E R b0 b1 b2) ∨ ∃ i j : Nat, i < m ∧ n = (i : Int) ∧ j < m ∧ v = (j : Int) ∧ ((E i ≠ E j ∧ (∃ z, r = some (I z)) ∧ RI (zA S0) DR h' a 2 c w m E R b0 b1 b2) ∨ (E i = E j ∧ ((m = 24 ∧ (∃ z, r = some (I z)) ∧ RI (zA S0) DR h' a 3 c w m E R b0 b1 b2) ∨ (m ≠ 24 ∧ r = some (I (m : Nat)) ∧ RI (zA S0) DR h' a 0 c w (m + 1) (up E m (E i)) (up R m (uniM (R i) (R j) (E i))) b0 b1 b2)))))) (fun _ _ => False) := by
  obtain ⟨row, brk, al, wk, us, kp, pt, k1, kJ⟩ := hI
  refine MA.start hW (by decide) [.val (.ref a), .val (I n), .val (I v), .unset, .unset, .unset, .unset, .unset, .unset] rfl ?_
  rintro X rfl rfl rfl hX
  refine wa_aload_n hX (i := 0) dX12_union_0 rfl rfl ?_
  refine wi_iconst hX dX12_union_1 ?_
  refine wa_put hX 0 k1 (Nat.le_of_ble_eq_true rfl) (by decide +kernel) (by rfl) (by rfl) (by rfl) dX12_union_2 ?_
  refine WA.heap (h2 := hset h a (120, oMod ((0 : Nat) : Int) (c : Int) row brk al wk us kp pt)) rfl ?_
  refine WA.hgq (fun hA hh2 => ?_)
  have ff : Fr (fun x => x = 120) h hA := by rw [hh2]; exact Fr.hset Fr.rf k1 rfl
  replace k1 : hA a = some (120, oMod ((0 : Nat) : Int) (c : Int) row brk al wk us kp pt) := by rw [hh2]; exact hset_eq
  replace kJ := kJ.fr ff (fun x hx => by omega)
  clear hh2
  obtain ⟨⟨hc60, hw, hm24, hMt⟩, kr, kb, kwk, kus, kkp, kpt, ed, N, P, ka, ke, kI, kMat⟩ := id kJ
  refine wa_aload_n hX (i := 0) dX12_union_5 rfl rfl ?_
  refine wa_aload_n hX (i := 0) dX12_union_6 rfl rfl ?_
  refine wa_iload_n hX (i := 1) dX12_union_7 rfl rfl ?_
  have t27 : WA X hA rmc rms 27 [.val (.ref a), .val (I n), .val (I v), .unset, .unset, .unset, .unset, .unset, .unset] [I ((b2n (!decide (0 ≤ n ∧ n < (m : Int)) || !decide (0 ≤ v ∧ v < (m : Int))) : Nat) : Int), .ref a] := by
    refine wi_iconst hX dX12_union_27 ?_
    refine wa_callV hX (c_X12_fails hW d (th := 0) (k := 1) (b := (!decide (0 ≤ n ∧ n < (m : Int)) || !decide (0 ≤ v ∧ v < (m : Int)))) k1 (by omega) (by omega)) (by assumption) (by rfl) (by rfl) (by omega) (nA := 2) (by rfl) (by decide +kernel) rfl (by exact Nat.le_of_ble_eq_true rfl) dX12_union_28 (fun r28 h28 p28 => ?_) (fun _ _ q => q.elim)
    obtain ⟨rfl, hh28⟩ := p28
    have f28 : Fr (fun x => x = 120) hA h28 := by rw [hh28]; exact Fr.hset Fr.rf k1 rfl
    replace k1 : h28 a = some (120, oMod ((if ((!decide (0 ≤ n ∧ n < (m : Int)) || !decide (0 ≤ v ∧ v < (m : Int)))) = true ∧ (0 : Nat) = 0 then 1 else 0 : Nat) : Int) (c : Int) row brk al wk us kp pt) := by rw [hh28]; exact hset_eq
    replace kJ := kJ.fr f28 (fun x hx => by omega)
    replace ff := ff.trans f28
    clear hh28 f28
    rw [show (((!decide (0 ≤ n ∧ n < (m : Int)) || !decide (0 ≤ v ∧ v < (m : Int)))) || (0 : Nat) != 0) = ((!decide (0 ≤ n ∧ n < (m : Int)) || !decide (0 ≤ v ∧ v < (m : Int)))) from Bool.or_false _]
    clear kr kb kwk kus kkp kpt ka ke kI kMat hc60 hw hm24 hMt
    obtain ⟨⟨hc60, hw, hm24, hMt⟩, kr, kb, kwk, kus, kkp, kpt, ed, N, P, ka, ke, kI, kMat⟩ := id kJ
    dsimp only [Option.toList, List.cons_append, List.nil_append]
    refine wi_if_ne hX (tgt := 73) dX12_union_31 (by decide) (by exact b2n_inR _) (fun c31 => ?_) (fun c31 => ?_)
    · skip
      refine wi_iconst hX dX12_union_73 ?_
      refine wa_iret hX dX12_union_74 ?_
      first
        | (have z := b2n_t c31
           rw [z, if_pos ⟨rfl, rfl⟩] at k1
           refine ⟨ff.mono (fun x hx => by omega), Or.inl ⟨?_, ⟨_, rfl⟩, row, brk, al, wk, us, kp, pt, k1, kJ⟩⟩
           rw [Bool.or_eq_true, Bool.not_eq_true', decide_eq_false_iff_not, Bool.not_eq_true', decide_eq_false_iff_not] at z
           exact z)
        | (have z := b2n_t c45
           rw [z, if_pos ⟨rfl, rfl⟩] at k1
           exact ⟨ff.mono (fun x hx => by omega), Or.inr ⟨i, j, hi, rfl, hj, rfl, Or.inl ⟨bne_iff_ne.mp z, ⟨_, rfl⟩, row, brk, al, wk, us, kp, pt, k1, kJ⟩⟩⟩)
    · skip
      have hv31 := b2n_f c31
      rw [hv31, if_neg (fun z => Bool.false_ne_true z.1)] at k1
      rw [Bool.or_eq_false_iff, Bool.not_eq_false', decide_eq_true_eq, Bool.not_eq_false', decide_eq_true_eq] at hv31
      obtain ⟨i, rfl⟩ := Int.eq_ofNat_of_zero_le hv31.1.1
      obtain ⟨j, rfl⟩ := Int.eq_ofNat_of_zero_le hv31.2.1
      have hi : i < m := by omega
      have hj : j < m := by omega
      obtain ⟨e3, hN1, hN2⟩ : h28 ed = some (124, aR (.object "java/lang/Object") N (fun j => if j < m then some (P j) else none)) ∧ m ≤ N ∧ N ≤ 100 := by
        rcases ke with z | z
        · exfalso; omega
        · exact z
      obtain ⟨rq, m2, m3, l2, l3, G, g1, g2, g3, g4, g5⟩ := id (kMat i hi)
      have hMi := hMt i hi
      have he := hMi.1
      have hp := p2_le he
      have hp0 := p2_pos (E i)
      obtain ⟨rq', m2', m3', l2', l3', G', u1, u2⟩ := id (kMat j hj)
      refine wa_aload_n hX (i := 0) dX12_union_34 rfl rfl ?_
      refine wa_aload_n hX (i := 0) dX12_union_35 rfl rfl ?_
      refine wa_iload_n hX (i := 1) dX12_union_36 rfl rfl ?_
      refine wa_iload_n hX (i := 2) dX12_union_37 rfl rfl ?_
      refine wa_callV hX (c_X12_areUnlike hW d k1 ka e3 hN1 hN2 hi g1 he hj u1 (hMt j hj).1) (by assumption) (by rfl) (by rfl) (by omega) (nA := 2) (by rfl) (by decide +kernel) rfl (by exact Nat.le_of_ble_eq_true rfl) dX12_union_38 (fun r38 h38 p38 => ?_) (fun _ _ q => q.elim)
      obtain ⟨rfl, qq38⟩ := p38; subst h38
      dsimp only [Option.toList, List.cons_append, List.nil_append]
      refine wi_iconst hX dX12_union_41 ?_
      refine wa_callV hX (c_X12_fails hW d (th := 0) (k := 2) (b := (E i != E j)) k1 (by omega) (by omega)) (by assumption) (by rfl) (by rfl) (by omega) (nA := 2) (by rfl) (by decide +kernel) rfl (by exact Nat.le_of_ble_eq_true rfl) dX12_union_42 (fun r42 h42 p42 => ?_) (fun _ _ q => q.elim)
      obtain ⟨rfl, hh42⟩ := p42
      have f42 : Fr (fun x => x = 120) h28 h42 := by rw [hh42]; exact Fr.hset Fr.rf k1 rfl
      replace k1 : h42 a = some (120, oMod ((if ((E i != E j)) = true ∧ (0 : Nat) = 0 then 2 else 0 : Nat) : Int) (c : Int) row brk al wk us kp pt) := by rw [hh42]; exact hset_eq
      replace kJ := kJ.fr f42 (fun x hx => by omega)
      replace ff := ff.trans f42
      clear hh42 f42
      rw [show (((E i != E j)) || (0 : Nat) != 0) = ((E i != E j)) from Bool.or_false _]
      clear kr kb kwk kus kkp kpt ka ke kI kMat hc60 hw hm24 hMt
      obtain ⟨⟨hc60, hw, hm24, hMt⟩, kr, kb, kwk, kus, kkp, kpt, ed, N, P, ka, ke, kI, kMat⟩ := id kJ
      dsimp only [Option.toList, List.cons_append, List.nil_append]
      refine wi_if_ne hX (tgt := 73) dX12_union_45 (by decide) (by exact b2n_inR _) (fun c45 => ?_) (fun c45 => ?_)
      · skip
        refine wi_iconst hX dX12_union_73 ?_
        refine wa_iret hX dX12_union_74 ?_
        first
          | (have z := b2n_t c31
             rw [z, if_pos ⟨rfl, rfl⟩] at k1
             refine ⟨ff.mono (fun x hx => by omega), Or.inl ⟨?_, ⟨_, rfl⟩, row, brk, al, wk, us, kp, pt, k1, kJ⟩⟩
             rw [Bool.or_eq_true, Bool.not_eq_true', decide_eq_false_iff_not, Bool.not_eq_true', decide_eq_false_iff_not] at z
             exact z)
          | (have z := b2n_t c45
             rw [z, if_pos ⟨rfl, rfl⟩] at k1
             exact ⟨ff.mono (fun x hx => by omega), Or.inr ⟨i, j, hi, rfl, hj, rfl, Or.inl ⟨bne_iff_ne.mp z, ⟨_, rfl⟩, row, brk, al, wk, us, kp, pt, k1, kJ⟩⟩⟩)
      · skip
        have hv45 := b2n_f c45
        rw [hv45, if_neg (fun z => Bool.false_ne_true z.1)] at k1
        have hE : E i = E j := bne_eq_false_iff_eq.mp hv45
        clear u1 u2 g1 g2 g3 g4 g5
        refine wa_aload_n hX (i := 0) dX12_union_48 rfl rfl ?_
        refine wa_aload_n hX (i := 0) dX12_union_49 rfl rfl ?_
        refine wa_get hX 4 (by assumption) (by rfl) (by decide +kernel) dX12_union_50 ?_
        have t66 : WA X h42 rmc rms 66 [.val (.ref a), .val (I (i : Int)), .val (I (j : Int)), .unset, .unset, .unset, .unset, .unset, .unset] [I ((b2n (m == 24) : Nat) : Int), .ref a] := by
          refine wi_iconst hX dX12_union_66 ?_
          refine wa_callV hX (c_X12_fails hW d (th := 0) (k := 3) (b := (m == 24)) k1 (by omega) (by omega)) (by assumption) (by rfl) (by rfl) (by omega) (nA := 2) (by rfl) (by decide +kernel) rfl (by exact Nat.le_of_ble_eq_true rfl) dX12_union_67 (fun r67 h67 p67 => ?_) (fun _ _ q => q.elim)
          obtain ⟨rfl, hh67⟩ := p67
          have f67 : Fr (fun x => x = 120) h42 h67 := by rw [hh67]; exact Fr.hset Fr.rf k1 rfl
          replace k1 : h67 a = some (120, oMod ((if ((m == 24)) = true ∧ (0 : Nat) = 0 then 3 else 0 : Nat) : Int) (c : Int) row brk al wk us kp pt) := by rw [hh67]; exact hset_eq
          replace kJ := kJ.fr f67 (fun x hx => by omega)
          replace ff := ff.trans f67
          clear hh67 f67
          rw [show (((m == 24)) || (0 : Nat) != 0) = ((m == 24)) from Bool.or_false _]
          clear kr kb kwk kus kkp kpt ka ke kI kMat hc60 hw hm24 hMt
          obtain ⟨⟨hc60, hw, hm24, hMt⟩, kr, kb, kwk, kus, kkp, kpt, ed, N, P, ka, ke, kI, kMat⟩ := id kJ
          dsimp only [Option.toList, List.cons_append, List.nil_append]
          refine wi_if_eq hX (tgt := 75) dX12_union_70 (by decide) (by exact b2n_inR _) (fun c70 => ?_) (fun c70 => ?_)
          · skip
            have hv70 := b2n_f c70
            rw [hv70, if_neg (fun z => Bool.false_ne_true z.1)] at k1
            have hmne : m ≠ 24 := beq_eq_false_iff_ne.mp hv70
            have hm9 : m < 24 := by omega
            obtain ⟨e3, hN1, hN2⟩ : h67 ed = some (124, aR (.object "java/lang/Object") N (fun j => if j < m then some (P j) else none)) ∧ m ≤ N ∧ N ≤ 100 := by
              rcases ke with z | z
              · exfalso; omega
              · exact z
            obtain ⟨rq, m2, m3, l2, l3, G, g1, g2, g3, g4, g5⟩ := id (kMat i hi)
            have hMi := hMt i hi
            have he := hMi.1
            have hp := p2_le he
            have hp0 := p2_pos (E i)
            obtain ⟨rq', m2', m3', l2', l3', G', u1, u2, u3, u4, u5⟩ := id (kMat j hj)
            have hMj := hMt j hj
            rw [← hE] at u1 u3 hMj
            refine wa_aload_n hX (i := 0) dX12_union_75 rfl rfl ?_
            refine wa_get hX 4 (by assumption) (by rfl) (by decide +kernel) dX12_union_76 ?_
            refine wa_iload_n hX (i := 1) dX12_union_79 rfl rfl ?_
            refine wa_callV hX (c_AL_get hW d ka e3 (i := i) (q := P i) hi hN1 (by omega) (if_pos hi)) (by assumption) (by rfl) (by rfl) (by omega) (nA := 1) (by rfl) (by decide +kernel) rfl (by exact Nat.le_of_ble_eq_true rfl) dX12_union_80 (fun r80 h80 p80 => ?_) (fun _ _ q => q.elim)
            obtain ⟨rfl, qq80⟩ := p80; subst h80
            dsimp only [Option.toList, List.cons_append, List.nil_append]
            refine wa_ccast hX g1 (by rfl) (by decide +kernel) dX12_union_83 ?_
            refine wa_astore_n hX (i := 3) dX12_union_86 rfl (by first | rfl | assumption) ?_
            dsimp only [List.set]
            refine wa_aload_n hX (i := 0) dX12_union_87 rfl rfl ?_
            refine wa_get hX 4 (by assumption) (by rfl) (by decide +kernel) dX12_union_88 ?_
            refine wa_iload_n hX (i := 2) dX12_union_91 rfl rfl ?_
            refine wa_callV hX (c_AL_get hW d ka e3 (i := j) (q := P j) hj hN1 (by omega) (if_pos hj)) (by assumption) (by rfl) (by rfl) (by omega) (nA := 1) (by rfl) (by decide +kernel) rfl (by exact Nat.le_of_ble_eq_true rfl) dX12_union_92 (fun r92 h92 p92 => ?_) (fun _ _ q => q.elim)
            obtain ⟨rfl, qq92⟩ := p92; subst h92
            dsimp only [Option.toList, List.cons_append, List.nil_append]
            refine wa_ccast hX u1 (by rfl) (by decide +kernel) dX12_union_95 ?_
            refine wa_astore hX dX12_union_98 (by first | rfl | assumption) ?_
            dsimp only [List.set]
            refine wa_aload_n hX (i := 3) dX12_union_100 rfl rfl ?_
            refine wa_get hX 0 (by assumption) (by rfl) (by decide +kernel) dX12_union_101 ?_
            obtain ⟨hkk, hss⟩ := hroom ⟨⟨i, j, hi, rfl, hj, rfl, hE⟩, hm9⟩
            refine WA.room (k2 := 2 + 2) (sl2 := 1064 + 1030) (by omega) (by omega) ?_
            refine wa_callS hX (c_X12_sized hW d (e := E i) he) (by rfl) (by omega) (nA := 1) (by rfl) (by decide +kernel) rfl (by exact Nat.le_of_ble_eq_true rfl) dX12_union_104 (fun r104 h104 p104 => ?_) (fun _ _ q => q.elim)
            obtain ⟨p, q, rfl, fS, p1, q1⟩ := p104
            have k1S := fS _ _ _ k1 id
            have kJS := kJ.fr fS (fun x hx => hx.elim)
            dsimp only [Option.toList, List.cons_append, List.nil_append]
            refine wa_astore hX dX12_union_107 (by first | rfl | assumption) ?_
            dsimp only [List.set]
            refine wi_sipush hX dX12_union_109 (by decide) ?_
            refine WA.room (k2 := 1 + 1) (sl2 := 40 + 1024) (by omega) (by omega) ?_
            refine wa_newa hX 1024 135 .boolean (.inl (fun j => Int32.ofInt ((fun _ => 0 : Nat → Int) j))) rfl (by rfl) (by omega) (fun cA => by rfl) (by decide +kernel) dX12_union_112 (fun nb nbn => ?_)
            refine WA.hgq (fun hB hhB => ?_)
            have fB : Fr (fun _ => False) h104 hB := by rw [hhB]; exact fun b lb ob z _ => hset_new nbn z
            have n1 : hB nb = some (135, aI .boolean 1024 (fun _ => 0)) := by rw [hhB]; exact hset_eq
            clear hhB
            replace p1 := fB _ _ _ p1 id
            replace q1 := fB _ _ _ q1 id
            replace k1S := fB _ _ _ k1S id
            replace kJS := kJS.fr fB (fun x hx => hx.elim)
            replace fS := fS.trans fB
            refine wa_astore hX dX12_union_114 (by first | rfl | assumption) ?_
            dsimp only [List.set]
            refine wi_iconst hX dX12_union_116 ?_
            refine wa_istore hX dX12_union_117 (by first | rfl | assumption) ?_
            dsimp only [List.set]
            refine WA.heap (h2 := (hset hB nb (135, aI .boolean 1024 (fun _ => 0)))) (hset_self n1).symm ?_
            refine WA.loop (σ := Nat × (Nat → Int) × Slot) (fun z => 2 ^ E i - z.1) (fun z => z.1 ≤ 2 ^ E i ∧ (∀ s, s < z.1 → z.2.1 s = ((b2n (parM (R i) (R j) s) : Nat) : Int)) ∧ (∀ s, z.1 ≤ s → z.2.1 s = 0) ∧ okS [z.2.2] 0 = true) (fun z => (hset hB nb (135, aI .boolean 1024 z.2.1))) (fun z => [.val (.ref a), .val (I (i : Int)), .val (I (j : Int)), .val (.ref (P i)), .val (.ref (P j)), .val (.ref p), .val (.ref nb), .val (I (z.1 : Nat)), z.2.2]) ?_ (0, (fun _ => 0), .unset) ⟨Nat.zero_le _, fun s hs => absurd hs (Nat.not_lt_zero s), fun s _ => rfl, rfl⟩
            rintro ⟨z, F, u8⟩ ⟨hz, hF, hF0, hu8⟩ ih
            dsimp only at hz hF hF0 hu8 ⊢
            have fF : Fr (fun x => x = 135) hB (hset hB nb (135, aI .boolean 1024 F)) := Fr.hset Fr.rf n1 rfl
            have p2 := fF _ _ _ p1 (by decide)
            have t133 : ∀ (h2 : AH) (u : Nat) (b : Bool), h2 = (hset hB nb (135, aI .boolean 1024 (up F z ((b2n b : Nat) : Int)))) → z < 2 ^ E i → u ≤ z + 1 → (u ≠ 0 → (u - 1) &&& z = u - 1) → (b = true → parM (R i) (R j) z = true) → (b = false → ∀ p, p &&& z = p → u ≤ p → (frB (R i) p && frB (R j) (sdf z p)) = false) → WA X h2 1 40 133 [.val (.ref a), .val (I (i : Int)), .val (I (j : Int)), .val (.ref (P i)), .val (.ref (P j)), .val (.ref p), .val (.ref nb), .val (I (z : Nat)), .val (I ((u : Int) - 1))] [] := by
              intro h2 u b hh2 hzl hu1 hu2 hb1 hb2
              rw [hh2]
              clear hh2 h2
              refine WA.loop (σ := Nat × Bool) (fun y => y.1) (fun y => y.1 ≤ z + 1 ∧ (y.1 ≠ 0 → (y.1 - 1) &&& z = y.1 - 1) ∧ (y.2 = true → parM (R i) (R j) z = true) ∧ (y.2 = false → ∀ p, p &&& z = p → y.1 ≤ p → (frB (R i) p && frB (R j) (sdf z p)) = false)) (fun y => (hset hB nb (135, aI .boolean 1024 (up F z ((b2n y.2 : Nat) : Int))))) (fun y => [.val (.ref a), .val (I (i : Int)), .val (I (j : Int)), .val (.ref (P i)), .val (.ref (P j)), .val (.ref p), .val (.ref nb), .val (I (z : Nat)), .val (I ((y.1 : Int) - 1))]) ?_ (u, b) ⟨hu1, hu2, hb1, hb2⟩
              clear hu1 hu2 hb1 hb2 u b
              rintro ⟨u, b⟩ ⟨hu1, hu2, hb1, hb2⟩ ih2
              dsimp only at hu1 hu2 hb1 hb2 ⊢
              have fG : Fr (fun x => x = 135) hB (hset hB nb (135, aI .boolean 1024 (up F z ((b2n b : Nat) : Int)))) := Fr.hset Fr.rf n1 rfl
              have n2 : (hset hB nb (135, aI .boolean 1024 (up F z ((b2n b : Nat) : Int)))) nb = some (135, aI .boolean 1024 (up F z ((b2n b : Nat) : Int))) := hset_eq
              rcases Nat.eq_zero_or_pos u with hu0 | hu0
              · subst hu0
                have hbz : b = parM (R i) (R j) z := by
                  cases b
                  · exact (parM_f (fun p hp => hb2 rfl p hp (Nat.zero_le p))).symm
                  · exact (hb1 rfl).symm
                refine wa_iload hX dX12_union_133 rfl ?_
                refine wi_if_lt hX (tgt := 201) dX12_union_135 (by decide) (by omega) (fun c135 => ?_) (fun c135 => ?_)
                · skip
                  refine wi_iinc hX dX12_union_201 rfl ?_
                  dsimp only [List.set]
                  refine wa_goto hX (tgt := 119) dX12_union_204 (by decide) ?_
                  refine ih (z + 1, (up F z ((b2n b : Nat) : Int)), _) ⟨by show z + 1 ≤ _; omega, fun s hs => ?_, fun s hs => ?_, rfl⟩ (by show _ - (z + 1) < _; omega)
                  · show (up F z ((b2n b : Nat) : Int)) s = _
                    have hs2 : s < z + 1 := hs
                    by_cases g : s = z
                    · subst g
                      rw [up_s, hbz]
                    · rw [up_n g]
                      exact hF s (by omega)
                  · show (up F z ((b2n b : Nat) : Int)) s = _
                    have hs2 : z + 1 ≤ s := hs
                    rw [up_n (by omega)]
                    exact hF0 s (by omega)
                · skip
                  exfalso; omega
              · obtain ⟨t, rfl⟩ : ∃ t, u = t + 1 := ⟨u - 1, by omega⟩
                have htz : t &&& z = t := by
                  have := hu2 (by omega)
                  rw [Nat.add_sub_cancel] at this
                  exact this
                have htl : t < 2 ^ E i := by omega
                rw [show (((t + 1 : Nat) : Int) - 1) = (t : Int) by omega]
                have g1F := fG _ _ _ (fS _ _ _ g1 id) (by decide)
                have g2F := fG _ _ _ (fS _ _ _ g2 id) (by decide)
                have u1F := fG _ _ _ (fS _ _ _ u1 id) (by decide)
                have u2F := fG _ _ _ (fS _ _ _ u2 id) (by decide)
                have t179 : ∀ b' : Bool, (b' = true → parM (R i) (R j) z = true) → (b' = false → b = false ∧ (frB (R i) t && frB (R j) (sdf z t)) = false) → WA X (hset hB nb (135, aI .boolean 1024 (up F z ((b2n b : Nat) : Int)))) 1 40 179 [.val (.ref a), .val (I (i : Int)), .val (I (j : Int)), .val (.ref (P i)), .val (.ref (P j)), .val (.ref p), .val (.ref nb), .val (I (z : Nat)), .val (I (t : Int))] [I ((b2n b' : Nat) : Int), I (z : Int), .ref nb] := by
                  intro b' hb3 hb4
                  have t196 : ∀ u' : Nat, u' ≤ t → (u' ≠ 0 → (u' - 1) &&& z = u' - 1) → (∀ p, p &&& z = p → u' ≤ p → p < t → False) → WA X (hset hB nb (135, aI .boolean 1024 (up F z ((b2n b' : Nat) : Int)))) 1 40 196 [.val (.ref a), .val (I (i : Int)), .val (I (j : Int)), .val (.ref (P i)), .val (.ref (P j)), .val (.ref p), .val (.ref nb), .val (I (z : Nat)), .val (I (t : Int))] [I ((u' : Int) - 1)] := by
                    intro u' hu3 hu4 hu5
                    refine wa_istore hX dX12_union_196 (by first | rfl | assumption) ?_
                    dsimp only [List.set]
                    refine wa_goto hX (tgt := 133) dX12_union_198 (by decide) ?_
                    exact ih2 (u', b') ⟨by show u' ≤ z + 1; omega, hu4, hb3, fun q p hp hup => by
                      have hup2 : u' ≤ p := hup
                      by_cases g1 : p < t
                      · exact (hu5 p hp hup2 g1).elim
                      · by_cases g2 : p = t
                        · subst g2
                          exact (hb4 q).2
                        · exact hb2 (hb4 q).1 p hp (by omega)⟩ (by show u' < t + 1; omega)
                  refine wi_zastore hX n2 (by omega) (by omega) (by omega) (narZ b') dX12_union_179 ?_
                  rw [hset_hset, Int.toNat_natCast, up_up]
                  refine wa_iload hX dX12_union_180 rfl ?_
                  refine wi_if_ne hX (tgt := 189) dX12_union_182 (by decide) (by omega) (fun c182 => ?_) (fun c182 => ?_)
                  · skip
                    refine wa_iload hX dX12_union_189 rfl ?_
                    have hta : (t - 1) &&& z ≤ t - 1 := Nat.and_le_left
                    refine wi_iconst hX dX12_union_191 ?_
                    refine wi_isub hX dX12_union_192 ?_
                    refine wa_iload hX dX12_union_193 rfl ?_
                    rw [show ((t : Int) - 1) = ((t - 1 : Nat) : Int) by omega]
                    refine wn_iand hX dX12_union_195 (by rfl) (by rfl) ?_
                    first
                      | (refine WA.eq (st2 := [I (((0 : Nat) : Int) - 1)]) rfl rfl rfl (t196 0 (by omega) (fun q => absurd rfl q) (fun p _ _ h => ?_))
                         omega)
                      | (refine WA.eq (st2 := [I (((((t - 1) &&& z) + 1 : Nat) : Int) - 1)]) rfl rfl (by rw [show ((((t - 1) &&& z) + 1 : Nat) : Int) - 1 = (((t - 1) &&& z : Nat) : Int) by omega]) (t196 (((t - 1) &&& z) + 1) (by omega) (fun _ => ?_) (fun p hp h1 h3 => ?_))
                         · rw [Nat.add_sub_cancel, Nat.and_assoc, Nat.and_self]
                         · have := sub_pred t z p htz hp h3
                           omega)
                  · skip
                    refine wi_iconst hX dX12_union_185 ?_
                    refine wa_goto hX (tgt := 196) dX12_union_186 (by decide) ?_
                    first
                      | (refine WA.eq (st2 := [I (((0 : Nat) : Int) - 1)]) rfl rfl rfl (t196 0 (by omega) (fun q => absurd rfl q) (fun p _ _ h => ?_))
                         omega)
                      | (refine WA.eq (st2 := [I (((((t - 1) &&& z) + 1 : Nat) : Int) - 1)]) rfl rfl (by rw [show ((((t - 1) &&& z) + 1 : Nat) : Int) - 1 = (((t - 1) &&& z : Nat) : Int) by omega]) (t196 (((t - 1) &&& z) + 1) (by omega) (fun _ => ?_) (fun p hp h1 h3 => ?_))
                         · rw [Nat.add_sub_cancel, Nat.and_assoc, Nat.and_self]
                         · have := sub_pred t z p htz hp h3
                           omega)
                refine wa_iload hX dX12_union_133 rfl ?_
                refine wi_if_lt hX (tgt := 201) dX12_union_135 (by decide) (by omega) (fun c135 => ?_) (fun c135 => ?_)
                · skip
                  exfalso; omega
                · skip
                  refine wa_aload hX dX12_union_138 rfl ?_
                  refine wa_iload hX dX12_union_140 rfl ?_
                  refine wa_aload hX dX12_union_142 rfl ?_
                  refine wa_iload hX dX12_union_144 rfl ?_
                  refine wi_zaload hX n2 (by omega) (by omega) (by omega) dX12_union_146 ?_
                  rw [Int.toNat_natCast, up_s]
                  refine wi_if_ne hX (tgt := 174) dX12_union_147 (by decide) (by exact b2n_inR _) (fun c147 => ?_) (fun c147 => ?_)
                  · skip
                    refine wi_iconst hX dX12_union_174 ?_
                    refine wa_goto hX (tgt := 179) dX12_union_175 (by decide) ?_
                    first
                      | (have q := b2n_t c147
                         exact t179 true (fun _ => hb1 q) (fun z => nomatch z))
                      | (have q := b2n_f c147
                         have q2 := b2n_t c156
                         have q3 := b2n_t c171
                         exact t179 true (fun _ => parM_t htz (by rw [q2, q3]; rfl)) (fun z => nomatch z))
                      | (have q := b2n_f c147
                         have q2 := b2n_f c156
                         exact t179 false (fun z => nomatch z) (fun _ => ⟨q, by rw [q2]; rfl⟩))
                      | (have q := b2n_f c147
                         have q2 := b2n_f c171
                         exact t179 false (fun z => nomatch z) (fun _ => ⟨q, by rw [q2, Bool.and_false]⟩))
                  · skip
                    refine wa_aload_n hX (i := 3) dX12_union_150 rfl rfl ?_
                    refine wa_iload hX dX12_union_151 rfl ?_
                    refine wa_callV hX (c_X11_isFree hW d g1F g2F g3 he (fun s hs => hMi.le10 hs) (s := t) htl) (by assumption) (by rfl) (by rfl) (by omega) (nA := 1) (by rfl) (by decide +kernel) rfl (by exact Nat.le_of_ble_eq_true rfl) dX12_union_153 (fun r153 h153 p153 => ?_) (fun _ _ q => q.elim)
                    obtain ⟨rfl, qq153⟩ := p153; subst h153
                    dsimp only [Option.toList, List.cons_append, List.nil_append]
                    refine wi_if_eq hX (tgt := 178) dX12_union_156 (by decide) (by exact b2n_inR _) (fun c156 => ?_) (fun c156 => ?_)
                    · skip
                      refine wi_iconst hX dX12_union_178 ?_
                      first
                        | (have q := b2n_t c147
                           exact t179 true (fun _ => hb1 q) (fun z => nomatch z))
                        | (have q := b2n_f c147
                           have q2 := b2n_t c156
                           have q3 := b2n_t c171
                           exact t179 true (fun _ => parM_t htz (by rw [q2, q3]; rfl)) (fun z => nomatch z))
                        | (have q := b2n_f c147
                           have q2 := b2n_f c156
                           exact t179 false (fun z => nomatch z) (fun _ => ⟨q, by rw [q2]; rfl⟩))
                        | (have q := b2n_f c147
                           have q2 := b2n_f c171
                           exact t179 false (fun z => nomatch z) (fun _ => ⟨q, by rw [q2, Bool.and_false]⟩))
                    · skip
                      refine wa_aload hX dX12_union_159 rfl ?_
                      refine wa_iload hX dX12_union_161 rfl ?_
                      refine wa_iload hX dX12_union_163 rfl ?_
                      refine wi_iconst hX dX12_union_165 ?_
                      refine wa_ixor hX dX12_union_166 ?_
                      refine wn_andn hX dX12_union_167 (by rfl) (by rfl) ?_
                      refine wa_callV hX (c_X11_isFree hW d u1F u2F u3 he (fun s hs => hMj.le10 hs) (s := sdf z t) (sdf_lt hzl)) (by assumption) (by rfl) (by rfl) (by omega) (nA := 1) (by rfl) (by decide +kernel) rfl (by exact Nat.le_of_ble_eq_true rfl) dX12_union_168 (fun r168 h168 p168 => ?_) (fun _ _ q => q.elim)
                      obtain ⟨rfl, qq168⟩ := p168; subst h168
                      dsimp only [Option.toList, List.cons_append, List.nil_append]
                      refine wi_if_eq hX (tgt := 178) dX12_union_171 (by decide) (by exact b2n_inR _) (fun c171 => ?_) (fun c171 => ?_)
                      · skip
                        refine wi_iconst hX dX12_union_178 ?_
                        first
                          | (have q := b2n_t c147
                             exact t179 true (fun _ => hb1 q) (fun z => nomatch z))
                          | (have q := b2n_f c147
                             have q2 := b2n_t c156
                             have q3 := b2n_t c171
                             exact t179 true (fun _ => parM_t htz (by rw [q2, q3]; rfl)) (fun z => nomatch z))
                          | (have q := b2n_f c147
                             have q2 := b2n_f c156
                             exact t179 false (fun z => nomatch z) (fun _ => ⟨q, by rw [q2]; rfl⟩))
                          | (have q := b2n_f c147
                             have q2 := b2n_f c171
                             exact t179 false (fun z => nomatch z) (fun _ => ⟨q, by rw [q2, Bool.and_false]⟩))
                      · skip
                        refine wi_iconst hX dX12_union_174 ?_
                        refine wa_goto hX (tgt := 179) dX12_union_175 (by decide) ?_
                        first
                          | (have q := b2n_t c147
                             exact t179 true (fun _ => hb1 q) (fun z => nomatch z))
                          | (have q := b2n_f c147
                             have q2 := b2n_t c156
                             have q3 := b2n_t c171
                             exact t179 true (fun _ => parM_t htz (by rw [q2, q3]; rfl)) (fun z => nomatch z))
                          | (have q := b2n_f c147
                             have q2 := b2n_f c156
                             exact t179 false (fun z => nomatch z) (fun _ => ⟨q, by rw [q2]; rfl⟩))
                          | (have q := b2n_f c147
                             have q2 := b2n_f c171
                             exact t179 false (fun z => nomatch z) (fun _ => ⟨q, by rw [q2, Bool.and_false]⟩))
            refine wa_iload hX dX12_union_119 rfl ?_
            refine wa_aload hX dX12_union_121 rfl ?_
            refine wa_callV hX (c_X11_full hW d p2 he) (by assumption) (by rfl) (by rfl) (by omega) (nA := 0) (by rfl) (by decide +kernel) rfl (by exact Nat.le_of_ble_eq_true rfl) dX12_union_123 (fun r123 h123 p123 => ?_) (fun _ _ q => q.elim)
            obtain ⟨rfl, qq123⟩ := p123; subst h123
            dsimp only [Option.toList, List.cons_append, List.nil_append]
            refine wi_icmp_gt hX (tgt := 207) dX12_union_126 (by decide) (by omega) (by omega) (fun c126 => ?_) (fun c126 => ?_)
            · skip
              have n2 : (hset hB nb (135, aI .boolean 1024 F)) nb = some (135, aI .boolean 1024 F) := hset_eq
              refine WA.ext9 (fun s => ((b2n (decide (s < 2 ^ E i) && parM (R i) (R j) s) : Nat) : Int)) n2 (fun s hs => ?_) ?_
              · by_cases g : s < 2 ^ E i
                · rw [decide_eq_true g, Bool.true_and]
                  exact hF s (by omega)
                · rw [decide_eq_false g, Bool.false_and]
                  exact hF0 s (by omega)
              rw [hset_hset]
              have fG : Fr (fun x => x = 135) hB (hset hB nb (135, aI .boolean 1024 (fun s => ((b2n (decide (s < 2 ^ E i) && parM (R i) (R j) s) : Nat) : Int)))) := Fr.hset Fr.rf n1 rfl
              have p3 := fG _ _ _ p1 (by decide)
              have q3 := fG _ _ _ q1 (by decide)
              have k3 := fG _ _ _ k1S (by decide)
              have kJ3 := kJS.fr fG (fun x hx => by omega)
              have n3 : (hset hB nb (135, aI .boolean 1024 (fun s => ((b2n (decide (s < 2 ^ E i) && parM (R i) (R j) s) : Nat) : Int)))) nb = some (135, aI .boolean 1024 (fun s => ((b2n (decide (s < 2 ^ E i) && parM (R i) (R j) s) : Nat) : Int))) := hset_eq
              refine wa_aload hX dX12_union_207 rfl ?_
              refine wa_aload hX dX12_union_209 rfl ?_
              refine wa_callV hX (c_X11_fill hW d (G0 := fun _ => 0) (fr := fun s => decide (s < 2 ^ E i) && parM (R i) (R j) s) p3 q3 n3 (by decide) he (fun _ => Nat.zero_le _)) (by assumption) (by rfl) (by rfl) (by omega) (nA := 1) (by rfl) (by decide +kernel) rfl (by exact Nat.le_of_ble_eq_true rfl) dX12_union_211 (fun r211 h211 p211 => ?_) (fun _ _ q => q.elim)
              obtain ⟨rfl, hh211⟩ := p211
              have fH : Fr (fun x => x = 134) (hset hB nb (135, aI .boolean 1024 (fun s => ((b2n (decide (s < 2 ^ E i) && parM (R i) (R j) s) : Nat) : Int)))) h211 := by rw [hh211]; exact Fr.hset Fr.rf q3 rfl
              have q4 : h211 q = some (134, aV 1024 (uniM (R i) (R j) (E i))) := by rw [hh211]; exact hset_eq
              have p4 := fH _ _ _ p3 (by decide)
              have k4 := fH _ _ _ k3 (by decide)
              have kJ4 := kJ3.fr fH (fun x hx => by omega)
              clear hh211
              dsimp only [Option.toList, List.cons_append, List.nil_append]
              refine wa_aload_n hX (i := 0) dX12_union_214 rfl rfl ?_
              refine wa_aload hX dX12_union_215 rfl ?_
              refine WA.room (k2 := 0 + 1) (sl2 := 0 + 40) (by omega) (by omega) ?_
              refine wa_callV hX (c_X12_add hW d (e := E i) (rk := uniM (R i) (R j) (E i)) k4 kJ4 hm9 p4 q4 (fun s hs => rfl) (hN i j hi hj hE)) (by assumption) (by rfl) (by rfl) (by omega) (nA := 1) (by rfl) (by decide +kernel) rfl (by exact Nat.le_of_ble_eq_true rfl) dX12_union_217 (fun r217 h217 p217 => ?_) (fun _ _ q => q.elim)
              obtain ⟨rfl, f9, kJ9⟩ := p217
              have k19 := f9 _ _ _ k4 (by omega)
              dsimp only [Option.toList, List.cons_append, List.nil_append]
              refine wa_iret hX dX12_union_220 ?_
              exact ⟨((((ff.mono (fun x hx => by omega)).trans (fS.mono (fun x hx => hx.elim))).trans (fG.mono (fun x hx => by omega))).trans (fH.mono (fun x hx => by omega))).trans (f9.mono (fun x hx => by omega)), Or.inr ⟨i, j, hi, rfl, hj, rfl, Or.inr ⟨hE, Or.inr ⟨hmne, rfl, row, brk, al, wk, us, kp, pt, k19, kJ9⟩⟩⟩⟩
            · skip
              refine wa_iload hX dX12_union_129 rfl ?_
              refine wa_istore hX dX12_union_131 (by first | rfl | assumption) ?_
              dsimp only [List.set]
              refine WA.eq rfl (by rw [show (z : Int) = ((z + 1 : Nat) : Int) - 1 by omega]) rfl (t133 _ (z + 1) false ?_ (by omega) (Nat.le_refl _) (fun _ => by rw [Nat.add_sub_cancel, Nat.and_self]) (fun q => nomatch q) (fun _ p hp h9 => ?_))
              · rw [up_same (show F z = ((b2n false : Nat) : Int) from hF0 z (Nat.le_refl z))]
              · have : p ≤ z := by rw [← hp]; exact Nat.and_le_right
                omega
          · skip
            refine wi_iconst hX dX12_union_73 ?_
            refine wa_iret hX dX12_union_74 ?_
            have z := b2n_t c70
            rw [z, if_pos ⟨rfl, rfl⟩] at k1
            exact ⟨ff.mono (fun x hx => by omega), Or.inr ⟨i, j, hi, rfl, hj, rfl, Or.inr ⟨hE, Or.inl ⟨beq_iff_eq.mp z, ⟨_, rfl⟩, row, brk, al, wk, us, kp, pt, k1, kJ⟩⟩⟩⟩
        refine wa_callV hX (c_AL_size hW d ka) (by assumption) (by rfl) (by rfl) (by omega) (nA := 0) (by rfl) (by decide +kernel) rfl (by exact Nat.le_of_ble_eq_true rfl) dX12_union_53 (fun r53 h53 p53 => ?_) (fun _ _ q => q.elim)
        obtain ⟨rfl, qq53⟩ := p53; subst h53
        dsimp only [Option.toList, List.cons_append, List.nil_append]
        refine wi_bipush hX dX12_union_56 (by decide) ?_
        refine wi_icmp_ne hX (tgt := 65) dX12_union_58 (by decide) (by omega) (by omega) (fun c58 => ?_) (fun c58 => ?_)
        · skip
          refine wi_iconst hX dX12_union_65 ?_
          refine WA.eq rfl rfl ?_ t66
          first
            | (rw [show (m == 24) = true from beq_iff_eq.mpr (by omega)]; rfl)
            | (rw [show (m == 24) = false from beq_eq_false_iff_ne.mpr (by omega)]; rfl)
        · skip
          refine wi_iconst hX dX12_union_61 ?_
          refine wa_goto hX (tgt := 66) dX12_union_62 (by decide) ?_
          refine WA.eq rfl rfl ?_ t66
          first
            | (rw [show (m == 24) = true from beq_iff_eq.mpr (by omega)]; rfl)
            | (rw [show (m == 24) = false from beq_eq_false_iff_ne.mpr (by omega)]; rfl)
  refine wa_callV hX (c_X12_no hW (d + 1) k1 ka hm24 hn) (by assumption) (by rfl) (by rfl) (by omega) (nA := 1) (by rfl) (by decide +kernel) rfl (by exact Nat.le_of_ble_eq_true rfl) dX12_union_8 (fun r8 h8 p8 => ?_) (fun _ _ q => q.elim)
  obtain ⟨rfl, qq8⟩ := p8; subst h8
  dsimp only [Option.toList, List.cons_append, List.nil_append]
  refine wi_if_ne hX (tgt := 22) dX12_union_11 (by decide) (by exact b2n_inR _) (fun c11 => ?_) (fun c11 => ?_)
  · skip
    refine wi_iconst hX dX12_union_22 ?_
    refine wa_goto hX (tgt := 27) dX12_union_23 (by decide) ?_
    refine WA.eq rfl rfl ?_ t27
    first
      | (have q := b2n_t c11; rw [q]; rfl)
      | (have q := b2n_f c11; have q2 := b2n_t c19; rw [q, q2]; rfl)
      | (have q := b2n_f c11; have q2 := b2n_f c19; rw [q, q2]; rfl)
  · skip
    refine wa_aload_n hX (i := 0) dX12_union_14 rfl rfl ?_
    refine wa_iload_n hX (i := 2) dX12_union_15 rfl rfl ?_
    refine wa_callV hX (c_X12_no hW (d + 1) k1 ka hm24 hv) (by assumption) (by rfl) (by rfl) (by omega) (nA := 1) (by rfl) (by decide +kernel) rfl (by exact Nat.le_of_ble_eq_true rfl) dX12_union_16 (fun r16 h16 p16 => ?_) (fun _ _ q => q.elim)
    obtain ⟨rfl, qq16⟩ := p16; subst h16
    dsimp only [Option.toList, List.cons_append, List.nil_append]
    refine wi_if_eq hX (tgt := 26) dX12_union_19 (by decide) (by exact b2n_inR _) (fun c19 => ?_) (fun c19 => ?_)
    · skip
      refine wi_iconst hX dX12_union_26 ?_
      refine WA.eq rfl rfl ?_ t27
      first
        | (have q := b2n_t c11; rw [q]; rfl)
        | (have q := b2n_f c11; have q2 := b2n_t c19; rw [q, q2]; rfl)
        | (have q := b2n_f c11; have q2 := b2n_f c19; rw [q, q2]; rfl)
    · skip
      refine wi_iconst hX dX12_union_22 ?_
      refine wa_goto hX (tgt := 27) dX12_union_23 (by decide) ?_
      refine WA.eq rfl rfl ?_ t27
      first
        | (have q := b2n_t c11; rw [q]; rfl)
        | (have q := b2n_f c11; have q2 := b2n_t c19; rw [q, q2]; rfl)
        | (have q := b2n_f c11; have q2 := b2n_f c19; rw [q, q2]; rfl)
end C98
