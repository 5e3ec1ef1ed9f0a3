/-! The reference (X12): binaryShare, meanBases -/
def DrK (E : Nat → Nat) (R : Nat → Nat → Nat) : Nat → Nat → Prop
  | 0, cn => cn = 0
  | k + 1, cn => ∃ (c0 : Nat) (o : Option (Nat → Nat)), DrK E R k c0 ∧ DRp (R k) (E k) 2 o ∧ cn = c0 + b2n o.isSome
def basK (E : Nat → Nat) (R : Nat → Nat → Nat) : Nat → Nat
  | 0 => 0
  | k + 1 => basK E R k + cnt (isB (R k) (E k) 98) (2 ^ E k)

section C9o
variable {l : Launch} {D : va_G} {S0 : State} {Z : Nat → Prop}
set_option maxHeartbeats 2000000 in
set_option maxRecDepth 100000 in
theorem c_X12_meanBases {DR : (Nat → Nat) → Nat → Nat → Option (Nat → Nat) → Prop} (hW : WOK l D S0) (d : Nat) {h : AH} {a th : Nat} {c m : Nat} {w : Nat → Nat} {E : Nat → Nat} {R : Nat → Nat → Nat} {b0 b1 b2 : Int} (hI : RI Z DR h a th c w m E R b0 b1 b2)  : MA l D S0 yX12_meanBases cX12_meanBases 4 (some .double) (d + 15) [.ref a] h 1 4 (fun r h' => Fr (fun x => 120 ≤ x ∧ x ≤ 136) h h' ∧ ((m = 0 ∧ (∃ z, r = some (.double z)) ∧ RI Z DR h' a 1 c w m E R b0 b1 b2) ∨ (m ≠ 0 ∧ r = some (.double (FP.ddiv (FP.i2d (Int32.ofInt (basK E R m : Nat))) (FP.i2d (Int32.ofInt (m : Nat))))) ∧ RI Z DR h' a 0 c w m E R b0 b1 b2))) (fun _ _ => False) := by
  obtain ⟨row, brk, al, wk, us, kp, pt, k1, kJ⟩ := hI
  refine MA.start hW (by decide) [.val (.ref a), .unset, .unset, .unset] rfl ?_
  rintro X rfl rfl rfl hX
  refine wa_aload_n hX (i := 0) dX12_meanBases_0 rfl rfl ?_
  refine wi_iconst hX dX12_meanBases_1 ?_
  refine wa_put hX 0 k1 (Nat.le_of_ble_eq_true rfl) (by decide +kernel) (by rfl) (by rfl) (by rfl) dX12_meanBases_2 ?_
  refine WA.heap (h2 := hset h a (120, oMod ((0 : Nat) : Int) (c : Int) row brk al wk us kp pt)) rfl ?_
  refine WA.hgq (fun hA hh2 => ?_)
  have ff : Fr (fun x => x = 120) h hA := by rw [hh2]; exact Fr.hset Fr.rf k1 rfl
  replace k1 : hA a = some (120, oMod ((0 : Nat) : Int) (c : Int) row brk al wk us kp pt) := by rw [hh2]; exact hset_eq
  replace kJ := kJ.fr ff (fun x hx => by omega)
  clear hh2
  obtain ⟨⟨hc60, hw, hm24, hMt⟩, kr, kb, kwk, kus, kkp, kpt, ed, N, P, ka, ke, kI, kMat⟩ := id kJ
  refine wi_iconst hX dX12_meanBases_5 ?_
  refine wa_istore_n hX (i := 1) dX12_meanBases_6 rfl (by first | rfl | assumption) ?_
  dsimp only [List.set]
  refine wa_aload_n hX (i := 0) dX12_meanBases_7 rfl rfl ?_
  refine wa_get hX 4 (by assumption) (by rfl) (by decide +kernel) dX12_meanBases_8 ?_
  refine WA.room (k2 := 0 + 1) (sl2 := 0 + 4) (by omega) (by omega) ?_
  refine wa_callV hX (c_AL_iterator hW d ka (by decide)) (by assumption) (by rfl) (by rfl) (by omega) (nA := 0) (by rfl) (by decide +kernel) rfl (by exact Nat.le_of_ble_eq_true rfl) dX12_meanBases_11 (fun r11 h11 p11 => ?_) (fun _ _ q => q.elim)
  obtain ⟨it, rfl, fI, i1⟩ := p11
  replace k1 := fI _ _ _ k1 id
  replace kJ := kJ.fr fI (fun x hx => hx.elim)
  replace ff : Fr (fun x => 120 ≤ x ∧ x ≤ 136) h h11 := (ff.mono (fun x hx => by omega)).trans (fI.mono (fun x hx => hx.elim))
  dsimp only [Option.toList, List.cons_append, List.nil_append]
  refine wa_astore_n hX (i := 2) dX12_meanBases_14 rfl (by first | rfl | assumption) ?_
  dsimp only [List.set]
  clear kr kb kwk kus kkp kpt ka ke kI kMat hc60 hw hm24 hMt
  refine WA.loopR (σ := Nat × AH × Nat × Int × Slot) (fun z => m - z.1) (fun z => z.1 ≤ m ∧ z.2.2.1 = basK E R z.1 ∧ Fr (fun x => 120 ≤ x ∧ x ≤ 136) h z.2.1 ∧ z.2.1 a = some (120, oMod ((0 : Nat) : Int) (c : Int) row brk al wk us kp pt) ∧ RJ Z DR z.2.1 row brk al wk us kp pt c w m E R b0 b1 b2 ∧ z.2.1 it = some (136, oItr ((z.1 : Nat) : Int) z.2.2.2.1 (m : Int) al) ∧ okS [z.2.2.2.2] 0 = true) (fun z => z.2.1) (fun z => 0) (fun z => 0) (fun z => [.val (.ref a), .val (I ((z.2.2.1 : Nat) : Int)), .val (.ref it), z.2.2.2.2]) ?_ (0, h11, 0, -1, .unset) ⟨Nat.zero_le _, rfl, ff, k1, kJ, i1, rfl⟩
  clear k1 kJ i1 ff fI
  rintro ⟨i, h2, cn, lr, u3⟩ ⟨hz, hD, ff, k1, kJ, i1, hu3⟩ ih
  dsimp only at hz hD ff k1 kJ i1 hu3 ⊢
  obtain ⟨⟨hc60, hw, hm24, hMt⟩, kr, kb, kwk, kus, kkp, kpt, ed, N, P, ka, ke, kI, kMat⟩ := id kJ
  have hmR : inR (m : Int) := by omega
  refine wa_aload_n hX (i := 2) dX12_meanBases_15 rfl rfl ?_
  refine wa_callF hX ⟨"java/util/Iterator", "hasNext", "()Z"⟩ (c_It_hasNext hW d i1 ka hz (by omega)) i1 (by rfl) (by rfl) (by omega) (nA := 0) (by rfl) (by decide +kernel) rfl (by exact Nat.le_of_ble_eq_true rfl) dX12_meanBases_16 (fun r16 h16 p16 => ?_) (fun _ _ q => q.elim)
  obtain ⟨rfl, qq16⟩ := p16
  subst h16
  dsimp only [Option.toList, List.cons_append, List.nil_append]
  refine wi_if_eq hX (tgt := 46) dX12_meanBases_21 (by decide) (by exact b2n_inR _) (fun c21 => ?_) (fun c21 => ?_)
  · skip
    have hie : i = m := by
      have q := b2n_f c21
      rw [decide_eq_false_iff_not] at q
      omega
    subst hie
    refine wa_aload_n hX (i := 0) dX12_meanBases_46 rfl rfl ?_
    refine wa_aload_n hX (i := 0) dX12_meanBases_47 rfl rfl ?_
    refine wa_get hX 4 (by assumption) (by rfl) (by decide +kernel) dX12_meanBases_48 ?_
    refine wa_callV hX (c_AL_isEmpty hW d ka (by omega)) (by assumption) (by rfl) (by rfl) (by omega) (nA := 0) (by rfl) (by decide +kernel) rfl (by exact Nat.le_of_ble_eq_true rfl) dX12_meanBases_51 (fun r51 h51 p51 => ?_) (fun _ _ q => q.elim)
    obtain ⟨rfl, qq51⟩ := p51; subst h51
    dsimp only [Option.toList, List.cons_append, List.nil_append]
    refine wi_iconst hX dX12_meanBases_54 ?_
    refine wa_callV hX (c_X12_fails hW d (th := 0) (k := 1) (b := (i == 0)) k1 (by omega) (by omega)) (by assumption) (by rfl) (by rfl) (by omega) (nA := 2) (by rfl) (by decide +kernel) rfl (by exact Nat.le_of_ble_eq_true rfl) dX12_meanBases_55 (fun r55 h55 p55 => ?_) (fun _ _ q => q.elim)
    obtain ⟨rfl, hh55⟩ := p55
    have f55 : Fr (fun x => x = 120) h2 h55 := by rw [hh55]; exact Fr.hset Fr.rf k1 rfl
    replace k1 : h55 a = some (120, oMod ((if ((i == 0)) = true ∧ (0 : Nat) = 0 then 1 else 0 : Nat) : Int) (c : Int) row brk al wk us kp pt) := by rw [hh55]; exact hset_eq
    replace kJ := kJ.fr f55 (fun x hx => by omega)
    replace ff := ff.trans (f55.mono (fun x hx => by omega))
    clear hh55 f55
    rw [show (((i == 0)) || (0 : Nat) != 0) = ((i == 0)) from Bool.or_false _]
    clear kr kb kwk kus kkp kpt ka ke kI kMat hc60 hw hm24 hMt
    obtain ⟨⟨hc60, hw, hm24, hMt⟩, kr, kb, kwk, kus, kkp, kpt, ed, N, P, ka, ke, kI, kMat⟩ := id kJ
    dsimp only [Option.toList, List.cons_append, List.nil_append]
    refine wi_if_eq hX (tgt := 65) dX12_meanBases_58 (by decide) (by exact b2n_inR _) (fun c58 => ?_) (fun c58 => ?_)
    · skip
      have hv58 := b2n_f c58
      rw [hv58, if_neg (fun z => Bool.false_ne_true z.1)] at k1
      have hm0 : i ≠ 0 := beq_eq_false_iff_ne.mp hv58
      refine wa_iload_n hX (i := 1) dX12_meanBases_65 rfl rfl ?_
      refine wa_i2d hX dX12_meanBases_66 ?_
      refine wa_aload_n hX (i := 0) dX12_meanBases_67 rfl rfl ?_
      refine wa_get hX 4 (by assumption) (by rfl) (by decide +kernel) dX12_meanBases_68 ?_
      refine wa_callV hX (c_AL_size hW d ka) (by assumption) (by rfl) (by rfl) (by omega) (nA := 0) (by rfl) (by decide +kernel) rfl (by exact Nat.le_of_ble_eq_true rfl) dX12_meanBases_71 (fun r71 h71 p71 => ?_) (fun _ _ q => q.elim)
      obtain ⟨rfl, qq71⟩ := p71; subst h71
      dsimp only [Option.toList, List.cons_append, List.nil_append]
      refine wa_i2d hX dX12_meanBases_74 ?_
      refine wa_ddiv hX dX12_meanBases_75 (ddiv_ok _ _ (ofI_ne (by omega) (by omega))) ?_
      refine wa_dret hX dX12_meanBases_76 ?_
      first
        | (have z := b2n_t c58
           rw [z, if_pos ⟨rfl, rfl⟩] at k1
           exact ⟨ff, Or.inl ⟨beq_iff_eq.mp z, ⟨_, rfl⟩, row, brk, al, wk, us, kp, pt, k1, kJ⟩⟩)
        | exact ⟨ff, Or.inr ⟨hm0, by rw [hD], row, brk, al, wk, us, kp, pt, k1, kJ⟩⟩
    · skip
      refine wa_dconst0 hX dX12_meanBases_61 ?_
      refine wa_goto hX (tgt := 76) dX12_meanBases_62 (by decide) ?_
      refine wa_dret hX dX12_meanBases_76 ?_
      first
        | (have z := b2n_t c58
           rw [z, if_pos ⟨rfl, rfl⟩] at k1
           exact ⟨ff, Or.inl ⟨beq_iff_eq.mp z, ⟨_, rfl⟩, row, brk, al, wk, us, kp, pt, k1, kJ⟩⟩)
        | exact ⟨ff, Or.inr ⟨hm0, by rw [hD], row, brk, al, wk, us, kp, pt, k1, kJ⟩⟩
  · skip
    have hi : i < m := of_decide_eq_true (b2n_t c21)
    obtain ⟨e3, hN1, hN2⟩ : h2 ed = some (124, aR (.object "java/lang/Object") N (fun j => if j < m then some (P j) else none)) ∧ m ≤ N ∧ N ≤ 100 := by
      rcases ke with z | z
      · exfalso; omega
      · exact z
    obtain ⟨rq, m2, m3, l2, l3, G, g1, g2, g3, g4, g5⟩ := id (kMat i hi)
    have hMi := hMt i hi
    have he := hMi.1
    have hp := p2_le he
    have hp0 := p2_pos (E i)
    have hif : (fun j => if j < m then some (P j) else none) i = some (P i) := if_pos hi
    refine wa_aload_n hX (i := 2) dX12_meanBases_24 rfl rfl ?_
    refine wa_callF hX ⟨"java/util/Iterator", "next", "()Ljava/lang/Object;"⟩ (c_It_next hW d i1 ka e3 ⟨by decide, by decide⟩ hi ⟨hN1, by omega⟩ hmR hif) i1 (by rfl) (by rfl) (by omega) (nA := 0) (by rfl) (by decide +kernel) rfl (by exact Nat.le_of_ble_eq_true rfl) dX12_meanBases_25 (fun r25 h25 p25 => ?_) (fun _ _ q => q.elim)
    obtain ⟨rfl, hh25⟩ := p25
    have f25 : Fr (fun x => x = 136) h2 h25 := by rw [hh25]; exact Fr.hset Fr.rf i1 rfl
    have i2 : h25 it = some (136, oItr ((i + 1 : Nat) : Int) (i : Int) (m : Int) al) := by rw [hh25]; exact hset_eq
    clear hh25
    replace k1 := f25 _ _ _ k1 (by decide)
    replace kJ := kJ.fr f25 (fun x hx => by omega)
    replace ff := ff.trans (f25.mono (fun x hx => by omega))
    have g1 := f25 _ _ _ g1 (by decide)
    have g2 := f25 _ _ _ g2 (by decide)
    have kMatL : ∀ j, j < m → RMat DR h25 (P j) (E j) (R j) := fun j hj => (kMat j hj).fr f25 (fun x hx => by omega)
    dsimp only [Option.toList, List.cons_append, List.nil_append]
    refine wa_ccast hX g1 (by rfl) (by decide +kernel) dX12_meanBases_30 ?_
    refine wa_astore_n hX (i := 3) dX12_meanBases_33 rfl (by first | rfl | assumption) ?_
    dsimp only [List.set]
    refine wa_iload_n hX (i := 1) dX12_meanBases_34 rfl rfl ?_
    refine wa_aload_n hX (i := 3) dX12_meanBases_35 rfl rfl ?_
    refine wi_bipush hX dX12_meanBases_36 (by decide) ?_
    refine wa_callS hX (c_X12_many hW d (ch := 98) g1 g2 g3 he (fun s hs => hMi.le10 hs) (by decide)) (by rfl) (by omega) (nA := 2) (by rfl) (by decide +kernel) rfl (by exact Nat.le_of_ble_eq_true rfl) dX12_meanBases_38 (fun r38 h38 p38 => ?_) (fun _ _ q => q.elim)
    obtain ⟨rfl, qq38⟩ := p38; subst h38
    dsimp only [Option.toList, List.cons_append, List.nil_append]
    refine wi_iadd hX dX12_meanBases_41 ?_
    refine wa_istore_n hX (i := 1) dX12_meanBases_42 rfl (by first | rfl | assumption) ?_
    dsimp only [List.set]
    refine wa_goto hX (tgt := 15) dX12_meanBases_43 (by decide) ?_
    exact WA.eq rfl (by rw [hD, show ((basK E R i : Nat) : Int) + ((cnt (isB (R i) (E i) 98) (2 ^ E i) : Nat) : Int) = ((basK E R (i + 1) : Nat) : Int) from (Int.natCast_add _ _).symm]) rfl (ih (i + 1, h25, basK E R (i + 1), (i : Int), .val (.ref (P i))) ⟨by show i + 1 ≤ m; omega, rfl, ff, k1, kJ, i2, rfl⟩ (by show m - (i + 1) < m - i; omega))
set_option maxHeartbeats 2000000 in
set_option maxRecDepth 100000 in
theorem c_X12_binaryShare (hW : WOK l D S0) (d : Nat) {h : AH} {a th : Nat} {c m : Nat} {w : Nat → Nat} {E : Nat → Nat} {R : Nat → Nat → Nat} {b0 b1 b2 : Int} (hI : RI Z DRp h a th c w m E R b0 b1 b2)  : MA l D S0 yX12_binaryShare cX12_binaryShare 4 (some .float) (d + 15) [.ref a] h 25 2404 (fun r h' => Fr (fun x => 120 ≤ x ∧ x ≤ 136) h h' ∧ ((m = 0 ∧ (∃ z, r = some (.float z)) ∧ RI Z DRp h' a 1 c w m E R b0 b1 b2) ∨ (m ≠ 0 ∧ ∃ cn, DrK E R m cn ∧ r = some (.float (FP.fdiv (FP.i2f (Int32.ofInt (cn : Nat))) (FP.i2f (Int32.ofInt (m : Nat))))) ∧ RI Z DRp h' a 0 c w m E R b0 b1 b2))) (fun _ _ => False) := by
  obtain ⟨row, brk, al, wk, us, kp, pt, k1, kJ⟩ := hI
  refine MA.start hW (by decide) [.val (.ref a), .unset, .unset, .unset] rfl ?_
  rintro X rfl rfl rfl hX
  refine wa_aload_n hX (i := 0) dX12_binaryShare_0 rfl rfl ?_
  refine wi_iconst hX dX12_binaryShare_1 ?_
  refine wa_put hX 0 k1 (Nat.le_of_ble_eq_true rfl) (by decide +kernel) (by rfl) (by rfl) (by rfl) dX12_binaryShare_2 ?_
  refine WA.heap (h2 := hset h a (120, oMod ((0 : Nat) : Int) (c : Int) row brk al wk us kp pt)) rfl ?_
  refine WA.hgq (fun hA hh2 => ?_)
  have ff : Fr (fun x => x = 120) h hA := by rw [hh2]; exact Fr.hset Fr.rf k1 rfl
  replace k1 : hA a = some (120, oMod ((0 : Nat) : Int) (c : Int) row brk al wk us kp pt) := by rw [hh2]; exact hset_eq
  replace kJ := kJ.fr ff (fun x hx => by omega)
  clear hh2
  obtain ⟨⟨hc60, hw, hm24, hMt⟩, kr, kb, kwk, kus, kkp, kpt, ed, N, P, ka, ke, kI, kMat⟩ := id kJ
  refine wi_iconst hX dX12_binaryShare_5 ?_
  refine wa_istore_n hX (i := 1) dX12_binaryShare_6 rfl (by first | rfl | assumption) ?_
  dsimp only [List.set]
  refine wa_aload_n hX (i := 0) dX12_binaryShare_7 rfl rfl ?_
  refine wa_get hX 4 (by assumption) (by rfl) (by decide +kernel) dX12_binaryShare_8 ?_
  refine WA.room (k2 := (1 * (m - 0)) + 1) (sl2 := (100 * (m - 0)) + 4) (by omega) (by omega) ?_
  refine wa_callV hX (c_AL_iterator hW d ka (by decide)) (by assumption) (by rfl) (by rfl) (by omega) (nA := 0) (by rfl) (by decide +kernel) rfl (by exact Nat.le_of_ble_eq_true rfl) dX12_binaryShare_11 (fun r11 h11 p11 => ?_) (fun _ _ q => q.elim)
  obtain ⟨it, rfl, fI, i1⟩ := p11
  replace k1 := fI _ _ _ k1 id
  replace kJ := kJ.fr fI (fun x hx => hx.elim)
  replace ff : Fr (fun x => 120 ≤ x ∧ x ≤ 136) h h11 := (ff.mono (fun x hx => by omega)).trans (fI.mono (fun x hx => hx.elim))
  dsimp only [Option.toList, List.cons_append, List.nil_append]
  refine wa_astore_n hX (i := 2) dX12_binaryShare_14 rfl (by first | rfl | assumption) ?_
  dsimp only [List.set]
  clear kr kb kwk kus kkp kpt ka ke kI kMat hc60 hw hm24 hMt
  refine WA.loopR (σ := Nat × AH × Nat × Int × Slot) (fun z => m - z.1) (fun z => z.1 ≤ m ∧ DrK E R z.1 z.2.2.1 ∧ Fr (fun x => 120 ≤ x ∧ x ≤ 136) h z.2.1 ∧ z.2.1 a = some (120, oMod ((0 : Nat) : Int) (c : Int) row brk al wk us kp pt) ∧ RJ Z DRp z.2.1 row brk al wk us kp pt c w m E R b0 b1 b2 ∧ z.2.1 it = some (136, oItr ((z.1 : Nat) : Int) z.2.2.2.1 (m : Int) al) ∧ okS [z.2.2.2.2] 0 = true) (fun z => z.2.1) (fun z => (1 * (m - z.1))) (fun z => (100 * (m - z.1))) (fun z => [.val (.ref a), .val (I ((z.2.2.1 : Nat) : Int)), .val (.ref it), z.2.2.2.2]) ?_ (0, h11, 0, -1, .unset) ⟨Nat.zero_le _, rfl, ff, k1, kJ, i1, rfl⟩
  clear k1 kJ i1 ff fI
  rintro ⟨i, h2, cn, lr, u3⟩ ⟨hz, hD, ff, k1, kJ, i1, hu3⟩ ih
  dsimp only at hz hD ff k1 kJ i1 hu3 ⊢
  obtain ⟨⟨hc60, hw, hm24, hMt⟩, kr, kb, kwk, kus, kkp, kpt, ed, N, P, ka, ke, kI, kMat⟩ := id kJ
  have hmR : inR (m : Int) := by omega
  refine wa_aload_n hX (i := 2) dX12_binaryShare_15 rfl rfl ?_
  refine wa_callF hX ⟨"java/util/Iterator", "hasNext", "()Z"⟩ (c_It_hasNext hW d i1 ka hz (by omega)) i1 (by rfl) (by rfl) (by omega) (nA := 0) (by rfl) (by decide +kernel) rfl (by exact Nat.le_of_ble_eq_true rfl) dX12_binaryShare_16 (fun r16 h16 p16 => ?_) (fun _ _ q => q.elim)
  obtain ⟨rfl, qq16⟩ := p16
  subst h16
  dsimp only [Option.toList, List.cons_append, List.nil_append]
  refine wi_if_eq hX (tgt := 54) dX12_binaryShare_21 (by decide) (by exact b2n_inR _) (fun c21 => ?_) (fun c21 => ?_)
  · skip
    have hie : i = m := by
      have q := b2n_f c21
      rw [decide_eq_false_iff_not] at q
      omega
    subst hie
    refine wa_aload_n hX (i := 0) dX12_binaryShare_54 rfl rfl ?_
    refine wa_aload_n hX (i := 0) dX12_binaryShare_55 rfl rfl ?_
    refine wa_get hX 4 (by assumption) (by rfl) (by decide +kernel) dX12_binaryShare_56 ?_
    refine wa_callV hX (c_AL_isEmpty hW d ka (by omega)) (by assumption) (by rfl) (by rfl) (by omega) (nA := 0) (by rfl) (by decide +kernel) rfl (by exact Nat.le_of_ble_eq_true rfl) dX12_binaryShare_59 (fun r59 h59 p59 => ?_) (fun _ _ q => q.elim)
    obtain ⟨rfl, qq59⟩ := p59; subst h59
    dsimp only [Option.toList, List.cons_append, List.nil_append]
    refine wi_iconst hX dX12_binaryShare_62 ?_
    refine wa_callV hX (c_X12_fails hW d (th := 0) (k := 1) (b := (i == 0)) k1 (by omega) (by omega)) (by assumption) (by rfl) (by rfl) (by omega) (nA := 2) (by rfl) (by decide +kernel) rfl (by exact Nat.le_of_ble_eq_true rfl) dX12_binaryShare_63 (fun r63 h63 p63 => ?_) (fun _ _ q => q.elim)
    obtain ⟨rfl, hh63⟩ := p63
    have f63 : Fr (fun x => x = 120) h2 h63 := by rw [hh63]; exact Fr.hset Fr.rf k1 rfl
    replace k1 : h63 a = some (120, oMod ((if ((i == 0)) = true ∧ (0 : Nat) = 0 then 1 else 0 : Nat) : Int) (c : Int) row brk al wk us kp pt) := by rw [hh63]; exact hset_eq
    replace kJ := kJ.fr f63 (fun x hx => by omega)
    replace ff := ff.trans (f63.mono (fun x hx => by omega))
    clear hh63 f63
    rw [show (((i == 0)) || (0 : Nat) != 0) = ((i == 0)) from Bool.or_false _]
    clear kr kb kwk kus kkp kpt ka ke kI kMat hc60 hw hm24 hMt
    obtain ⟨⟨hc60, hw, hm24, hMt⟩, kr, kb, kwk, kus, kkp, kpt, ed, N, P, ka, ke, kI, kMat⟩ := id kJ
    dsimp only [Option.toList, List.cons_append, List.nil_append]
    refine wi_if_eq hX (tgt := 73) dX12_binaryShare_66 (by decide) (by exact b2n_inR _) (fun c66 => ?_) (fun c66 => ?_)
    · skip
      have hv66 := b2n_f c66
      rw [hv66, if_neg (fun z => Bool.false_ne_true z.1)] at k1
      have hm0 : i ≠ 0 := beq_eq_false_iff_ne.mp hv66
      refine wa_iload_n hX (i := 1) dX12_binaryShare_73 rfl rfl ?_
      refine wa_i2f hX dX12_binaryShare_74 ?_
      refine wa_aload_n hX (i := 0) dX12_binaryShare_75 rfl rfl ?_
      refine wa_get hX 4 (by assumption) (by rfl) (by decide +kernel) dX12_binaryShare_76 ?_
      refine wa_callV hX (c_AL_size hW d ka) (by assumption) (by rfl) (by rfl) (by omega) (nA := 0) (by rfl) (by decide +kernel) rfl (by exact Nat.le_of_ble_eq_true rfl) dX12_binaryShare_79 (fun r79 h79 p79 => ?_) (fun _ _ q => q.elim)
      obtain ⟨rfl, qq79⟩ := p79; subst h79
      dsimp only [Option.toList, List.cons_append, List.nil_append]
      refine wa_i2f hX dX12_binaryShare_82 ?_
      refine wa_fdiv hX dX12_binaryShare_83 (fdiv_ok _ _ (ofI_ne (by omega) (by omega))) ?_
      refine wa_fret hX dX12_binaryShare_84 ?_
      first
        | (have z := b2n_t c66
           rw [z, if_pos ⟨rfl, rfl⟩] at k1
           exact ⟨ff, Or.inl ⟨beq_iff_eq.mp z, ⟨_, rfl⟩, row, brk, al, wk, us, kp, pt, k1, kJ⟩⟩)
        | exact ⟨ff, Or.inr ⟨hm0, cn, hD, rfl, row, brk, al, wk, us, kp, pt, k1, kJ⟩⟩
    · skip
      refine wa_fconst0 hX dX12_binaryShare_69 ?_
      refine wa_goto hX (tgt := 84) dX12_binaryShare_70 (by decide) ?_
      refine wa_fret hX dX12_binaryShare_84 ?_
      first
        | (have z := b2n_t c66
           rw [z, if_pos ⟨rfl, rfl⟩] at k1
           exact ⟨ff, Or.inl ⟨beq_iff_eq.mp z, ⟨_, rfl⟩, row, brk, al, wk, us, kp, pt, k1, kJ⟩⟩)
        | exact ⟨ff, Or.inr ⟨hm0, cn, hD, rfl, row, brk, al, wk, us, kp, pt, k1, kJ⟩⟩
  · skip
    have hi : i < m := of_decide_eq_true (b2n_t c21)
    obtain ⟨e3, hN1, hN2⟩ : h2 ed = some (124, aR (.object "java/lang/Object") N (fun j => if j < m then some (P j) else none)) ∧ m ≤ N ∧ N ≤ 100 := by
      rcases ke with z | z
      · exfalso; omega
      · exact z
    obtain ⟨rq, m2, m3, l2, l3, G, g1, g2, g3, g4, g5⟩ := id (kMat i hi)
    have hMi := hMt i hi
    have he := hMi.1
    have hp := p2_le he
    have hp0 := p2_pos (E i)
    have hif : (fun j => if j < m then some (P j) else none) i = some (P i) := if_pos hi
    refine wa_aload_n hX (i := 2) dX12_binaryShare_24 rfl rfl ?_
    refine wa_callF hX ⟨"java/util/Iterator", "next", "()Ljava/lang/Object;"⟩ (c_It_next hW d i1 ka e3 ⟨by decide, by decide⟩ hi ⟨hN1, by omega⟩ hmR hif) i1 (by rfl) (by rfl) (by omega) (nA := 0) (by rfl) (by decide +kernel) rfl (by exact Nat.le_of_ble_eq_true rfl) dX12_binaryShare_25 (fun r25 h25 p25 => ?_) (fun _ _ q => q.elim)
    obtain ⟨rfl, hh25⟩ := p25
    have f25 : Fr (fun x => x = 136) h2 h25 := by rw [hh25]; exact Fr.hset Fr.rf i1 rfl
    have i2 : h25 it = some (136, oItr ((i + 1 : Nat) : Int) (i : Int) (m : Int) al) := by rw [hh25]; exact hset_eq
    clear hh25
    replace k1 := f25 _ _ _ k1 (by decide)
    replace kJ := kJ.fr f25 (fun x hx => by omega)
    replace ff := ff.trans (f25.mono (fun x hx => by omega))
    have g1 := f25 _ _ _ g1 (by decide)
    have g2 := f25 _ _ _ g2 (by decide)
    have kMatL : ∀ j, j < m → RMat DRp h25 (P j) (E j) (R j) := fun j hj => (kMat j hj).fr f25 (fun x hx => by omega)
    dsimp only [Option.toList, List.cons_append, List.nil_append]
    refine wa_ccast hX g1 (by rfl) (by decide +kernel) dX12_binaryShare_30 ?_
    refine wa_astore_n hX (i := 3) dX12_binaryShare_33 rfl (by first | rfl | assumption) ?_
    dsimp only [List.set]
    refine wa_iload_n hX (i := 1) dX12_binaryShare_34 rfl rfl ?_
    refine wa_aload_n hX (i := 0) dX12_binaryShare_35 rfl rfl ?_
    refine wa_aload_n hX (i := 3) dX12_binaryShare_36 rfl rfl ?_
    refine wi_iconst hX dX12_binaryShare_37 ?_
    refine WA.room (k2 := (1 * (m - (i + 1))) + 1) (sl2 := (100 * (m - (i + 1))) + 100) (by show 1 * (m - (i + 1)) + 1 ≤ 1 * (m - i); omega) (by show 100 * (m - (i + 1)) + 100 ≤ 100 * (m - i); omega) ?_
    refine wa_callV hX (c_X12_drawing hW d (f := 2) (m := m) (i := i) (E := E) (R := R) k1 ⟨kJ.2.2.2.1, kJ.2.2.2.2.1⟩ kI kMatL hi g1 g2 g3 (g4.fr f25 (by decide)) (g5.fr f25 (by decide)) hMi (Or.inl rfl) (fun _ => ⟨by omega, by omega⟩)) (by assumption) (by rfl) (by rfl) (by omega) (nA := 2) (by rfl) (by decide +kernel) rfl (by exact Nat.le_of_ble_eq_true rfl) dX12_binaryShare_38 (fun r38 h38 p38 => ?_) (fun _ _ q => q.elim)
    obtain ⟨vv, rfl, hv, fD, wuD, kMD⟩ := p38
    have k1D := fD _ _ _ k1 (by decide)
    have kJD : RJ Z DRp h38 row brk al wk us kp pt c w m E R b0 b1 b2 := RJ.draw ⟨hc60, hw, hm24, hMt⟩ (f25 _ _ _ kr (by decide)) (f25 _ _ _ kb (by decide)) (kkp.imp (fun _ z => f25 _ _ _ z (by decide))) kJ.2.2.2.2.2.2.1 (f25 _ _ _ ka (by decide)) (Or.inr ⟨f25 _ _ _ e3 (by decide), hN1, hN2⟩) kI fD wuD kMD
    have i3 := fD _ _ _ i2 (by decide)
    have ffD : Fr (fun x => 120 ≤ x ∧ x ≤ 136) h h38 := ff.trans (fD.mono (fun x hx => by omega))
    dsimp only [Option.toList, List.cons_append, List.nil_append]
    rcases hv with ⟨rfl, hdr⟩ | ⟨qd, g, rfl, hqd, hdr⟩
    · skip
      refine wa_ifnullN hX (tgt := 48) dX12_binaryShare_41 (by decide) ?_
      refine wi_iconst hX dX12_binaryShare_48 ?_
      refine wi_iadd hX dX12_binaryShare_49 ?_
      refine wa_istore_n hX (i := 1) dX12_binaryShare_50 rfl (by first | rfl | assumption) ?_
      dsimp only [List.set]
      refine wa_goto hX (tgt := 15) dX12_binaryShare_51 (by decide) ?_
      exact WA.eq rfl (by rw [Int.add_zero]) rfl (ih (i + 1, h38, cn, (i : Int), .val (.ref (P i))) ⟨by show i + 1 ≤ m; omega, ⟨cn, none, hD, hdr, rfl⟩, ffD, k1D, kJD, i3, rfl⟩ (by show m - (i + 1) < m - i; omega))
    · skip
      refine wa_ifnull hX dX12_binaryShare_41 ?_
      refine wi_iconst hX dX12_binaryShare_44 ?_
      refine wa_goto hX (tgt := 49) dX12_binaryShare_45 (by decide) ?_
      refine wi_iadd hX dX12_binaryShare_49 ?_
      refine wa_istore_n hX (i := 1) dX12_binaryShare_50 rfl (by first | rfl | assumption) ?_
      dsimp only [List.set]
      refine wa_goto hX (tgt := 15) dX12_binaryShare_51 (by decide) ?_
      exact WA.eq rfl (by rw [show (cn : Int) + 1 = ((cn + 1 : Nat) : Int) by omega]) rfl (ih (i + 1, h38, cn + 1, (i : Int), .val (.ref (P i))) ⟨by show i + 1 ≤ m; omega, ⟨cn, some g, hD, hdr, rfl⟩, ffD, k1D, kJD, i3, rfl⟩ (by show m - (i + 1) < m - i; omega))
end C9o
