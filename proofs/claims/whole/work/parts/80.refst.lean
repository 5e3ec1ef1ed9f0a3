/-! The reference (X12): what its heap holds. Labels: 120 itself, 121 its row, 122 what is broken, 123 124 the list, 125 126 127 kept rows, 128 129 the kept matroid, 130 131 132 matroids, their ranks, their drawings. Z: where an empty list's array lies; DR: what a drawing is. -/
def DrC (DR : (Nat → Nat) → Nat → Nat → Option (Nat → Nat) → Prop) (h : AH) (e : Nat) (rk : Nat → Nat) (f : Nat) (v : Value) (lk : Int) : Prop := (lk = 0 ∧ v = .null) ∨ (lk = 1 ∧ ((v = .null ∧ DR rk e f none) ∨ ∃ (q : Nat) (g : Nat → Nat), v = .ref q ∧ h q = some (132, aV 100 g) ∧ DR rk e f (some g)))
def RMat (DR : (Nat → Nat) → Nat → Nat → Option (Nat → Nat) → Prop) (h : AH) (p e : Nat) (rk : Nat → Nat) : Prop := ∃ (rq : Nat) (m2 m3 : Value) (l2 l3 : Int) (G : Nat → Int), h p = some (130, oRef e rq m2 m3 l2 l3) ∧ h rq = some (131, aI .int 1024 G) ∧ (∀ s, s < 2 ^ e → G s = ((rk s : Nat) : Int)) ∧ DrC DR h e rk 2 m2 l2 ∧ DrC DR h e rk 3 m3 l3
def RJ (Z : Nat → Prop) (DR : (Nat → Nat) → Nat → Nat → Option (Nat → Nat) → Prop) (h : AH) (row brk al wk us kp pt c : Nat) (w : Nat → Nat) (m : Nat) (E : Nat → Nat) (R : Nat → Nat → Nat) (b0 b1 b2 : Int) : Prop :=
  (c ≤ 60 ∧ (∀ j, w j < 1024) ∧ m ≤ 24 ∧ ∀ j, j < m → Mtr (E j) (R j)) ∧ h row = some (121, aI .int 60 (fun j => ((w j : Nat) : Int))) ∧ h brk = some (122, aI .int 3 (fun j => if j = 0 then b0 else if j = 1 then b1 else b2)) ∧ (∃ WK : Nat → Int, h wk = some (125, aI .int 100 WK)) ∧ (∃ US : Nat → Bool, h us = some (126, aI .boolean 10 (fun j => ((b2n (US j) : Nat) : Int)))) ∧ (∃ KP : Nat → Int, h kp = some (127, aI .int 10 KP)) ∧ (∃ (e0 rq : Nat) (m2 m3 : Value) (l2 l3 : Int) (G0 : Nat → Int), h pt = some (128, oRef e0 rq m2 m3 l2 l3) ∧ h rq = some (129, aI .int 1024 G0)) ∧
  ∃ (ed N : Nat) (P : Nat → Nat), h al = some (123, oAL (m : Int) ed (m : Int)) ∧ ((m = 0 ∧ Z ed) ∨ (h ed = some (124, aR (.object "java/lang/Object") N (fun j => if j < m then some (P j) else none)) ∧ m ≤ N ∧ N ≤ 100)) ∧ (∀ i j, i < m → j < m → P i = P j → i = j) ∧ ∀ j, j < m → RMat DR h (P j) (E j) (R j)
def RI (Z : Nat → Prop) (DR : (Nat → Nat) → Nat → Nat → Option (Nat → Nat) → Prop) (h : AH) (a th c : Nat) (w : Nat → Nat) (m : Nat) (E : Nat → Nat) (R : Nat → Nat → Nat) (b0 b1 b2 : Int) : Prop := ∃ row brk al wk us kp pt : Nat, h a = some (120, oMod (th : Int) (c : Int) row brk al wk us kp pt) ∧ RJ Z DR h row brk al wk us kp pt c w m E R b0 b1 b2
section RFr
variable {S : Nat → Prop} {h h' : AH} {DR : (Nat → Nat) → Nat → Nat → Option (Nat → Nat) → Prop}
theorem DrC.fr {e f0 : Nat} {rk : Nat → Nat} {v : Value} {lk : Int} (q : DrC DR h e rk f0 v lk) (f : Fr S h h') (n : ¬ S 132) : DrC DR h' e rk f0 v lk := by
  rcases q with q | ⟨q1, q | ⟨y, g, q2, q3, q4⟩⟩
  · exact Or.inl q
  · exact Or.inr ⟨q1, Or.inl q⟩
  · exact Or.inr ⟨q1, Or.inr ⟨y, g, q2, f _ _ _ q3 n, q4⟩⟩
theorem RMat.fr {p e : Nat} {rk : Nat → Nat} (q : RMat DR h p e rk) (f : Fr S h h') (n : ∀ x, S x → ¬ (130 ≤ x ∧ x ≤ 132)) : RMat DR h' p e rk := by
  obtain ⟨rq, m2, m3, l2, l3, G, q1, q2, q3, q4, q5⟩ := q
  exact ⟨rq, m2, m3, l2, l3, G, f _ _ _ q1 (fun z => n _ z (by omega)), f _ _ _ q2 (fun z => n _ z (by omega)), q3, q4.fr f (fun z => n _ z (by omega)), q5.fr f (fun z => n _ z (by omega))⟩
theorem RJ.fr {Z : Nat → Prop} {row brk al wk us kp pt c m : Nat} {w : Nat → Nat} {E : Nat → Nat} {R : Nat → Nat → Nat} {b0 b1 b2 : Int} (q : RJ Z DR h row brk al wk us kp pt c w m E R b0 b1 b2) (f : Fr S h h') (n : ∀ x, S x → ¬ (121 ≤ x ∧ x ≤ 132)) : RJ Z DR h' row brk al wk us kp pt c w m E R b0 b1 b2 := by
  obtain ⟨q0, q1, q2, ⟨WK, q3⟩, ⟨US, q4⟩, ⟨KP, q5⟩, ⟨e0, rq, m2, m3, l2, l3, G0, q6, q7⟩, ed, N, P, q8, q9, q10, q11⟩ := q
  refine ⟨q0, f _ _ _ q1 (fun z => n _ z (by omega)), f _ _ _ q2 (fun z => n _ z (by omega)), ⟨WK, f _ _ _ q3 (fun z => n _ z (by omega))⟩, ⟨US, f _ _ _ q4 (fun z => n _ z (by omega))⟩, ⟨KP, f _ _ _ q5 (fun z => n _ z (by omega))⟩, ⟨e0, rq, m2, m3, l2, l3, G0, f _ _ _ q6 (fun z => n _ z (by omega)), f _ _ _ q7 (fun z => n _ z (by omega))⟩, ed, N, P, f _ _ _ q8 (fun z => n _ z (by omega)), ?_, q10, fun j hj => (q11 j hj).fr f (fun x hx hy => n x hx (by omega))⟩
  rcases q9 with z | ⟨z, z2⟩
  · exact Or.inl z
  · exact Or.inr ⟨f _ _ _ z (fun y => n _ y (by omega)), z2⟩
end RFr
section C80
variable {l : Launch} {D : va_G} {S0 : State} {Z : Nat → Prop} {DR : (Nat → Nat) → Nat → Nat → Option (Nat → Nat) → Prop}
set_option maxHeartbeats 2000000 in
set_option maxRecDepth 100000 in
theorem c_X12_size (hW : WOK l D S0) (d : Nat) {h : AH} {a th : Nat} {c m : Nat} {w : Nat → Nat} {E : Nat → Nat} {R : Nat → Nat → Nat} {b0 b1 b2 : Int} (hI : RI Z DR h a th c w m E R b0 b1 b2) {n : Int} (hn : inR n) : MA l D S0 yX12_size cX12_size 2 (some .int) (d + 4) [.ref a, I n] h 0 0 (fun r h' => Fr (fun x => x = 120) h h' ∧ ((noM n m ∧ (∃ z, r = some (I z)) ∧ RI Z DR h' a 1 c w m E R b0 b1 b2) ∨ ∃ i, i < m ∧ n = (i : Int) ∧ r = some (I (E i : Nat)) ∧ RI Z DR h' a 0 c w m E R b0 b1 b2)) (fun _ _ => False) := by
  obtain ⟨row, brk, al, wk, us, kp, pt, k1, kJ⟩ := hI
  refine MA.start hW (by decide) [.val (.ref a), .val (I n)] rfl ?_
  rintro X rfl rfl rfl hX
  refine wa_aload_n hX (i := 0) dX12_size_0 rfl rfl ?_
  refine wi_iconst hX dX12_size_1 ?_
  refine wa_put hX 0 k1 (Nat.le_of_ble_eq_true rfl) (by decide +kernel) (by rfl) (by rfl) (by rfl) dX12_size_2 ?_
  refine WA.heap (h2 := hset h a (120, oMod ((0 : Nat) : Int) (c : Int) row brk al wk us kp pt)) rfl ?_
  refine WA.hgq (fun hA hh2 => ?_)
  have ff : Fr (fun x => x = 120) h hA := by rw [hh2]; exact Fr.hset Fr.rf k1 rfl
  replace k1 : hA a = some (120, oMod ((0 : Nat) : Int) (c : Int) row brk al wk us kp pt) := by rw [hh2]; exact hset_eq
  replace kJ := kJ.fr ff (fun x hx => by omega)
  clear hh2
  obtain ⟨⟨hc60, hw, hm24, hMt⟩, kr, kb, kwk, kus, kkp, kpt, ed, N, P, ka, ke, kI, kMat⟩ := id kJ
  refine wa_aload_n hX (i := 0) dX12_size_5 rfl rfl ?_
  refine wa_aload_n hX (i := 0) dX12_size_6 rfl rfl ?_
  refine wa_iload_n hX (i := 1) dX12_size_7 rfl rfl ?_
  refine wa_callV hX (c_X12_no hW (d + 1) k1 ka hm24 hn) (by assumption) (by rfl) (by rfl) (by omega) (nA := 1) (by rfl) (by decide +kernel) rfl (by exact Nat.le_of_ble_eq_true rfl) dX12_size_8 (fun r8 h8 p8 => ?_) (fun _ _ q => q.elim)
  obtain ⟨rfl, qq8⟩ := p8; subst h8
  dsimp only [Option.toList, List.cons_append, List.nil_append]
  refine wi_iconst hX dX12_size_11 ?_
  refine wa_callV hX (c_X12_fails hW d (th := 0) (k := 1) (b := (!decide (0 ≤ n ∧ n < (m : Int)))) k1 (by omega) (by omega)) (by assumption) (by rfl) (by rfl) (by omega) (nA := 2) (by rfl) (by decide +kernel) rfl (by exact Nat.le_of_ble_eq_true rfl) dX12_size_12 (fun r12 h12 p12 => ?_) (fun _ _ q => q.elim)
  obtain ⟨rfl, hh12⟩ := p12
  have f12 : Fr (fun x => x = 120) hA h12 := by rw [hh12]; exact Fr.hset Fr.rf k1 rfl
  replace k1 : h12 a = some (120, oMod ((if ((!decide (0 ≤ n ∧ n < (m : Int)))) = true ∧ (0 : Nat) = 0 then 1 else 0 : Nat) : Int) (c : Int) row brk al wk us kp pt) := by rw [hh12]; exact hset_eq
  replace kJ := kJ.fr f12 (fun x hx => by omega)
  replace ff := ff.trans f12
  clear hh12 f12
  rw [show (((!decide (0 ≤ n ∧ n < (m : Int)))) || (0 : Nat) != 0) = ((!decide (0 ≤ n ∧ n < (m : Int)))) from Bool.or_false _]
  clear kr kb kwk kus kkp kpt ka ke kI kMat hc60 hw hm24 hMt
  obtain ⟨⟨hc60, hw, hm24, hMt⟩, kr, kb, kwk, kus, kkp, kpt, ed, N, P, ka, ke, kI, kMat⟩ := id kJ
  dsimp only [Option.toList, List.cons_append, List.nil_append]
  refine wi_if_eq hX (tgt := 22) dX12_size_15 (by decide) (by exact b2n_inR _) (fun c15 => ?_) (fun c15 => ?_)
  · skip
    have hv := b2n_f c15
    have k10 := k1
    rw [hv, if_neg (fun z => Bool.false_ne_true z.1)] at k10
    rw [Bool.not_eq_false', decide_eq_true_eq] at hv
    obtain ⟨i, rfl⟩ := Int.eq_ofNat_of_zero_le hv.1
    have hi : i < m := by omega
    obtain ⟨e3, hN1, hN2⟩ : h12 ed = some (124, aR (.object "java/lang/Object") N (fun j => if j < m then some (P j) else none)) ∧ m ≤ N ∧ N ≤ 100 := by
      rcases ke with z | z
      · exfalso; omega
      · exact z
    obtain ⟨rq, m2, m3, l2, l3, G, g1, g2, g3, g4, g5⟩ := id (kMat i hi)
    have hMi := hMt i hi
    have he := hMi.1
    have hp := p2_le he
    have hp0 := p2_pos (E i)
    refine wa_aload_n hX (i := 0) dX12_size_22 rfl rfl ?_
    refine wa_get hX 4 (by assumption) (by rfl) (by decide +kernel) dX12_size_23 ?_
    refine wa_iload_n hX (i := 1) dX12_size_26 rfl rfl ?_
    refine wa_callV hX (c_AL_get hW d ka e3 (i := i) (q := P i) hi hN1 (by omega) (if_pos hi)) (by assumption) (by rfl) (by rfl) (by omega) (nA := 1) (by rfl) (by decide +kernel) rfl (by exact Nat.le_of_ble_eq_true rfl) dX12_size_27 (fun r27 h27 p27 => ?_) (fun _ _ q => q.elim)
    obtain ⟨rfl, qq27⟩ := p27; subst h27
    dsimp only [Option.toList, List.cons_append, List.nil_append]
    refine wa_ccast hX g1 (by rfl) (by decide +kernel) dX12_size_30 ?_
    refine wa_get hX 0 (by assumption) (by rfl) (by decide +kernel) dX12_size_33 ?_
    refine wa_iret hX dX12_size_36 ?_
    first
      | (have z := b2n_t c15
         rw [z, if_pos ⟨rfl, rfl⟩] at k1
         rw [Bool.not_eq_true', decide_eq_false_iff_not] at z
         exact ⟨ff, Or.inl ⟨z, ⟨_, rfl⟩, row, brk, al, wk, us, kp, pt, k1, kJ⟩⟩)
      | exact ⟨ff, Or.inr ⟨i, hi, rfl, rfl, row, brk, al, wk, us, kp, pt, k10, kJ⟩⟩
  · skip
    refine wi_iconst hX dX12_size_18 ?_
    refine wa_goto hX (tgt := 36) dX12_size_19 (by decide) ?_
    refine wa_iret hX dX12_size_36 ?_
    first
      | (have z := b2n_t c15
         rw [z, if_pos ⟨rfl, rfl⟩] at k1
         rw [Bool.not_eq_true', decide_eq_false_iff_not] at z
         exact ⟨ff, Or.inl ⟨z, ⟨_, rfl⟩, row, brk, al, wk, us, kp, pt, k1, kJ⟩⟩)
      | exact ⟨ff, Or.inr ⟨i, hi, rfl, rfl, row, brk, al, wk, us, kp, pt, k10, kJ⟩⟩
end C80
