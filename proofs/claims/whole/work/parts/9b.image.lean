/-! The reference (X12): areAlike, image, symmetries -/
theorem RJ.chg {Z : Nat → Prop} {DR : (Nat → Nat) → Nat → Nat → Option (Nat → Nat) → Prop} {h h' : AH} {row brk al wk us kp pt c m : Nat} {w : Nat → Nat} {E : Nat → Nat} {R : Nat → Nat → Nat} {b0 b1 b2 : Int} (q : RJ Z DR h row brk al wk us kp pt c w m E R b0 b1 b2) (f : Fr (fun x => 125 ≤ x ∧ x ≤ 129) h h') (w1 : ∃ WK : Nat → Int, h' wk = some (125, aI .int 100 WK)) (w2 : ∃ US : Nat → Bool, h' us = some (126, aI .boolean 10 (fun j => ((b2n (US j) : Nat) : Int)))) (w3 : ∃ KP : Nat → Int, h' kp = some (127, aI .int 10 KP)) (w4 : ∃ (e0 rq : Nat) (m2 m3 : Value) (l2 l3 : Int) (G0 : Nat → Int), h' pt = some (128, oRef e0 rq m2 m3 l2 l3) ∧ h' rq = some (129, aI .int 1024 G0)) : RJ Z DR h' row brk al wk us kp pt c w m E R b0 b1 b2 := by
  obtain ⟨q0, q1, q2, q3, q4, q5, q6, ed, N, P, q8, q9, q10, q11⟩ := q
  refine ⟨q0, f _ _ _ q1 (by omega), f _ _ _ q2 (by omega), w1, w2, w3, w4, ed, N, P, f _ _ _ q8 (by omega), ?_, q10, fun j hj => (q11 j hj).fr f (fun x hx => by omega)⟩
  rcases q9 with z | ⟨z, z2⟩
  · exact Or.inl z
  · exact Or.inr ⟨f _ _ _ z (by omega), z2⟩
theorem RJ.setK {Z : Nat → Prop} {DR : (Nat → Nat) → Nat → Nat → Option (Nat → Nat) → Prop} {h : AH} {row brk al wk us kp pt c m : Nat} {w : Nat → Nat} {E : Nat → Nat} {R : Nat → Nat → Nat} {b0 b1 b2 : Int} (q : RJ Z DR h row brk al wk us kp pt c w m E R b0 b1 b2) (K : Nat → Int) : RJ Z DR (hset h kp (127, aI .int 10 K)) row brk al wk us kp pt c w m E R b0 b1 b2 := by
  obtain ⟨-, -, -, ⟨WK, q3⟩, ⟨US, q4⟩, ⟨KP, q5⟩, ⟨e0, rq, m2, m3, l2, l3, G0, q6, q7⟩, -⟩ := id q
  have f : Fr (fun x => x = 127) h (hset h kp (127, aI .int 10 K)) := Fr.hset Fr.rf q5 rfl
  exact q.chg (f.mono (fun x hx => by omega)) ⟨WK, f _ _ _ q3 (by omega)⟩ ⟨US, f _ _ _ q4 (by omega)⟩ ⟨K, hset_eq⟩ ⟨e0, rq, m2, m3, l2, l3, G0, f _ _ _ q6 (by omega), f _ _ _ q7 (by omega)⟩
section C9b
variable {l : Launch} {D : va_G} {S0 : State} {Z : Nat → Prop} {DR : (Nat → Nat) → Nat → Nat → Option (Nat → Nat) → Prop}
set_option maxHeartbeats 2000000 in
set_option maxRecDepth 100000 in
theorem c_X12_areAlike_ (hW : WOK l D S0) (d : Nat) {h : AH} {a th : Nat} {c m : Nat} {w : Nat → Nat} {E : Nat → Nat} {R : Nat → Nat → Nat} {b0 b1 b2 : Int} (hI : RI Z DR h a th c w m E R b0 b1 b2) {n v : Int} (hn : inR n) (hv : inR v) : MA l D S0 yX12_areAlike_ cX12_areAlike_ 3 (some .boolean) (d + 13) [.ref a, I n, I v] h 0 0 (fun r h' => Fr (fun x => 120 ≤ x ∧ x ≤ 139) h h' ∧ (((noM n m ∨ noM v m) ∧ r = some (I 0) ∧ RI Z DR h' a 1 c w m E R b0 b1 b2) ∨ ∃ i j : Nat, i < m ∧ n = (i : Int) ∧ j < m ∧ v = (j : Int) ∧ ∃ (vv : Bool) (im : Nat → Nat), r = some (I ((b2n vv : Nat) : Int)) ∧ IsoG (R i) (E i) (R j) (E j) vv im ∧ RI Z DR h' a 0 c w m E R b0 b1 b2)) (fun _ _ => False) := by
  obtain ⟨row, brk, al, wk, us, kp, pt, k1, kJ⟩ := hI
  refine MA.start hW (by decide) [.val (.ref a), .val (I n), .val (I v)] rfl ?_
  rintro X rfl rfl rfl hX
  refine wa_aload_n hX (i := 0) dX12_areAlike__0 rfl rfl ?_
  refine wi_iconst hX dX12_areAlike__1 ?_
  refine wa_put hX 0 k1 (Nat.le_of_ble_eq_true rfl) (by decide +kernel) (by rfl) (by rfl) (by rfl) dX12_areAlike__2 ?_
  refine WA.heap (h2 := hset h a (120, oMod ((0 : Nat) : Int) (c : Int) row brk al wk us kp pt)) rfl ?_
  refine WA.hgq (fun hA hh2 => ?_)
  have ff : Fr (fun x => x = 120) h hA := by rw [hh2]; exact Fr.hset Fr.rf k1 rfl
  replace k1 : hA a = some (120, oMod ((0 : Nat) : Int) (c : Int) row brk al wk us kp pt) := by rw [hh2]; exact hset_eq
  replace kJ := kJ.fr ff (fun x hx => by omega)
  clear hh2
  obtain ⟨⟨hc60, hw, hm24, hMt⟩, kr, kb, kwk, kus, kkp, kpt, ed, N, P, ka, ke, kI, kMat⟩ := id kJ
  refine wa_aload_n hX (i := 0) dX12_areAlike__5 rfl rfl ?_
  refine wa_aload_n hX (i := 0) dX12_areAlike__6 rfl rfl ?_
  refine wa_iload_n hX (i := 1) dX12_areAlike__7 rfl rfl ?_
  have t27 : WA X hA 0 0 27 [.val (.ref a), .val (I n), .val (I v)] [I ((b2n (!decide (0 ≤ n ∧ n < (m : Int)) || !decide (0 ≤ v ∧ v < (m : Int))) : Nat) : Int), .ref a] := by
    refine wi_iconst hX dX12_areAlike__27 ?_
    refine wa_callV hX (c_X12_fails hW d (th := 0) (k := 1) (b := (!decide (0 ≤ n ∧ n < (m : Int)) || !decide (0 ≤ v ∧ v < (m : Int)))) k1 (by omega) (by omega)) (by assumption) (by rfl) (by rfl) (by omega) (nA := 2) (by rfl) (by decide +kernel) rfl (by exact Nat.le_of_ble_eq_true rfl) dX12_areAlike__28 (fun r28 h28 p28 => ?_) (fun _ _ q => q.elim)
    obtain ⟨rfl, hh28⟩ := p28
    have f28 : Fr (fun x => x = 120) hA h28 := by rw [hh28]; exact Fr.hset Fr.rf k1 rfl
    replace k1 : h28 a = some (120, oMod ((if ((!decide (0 ≤ n ∧ n < (m : Int)) || !decide (0 ≤ v ∧ v < (m : Int)))) = true ∧ (0 : Nat) = 0 then 1 else 0 : Nat) : Int) (c : Int) row brk al wk us kp pt) := by rw [hh28]; exact hset_eq
    replace kJ := kJ.fr f28 (fun x hx => by omega)
    replace ff := ff.trans f28
    clear hh28 f28
    rw [show (((!decide (0 ≤ n ∧ n < (m : Int)) || !decide (0 ≤ v ∧ v < (m : Int)))) || (0 : Nat) != 0) = ((!decide (0 ≤ n ∧ n < (m : Int)) || !decide (0 ≤ v ∧ v < (m : Int)))) from Bool.or_false _]
    clear kr kb kwk kus kkp kpt ka ke kI kMat hc60 hw hm24 hMt
    obtain ⟨⟨hc60, hw, hm24, hMt⟩, kr, kb, kwk, kus, kkp, kpt, ed, N, P, ka, ke, kI, kMat⟩ := id kJ
    dsimp only [Option.toList, List.cons_append, List.nil_append]
    refine wi_if_ne hX (tgt := 70) dX12_areAlike__31 (by decide) (by exact b2n_inR _) (fun c31 => ?_) (fun c31 => ?_)
    · skip
      refine wi_iconst hX dX12_areAlike__70 ?_
      refine wa_zret hX dX12_areAlike__71 (by rfl) ?_
      first
        | (have z := b2n_t c31
           rw [z, if_pos ⟨rfl, rfl⟩] at k1
           rw [Bool.or_eq_true, Bool.not_eq_true', decide_eq_false_iff_not, Bool.not_eq_true', decide_eq_false_iff_not] at z
           exact ⟨ff.mono (fun x hx => by omega), Or.inl ⟨z, rfl, row, brk, al, wk, us, kp, pt, k1, kJ⟩⟩)
        | (have z := b2n_f c63
           exact ⟨(ff.mono (fun x hx => by omega)).trans (fK.mono (fun x hx => by omega)), Or.inr ⟨i, j, hi, rfl, hj, rfl, vv, im, by rw [z]; rfl, hG, row, brk, al, wk, us, kp, pt, k1K, kJK⟩⟩)
        | (have z := b2n_t c63
           exact ⟨(ff.mono (fun x hx => by omega)).trans (fK.mono (fun x hx => by omega)), Or.inr ⟨i, j, hi, rfl, hj, rfl, vv, im, by rw [z]; rfl, hG, row, brk, al, wk, us, kp, pt, k1K, kJK⟩⟩)
    · skip
      have hv31 := b2n_f c31
      rw [hv31, if_neg (fun z => Bool.false_ne_true z.1)] at k1
      rw [Bool.or_eq_false_iff, Bool.not_eq_false', decide_eq_true_eq, Bool.not_eq_false', decide_eq_true_eq] at hv31
      obtain ⟨i, rfl⟩ := Int.eq_ofNat_of_zero_le hv31.1.1
      obtain ⟨j, rfl⟩ := Int.eq_ofNat_of_zero_le hv31.2.1
      have hi : i < m := by omega
      have hj : j < m := by omega
      obtain ⟨e3, hN1, hN2⟩ : h28 ed = some (124, aR (.object "java/lang/Object") N (fun j => if j < m then some (P j) else none)) ∧ m ≤ N ∧ N ≤ 100 := by
        rcases ke with z | z
        · exfalso; omega
        · exact z
      obtain ⟨rq, m2, m3, l2, l3, G, g1, g2, g3, g4, g5⟩ := id (kMat i hi)
      have hMi := hMt i hi
      have he := hMi.1
      have hp := p2_le he
      have hp0 := p2_pos (E i)
      obtain ⟨rq', m2', m3', l2', l3', G', u1, u2, u3, u4, u5⟩ := id (kMat j hj)
      have hMj := hMt j hj
      obtain ⟨KP9, kkp9⟩ := id kkp
      have hej := hMj.1
      refine wa_aload_n hX (i := 0) dX12_areAlike__34 rfl rfl ?_
      refine wa_get hX 4 (by assumption) (by rfl) (by decide +kernel) dX12_areAlike__35 ?_
      refine wa_iload_n hX (i := 1) dX12_areAlike__38 rfl rfl ?_
      refine wa_callV hX (c_AL_get hW d ka e3 (i := i) (q := P i) hi hN1 (by omega) (if_pos hi)) (by assumption) (by rfl) (by rfl) (by omega) (nA := 1) (by rfl) (by decide +kernel) rfl (by exact Nat.le_of_ble_eq_true rfl) dX12_areAlike__39 (fun r39 h39 p39 => ?_) (fun _ _ q => q.elim)
      obtain ⟨rfl, qq39⟩ := p39; subst h39
      dsimp only [Option.toList, List.cons_append, List.nil_append]
      refine wa_ccast hX g1 (by rfl) (by decide +kernel) dX12_areAlike__42 ?_
      refine wa_aload_n hX (i := 0) dX12_areAlike__45 rfl rfl ?_
      refine wa_get hX 4 (by assumption) (by rfl) (by decide +kernel) dX12_areAlike__46 ?_
      refine wa_iload_n hX (i := 2) dX12_areAlike__49 rfl rfl ?_
      refine wa_callV hX (c_AL_get hW d ka e3 (i := j) (q := P j) hj hN1 (by omega) (if_pos hj)) (by assumption) (by rfl) (by rfl) (by omega) (nA := 1) (by rfl) (by decide +kernel) rfl (by exact Nat.le_of_ble_eq_true rfl) dX12_areAlike__50 (fun r50 h50 p50 => ?_) (fun _ _ q => q.elim)
      obtain ⟨rfl, qq50⟩ := p50; subst h50
      dsimp only [Option.toList, List.cons_append, List.nil_append]
      refine wa_ccast hX u1 (by rfl) (by decide +kernel) dX12_areAlike__53 ?_
      refine wa_aload_n hX (i := 0) dX12_areAlike__56 rfl rfl ?_
      refine wa_get hX 7 (by assumption) (by rfl) (by decide +kernel) dX12_areAlike__57 ?_
      refine wa_callS hX (c_X12_areAlike hW d g1 g2 g3 u1 u2 u3 he hej (fun s hs => hMi.le10 hs) (fun s hs => hMj.le10 hs) kkp9 (by decide)) (by rfl) (by omega) (nA := 3) (by rfl) (by decide +kernel) rfl (by exact Nat.le_of_ble_eq_true rfl) dX12_areAlike__60 (fun r60 h60 p60 => ?_) (fun _ _ q => q.elim)
      obtain ⟨vv, KP', im, rfl, hh60, hKP, hG⟩ := p60
      have fK : Fr (fun x => x = 127) h28 h60 := by rw [hh60]; exact Fr.hset Fr.rf kkp9 rfl
      have kJK := kJ.setK KP'
      rw [← hh60] at kJK
      have kpK : h60 kp = some (127, aI .int 10 KP') := by rw [hh60]; exact hset_eq
      have k1K := fK _ _ _ k1 (by omega)
      clear hh60
      dsimp only [Option.toList, List.cons_append, List.nil_append]
      refine wi_if_eq hX (tgt := 70) dX12_areAlike__63 (by decide) (by exact b2n_inR _) (fun c63 => ?_) (fun c63 => ?_)
      · skip
        refine wi_iconst hX dX12_areAlike__70 ?_
        refine wa_zret hX dX12_areAlike__71 (by rfl) ?_
        first
          | (have z := b2n_t c31
             rw [z, if_pos ⟨rfl, rfl⟩] at k1
             rw [Bool.or_eq_true, Bool.not_eq_true', decide_eq_false_iff_not, Bool.not_eq_true', decide_eq_false_iff_not] at z
             exact ⟨ff.mono (fun x hx => by omega), Or.inl ⟨z, rfl, row, brk, al, wk, us, kp, pt, k1, kJ⟩⟩)
          | (have z := b2n_f c63
             exact ⟨(ff.mono (fun x hx => by omega)).trans (fK.mono (fun x hx => by omega)), Or.inr ⟨i, j, hi, rfl, hj, rfl, vv, im, by rw [z]; rfl, hG, row, brk, al, wk, us, kp, pt, k1K, kJK⟩⟩)
          | (have z := b2n_t c63
             exact ⟨(ff.mono (fun x hx => by omega)).trans (fK.mono (fun x hx => by omega)), Or.inr ⟨i, j, hi, rfl, hj, rfl, vv, im, by rw [z]; rfl, hG, row, brk, al, wk, us, kp, pt, k1K, kJK⟩⟩)
      · skip
        refine wi_iconst hX dX12_areAlike__66 ?_
        refine wa_goto hX (tgt := 71) dX12_areAlike__67 (by decide) ?_
        refine wa_zret hX dX12_areAlike__71 (by rfl) ?_
        first
          | (have z := b2n_t c31
             rw [z, if_pos ⟨rfl, rfl⟩] at k1
             rw [Bool.or_eq_true, Bool.not_eq_true', decide_eq_false_iff_not, Bool.not_eq_true', decide_eq_false_iff_not] at z
             exact ⟨ff.mono (fun x hx => by omega), Or.inl ⟨z, rfl, row, brk, al, wk, us, kp, pt, k1, kJ⟩⟩)
          | (have z := b2n_f c63
             exact ⟨(ff.mono (fun x hx => by omega)).trans (fK.mono (fun x hx => by omega)), Or.inr ⟨i, j, hi, rfl, hj, rfl, vv, im, by rw [z]; rfl, hG, row, brk, al, wk, us, kp, pt, k1K, kJK⟩⟩)
          | (have z := b2n_t c63
             exact ⟨(ff.mono (fun x hx => by omega)).trans (fK.mono (fun x hx => by omega)), Or.inr ⟨i, j, hi, rfl, hj, rfl, vv, im, by rw [z]; rfl, hG, row, brk, al, wk, us, kp, pt, k1K, kJK⟩⟩)
  refine wa_callV hX (c_X12_no hW (d + 1) k1 ka hm24 hn) (by assumption) (by rfl) (by rfl) (by omega) (nA := 1) (by rfl) (by decide +kernel) rfl (by exact Nat.le_of_ble_eq_true rfl) dX12_areAlike__8 (fun r8 h8 p8 => ?_) (fun _ _ q => q.elim)
  obtain ⟨rfl, qq8⟩ := p8; subst h8
  dsimp only [Option.toList, List.cons_append, List.nil_append]
  refine wi_if_ne hX (tgt := 22) dX12_areAlike__11 (by decide) (by exact b2n_inR _) (fun c11 => ?_) (fun c11 => ?_)
  · skip
    refine wi_iconst hX dX12_areAlike__22 ?_
    refine wa_goto hX (tgt := 27) dX12_areAlike__23 (by decide) ?_
    refine WA.eq rfl rfl ?_ t27
    first
      | (have q := b2n_t c11; rw [q]; rfl)
      | (have q := b2n_f c11; have q2 := b2n_t c19; rw [q, q2]; rfl)
      | (have q := b2n_f c11; have q2 := b2n_f c19; rw [q, q2]; rfl)
  · skip
    refine wa_aload_n hX (i := 0) dX12_areAlike__14 rfl rfl ?_
    refine wa_iload_n hX (i := 2) dX12_areAlike__15 rfl rfl ?_
    refine wa_callV hX (c_X12_no hW (d + 1) k1 ka hm24 hv) (by assumption) (by rfl) (by rfl) (by omega) (nA := 1) (by rfl) (by decide +kernel) rfl (by exact Nat.le_of_ble_eq_true rfl) dX12_areAlike__16 (fun r16 h16 p16 => ?_) (fun _ _ q => q.elim)
    obtain ⟨rfl, qq16⟩ := p16; subst h16
    dsimp only [Option.toList, List.cons_append, List.nil_append]
    refine wi_if_eq hX (tgt := 26) dX12_areAlike__19 (by decide) (by exact b2n_inR _) (fun c19 => ?_) (fun c19 => ?_)
    · skip
      refine wi_iconst hX dX12_areAlike__26 ?_
      refine WA.eq rfl rfl ?_ t27
      first
        | (have q := b2n_t c11; rw [q]; rfl)
        | (have q := b2n_f c11; have q2 := b2n_t c19; rw [q, q2]; rfl)
        | (have q := b2n_f c11; have q2 := b2n_f c19; rw [q, q2]; rfl)
    · skip
      refine wi_iconst hX dX12_areAlike__22 ?_
      refine wa_goto hX (tgt := 27) dX12_areAlike__23 (by decide) ?_
      refine WA.eq rfl rfl ?_ t27
      first
        | (have q := b2n_t c11; rw [q]; rfl)
        | (have q := b2n_f c11; have q2 := b2n_t c19; rw [q, q2]; rfl)
        | (have q := b2n_f c11; have q2 := b2n_f c19; rw [q, q2]; rfl)
set_option maxHeartbeats 2000000 in
set_option maxRecDepth 100000 in
theorem c_X12_image (hW : WOK l D S0) (d : Nat) {h : AH} {a th : Nat} {c m : Nat} {w : Nat → Nat} {E : Nat → Nat} {R : Nat → Nat → Nat} {b0 b1 b2 : Int} (hI : RI Z DR h a th c w m E R b0 b1 b2) {n v el : Int} (hn : inR n) (hv : inR v) (hl : inR el) : MA l D S0 yX12_image cX12_image 4 (some .int) (d + 13) [.ref a, I n, I v, I el] h 0 0 (fun r h' => Fr (fun x => 120 ≤ x ∧ x ≤ 139) h h' ∧ (((noM n m ∨ noM v m ∨ ∃ i, i < m ∧ n = (i : Int) ∧ ¬ (0 ≤ el ∧ el < ((E i : Nat) : Int))) ∧ (∃ z, r = some (I z)) ∧ RI Z DR h' a 1 c w m E R b0 b1 b2) ∨ ∃ i j k : Nat, i < m ∧ n = (i : Int) ∧ j < m ∧ v = (j : Int) ∧ k < E i ∧ el = (k : Int) ∧ (((∃ z, r = some (I z)) ∧ (∃ im : Nat → Nat, IsoG (R i) (E i) (R j) (E j) false im) ∧ RI Z DR h' a 2 c w m E R b0 b1 b2) ∨ ∃ im : Nat → Nat, r = some (I ((im k : Nat) : Int)) ∧ IsoG (R i) (E i) (R j) (E j) true im ∧ RI Z DR h' a 0 c w m E R b0 b1 b2))) (fun _ _ => False) := by
  obtain ⟨row, brk, al, wk, us, kp, pt, k1, kJ⟩ := hI
  refine MA.start hW (by decide) [.val (.ref a), .val (I n), .val (I v), .val (I el)] rfl ?_
  rintro X rfl rfl rfl hX
  refine wa_aload_n hX (i := 0) dX12_image_0 rfl rfl ?_
  refine wi_iconst hX dX12_image_1 ?_
  refine wa_put hX 0 k1 (Nat.le_of_ble_eq_true rfl) (by decide +kernel) (by rfl) (by rfl) (by rfl) dX12_image_2 ?_
  refine WA.heap (h2 := hset h a (120, oMod ((0 : Nat) : Int) (c : Int) row brk al wk us kp pt)) rfl ?_
  refine WA.hgq (fun hA hh2 => ?_)
  have ff : Fr (fun x => x = 120) h hA := by rw [hh2]; exact Fr.hset Fr.rf k1 rfl
  replace k1 : hA a = some (120, oMod ((0 : Nat) : Int) (c : Int) row brk al wk us kp pt) := by rw [hh2]; exact hset_eq
  replace kJ := kJ.fr ff (fun x hx => by omega)
  clear hh2
  obtain ⟨⟨hc60, hw, hm24, hMt⟩, kr, kb, kwk, kus, kkp, kpt, ed, N, P, ka, ke, kI, kMat⟩ := id kJ
  refine wa_aload_n hX (i := 0) dX12_image_5 rfl rfl ?_
  refine wa_aload_n hX (i := 0) dX12_image_6 rfl rfl ?_
  refine wa_iload_n hX (i := 1) dX12_image_7 rfl rfl ?_
  have t36 : ∀ B : Bool, (B = true → (noM n m ∨ noM v m ∨ ∃ i, i < m ∧ n = (i : Int) ∧ ¬ (0 ≤ el ∧ el < ((E i : Nat) : Int)))) → (B = false → (∃ i j k : Nat, i < m ∧ n = (i : Int) ∧ j < m ∧ v = (j : Int) ∧ k < E i ∧ el = (k : Int))) → WA X hA 0 0 36 [.val (.ref a), .val (I n), .val (I v), .val (I el)] [I ((b2n B : Nat) : Int), .ref a] := by
    intro B hB1 hB2
    refine wi_iconst hX dX12_image_36 ?_
    refine wa_callV hX (c_X12_fails hW d (th := 0) (k := 1) (b := B) k1 (by omega) (by omega)) (by assumption) (by rfl) (by rfl) (by omega) (nA := 2) (by rfl) (by decide +kernel) rfl (by exact Nat.le_of_ble_eq_true rfl) dX12_image_37 (fun r37 h37 p37 => ?_) (fun _ _ q => q.elim)
    obtain ⟨rfl, hh37⟩ := p37
    have f37 : Fr (fun x => x = 120) hA h37 := by rw [hh37]; exact Fr.hset Fr.rf k1 rfl
    replace k1 : h37 a = some (120, oMod ((if (B) = true ∧ (0 : Nat) = 0 then 1 else 0 : Nat) : Int) (c : Int) row brk al wk us kp pt) := by rw [hh37]; exact hset_eq
    replace kJ := kJ.fr f37 (fun x hx => by omega)
    replace ff := ff.trans f37
    clear hh37 f37
    rw [show ((B) || (0 : Nat) != 0) = (B) from Bool.or_false _]
    clear kr kb kwk kus kkp kpt ka ke kI kMat hc60 hw hm24 hMt
    obtain ⟨⟨hc60, hw, hm24, hMt⟩, kr, kb, kwk, kus, kkp, kpt, ed, N, P, ka, ke, kI, kMat⟩ := id kJ
    dsimp only [Option.toList, List.cons_append, List.nil_append]
    refine wi_if_eq hX (tgt := 45) dX12_image_40 (by decide) (by exact b2n_inR _) (fun c40 => ?_) (fun c40 => ?_)
    · skip
      have hv40 := b2n_f c40
      rw [hv40, if_neg (fun z => Bool.false_ne_true z.1)] at k1
      obtain ⟨i, j, k, hi, rfl, hj, rfl, hkl, rfl⟩ := hB2 hv40
      obtain ⟨e3, hN1, hN2⟩ : h37 ed = some (124, aR (.object "java/lang/Object") N (fun j => if j < m then some (P j) else none)) ∧ m ≤ N ∧ N ≤ 100 := by
        rcases ke with z | z
        · exfalso; omega
        · exact z
      obtain ⟨rq, m2, m3, l2, l3, G, g1, g2, g3, g4, g5⟩ := id (kMat i hi)
      have hMi := hMt i hi
      have he := hMi.1
      have hp := p2_le he
      have hp0 := p2_pos (E i)
      obtain ⟨rq', m2', m3', l2', l3', G', u1, u2, u3, u4, u5⟩ := id (kMat j hj)
      have hMj := hMt j hj
      obtain ⟨KP9, kkp9⟩ := id kkp
      have hej := hMj.1
      refine wa_aload_n hX (i := 0) dX12_image_45 rfl rfl ?_
      refine wa_aload_n hX (i := 0) dX12_image_46 rfl rfl ?_
      refine wa_get hX 4 (by assumption) (by rfl) (by decide +kernel) dX12_image_47 ?_
      refine wa_iload_n hX (i := 1) dX12_image_50 rfl rfl ?_
      refine wa_callV hX (c_AL_get hW d ka e3 (i := i) (q := P i) hi hN1 (by omega) (if_pos hi)) (by assumption) (by rfl) (by rfl) (by omega) (nA := 1) (by rfl) (by decide +kernel) rfl (by exact Nat.le_of_ble_eq_true rfl) dX12_image_51 (fun r51 h51 p51 => ?_) (fun _ _ q => q.elim)
      obtain ⟨rfl, qq51⟩ := p51; subst h51
      dsimp only [Option.toList, List.cons_append, List.nil_append]
      refine wa_ccast hX g1 (by rfl) (by decide +kernel) dX12_image_54 ?_
      refine wa_aload_n hX (i := 0) dX12_image_57 rfl rfl ?_
      refine wa_get hX 4 (by assumption) (by rfl) (by decide +kernel) dX12_image_58 ?_
      refine wa_iload_n hX (i := 2) dX12_image_61 rfl rfl ?_
      refine wa_callV hX (c_AL_get hW d ka e3 (i := j) (q := P j) hj hN1 (by omega) (if_pos hj)) (by assumption) (by rfl) (by rfl) (by omega) (nA := 1) (by rfl) (by decide +kernel) rfl (by exact Nat.le_of_ble_eq_true rfl) dX12_image_62 (fun r62 h62 p62 => ?_) (fun _ _ q => q.elim)
      obtain ⟨rfl, qq62⟩ := p62; subst h62
      dsimp only [Option.toList, List.cons_append, List.nil_append]
      refine wa_ccast hX u1 (by rfl) (by decide +kernel) dX12_image_65 ?_
      refine wa_aload_n hX (i := 0) dX12_image_68 rfl rfl ?_
      refine wa_get hX 7 (by assumption) (by rfl) (by decide +kernel) dX12_image_69 ?_
      refine wa_callS hX (c_X12_areAlike hW d g1 g2 g3 u1 u2 u3 he hej (fun s hs => hMi.le10 hs) (fun s hs => hMj.le10 hs) kkp9 (by decide)) (by rfl) (by omega) (nA := 3) (by rfl) (by decide +kernel) rfl (by exact Nat.le_of_ble_eq_true rfl) dX12_image_72 (fun r72 h72 p72 => ?_) (fun _ _ q => q.elim)
      obtain ⟨vv, KP', im, rfl, hh72, hKP, hG⟩ := p72
      have fK : Fr (fun x => x = 127) h37 h72 := by rw [hh72]; exact Fr.hset Fr.rf kkp9 rfl
      have kJK := kJ.setK KP'
      rw [← hh72] at kJK
      have kpK : h72 kp = some (127, aI .int 10 KP') := by rw [hh72]; exact hset_eq
      have k1K := fK _ _ _ k1 (by omega)
      clear hh72
      dsimp only [Option.toList, List.cons_append, List.nil_append]
      have t83 : WA X h72 0 0 83 [.val (.ref a), .val (I (i : Int)), .val (I (j : Int)), .val (I (k : Int))] [I ((b2n (!vv) : Nat) : Int), .ref a] := by
        refine wi_iconst hX dX12_image_83 ?_
        refine wa_callV hX (c_X12_fails hW d (th := 0) (k := 2) (b := (!vv)) k1K (by omega) (by omega)) (by assumption) (by rfl) (by rfl) (by omega) (nA := 2) (by rfl) (by decide +kernel) rfl (by exact Nat.le_of_ble_eq_true rfl) dX12_image_84 (fun r84 h84 p84 => ?_) (fun _ _ q => q.elim)
        obtain ⟨rfl, hh84⟩ := p84
        have f84 : Fr (fun x => x = 120) h72 h84 := by rw [hh84]; exact Fr.hset Fr.rf k1K rfl
        have k1Z : h84 a = some (120, oMod ((if ((!vv)) = true ∧ (0 : Nat) = 0 then 2 else 0 : Nat) : Int) (c : Int) row brk al wk us kp pt) := by rw [hh84]; exact hset_eq
        have kJZ := kJK.fr f84 (fun x hx => by omega)
        have kpZ := f84 _ _ _ kpK (by omega)
        clear hh84
        rw [show (((!vv)) || (0 : Nat) != 0) = ((!vv)) from Bool.or_false _]
        dsimp only [Option.toList, List.cons_append, List.nil_append]
        refine wi_if_eq hX (tgt := 94) dX12_image_87 (by decide) (by exact b2n_inR _) (fun c87 => ?_) (fun c87 => ?_)
        · skip
          have hv87 := b2n_f c87
          rw [hv87, if_neg (fun z => Bool.false_ne_true z.1)] at k1Z
          rw [Bool.not_eq_false'] at hv87
          refine wa_aload_n hX (i := 0) dX12_image_94 rfl rfl ?_
          refine wa_get hX 7 k1Z (by rfl) (by decide +kernel) dX12_image_95 ?_
          refine wa_iload_n hX (i := 3) dX12_image_98 rfl rfl ?_
          refine wi_iaload hX (by assumption) (by omega) (by omega) (by omega) dX12_image_99 ?_
          refine wa_iret hX dX12_image_100 ?_
          first
            | (have z := b2n_t c87
               rw [z, if_pos ⟨rfl, rfl⟩] at k1Z
               rw [Bool.not_eq_true'] at z
               exact ⟨((ff.mono (fun x hx => by omega)).trans (fK.mono (fun x hx => by omega))).trans (f84.mono (fun x hx => by omega)), Or.inr ⟨i, j, k, hi, rfl, hj, rfl, hkl, rfl, Or.inl ⟨⟨_, rfl⟩, ⟨im, by rw [z] at hG; exact hG⟩, row, brk, al, wk, us, kp, pt, k1Z, kJZ⟩⟩⟩)
            | (rw [Int.toNat_natCast, hKP hv87 k hkl]
               exact ⟨((ff.mono (fun x hx => by omega)).trans (fK.mono (fun x hx => by omega))).trans (f84.mono (fun x hx => by omega)), Or.inr ⟨i, j, k, hi, rfl, hj, rfl, hkl, rfl, Or.inr ⟨im, rfl, by rw [hv87] at hG; exact hG, row, brk, al, wk, us, kp, pt, k1Z, kJZ⟩⟩⟩)
        · skip
          refine wi_iconst hX dX12_image_90 ?_
          refine wa_goto hX (tgt := 100) dX12_image_91 (by decide) ?_
          refine wa_iret hX dX12_image_100 ?_
          first
            | (have z := b2n_t c87
               rw [z, if_pos ⟨rfl, rfl⟩] at k1Z
               rw [Bool.not_eq_true'] at z
               exact ⟨((ff.mono (fun x hx => by omega)).trans (fK.mono (fun x hx => by omega))).trans (f84.mono (fun x hx => by omega)), Or.inr ⟨i, j, k, hi, rfl, hj, rfl, hkl, rfl, Or.inl ⟨⟨_, rfl⟩, ⟨im, by rw [z] at hG; exact hG⟩, row, brk, al, wk, us, kp, pt, k1Z, kJZ⟩⟩⟩)
            | (rw [Int.toNat_natCast, hKP hv87 k hkl]
               exact ⟨((ff.mono (fun x hx => by omega)).trans (fK.mono (fun x hx => by omega))).trans (f84.mono (fun x hx => by omega)), Or.inr ⟨i, j, k, hi, rfl, hj, rfl, hkl, rfl, Or.inr ⟨im, rfl, by rw [hv87] at hG; exact hG, row, brk, al, wk, us, kp, pt, k1Z, kJZ⟩⟩⟩)
      refine wi_if_ne hX (tgt := 82) dX12_image_75 (by decide) (by exact b2n_inR _) (fun c75 => ?_) (fun c75 => ?_)
      · skip
        refine wi_iconst hX dX12_image_82 ?_
        refine WA.eq rfl rfl ?_ t83
        first
          | (have q := b2n_t c75; rw [q]; rfl)
          | (have q := b2n_f c75; rw [q]; rfl)
      · skip
        refine wi_iconst hX dX12_image_78 ?_
        refine wa_goto hX (tgt := 83) dX12_image_79 (by decide) ?_
        refine WA.eq rfl rfl ?_ t83
        first
          | (have q := b2n_t c75; rw [q]; rfl)
          | (have q := b2n_f c75; rw [q]; rfl)
    · skip
      refine wi_iconst hX dX12_image_43 ?_
      refine wa_iret hX dX12_image_44 ?_
      have z := b2n_t c40
      rw [z, if_pos ⟨rfl, rfl⟩] at k1
      exact ⟨ff.mono (fun x hx => by omega), Or.inl ⟨hB1 z, ⟨_, rfl⟩, row, brk, al, wk, us, kp, pt, k1, kJ⟩⟩
  refine wa_callV hX (c_X12_no hW (d + 1) k1 ka hm24 hn) (by assumption) (by rfl) (by rfl) (by omega) (nA := 1) (by rfl) (by decide +kernel) rfl (by exact Nat.le_of_ble_eq_true rfl) dX12_image_8 (fun r8 h8 p8 => ?_) (fun _ _ q => q.elim)
  obtain ⟨rfl, qq8⟩ := p8; subst h8
  dsimp only [Option.toList, List.cons_append, List.nil_append]
  refine wi_if_ne hX (tgt := 31) dX12_image_11 (by decide) (by exact b2n_inR _) (fun c11 => ?_) (fun c11 => ?_)
  · skip
    refine wi_iconst hX dX12_image_31 ?_
    refine wa_goto hX (tgt := 36) dX12_image_32 (by decide) ?_
    first
      | (have q := b2n_t c11
         rw [Bool.not_eq_true', decide_eq_false_iff_not] at q
         exact WA.eq rfl rfl rfl (t36 true (fun _ => Or.inl q) (fun z => nomatch z)))
      | (have q := b2n_t c19
         rw [Bool.not_eq_true', decide_eq_false_iff_not] at q
         exact WA.eq rfl rfl rfl (t36 true (fun _ => Or.inr (Or.inl q)) (fun z => nomatch z)))
      | (have q := b2n_t c28
         refine WA.eq rfl rfl rfl (t36 true (fun _ => ?_) (fun z => nomatch z))
         rcases hNE with ⟨_, q2⟩ | ⟨i, hi, q2, q3⟩
         · exact Or.inl q2
         · have q4 := q3.symm.trans q
           rw [Bool.not_eq_true', decide_eq_false_iff_not] at q4
           exact Or.inr (Or.inr ⟨i, hi, q2, q4⟩))
      | (have q := b2n_f c28
         have q9 := b2n_f c19
         rw [Bool.not_eq_false', decide_eq_true_eq] at q9
         refine WA.eq rfl rfl rfl (t36 false (fun z => nomatch z) (fun _ => ?_))
         rcases hNE with ⟨q2, _⟩ | ⟨i, hi, q2, q3⟩
         · rw [q2] at q; cases q
         · have q4 := q3.symm.trans q
           rw [Bool.not_eq_false', decide_eq_true_eq] at q4
           exact ⟨i, v.toNat, el.toNat, hi, q2, by omega, by omega, by omega, by omega⟩)
  · skip
    refine wa_aload_n hX (i := 0) dX12_image_14 rfl rfl ?_
    refine wa_iload_n hX (i := 2) dX12_image_15 rfl rfl ?_
    refine wa_callV hX (c_X12_no hW (d + 1) k1 ka hm24 hv) (by assumption) (by rfl) (by rfl) (by omega) (nA := 1) (by rfl) (by decide +kernel) rfl (by exact Nat.le_of_ble_eq_true rfl) dX12_image_16 (fun r16 h16 p16 => ?_) (fun _ _ q => q.elim)
    obtain ⟨rfl, qq16⟩ := p16; subst h16
    dsimp only [Option.toList, List.cons_append, List.nil_append]
    refine wi_if_ne hX (tgt := 31) dX12_image_19 (by decide) (by exact b2n_inR _) (fun c19 => ?_) (fun c19 => ?_)
    · skip
      refine wi_iconst hX dX12_image_31 ?_
      refine wa_goto hX (tgt := 36) dX12_image_32 (by decide) ?_
      first
        | (have q := b2n_t c11
           rw [Bool.not_eq_true', decide_eq_false_iff_not] at q
           exact WA.eq rfl rfl rfl (t36 true (fun _ => Or.inl q) (fun z => nomatch z)))
        | (have q := b2n_t c19
           rw [Bool.not_eq_true', decide_eq_false_iff_not] at q
           exact WA.eq rfl rfl rfl (t36 true (fun _ => Or.inr (Or.inl q)) (fun z => nomatch z)))
        | (have q := b2n_t c28
           refine WA.eq rfl rfl rfl (t36 true (fun _ => ?_) (fun z => nomatch z))
           rcases hNE with ⟨_, q2⟩ | ⟨i, hi, q2, q3⟩
           · exact Or.inl q2
           · have q4 := q3.symm.trans q
             rw [Bool.not_eq_true', decide_eq_false_iff_not] at q4
             exact Or.inr (Or.inr ⟨i, hi, q2, q4⟩))
        | (have q := b2n_f c28
           have q9 := b2n_f c19
           rw [Bool.not_eq_false', decide_eq_true_eq] at q9
           refine WA.eq rfl rfl rfl (t36 false (fun z => nomatch z) (fun _ => ?_))
           rcases hNE with ⟨q2, _⟩ | ⟨i, hi, q2, q3⟩
           · rw [q2] at q; cases q
           · have q4 := q3.symm.trans q
             rw [Bool.not_eq_false', decide_eq_true_eq] at q4
             exact ⟨i, v.toNat, el.toNat, hi, q2, by omega, by omega, by omega, by omega⟩)
    · skip
      refine wa_aload_n hX (i := 0) dX12_image_22 rfl rfl ?_
      refine wa_iload_n hX (i := 1) dX12_image_23 rfl rfl ?_
      refine wa_iload_n hX (i := 3) dX12_image_24 rfl rfl ?_
      have h4E : ∀ j, j < m → ∃ lp rq m2 m3 l2 l3, hA (P j) = some (lp, oRef (E j) rq m2 m3 l2 l3) := fun j hj => by
        obtain ⟨rq, m2, m3, l2, l3, G, g1, g2⟩ := kMat j hj
        exact ⟨130, rq, m2, m3, l2, l3, g1⟩
      refine wa_callV hX (c_X12_noElement hW d k1 ka (ke.imp (fun q => q.1) id) hm24 h4E (fun j hj => (hMt j hj).1) hn hl) (by assumption) (by rfl) (by rfl) (by omega) (nA := 2) (by rfl) (by decide +kernel) rfl (by exact Nat.le_of_ble_eq_true rfl) dX12_image_25 (fun r25 h25 p25 => ?_) (fun _ _ q => q.elim)
      obtain ⟨hq25, hz25⟩ := p25
      subst h25
      obtain ⟨NE, rfl, hNE⟩ : ∃ NE : Bool, r25 = some (I ((b2n NE : Nat) : Int)) ∧ ((NE = true ∧ noM n m) ∨ ∃ i, i < m ∧ n = (i : Int) ∧ NE = !decide (0 ≤ el ∧ el < ((E i : Nat) : Int))) := by
        rcases hz25 with ⟨z1, z2⟩ | ⟨i, hi, z1, z2⟩
        · exact ⟨true, z2, Or.inl ⟨rfl, z1⟩⟩
        · exact ⟨_, z2, Or.inr ⟨i, hi, z1, rfl⟩⟩
      clear hz25
      dsimp only [Option.toList, List.cons_append, List.nil_append]
      refine wi_if_eq hX (tgt := 35) dX12_image_28 (by decide) (by exact b2n_inR _) (fun c28 => ?_) (fun c28 => ?_)
      · skip
        refine wi_iconst hX dX12_image_35 ?_
        first
          | (have q := b2n_t c11
             rw [Bool.not_eq_true', decide_eq_false_iff_not] at q
             exact WA.eq rfl rfl rfl (t36 true (fun _ => Or.inl q) (fun z => nomatch z)))
          | (have q := b2n_t c19
             rw [Bool.not_eq_true', decide_eq_false_iff_not] at q
             exact WA.eq rfl rfl rfl (t36 true (fun _ => Or.inr (Or.inl q)) (fun z => nomatch z)))
          | (have q := b2n_t c28
             refine WA.eq rfl rfl rfl (t36 true (fun _ => ?_) (fun z => nomatch z))
             rcases hNE with ⟨_, q2⟩ | ⟨i, hi, q2, q3⟩
             · exact Or.inl q2
             · have q4 := q3.symm.trans q
               rw [Bool.not_eq_true', decide_eq_false_iff_not] at q4
               exact Or.inr (Or.inr ⟨i, hi, q2, q4⟩))
          | (have q := b2n_f c28
             have q9 := b2n_f c19
             rw [Bool.not_eq_false', decide_eq_true_eq] at q9
             refine WA.eq rfl rfl rfl (t36 false (fun z => nomatch z) (fun _ => ?_))
             rcases hNE with ⟨q2, _⟩ | ⟨i, hi, q2, q3⟩
             · rw [q2] at q; cases q
             · have q4 := q3.symm.trans q
               rw [Bool.not_eq_false', decide_eq_true_eq] at q4
               exact ⟨i, v.toNat, el.toNat, hi, q2, by omega, by omega, by omega, by omega⟩)
      · skip
        refine wi_iconst hX dX12_image_31 ?_
        refine wa_goto hX (tgt := 36) dX12_image_32 (by decide) ?_
        first
          | (have q := b2n_t c11
             rw [Bool.not_eq_true', decide_eq_false_iff_not] at q
             exact WA.eq rfl rfl rfl (t36 true (fun _ => Or.inl q) (fun z => nomatch z)))
          | (have q := b2n_t c19
             rw [Bool.not_eq_true', decide_eq_false_iff_not] at q
             exact WA.eq rfl rfl rfl (t36 true (fun _ => Or.inr (Or.inl q)) (fun z => nomatch z)))
          | (have q := b2n_t c28
             refine WA.eq rfl rfl rfl (t36 true (fun _ => ?_) (fun z => nomatch z))
             rcases hNE with ⟨_, q2⟩ | ⟨i, hi, q2, q3⟩
             · exact Or.inl q2
             · have q4 := q3.symm.trans q
               rw [Bool.not_eq_true', decide_eq_false_iff_not] at q4
               exact Or.inr (Or.inr ⟨i, hi, q2, q4⟩))
          | (have q := b2n_f c28
             have q9 := b2n_f c19
             rw [Bool.not_eq_false', decide_eq_true_eq] at q9
             refine WA.eq rfl rfl rfl (t36 false (fun z => nomatch z) (fun _ => ?_))
             rcases hNE with ⟨q2, _⟩ | ⟨i, hi, q2, q3⟩
             · rw [q2] at q; cases q
             · have q4 := q3.symm.trans q
               rw [Bool.not_eq_false', decide_eq_true_eq] at q4
               exact ⟨i, v.toNat, el.toNat, hi, q2, by omega, by omega, by omega, by omega⟩)
/-- an automorphism that keeps what is below k and takes k to t -/
def AutP (rk : Nat → Nat) (e k t : Nat) : Prop := ∃ im : Nat → Nat, (∀ j, j < k → im j = j) ∧ im k = t ∧ FitP rk rk im k ∧ ExtP rk rk e ((2 ^ k - 1) ||| 2 ^ t) (k + 1) im
def symC (A : Nat → Nat → Bool) (k : Nat) : Nat → Nat
  | 0 => 0
  | z + 1 => symC A k z + (if (decide (k ≤ z) && A k z) = true then 1 else 0)
def symM (A : Nat → Nat → Bool) (e : Nat) : Nat → Nat
  | 0 => 1
  | k + 1 => symM A e k * symC A k e
theorem symC_le {A : Nat → Nat → Bool} {k : Nat} : ∀ z, symC A k z ≤ z := by
  intro z
  induction z with
  | zero => exact Nat.le_refl _
  | succ z ih =>
    unfold symC
    split <;> omega
theorem symC_lo {A : Nat → Nat → Bool} {k : Nat} : ∀ z, z ≤ k → symC A k z = 0 := by
  intro z
  induction z with
  | zero => intro _; rfl
  | succ z ih =>
    intro h
    unfold symC
    rw [ih (by omega), decide_eq_false (show ¬ k ≤ z by omega)]
    rfl
set_option maxHeartbeats 2000000 in
set_option maxRecDepth 100000 in
theorem c_X12_symmetries (hW : WOK l D S0) (d : Nat) {h : AH} {a th : Nat} {c m : Nat} {w : Nat → Nat} {E : Nat → Nat} {R : Nat → Nat → Nat} {b0 b1 b2 : Int} (hI : RI Z DR h a th c w m E R b0 b1 b2) {n : Int} (hn : inR n) : MA l D S0 yX12_symmetries cX12_symmetries 8 (some .int) (d + 14) [.ref a, I n] h 0 0 (fun r h' => Fr (fun x => 120 ≤ x ∧ x ≤ 139) h h' ∧ ((noM n m ∧ (∃ z, r = some (I z)) ∧ RI Z DR h' a 1 c w m E R b0 b1 b2) ∨ ∃ i, i < m ∧ n = (i : Int) ∧ ∃ A : Nat → Nat → Bool, (∀ k t, (A k t = true ↔ AutP (R i) (E i) k t)) ∧ r = some (I ((symM A (E i) (E i) : Nat) : Int)) ∧ RI Z DR h' a 0 c w m E R b0 b1 b2)) (fun _ _ => False) := by
  obtain ⟨row, brk, al, wk, us, kp, pt, k1, kJ⟩ := hI
  refine MA.start hW (by decide) [.val (.ref a), .val (I n), .unset, .unset, .unset, .unset, .unset, .unset] rfl ?_
  rintro X rfl rfl rfl hX
  refine wa_aload_n hX (i := 0) dX12_symmetries_0 rfl rfl ?_
  refine wi_iconst hX dX12_symmetries_1 ?_
  refine wa_put hX 0 k1 (Nat.le_of_ble_eq_true rfl) (by decide +kernel) (by rfl) (by rfl) (by rfl) dX12_symmetries_2 ?_
  refine WA.heap (h2 := hset h a (120, oMod ((0 : Nat) : Int) (c : Int) row brk al wk us kp pt)) rfl ?_
  refine WA.hgq (fun hA hh2 => ?_)
  have ff : Fr (fun x => x = 120) h hA := by rw [hh2]; exact Fr.hset Fr.rf k1 rfl
  replace k1 : hA a = some (120, oMod ((0 : Nat) : Int) (c : Int) row brk al wk us kp pt) := by rw [hh2]; exact hset_eq
  replace kJ := kJ.fr ff (fun x hx => by omega)
  clear hh2
  obtain ⟨⟨hc60, hw, hm24, hMt⟩, kr, kb, kwk, kus, kkp, kpt, ed, N, P, ka, ke, kI, kMat⟩ := id kJ
  refine wa_aload_n hX (i := 0) dX12_symmetries_5 rfl rfl ?_
  refine wa_aload_n hX (i := 0) dX12_symmetries_6 rfl rfl ?_
  refine wa_iload_n hX (i := 1) dX12_symmetries_7 rfl rfl ?_
  refine wa_callV hX (c_X12_no hW (d + 1) k1 ka hm24 hn) (by assumption) (by rfl) (by rfl) (by omega) (nA := 1) (by rfl) (by decide +kernel) rfl (by exact Nat.le_of_ble_eq_true rfl) dX12_symmetries_8 (fun r8 h8 p8 => ?_) (fun _ _ q => q.elim)
  obtain ⟨rfl, qq8⟩ := p8; subst h8
  dsimp only [Option.toList, List.cons_append, List.nil_append]
  refine wi_iconst hX dX12_symmetries_11 ?_
  refine wa_callV hX (c_X12_fails hW d (th := 0) (k := 1) (b := (!decide (0 ≤ n ∧ n < (m : Int)))) k1 (by omega) (by omega)) (by assumption) (by rfl) (by rfl) (by omega) (nA := 2) (by rfl) (by decide +kernel) rfl (by exact Nat.le_of_ble_eq_true rfl) dX12_symmetries_12 (fun r12 h12 p12 => ?_) (fun _ _ q => q.elim)
  obtain ⟨rfl, hh12⟩ := p12
  have f12 : Fr (fun x => x = 120) hA h12 := by rw [hh12]; exact Fr.hset Fr.rf k1 rfl
  replace k1 : h12 a = some (120, oMod ((if ((!decide (0 ≤ n ∧ n < (m : Int)))) = true ∧ (0 : Nat) = 0 then 1 else 0 : Nat) : Int) (c : Int) row brk al wk us kp pt) := by rw [hh12]; exact hset_eq
  replace kJ := kJ.fr f12 (fun x hx => by omega)
  replace ff := ff.trans f12
  clear hh12 f12
  rw [show (((!decide (0 ≤ n ∧ n < (m : Int)))) || (0 : Nat) != 0) = ((!decide (0 ≤ n ∧ n < (m : Int)))) from Bool.or_false _]
  clear kr kb kwk kus kkp kpt ka ke kI kMat hc60 hw hm24 hMt
  obtain ⟨⟨hc60, hw, hm24, hMt⟩, kr, kb, kwk, kus, kkp, kpt, ed, N, P, ka, ke, kI, kMat⟩ := id kJ
  dsimp only [Option.toList, List.cons_append, List.nil_append]
  refine wi_if_eq hX (tgt := 20) dX12_symmetries_15 (by decide) (by exact b2n_inR _) (fun c15 => ?_) (fun c15 => ?_)
  · skip
    have hv15 := b2n_f c15
    have k10 := k1
    rw [hv15, if_neg (fun z => Bool.false_ne_true z.1)] at k10
    rw [Bool.not_eq_false', decide_eq_true_eq] at hv15
    obtain ⟨i, rfl⟩ := Int.eq_ofNat_of_zero_le hv15.1
    have hi : i < m := by omega
    obtain ⟨e3, hN1, hN2⟩ : h12 ed = some (124, aR (.object "java/lang/Object") N (fun j => if j < m then some (P j) else none)) ∧ m ≤ N ∧ N ≤ 100 := by
      rcases ke with z | z
      · exfalso; omega
      · exact z
    obtain ⟨rq, m2, m3, l2, l3, G, g1, g2, g3, g4, g5⟩ := id (kMat i hi)
    have hMi := hMt i hi
    have he := hMi.1
    have hp := p2_le he
    have hp0 := p2_pos (E i)
    obtain ⟨KP9, kkp9⟩ := id kkp
    obtain ⟨A, hA⟩ : ∃ A : Nat → Nat → Bool, ∀ k t, (A k t = true ↔ AutP (R i) (E i) k t) := ⟨fun k t => @decide _ (Classical.propDecidable (AutP (R i) (E i) k t)), fun k t => by
      constructor
      · intro q
        exact @of_decide_eq_true _ (Classical.propDecidable _) q
      · intro q
        exact @decide_eq_true _ (Classical.propDecidable _) q⟩
    refine wa_aload_n hX (i := 0) dX12_symmetries_20 rfl rfl ?_
    refine wa_get hX 4 (by assumption) (by rfl) (by decide +kernel) dX12_symmetries_21 ?_
    refine wa_iload_n hX (i := 1) dX12_symmetries_24 rfl rfl ?_
    refine wa_callV hX (c_AL_get hW d ka e3 (i := i) (q := P i) hi hN1 (by omega) (if_pos hi)) (by assumption) (by rfl) (by rfl) (by omega) (nA := 1) (by rfl) (by decide +kernel) rfl (by exact Nat.le_of_ble_eq_true rfl) dX12_symmetries_25 (fun r25 h25 p25 => ?_) (fun _ _ q => q.elim)
    obtain ⟨rfl, qq25⟩ := p25; subst h25
    dsimp only [Option.toList, List.cons_append, List.nil_append]
    refine wa_ccast hX g1 (by rfl) (by decide +kernel) dX12_symmetries_28 ?_
    refine wa_astore_n hX (i := 2) dX12_symmetries_31 rfl (by first | rfl | assumption) ?_
    dsimp only [List.set]
    refine wi_iconst hX dX12_symmetries_32 ?_
    refine wa_istore_n hX (i := 3) dX12_symmetries_33 rfl (by first | rfl | assumption) ?_
    dsimp only [List.set]
    refine wi_iconst hX dX12_symmetries_34 ?_
    refine wa_istore hX dX12_symmetries_35 (by first | rfl | assumption) ?_
    dsimp only [List.set]
    refine WA.heap (h2 := hset h12 kp (127, aI .int 10 KP9)) (hset_self kkp9).symm ?_
    refine WA.loop (σ := Nat × (Nat → Int) × Slot × Slot × Slot) (fun z => E i - z.1) (fun z => z.1 ≤ E i ∧ okS [z.2.2.1] 0 = true ∧ okS [z.2.2.2.1] 0 = true ∧ okS [z.2.2.2.2] 0 = true) (fun z => hset h12 kp (127, aI .int 10 z.2.1)) (fun z => [.val (.ref a), .val (I (i : Int)), .val (.ref (P i)), .val (I ((symM A (E i) z.1 : Nat) : Int)), .val (I (z.1 : Nat)), z.2.2.1, z.2.2.2.1, z.2.2.2.2]) ?_ (0, KP9, .unset, .unset, .unset) ⟨Nat.zero_le _, rfl, rfl, rfl⟩
    rintro ⟨k, F0, u5, u6, u7⟩ ⟨hk, hu5, hu6, hu7⟩ ih
    dsimp only at hk hu5 hu6 hu7 ⊢
    have g1F := hset_lab (x := (127, aI .int 10 F0)) kkp9 g1 (by decide)
    have t53 : k < E i → WA X (hset h12 kp (127, aI .int 10 F0)) 0 0 53 [.val (.ref a), .val (I (i : Int)), .val (.ref (P i)), .val (I ((symM A (E i) k : Nat) : Int)), .val (I (k : Nat)), .val (I (((0 : Nat) : Int))), .val (I (k : Nat)), u7] [] := by
      intro hke
      refine WA.eq rfl (by rw [show ((0 : Nat) : Int) = ((symC A k k : Nat) : Int) by rw [symC_lo k (Nat.le_refl k)]]) rfl (WA.loop (σ := Nat × (Nat → Int) × Slot) (fun z => E i - z.1) (fun z => k ≤ z.1 ∧ z.1 ≤ E i ∧ okS [z.2.2] 0 = true) (fun z => hset h12 kp (127, aI .int 10 z.2.1)) (fun z => [.val (.ref a), .val (I (i : Int)), .val (.ref (P i)), .val (I ((symM A (E i) k : Nat) : Int)), .val (I (k : Nat)), .val (I ((symC A k z.1 : Nat) : Int)), .val (I (z.1 : Nat)), z.2.2]) ?_ (k, F0, u7) ⟨Nat.le_refl k, hk, hu7⟩)
      rintro ⟨t, F, u7⟩ ⟨hkt, hte, hu7⟩ ih2
      dsimp only at hkt hte hu7 ⊢
      have g1G := hset_lab (x := (127, aI .int 10 F)) kkp9 g1 (by decide)
      have hst : symC A k (t + 1) = symC A k t + (if (decide (k ≤ t) && A k t) = true then 1 else 0) := rfl
      rw [decide_eq_true hkt, Bool.true_and] at hst
      have hsc := symC_le (A := A) (k := k) t
      have t150 : ∀ (F' : Nat → Int) (x y : Nat), t < E i → x = (if A k t = true then 1 else 0) → WA X (hset h12 kp (127, aI .int 10 F')) 0 0 150 [.val (.ref a), .val (I (i : Int)), .val (.ref (P i)), .val (I ((symM A (E i) k : Nat) : Int)), .val (I (k : Nat)), .val (I ((symC A k t : Nat) : Int)), .val (I (t : Nat)), .val (I (y : Int))] [I (x : Int), I ((symC A k t : Nat) : Int)] := by
        intro F' x y hti hx
        refine wi_iadd hX dX12_symmetries_150 ?_
        refine wa_istore hX dX12_symmetries_151 (by first | rfl | assumption) ?_
        dsimp only [List.set]
        refine wi_iinc hX dX12_symmetries_153 rfl ?_
        dsimp only [List.set]
        refine wa_goto hX (tgt := 53) dX12_symmetries_156 (by decide) ?_
        refine WA.eq rfl ?_ rfl (ih2 (t + 1, F', .val (I (y : Int))) ⟨by show k ≤ t + 1; omega, by show t + 1 ≤ _; omega, rfl⟩ (by show _ - (t + 1) < _; omega))
        dsimp only
        rw [hst, ← hx]
        rfl
      have t65 : t < E i → WA X (hset h12 kp (127, aI .int 10 F)) 0 0 65 [.val (.ref a), .val (I (i : Int)), .val (.ref (P i)), .val (I ((symM A (E i) k : Nat) : Int)), .val (I (k : Nat)), .val (I ((symC A k t : Nat) : Int)), .val (I (t : Nat)), .val (I (((0 : Nat) : Int)))] [] := by
        intro hti
        refine WA.loop (σ := Nat × (Nat → Int)) (fun z => k - z.1) (fun z => z.1 ≤ k ∧ ∀ j, j < z.1 → z.2 j = (j : Int)) (fun z => hset h12 kp (127, aI .int 10 z.2)) (fun z => [.val (.ref a), .val (I (i : Int)), .val (.ref (P i)), .val (I ((symM A (E i) k : Nat) : Int)), .val (I (k : Nat)), .val (I ((symC A k t : Nat) : Int)), .val (I (t : Nat)), .val (I (z.1 : Nat))]) ?_ (0, F) ⟨Nat.zero_le _, fun j hj => absurd hj (Nat.not_lt_zero j)⟩
        rintro ⟨j, F2⟩ ⟨hj, hF2⟩ ih3
        dsimp only at hj hF2 ⊢
        have k1H := hset_lab (x := (127, aI .int 10 F2)) kkp9 k10 (by decide)
        have kpH : hset h12 kp (127, aI .int 10 F2) kp = some (127, aI .int 10 F2) := hset_eq
        refine wa_iload hX dX12_symmetries_65 rfl ?_
        refine wa_iload hX dX12_symmetries_67 rfl ?_
        refine wi_icmp_ge hX (tgt := 87) dX12_symmetries_69 (by decide) (by omega) (by omega) (fun c69 => ?_) (fun c69 => ?_)
        · skip
          refine wa_aload_n hX (i := 0) dX12_symmetries_87 rfl rfl ?_
          refine wa_get hX 7 (by assumption) (by rfl) (by decide +kernel) dX12_symmetries_88 ?_
          refine wa_iload hX dX12_symmetries_91 rfl ?_
          refine wa_iload hX dX12_symmetries_93 rfl ?_
          refine wi_iastore hX kpH (by omega) (by omega) (by omega) dX12_symmetries_95 ?_
          rw [hset_hset, Int.toNat_natCast]
          have hjk : j = k := by omega
          have g1I := hset_lab (x := (127, aI .int 10 (up F2 k (t : Int)))) kkp9 g1 (by decide)
          have g2I := hset_lab (x := (127, aI .int 10 (up F2 k (t : Int)))) kkp9 g2 (by decide)
          have k1I := hset_lab (x := (127, aI .int 10 (up F2 k (t : Int)))) kkp9 k10 (by decide)
          have kpI : hset h12 kp (127, aI .int 10 (up F2 k (t : Int))) kp = some (127, aI .int 10 (up F2 k (t : Int))) := hset_eq
          have hK1 : ∀ j, j ≤ k → up F2 k (t : Int) j = ((up (fun j => j) k t j : Nat) : Int) := fun j hj => by
            by_cases g : j = k
            · subst g; rw [up_s, up_s]
            · rw [up_n g, up_n g, hF2 j (by omega)]
          have hi1 : ∀ j, j ≤ k → up (fun j => j) k t j < E i := fun j hj => by
            by_cases g : j = k
            · subst g; rw [up_s]; exact hti
            · rw [up_n g]; show j < E i; omega
          have hbk : 2 ^ k < 2 ^ E i := bit_lt (by omega)
          have hbt : 2 ^ t < 2 ^ E i := bit_lt hti
          have hbk0 := p2_pos k
          have hus : (2 ^ k - 1) ||| 2 ^ t < 2 ^ E i := or_lt (by omega) hbt
          have hA1 : A k t = true ↔ AutP (R i) (E i) k t := hA k t
          refine wi_iconst hX dX12_symmetries_96 ?_
          refine wa_iload hX dX12_symmetries_97 rfl ?_
          refine wn_shl1 hX dX12_symmetries_99 (by rfl) (by omega) ?_
          refine wi_iconst hX dX12_symmetries_100 ?_
          refine wi_isub hX dX12_symmetries_101 ?_
          rw [show (((2 ^ k : Nat) : Int) - 1) = ((2 ^ k - 1 : Nat) : Int) by omega]
          refine wi_iconst hX dX12_symmetries_102 ?_
          refine wa_iload hX dX12_symmetries_103 rfl ?_
          refine wn_shl1 hX dX12_symmetries_105 (by rfl) (by omega) ?_
          refine wn_ior hX dX12_symmetries_106 (by rfl) (by rfl) ?_
          refine wa_istore hX dX12_symmetries_107 (by first | rfl | assumption) ?_
          dsimp only [List.set]
          refine wa_iload hX dX12_symmetries_109 rfl ?_
          refine wa_aload_n hX (i := 2) dX12_symmetries_111 rfl rfl ?_
          refine wa_aload_n hX (i := 2) dX12_symmetries_112 rfl rfl ?_
          refine wa_aload_n hX (i := 0) dX12_symmetries_113 rfl rfl ?_
          refine wa_get hX 7 (by assumption) (by rfl) (by decide +kernel) dX12_symmetries_114 ?_
          refine wa_iload hX dX12_symmetries_117 rfl ?_
          refine wi_iconst hX dX12_symmetries_119 ?_
          refine wi_iadd hX dX12_symmetries_120 ?_
          refine wa_callS hX (c_X12_fits hW d (mo := k) (im := up (fun j => j) k t) g1I g2I g3 g1I g2I g3 he (fun s hs => hMi.le10 hs) (fun s hs => hMi.le10 hs) kpI (by omega) hK1 hi1) (by rfl) (by omega) (nA := 4) (by rfl) (by decide +kernel) rfl (by exact Nat.le_of_ble_eq_true rfl) dX12_symmetries_121 (fun r121 h121 p121 => ?_) (fun _ _ q => q.elim)
          obtain ⟨⟨bf, rfl, hbf⟩, rfl⟩ := p121
          dsimp only [Option.toList, List.cons_append, List.nil_append]
          refine wi_if_eq hX (tgt := 149) dX12_symmetries_124 (by decide) (by exact b2n_inR _) (fun c124 => ?_) (fun c124 => ?_)
          · skip
            refine wi_iconst hX dX12_symmetries_149 ?_
            first
              | (have q := b2n_t c142
                 have q2 := hbf.mp (b2n_t c124)
                 refine t150 _ 1 _ hti ?_
                 rw [if_pos]
                 rcases hG with ⟨_, z1, z2, _⟩ | ⟨z1, _⟩
                 · refine hA1.mpr ⟨im', fun j hj => by rw [z1 j (by omega), up_n (by omega)], by rw [z1 k (by omega), up_s], q2.congr (fun j hj => (z1 j (by omega)).symm), z2⟩
                 · rw [z1] at q; cases q)
              | (refine t150 _ 0 _ hti ?_
                 rw [if_neg]
                 intro q9
                 obtain ⟨im2, y1, y2, y3, y4⟩ := hA1.mp q9
                 have hag : ∀ j, j ≤ k → im2 j = up (fun j => j) k t j := fun j hj => by
                   by_cases g : j = k
                   · subst g; rw [up_s, y2]
                   · rw [up_n g]; exact y1 j (by omega)
                 first
                   | (have q := b2n_f c142
                      rcases hG with ⟨z1, _⟩ | ⟨_, z2⟩
                      · rw [z1] at q; cases q
                      · exact z2 im2 (fun j hj => hag j (by omega)) y4)
                   | (have q := b2n_f c124
                      rw [hbf.mpr (y3.congr hag)] at q
                      cases q))
          · skip
            refine wa_aload_n hX (i := 2) dX12_symmetries_127 rfl rfl ?_
            refine wa_aload_n hX (i := 2) dX12_symmetries_128 rfl rfl ?_
            refine wa_aload_n hX (i := 0) dX12_symmetries_129 rfl rfl ?_
            refine wa_get hX 7 (by assumption) (by rfl) (by decide +kernel) dX12_symmetries_130 ?_
            refine wa_iload hX dX12_symmetries_133 rfl ?_
            refine wi_iconst hX dX12_symmetries_135 ?_
            refine wi_iadd hX dX12_symmetries_136 ?_
            refine wa_iload hX dX12_symmetries_137 rfl ?_
            rw [show (k : Int) + 1 = ((k + 1 : Nat) : Int) by omega]
            refine wa_callS hX (c_X12_goesOn hW g3 g3 he (fun s hs => hMi.le10 hs) (fun s hs => hMi.le10 hs) (by decide) (E i - (k + 1)) (d + (12 - (E i - (k + 1)))) (k + 1) ((2 ^ k - 1) ||| 2 ^ t) _ (up F2 k (t : Int)) (up (fun j => j) k t) (by omega) hus g1I g2I g1I g2I kpI (fun j hj => hK1 j (by omega)) (fun j hj => hi1 j (by omega))) (by rfl) (by omega) (nA := 5) (by rfl) (by decide +kernel) rfl (by exact Nat.le_of_ble_eq_true rfl) dX12_symmetries_139 (fun r139 h139 p139 => ?_) (fun _ _ q => q.elim)
            obtain ⟨v, F3, im', rfl, hh139, hA9, hB9, hG⟩ := p139
            rw [hset_hset] at hh139
            subst hh139
            dsimp only [Option.toList, List.cons_append, List.nil_append]
            refine wi_if_eq hX (tgt := 149) dX12_symmetries_142 (by decide) (by exact b2n_inR _) (fun c142 => ?_) (fun c142 => ?_)
            · skip
              refine wi_iconst hX dX12_symmetries_149 ?_
              first
                | (have q := b2n_t c142
                   have q2 := hbf.mp (b2n_t c124)
                   refine t150 _ 1 _ hti ?_
                   rw [if_pos]
                   rcases hG with ⟨_, z1, z2, _⟩ | ⟨z1, _⟩
                   · refine hA1.mpr ⟨im', fun j hj => by rw [z1 j (by omega), up_n (by omega)], by rw [z1 k (by omega), up_s], q2.congr (fun j hj => (z1 j (by omega)).symm), z2⟩
                   · rw [z1] at q; cases q)
                | (refine t150 _ 0 _ hti ?_
                   rw [if_neg]
                   intro q9
                   obtain ⟨im2, y1, y2, y3, y4⟩ := hA1.mp q9
                   have hag : ∀ j, j ≤ k → im2 j = up (fun j => j) k t j := fun j hj => by
                     by_cases g : j = k
                     · subst g; rw [up_s, y2]
                     · rw [up_n g]; exact y1 j (by omega)
                   first
                     | (have q := b2n_f c142
                        rcases hG with ⟨z1, _⟩ | ⟨_, z2⟩
                        · rw [z1] at q; cases q
                        · exact z2 im2 (fun j hj => hag j (by omega)) y4)
                     | (have q := b2n_f c124
                        rw [hbf.mpr (y3.congr hag)] at q
                        cases q))
            · skip
              refine wi_iconst hX dX12_symmetries_145 ?_
              refine wa_goto hX (tgt := 150) dX12_symmetries_146 (by decide) ?_
              first
                | (have q := b2n_t c142
                   have q2 := hbf.mp (b2n_t c124)
                   refine t150 _ 1 _ hti ?_
                   rw [if_pos]
                   rcases hG with ⟨_, z1, z2, _⟩ | ⟨z1, _⟩
                   · refine hA1.mpr ⟨im', fun j hj => by rw [z1 j (by omega), up_n (by omega)], by rw [z1 k (by omega), up_s], q2.congr (fun j hj => (z1 j (by omega)).symm), z2⟩
                   · rw [z1] at q; cases q)
                | (refine t150 _ 0 _ hti ?_
                   rw [if_neg]
                   intro q9
                   obtain ⟨im2, y1, y2, y3, y4⟩ := hA1.mp q9
                   have hag : ∀ j, j ≤ k → im2 j = up (fun j => j) k t j := fun j hj => by
                     by_cases g : j = k
                     · subst g; rw [up_s, y2]
                     · rw [up_n g]; exact y1 j (by omega)
                   first
                     | (have q := b2n_f c142
                        rcases hG with ⟨z1, _⟩ | ⟨_, z2⟩
                        · rw [z1] at q; cases q
                        · exact z2 im2 (fun j hj => hag j (by omega)) y4)
                     | (have q := b2n_f c124
                        rw [hbf.mpr (y3.congr hag)] at q
                        cases q))
        · skip
          refine wa_aload_n hX (i := 0) dX12_symmetries_72 rfl rfl ?_
          refine wa_get hX 7 (by assumption) (by rfl) (by decide +kernel) dX12_symmetries_73 ?_
          refine wa_iload hX dX12_symmetries_76 rfl ?_
          refine wa_iload hX dX12_symmetries_78 rfl ?_
          refine wi_iastore hX kpH (by omega) (by omega) (by omega) dX12_symmetries_80 ?_
          rw [hset_hset, Int.toNat_natCast]
          refine wi_iinc hX dX12_symmetries_81 rfl ?_
          dsimp only [List.set]
          refine wa_goto hX (tgt := 65) dX12_symmetries_84 (by decide) ?_
          exact ih3 (j + 1, _) ⟨by show j + 1 ≤ k; omega, fill_step (spec := fun j => (j : Int)) hF2⟩ (by show k - (j + 1) < k - j; omega)
      refine wa_iload hX dX12_symmetries_53 rfl ?_
      refine wa_aload_n hX (i := 2) dX12_symmetries_55 rfl rfl ?_
      refine wa_get hX 0 (by assumption) (by rfl) (by decide +kernel) dX12_symmetries_56 ?_
      refine wi_icmp_ge hX (tgt := 159) dX12_symmetries_59 (by decide) (by omega) (by omega) (fun c59 => ?_) (fun c59 => ?_)
      · skip
        refine wa_iload_n hX (i := 3) dX12_symmetries_159 rfl rfl ?_
        refine wa_iload hX dX12_symmetries_160 rfl ?_
        refine wi_imul hX dX12_symmetries_162 ?_
        refine wa_istore_n hX (i := 3) dX12_symmetries_163 rfl (by first | rfl | assumption) ?_
        dsimp only [List.set]
        refine wi_iinc hX dX12_symmetries_164 rfl ?_
        dsimp only [List.set]
        refine wa_goto hX (tgt := 37) dX12_symmetries_167 (by decide) ?_
        have htE : t = E i := by omega
        refine WA.eq rfl ?_ rfl (ih (k + 1, F, .val (I ((symC A k t : Nat) : Int)), .val (I (t : Nat)), u7) ⟨by show k + 1 ≤ _; omega, rfl, rfl, hu7⟩ (by show _ - (k + 1) < _; omega))
        dsimp only
        rw [show symM A (E i) (k + 1) = symM A (E i) k * symC A k (E i) from rfl, htE, Int.natCast_mul]
        rfl
      · skip
        refine wi_iconst hX dX12_symmetries_62 ?_
        refine wa_istore hX dX12_symmetries_63 (by first | rfl | assumption) ?_
        dsimp only [List.set]
        exact t65 (by omega)
    refine wa_iload hX dX12_symmetries_37 rfl ?_
    refine wa_aload_n hX (i := 2) dX12_symmetries_39 rfl rfl ?_
    refine wa_get hX 0 (by assumption) (by rfl) (by decide +kernel) dX12_symmetries_40 ?_
    refine wi_icmp_ge hX (tgt := 170) dX12_symmetries_43 (by decide) (by omega) (by omega) (fun c43 => ?_) (fun c43 => ?_)
    · skip
      refine wa_iload_n hX (i := 3) dX12_symmetries_170 rfl rfl ?_
      refine wa_iret hX dX12_symmetries_171 ?_
      have hke : k = E i := by omega
      have kJK := kJ.setK F0
      have fK : Fr (fun x => x = 127) h12 (hset h12 kp (127, aI .int 10 F0)) := Fr.hset Fr.rf kkp9 rfl
      exact ⟨(ff.mono (fun x hx => by omega)).trans (fK.mono (fun x hx => by omega)), Or.inr ⟨i, hi, rfl, A, hA, by rw [hke], row, brk, al, wk, us, kp, pt, fK _ _ _ k10 (by omega), kJK⟩⟩
    · skip
      refine wi_iconst hX dX12_symmetries_46 ?_
      refine wa_istore hX dX12_symmetries_47 (by first | rfl | assumption) ?_
      dsimp only [List.set]
      refine wa_iload hX dX12_symmetries_49 rfl ?_
      refine wa_istore hX dX12_symmetries_51 (by first | rfl | assumption) ?_
      dsimp only [List.set]
      exact t53 (by omega)
  · skip
    refine wi_iconst hX dX12_symmetries_18 ?_
    refine wa_iret hX dX12_symmetries_19 ?_
    have z := b2n_t c15
    rw [z, if_pos ⟨rfl, rfl⟩] at k1
    rw [Bool.not_eq_true', decide_eq_false_iff_not] at z
    exact ⟨ff.mono (fun x hx => by omega), Or.inl ⟨z, ⟨_, rfl⟩, row, brk, al, wk, us, kp, pt, k1, kJ⟩⟩
end C9b
