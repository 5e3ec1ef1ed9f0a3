/-! The reference (X12): common -/
section C90
variable {l : Launch} {D : va_G} {S0 : State} {Z : Nat → Prop} {DR : (Nat → Nat) → Nat → Nat → Option (Nat → Nat) → Prop}
set_option maxHeartbeats 2000000 in
set_option maxRecDepth 100000 in
theorem c_X12_common (hW : WOK l D S0) (d : Nat) {h : AH} {a th : Nat} {c m : Nat} {w : Nat → Nat} {E : Nat → Nat} {R : Nat → Nat → Nat} {b0 b1 b2 : Int} (hI : RI Z DR h a th c w m E R b0 b1 b2) {n v : Int} (hn : inR n) (hv : inR v) : MA l D S0 yX12_common cX12_common 3 (some .int) (d + 6) [.ref a, I n, I v] h 0 0 (fun r h' => Fr (fun x => x = 120) h h' ∧ (((∃ z, r = some (I z)) ∧ (((noM n m ∨ noM v m) ∧ RI Z DR h' a 1 c w m E R b0 b1 b2) ∨ ∃ i j : Nat, i < m ∧ n = (i : Int) ∧ j < m ∧ v = (j : Int) ∧ E i ≠ E j ∧ RI Z DR h' a 2 c w m E R b0 b1 b2)) ∨ ∃ i j : Nat, i < m ∧ n = (i : Int) ∧ j < m ∧ v = (j : Int) ∧ E i = E j ∧ r = some (I (mstN (R i) (R j) (2 ^ E i) : Nat)) ∧ RI Z DR h' a 0 c w m E R b0 b1 b2)) (fun _ _ => False) := by
  obtain ⟨row9, brk9, al9, wk9, us9, kp9, pt9, k9, _⟩ := id hI
  refine MA.start hW (by decide) [.val (.ref a), .val (I n), .val (I v)] rfl ?_
  rintro X rfl rfl rfl hX
  refine wa_aload_n hX (i := 0) dX12_common_0 rfl rfl ?_
  refine wa_iload_n hX (i := 1) dX12_common_1 rfl rfl ?_
  refine wa_iload_n hX (i := 2) dX12_common_2 rfl rfl ?_
  refine wa_callV hX (c_X12_cannotMeet hW d hI hn hv) (by assumption) (by rfl) (by rfl) (by omega) (nA := 2) (by rfl) (by decide +kernel) rfl (by exact Nat.le_of_ble_eq_true rfl) dX12_common_3 (fun r3 h3 p3 => ?_) (fun _ _ q => q.elim)
  obtain ⟨ff, hz⟩ := p3
  obtain ⟨b, rfl, hb⟩ : ∃ b : Bool, r3 = some (I ((b2n b : Nat) : Int)) ∧ ((b = true ∧ (((noM n m ∨ noM v m) ∧ RI Z DR h3 a 1 c w m E R b0 b1 b2) ∨ ∃ i j : Nat, i < m ∧ n = (i : Int) ∧ j < m ∧ v = (j : Int) ∧ E i ≠ E j ∧ RI Z DR h3 a 2 c w m E R b0 b1 b2)) ∨ (b = false ∧ ∃ i j : Nat, i < m ∧ n = (i : Int) ∧ j < m ∧ v = (j : Int) ∧ E i = E j ∧ RI Z DR h3 a 0 c w m E R b0 b1 b2)) := by
    rcases hz with ⟨z1, z2, z3⟩ | ⟨i, j, z1, z2, z3, z4, ⟨z5, z6, z7⟩ | ⟨z5, z6, z7⟩⟩
    · exact ⟨true, z2, Or.inl ⟨rfl, Or.inl ⟨z1, z3⟩⟩⟩
    · exact ⟨true, z6, Or.inl ⟨rfl, Or.inr ⟨i, j, z1, z2, z3, z4, z5, z7⟩⟩⟩
    · exact ⟨false, z6, Or.inr ⟨rfl, i, j, z1, z2, z3, z4, z5, z7⟩⟩
  clear hz
  dsimp only [Option.toList, List.cons_append, List.nil_append]
  refine wi_if_eq hX (tgt := 13) dX12_common_6 (by decide) (by exact b2n_inR _) (fun c6 => ?_) (fun c6 => ?_)
  · skip
    have hf := b2n_f c6
    obtain ⟨i, j, hi, rfl, hj, rfl, hE, hI2⟩ : ∃ i j : Nat, i < m ∧ n = (i : Int) ∧ j < m ∧ v = (j : Int) ∧ E i = E j ∧ RI Z DR h3 a 0 c w m E R b0 b1 b2 := by
      rcases hb with ⟨z, _⟩ | ⟨_, z⟩
      · rw [z] at hf; cases hf
      · exact z
    obtain ⟨row, brk, al, wk, us, kp, pt, k1, kJ⟩ := id hI2
    obtain ⟨⟨hc60, hw, hm24, hMt⟩, kr, kb, kwk, kus, kkp, kpt, ed, N, P, ka, ke, kI, kMat⟩ := id kJ
    obtain ⟨e3, hN1, hN2⟩ : h3 ed = some (124, aR (.object "java/lang/Object") N (fun j => if j < m then some (P j) else none)) ∧ m ≤ N ∧ N ≤ 100 := by
      rcases ke with z | z
      · exfalso; omega
      · exact z
    obtain ⟨rq, m2, m3, l2, l3, G, g1, g2, g3, g4, g5⟩ := id (kMat i hi)
    have hMi := hMt i hi
    have he := hMi.1
    have hp := p2_le he
    have hp0 := p2_pos (E i)
    obtain ⟨rq', m2', m3', l2', l3', G', u1, u2, u3, u4, u5⟩ := id (kMat j hj)
    rw [← hE] at u1 u3
    have hMj := hMt j hj
    rw [← hE] at hMj
    refine wa_aload_n hX (i := 0) dX12_common_13 rfl rfl ?_
    refine wa_iload_n hX (i := 1) dX12_common_14 rfl rfl ?_
    refine wa_iload_n hX (i := 2) dX12_common_15 rfl rfl ?_
    refine wa_callV hX (c_X12_most hW d k1 ka e3 hN1 hN2 hi hj g1 g2 g3 u1 u2 u3 he (fun s hs => hMi.le10 hs) (fun s hs => hMj.le10 hs)) (by assumption) (by rfl) (by rfl) (by omega) (nA := 2) (by rfl) (by decide +kernel) rfl (by exact Nat.le_of_ble_eq_true rfl) dX12_common_16 (fun r16 h16 p16 => ?_) (fun _ _ q => q.elim)
    obtain ⟨rfl, qq16⟩ := p16; subst h16
    dsimp only [Option.toList, List.cons_append, List.nil_append]
    refine wa_iret hX dX12_common_19 ?_
    first
      | (have z := b2n_t c6
         rcases hb with ⟨_, q⟩ | ⟨q, _⟩
         · exact ⟨ff, Or.inl ⟨⟨_, rfl⟩, q⟩⟩
         · rw [q] at z; cases z)
      | exact ⟨ff, Or.inr ⟨i, j, hi, rfl, hj, rfl, hE, rfl, hI2⟩⟩
  · skip
    refine wi_iconst hX dX12_common_9 ?_
    refine wa_goto hX (tgt := 19) dX12_common_10 (by decide) ?_
    refine wa_iret hX dX12_common_19 ?_
    first
      | (have z := b2n_t c6
         rcases hb with ⟨_, q⟩ | ⟨q, _⟩
         · exact ⟨ff, Or.inl ⟨⟨_, rfl⟩, q⟩⟩
         · rw [q] at z; cases z)
      | exact ⟨ff, Or.inr ⟨i, j, hi, rfl, hj, rfl, hE, rfl, hI2⟩⟩
end C90
