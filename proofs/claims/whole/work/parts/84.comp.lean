/-! The reference (X12): component -/
theorem ntz_le : ∀ s, s < 1024 → ntz s ≤ 32 := by decide +kernel
def cmpN (rk : Nat → Nat) (e k : Nat) : Nat → Nat
  | 0 => k
  | z + 1 => if (z.testBit k && cirM rk z e) = true then min (cmpN rk e k z) (ntz z) else cmpN rk e k z
theorem cmpN_le {rk : Nat → Nat} {e k : Nat} : ∀ z, cmpN rk e k z ≤ k := by
  intro z
  induction z with
  | zero => exact Nat.le_refl k
  | succ z ih =>
    unfold cmpN
    split <;> omega
section C84
variable {l : Launch} {D : va_G} {S0 : State} {Z : Nat → Prop} {DR : (Nat → Nat) → Nat → Nat → Option (Nat → Nat) → Prop}
set_option maxHeartbeats 2000000 in
set_option maxRecDepth 100000 in
theorem c_X12_component (hW : WOK l D S0) (d : Nat) {h : AH} {a th : Nat} {c m : Nat} {w : Nat → Nat} {E : Nat → Nat} {R : Nat → Nat → Nat} {b0 b1 b2 : Int} (hI : RI Z DR h a th c w m E R b0 b1 b2) {n el : Int} (hn : inR n) (hl : inR el) : MA l D S0 yX12_component cX12_component 6 (some .int) (d + 5) [.ref a, I n, I el] h 0 0 (fun r h' => Fr (fun x => x = 120) h h' ∧ (((noM n m ∨ ∃ i, i < m ∧ n = (i : Int) ∧ ¬ (0 ≤ el ∧ el < ((E i : Nat) : Int))) ∧ (∃ z, r = some (I z)) ∧ RI Z DR h' a 1 c w m E R b0 b1 b2) ∨ ∃ i k : Nat, i < m ∧ n = (i : Int) ∧ k < E i ∧ el = (k : Int) ∧ r = some (I (cmpN (R i) (E i) k (2 ^ E i) : Nat)) ∧ RI Z DR h' a 0 c w m E R b0 b1 b2)) (fun _ _ => False) := by
  obtain ⟨row, brk, al, wk, us, kp, pt, k1, kJ⟩ := hI
  refine MA.start hW (by decide) [.val (.ref a), .val (I n), .val (I el), .unset, .unset, .unset] rfl ?_
  rintro X rfl rfl rfl hX
  refine wa_aload_n hX (i := 0) dX12_component_0 rfl rfl ?_
  refine wi_iconst hX dX12_component_1 ?_
  refine wa_put hX 0 k1 (Nat.le_of_ble_eq_true rfl) (by decide +kernel) (by rfl) (by rfl) (by rfl) dX12_component_2 ?_
  refine WA.heap (h2 := hset h a (120, oMod ((0 : Nat) : Int) (c : Int) row brk al wk us kp pt)) rfl ?_
  refine WA.hgq (fun hA hh2 => ?_)
  have ff : Fr (fun x => x = 120) h hA := by rw [hh2]; exact Fr.hset Fr.rf k1 rfl
  replace k1 : hA a = some (120, oMod ((0 : Nat) : Int) (c : Int) row brk al wk us kp pt) := by rw [hh2]; exact hset_eq
  replace kJ := kJ.fr ff (fun x hx => by omega)
  clear hh2
  obtain ⟨⟨hc60, hw, hm24, hMt⟩, kr, kb, kwk, kus, kkp, kpt, ed, N, P, ka, ke, kI, kMat⟩ := id kJ
  refine wa_aload_n hX (i := 0) dX12_component_5 rfl rfl ?_
  refine wa_aload_n hX (i := 0) dX12_component_6 rfl rfl ?_
  refine wa_iload_n hX (i := 1) dX12_component_7 rfl rfl ?_
  refine wa_iload_n hX (i := 2) dX12_component_8 rfl rfl ?_
  have h4E : ∀ j, j < m → ∃ lp rq m2 m3 l2 l3, hA (P j) = some (lp, oRef (E j) rq m2 m3 l2 l3) := fun j hj => by
    obtain ⟨rq, m2, m3, l2, l3, G, g1, g2⟩ := kMat j hj
    exact ⟨130, rq, m2, m3, l2, l3, g1⟩
  refine wa_callV hX (c_X12_noElement hW d k1 ka (ke.imp (fun q => q.1) id) hm24 h4E (fun j hj => (hMt j hj).1) hn hl) (by assumption) (by rfl) (by rfl) (by omega) (nA := 2) (by rfl) (by decide +kernel) rfl (by exact Nat.le_of_ble_eq_true rfl) dX12_component_9 (fun r9 h9 p9 => ?_) (fun _ _ q => q.elim)
  obtain ⟨hq9, hz9⟩ := p9
  subst h9
  obtain ⟨NE, rfl, hNE⟩ : ∃ NE : Bool, r9 = some (I ((b2n NE : Nat) : Int)) ∧ ((NE = true ∧ noM n m) ∨ ∃ i, i < m ∧ n = (i : Int) ∧ NE = !decide (0 ≤ el ∧ el < ((E i : Nat) : Int))) := by
    rcases hz9 with ⟨z1, z2⟩ | ⟨i, hi, z1, z2⟩
    · exact ⟨true, z2, Or.inl ⟨rfl, z1⟩⟩
    · exact ⟨_, z2, Or.inr ⟨i, hi, z1, rfl⟩⟩
  clear hz9
  dsimp only [Option.toList, List.cons_append, List.nil_append]
  refine wi_iconst hX dX12_component_12 ?_
  refine wa_callV hX (c_X12_fails hW d (th := 0) (k := 1) (b := NE) k1 (by omega) (by omega)) (by assumption) (by rfl) (by rfl) (by omega) (nA := 2) (by rfl) (by decide +kernel) rfl (by exact Nat.le_of_ble_eq_true rfl) dX12_component_13 (fun r13 h13 p13 => ?_) (fun _ _ q => q.elim)
  obtain ⟨rfl, hh13⟩ := p13
  have f13 : Fr (fun x => x = 120) hA h13 := by rw [hh13]; exact Fr.hset Fr.rf k1 rfl
  replace k1 : h13 a = some (120, oMod ((if (NE) = true ∧ (0 : Nat) = 0 then 1 else 0 : Nat) : Int) (c : Int) row brk al wk us kp pt) := by rw [hh13]; exact hset_eq
  replace kJ := kJ.fr f13 (fun x hx => by omega)
  replace ff := ff.trans f13
  clear hh13 f13
  rw [show ((NE) || (0 : Nat) != 0) = (NE) from Bool.or_false _]
  clear kr kb kwk kus kkp kpt ka ke kI kMat hc60 hw hm24 hMt
  obtain ⟨⟨hc60, hw, hm24, hMt⟩, kr, kb, kwk, kus, kkp, kpt, ed, N, P, ka, ke, kI, kMat⟩ := id kJ
  dsimp only [Option.toList, List.cons_append, List.nil_append]
  refine wi_if_eq hX (tgt := 21) dX12_component_16 (by decide) (by exact b2n_inR _) (fun c16 => ?_) (fun c16 => ?_)
  · skip
    have hv16 := b2n_f c16
    rw [hv16, if_neg (fun z => Bool.false_ne_true z.1)] at k1
    obtain ⟨i, hi, rfl, hNE2⟩ : ∃ i, i < m ∧ n = (i : Int) ∧ NE = !decide (0 ≤ el ∧ el < ((E i : Nat) : Int)) := by
      rcases hNE with ⟨z, _⟩ | z
      · rw [z] at hv16; cases hv16
      · exact z
    rw [hNE2, Bool.not_eq_false', decide_eq_true_eq] at hv16
    obtain ⟨k, rfl⟩ := Int.eq_ofNat_of_zero_le hv16.1
    have hk : k < E i := by omega
    obtain ⟨e3, hN1, hN2⟩ : h13 ed = some (124, aR (.object "java/lang/Object") N (fun j => if j < m then some (P j) else none)) ∧ m ≤ N ∧ N ≤ 100 := by
      rcases ke with z | z
      · exfalso; omega
      · exact z
    obtain ⟨rq, m2, m3, l2, l3, G, g1, g2, g3, g4, g5⟩ := id (kMat i hi)
    have hMi := hMt i hi
    have he := hMi.1
    have hp := p2_le he
    have hp0 := p2_pos (E i)
    refine wa_aload_n hX (i := 0) dX12_component_21 rfl rfl ?_
    refine wa_get hX 4 (by assumption) (by rfl) (by decide +kernel) dX12_component_22 ?_
    refine wa_iload_n hX (i := 1) dX12_component_25 rfl rfl ?_
    refine wa_callV hX (c_AL_get hW d ka e3 (i := i) (q := P i) hi hN1 (by omega) (if_pos hi)) (by assumption) (by rfl) (by rfl) (by omega) (nA := 1) (by rfl) (by decide +kernel) rfl (by exact Nat.le_of_ble_eq_true rfl) dX12_component_26 (fun r26 h26 p26 => ?_) (fun _ _ q => q.elim)
    obtain ⟨rfl, qq26⟩ := p26; subst h26
    dsimp only [Option.toList, List.cons_append, List.nil_append]
    refine wa_ccast hX g1 (by rfl) (by decide +kernel) dX12_component_29 ?_
    refine wa_astore_n hX (i := 3) dX12_component_32 rfl rfl ?_
    dsimp only [List.set]
    refine wa_iload_n hX (i := 2) dX12_component_33 rfl rfl ?_
    refine wa_istore hX dX12_component_34 rfl ?_
    dsimp only [List.set]
    refine wi_iconst hX dX12_component_36 ?_
    refine wa_istore hX dX12_component_37 rfl ?_
    dsimp only [List.set]
    refine WA.loop (σ := Nat) (fun z => 2 ^ E i - z) (fun z => z ≤ 2 ^ E i) (fun _ => h13) (fun z => [.val (.ref a), .val (I (i : Int)), .val (I (k : Int)), .val (.ref (P i)), .val (I (cmpN (R i) (E i) k z : Nat)), .val (I (z : Nat))]) ?_ 0 (Nat.zero_le _)
    intro z hz ih
    have hst : cmpN (R i) (E i) k (z + 1) = if (z.testBit k && cirM (R i) z (E i)) = true then min (cmpN (R i) (E i) k z) (ntz z) else cmpN (R i) (E i) k z := rfl
    have hcm := cmpN_le (rk := R i) (e := E i) (k := k) z
    have hcm2 := cmpN_le (rk := R i) (e := E i) (k := k) (z + 1)
    have t79 : z < 2 ^ E i → WA X h13 0 0 79 [.val (.ref a), .val (I (i : Int)), .val (I (k : Int)), .val (.ref (P i)), .val (I (cmpN (R i) (E i) k (z + 1) : Nat)), .val (I (z : Nat))] [] := by
      intro hze
      refine wi_iinc hX dX12_component_79 rfl ?_
      dsimp only [List.set]
      refine wa_goto hX (tgt := 39) dX12_component_82 (by decide) ?_
      exact ih (z + 1) (by omega) (by omega)
    refine wa_iload hX dX12_component_39 rfl ?_
    refine wa_aload_n hX (i := 3) dX12_component_41 rfl rfl ?_
    refine wa_callV hX (c_X11_full hW d g1 he) (by assumption) (by rfl) (by rfl) (by omega) (nA := 0) (by rfl) (by decide +kernel) rfl (by exact Nat.le_of_ble_eq_true rfl) dX12_component_42 (fun r42 h42 p42 => ?_) (fun _ _ q => q.elim)
    obtain ⟨rfl, qq42⟩ := p42; subst h42
    dsimp only [Option.toList, List.cons_append, List.nil_append]
    refine wi_icmp_gt hX (tgt := 85) dX12_component_45 (by decide) (by omega) (by omega) (fun c45 => ?_) (fun c45 => ?_)
    · skip
      refine wa_iload hX dX12_component_85 rfl ?_
      refine wa_iret hX dX12_component_87 ?_
      exact ⟨ff, Or.inr ⟨i, k, hi, rfl, hk, rfl, by rw [show z = 2 ^ E i by omega], row, brk, al, wk, us, kp, pt, k1, kJ⟩⟩
    · skip
      refine wa_iload hX dX12_component_48 rfl ?_
      refine wa_iload_n hX (i := 2) dX12_component_50 rfl rfl ?_
      refine wn_ishr hX dX12_component_51 (by rfl) (by rfl) (by omega) (by omega) ?_
      refine wi_iconst hX dX12_component_52 ?_
      refine wn_iand hX dX12_component_53 (by rfl) (by rfl) ?_
      rw [bit1]
      refine wi_iconst hX dX12_component_54 ?_
      refine wi_icmp_ne hX (tgt := 79) dX12_component_55 (by decide) (by first | exact b2n_inR _ | decide +kernel) (by first | exact b2n_inR _ | decide +kernel) (fun c55 => ?_) (fun c55 => ?_)
      · skip
        refine WA.eq rfl ?_ rfl (t79 (by omega))
        rw [hst]
        first
          | (have q1 := b2n_1 c55; have q2 := b2n_f c64; rw [q1, q2]; rfl)
          | (have q1 := b2n_1 c55
             have q2 := b2n_t c64
             rw [q1, q2, show min ((cmpN (R i) (E i) k z : Nat) : Int) ((ntz z : Nat) : Int) = ((min (cmpN (R i) (E i) k z) (ntz z) : Nat) : Int) by omega]; rfl)
          | (have q1 : z.testBit k = false := by
               cases hb : z.testBit k
               · rfl
               · rw [hb] at c55; exact absurd rfl c55
             rw [q1]; rfl)
      · skip
        refine wa_aload_n hX (i := 3) dX12_component_58 rfl rfl ?_
        refine wa_iload hX dX12_component_59 rfl ?_
        refine wa_callV hX (c_X11_isCircuit hW d g1 g2 g3 he (fun s hs => hMi.le10 hs) (s := z) (by omega)) (by assumption) (by rfl) (by rfl) (by omega) (nA := 1) (by rfl) (by decide +kernel) rfl (by exact Nat.le_of_ble_eq_true rfl) dX12_component_61 (fun r61 h61 p61 => ?_) (fun _ _ q => q.elim)
        obtain ⟨rfl, qq61⟩ := p61; subst h61
        dsimp only [Option.toList, List.cons_append, List.nil_append]
        refine wi_if_eq hX (tgt := 79) dX12_component_64 (by decide) (by exact b2n_inR _) (fun c64 => ?_) (fun c64 => ?_)
        · skip
          refine WA.eq rfl ?_ rfl (t79 (by omega))
          rw [hst]
          first
            | (have q1 := b2n_1 c55; have q2 := b2n_f c64; rw [q1, q2]; rfl)
            | (have q1 := b2n_1 c55
               have q2 := b2n_t c64
               rw [q1, q2, show min ((cmpN (R i) (E i) k z : Nat) : Int) ((ntz z : Nat) : Int) = ((min (cmpN (R i) (E i) k z) (ntz z) : Nat) : Int) by omega]; rfl)
            | (have q1 : z.testBit k = false := by
                 cases hb : z.testBit k
                 · rfl
                 · rw [hb] at c55; exact absurd rfl c55
               rw [q1]; rfl)
        · skip
          refine wa_iload hX dX12_component_67 rfl ?_
          refine wa_iload hX dX12_component_69 rfl ?_
          have hnz := ntz_le z (by omega)
          refine wa_callS hX (c_J6_ntz hW d z (by omega)) (by rfl) (by omega) (nA := 1) (by rfl) (by decide +kernel) rfl (by exact Nat.le_of_ble_eq_true rfl) dX12_component_71 (fun r71 h71 p71 => ?_) (fun _ _ q => q.elim)
          obtain ⟨rfl, qq71⟩ := p71; subst h71
          dsimp only [Option.toList, List.cons_append, List.nil_append]
          refine wi_min hX (by decide +kernel) rfl (by exact Nat.le_of_ble_eq_true rfl) (by omega) (by omega) dX12_component_74 ?_
          refine wa_istore hX dX12_component_77 rfl ?_
          dsimp only [List.set]
          refine WA.eq rfl ?_ rfl (t79 (by omega))
          rw [hst]
          first
            | (have q1 := b2n_1 c55; have q2 := b2n_f c64; rw [q1, q2]; rfl)
            | (have q1 := b2n_1 c55
               have q2 := b2n_t c64
               rw [q1, q2, show min ((cmpN (R i) (E i) k z : Nat) : Int) ((ntz z : Nat) : Int) = ((min (cmpN (R i) (E i) k z) (ntz z) : Nat) : Int) by omega]; rfl)
            | (have q1 : z.testBit k = false := by
                 cases hb : z.testBit k
                 · rfl
                 · rw [hb] at c55; exact absurd rfl c55
               rw [q1]; rfl)
  · skip
    refine wi_iconst hX dX12_component_19 ?_
    refine wa_iret hX dX12_component_20 ?_
    have z := b2n_t c16
    rw [z, if_pos ⟨rfl, rfl⟩] at k1
    refine ⟨ff, Or.inl ⟨?_, ⟨_, rfl⟩, row, brk, al, wk, us, kp, pt, k1, kJ⟩⟩
    rcases hNE with ⟨_, q⟩ | ⟨i, hi, q, q2⟩
    · exact Or.inl q
    · have q3 := q2.symm.trans z
      rw [Bool.not_eq_true', decide_eq_false_iff_not] at q3
      exact Or.inr ⟨i, hi, q, q3⟩
end C84
