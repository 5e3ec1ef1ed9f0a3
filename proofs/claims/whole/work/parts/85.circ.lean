/-! The reference (X12): circuitWith -/
def cwM (rk : Nat → Nat) (e s k : Nat) : Nat → Nat
  | 0 => 2 ^ k
  | z + 1 => cwM rk e s k z ||| (if (s.testBit z && bsB rk e (sdf s (2 ^ z) ||| 2 ^ k)) = true then 2 ^ z else 0)
theorem cwM_lt {rk : Nat → Nat} {e s k : Nat} (hk : k < e) : ∀ z, z ≤ e → cwM rk e s k z < 2 ^ e := by
  intro z
  induction z with
  | zero => intro _; exact bit_lt hk
  | succ z ih =>
    intro hz
    unfold cwM
    refine or_lt (ih (by omega)) ?_
    split
    · exact bit_lt (by omega)
    · exact Nat.two_pow_pos e
section C85
variable {l : Launch} {D : va_G} {S0 : State} {Z : Nat → Prop} {DR : (Nat → Nat) → Nat → Nat → Option (Nat → Nat) → Prop}
set_option maxHeartbeats 2000000 in
set_option maxRecDepth 100000 in
theorem c_X12_circuitWith (hW : WOK l D S0) (d : Nat) {h : AH} {a th : Nat} {c m : Nat} {w : Nat → Nat} {E : Nat → Nat} {R : Nat → Nat → Nat} {b0 b1 b2 : Int} (hI : RI Z DR h a th c w m E R b0 b1 b2) {n s el : Int} (hn : inR n) (hs : inR s) (hl : inR el) : MA l D S0 yX12_circuitWith cX12_circuitWith 7 (some .int) (d + 5) [.ref a, I n, I s, I el] h 0 0 (fun r h' => Fr (fun x => x = 120) h h' ∧ (((noM n m ∨ ∃ i, i < m ∧ n = (i : Int) ∧ ¬ (0 ≤ el ∧ el < ((E i : Nat) : Int))) ∧ (∃ z, r = some (I z)) ∧ RI Z DR h' a 1 c w m E R b0 b1 b2) ∨ ∃ i k : Nat, i < m ∧ n = (i : Int) ∧ k < E i ∧ el = (k : Int) ∧ (((¬ (0 ≤ s ∧ s < ((2 ^ E i : Nat) : Int)) ∨ ∃ t : Nat, s = (t : Int) ∧ t < 2 ^ E i ∧ bsB (R i) (E i) t = false) ∧ (∃ z, r = some (I z)) ∧ RI Z DR h' a 2 c w m E R b0 b1 b2) ∨ ∃ t : Nat, s = (t : Int) ∧ t < 2 ^ E i ∧ bsB (R i) (E i) t = true ∧ ((t.testBit k = true ∧ (∃ z, r = some (I z)) ∧ RI Z DR h' a 3 c w m E R b0 b1 b2) ∨ (t.testBit k = false ∧ r = some (I (cwM (R i) (E i) t k (E i) : Nat)) ∧ RI Z DR h' a 0 c w m E R b0 b1 b2))))) (fun _ _ => False) := by
  obtain ⟨row, brk, al, wk, us, kp, pt, k1, kJ⟩ := hI
  refine MA.start hW (by decide) [.val (.ref a), .val (I n), .val (I s), .val (I el), .unset, .unset, .unset] rfl ?_
  rintro X rfl rfl rfl hX
  refine wa_aload_n hX (i := 0) dX12_circuitWith_0 rfl rfl ?_
  refine wi_iconst hX dX12_circuitWith_1 ?_
  refine wa_put hX 0 k1 (Nat.le_of_ble_eq_true rfl) (by decide +kernel) (by rfl) (by rfl) (by rfl) dX12_circuitWith_2 ?_
  refine WA.heap (h2 := hset h a (120, oMod ((0 : Nat) : Int) (c : Int) row brk al wk us kp pt)) rfl ?_
  refine WA.hgq (fun hA hh2 => ?_)
  have ff : Fr (fun x => x = 120) h hA := by rw [hh2]; exact Fr.hset Fr.rf k1 rfl
  replace k1 : hA a = some (120, oMod ((0 : Nat) : Int) (c : Int) row brk al wk us kp pt) := by rw [hh2]; exact hset_eq
  replace kJ := kJ.fr ff (fun x hx => by omega)
  clear hh2
  obtain ⟨⟨hc60, hw, hm24, hMt⟩, kr, kb, kwk, kus, kkp, kpt, ed, N, P, ka, ke, kI, kMat⟩ := id kJ
  refine wa_aload_n hX (i := 0) dX12_circuitWith_5 rfl rfl ?_
  refine wa_aload_n hX (i := 0) dX12_circuitWith_6 rfl rfl ?_
  refine wa_iload_n hX (i := 1) dX12_circuitWith_7 rfl rfl ?_
  refine wa_iload_n hX (i := 3) dX12_circuitWith_8 rfl rfl ?_
  have h4E : ∀ j, j < m → ∃ lp rq m2 m3 l2 l3, hA (P j) = some (lp, oRef (E j) rq m2 m3 l2 l3) := fun j hj => by
    obtain ⟨rq, m2, m3, l2, l3, G, g1, g2⟩ := kMat j hj
    exact ⟨130, rq, m2, m3, l2, l3, g1⟩
  refine wa_callV hX (c_X12_noElement hW d k1 ka (ke.imp (fun q => q.1) id) hm24 h4E (fun j hj => (hMt j hj).1) hn hl) (by assumption) (by rfl) (by rfl) (by omega) (nA := 2) (by rfl) (by decide +kernel) rfl (by exact Nat.le_of_ble_eq_true rfl) dX12_circuitWith_9 (fun r9 h9 p9 => ?_) (fun _ _ q => q.elim)
  obtain ⟨hq9, hz9⟩ := p9
  subst h9
  obtain ⟨NE, rfl, hNE⟩ : ∃ NE : Bool, r9 = some (I ((b2n NE : Nat) : Int)) ∧ ((NE = true ∧ noM n m) ∨ ∃ i, i < m ∧ n = (i : Int) ∧ NE = !decide (0 ≤ el ∧ el < ((E i : Nat) : Int))) := by
    rcases hz9 with ⟨z1, z2⟩ | ⟨i, hi, z1, z2⟩
    · exact ⟨true, z2, Or.inl ⟨rfl, z1⟩⟩
    · exact ⟨_, z2, Or.inr ⟨i, hi, z1, rfl⟩⟩
  clear hz9
  dsimp only [Option.toList, List.cons_append, List.nil_append]
  refine wi_iconst hX dX12_circuitWith_12 ?_
  refine wa_callV hX (c_X12_fails hW d (th := 0) (k := 1) (b := NE) k1 (by omega) (by omega)) (by assumption) (by rfl) (by rfl) (by omega) (nA := 2) (by rfl) (by decide +kernel) rfl (by exact Nat.le_of_ble_eq_true rfl) dX12_circuitWith_13 (fun r13 h13 p13 => ?_) (fun _ _ q => q.elim)
  obtain ⟨rfl, hh13⟩ := p13
  have f13 : Fr (fun x => x = 120) hA h13 := by rw [hh13]; exact Fr.hset Fr.rf k1 rfl
  replace k1 : h13 a = some (120, oMod ((if (NE) = true ∧ (0 : Nat) = 0 then 1 else 0 : Nat) : Int) (c : Int) row brk al wk us kp pt) := by rw [hh13]; exact hset_eq
  replace kJ := kJ.fr f13 (fun x hx => by omega)
  replace ff := ff.trans f13
  clear hh13 f13
  rw [show ((NE) || (0 : Nat) != 0) = (NE) from Bool.or_false _]
  clear kr kb kwk kus kkp kpt ka ke kI kMat hc60 hw hm24 hMt
  obtain ⟨⟨hc60, hw, hm24, hMt⟩, kr, kb, kwk, kus, kkp, kpt, ed, N, P, ka, ke, kI, kMat⟩ := id kJ
  dsimp only [Option.toList, List.cons_append, List.nil_append]
  refine wi_if_eq hX (tgt := 21) dX12_circuitWith_16 (by decide) (by exact b2n_inR _) (fun c16 => ?_) (fun c16 => ?_)
  · skip
    have hv16 := b2n_f c16
    rw [hv16, if_neg (fun z => Bool.false_ne_true z.1)] at k1
    obtain ⟨i, hi, rfl, hNE2⟩ : ∃ i, i < m ∧ n = (i : Int) ∧ NE = !decide (0 ≤ el ∧ el < ((E i : Nat) : Int)) := by
      rcases hNE with ⟨z, _⟩ | z
      · rw [z] at hv16; cases hv16
      · exact z
    rw [hNE2, Bool.not_eq_false', decide_eq_true_eq] at hv16
    obtain ⟨k, rfl⟩ := Int.eq_ofNat_of_zero_le hv16.1
    have hk : k < E i := by omega
    obtain ⟨e3, hN1, hN2⟩ : h13 ed = some (124, aR (.object "java/lang/Object") N (fun j => if j < m then some (P j) else none)) ∧ m ≤ N ∧ N ≤ 100 := by
      rcases ke with z | z
      · exfalso; omega
      · exact z
    obtain ⟨rq, m2, m3, l2, l3, G, g1, g2, g3, g4, g5⟩ := id (kMat i hi)
    have hMi := hMt i hi
    have he := hMi.1
    have hp := p2_le he
    have hp0 := p2_pos (E i)
    obtain ⟨pM, hPM⟩ : ∃ q, P i = q := ⟨_, rfl⟩
    rw [hPM] at g1
    refine wa_aload_n hX (i := 0) dX12_circuitWith_21 rfl rfl ?_
    refine wa_get hX 4 (by assumption) (by rfl) (by decide +kernel) dX12_circuitWith_22 ?_
    refine wa_iload_n hX (i := 1) dX12_circuitWith_25 rfl rfl ?_
    refine wa_callV hX (c_AL_get hW d ka e3 (i := i) (q := pM) hi hN1 (by omega) ((if_pos hi).trans (congrArg some hPM))) (by assumption) (by rfl) (by rfl) (by omega) (nA := 1) (by rfl) (by decide +kernel) rfl (by exact Nat.le_of_ble_eq_true rfl) dX12_circuitWith_26 (fun r26 h26 p26 => ?_) (fun _ _ q => q.elim)
    obtain ⟨rfl, qq26⟩ := p26; subst h26
    dsimp only [Option.toList, List.cons_append, List.nil_append]
    refine wa_ccast hX g1 (by rfl) (by decide +kernel) dX12_circuitWith_29 ?_
    refine wa_astore hX dX12_circuitWith_32 rfl ?_
    dsimp only [List.set]
    have t58 : ∀ b : Bool, (b = true → (¬ (0 ≤ s ∧ s < ((2 ^ E i : Nat) : Int)) ∨ ∃ t : Nat, s = (t : Int) ∧ t < 2 ^ E i ∧ bsB (R i) (E i) t = false)) → (b = false → ∃ t : Nat, s = (t : Int) ∧ t < 2 ^ E i ∧ bsB (R i) (E i) t = true) → WA X h13 0 0 58 [.val (.ref a), .val (I (i : Int)), .val (I s), .val (I (k : Int)), .val (.ref pM), .unset, .unset] [I ((b2n b : Nat) : Int), .ref a] := by
      intro b hb1 hb2
      refine wi_iconst hX dX12_circuitWith_58 ?_
      refine wa_callV hX (c_X12_fails hW d (th := 0) (k := 2) (b := b) k1 (by omega) (by omega)) (by assumption) (by rfl) (by rfl) (by omega) (nA := 2) (by rfl) (by decide +kernel) rfl (by exact Nat.le_of_ble_eq_true rfl) dX12_circuitWith_59 (fun r59 h59 p59 => ?_) (fun _ _ q => q.elim)
      obtain ⟨rfl, hh59⟩ := p59
      have f59 : Fr (fun x => x = 120) h13 h59 := by rw [hh59]; exact Fr.hset Fr.rf k1 rfl
      replace k1 : h59 a = some (120, oMod ((if (b) = true ∧ (0 : Nat) = 0 then 2 else 0 : Nat) : Int) (c : Int) row brk al wk us kp pt) := by rw [hh59]; exact hset_eq
      replace kJ := kJ.fr f59 (fun x hx => by omega)
      replace ff := ff.trans f59
      replace g1 := f59 _ _ _ g1 (by omega)
      replace g2 := f59 _ _ _ g2 (by omega)
      clear hh59 f59
      rw [show ((b) || (0 : Nat) != 0) = (b) from Bool.or_false _]
      clear kr kb kwk kus kkp kpt ka ke kI kMat hc60 hw hm24 hMt
      obtain ⟨⟨hc60, hw, hm24, hMt⟩, kr, kb, kwk, kus, kkp, kpt, ed, N, P, ka, ke, kI, kMat⟩ := id kJ
      dsimp only [Option.toList, List.cons_append, List.nil_append]
      refine wi_if_ne hX (tgt := 87) dX12_circuitWith_62 (by decide) (by exact b2n_inR _) (fun c62 => ?_) (fun c62 => ?_)
      · skip
        refine wi_iconst hX dX12_circuitWith_87 ?_
        refine wa_iret hX dX12_circuitWith_88 ?_
        have z := b2n_t c62
        rw [z, if_pos ⟨rfl, rfl⟩] at k1
        exact ⟨ff, Or.inr ⟨i, k, hi, rfl, hk, rfl, Or.inl ⟨hb1 z, ⟨_, rfl⟩, row, brk, al, wk, us, kp, pt, k1, kJ⟩⟩⟩
      · skip
        have hv62 := b2n_f c62
        rw [hv62, if_neg (fun z => Bool.false_ne_true z.1)] at k1
        obtain ⟨t, rfl, ht, htb⟩ := hb2 hv62
        refine wa_aload_n hX (i := 0) dX12_circuitWith_65 rfl rfl ?_
        refine wa_iload_n hX (i := 2) dX12_circuitWith_66 rfl rfl ?_
        refine wa_iload_n hX (i := 3) dX12_circuitWith_67 rfl rfl ?_
        refine wn_ishr hX dX12_circuitWith_68 (by rfl) (by rfl) (by omega) (by omega) ?_
        refine wi_iconst hX dX12_circuitWith_69 ?_
        refine wn_iand hX dX12_circuitWith_70 (by rfl) (by rfl) ?_
        rw [bit1]
        refine wi_iconst hX dX12_circuitWith_71 ?_
        refine wi_icmp_ne hX (tgt := 79) dX12_circuitWith_72 (by decide) (by first | exact b2n_inR _ | decide +kernel) (by first | exact b2n_inR _ | decide +kernel) (fun c72 => ?_) (fun c72 => ?_)
        · skip
          refine wi_iconst hX dX12_circuitWith_79 ?_
          refine WA.eq (pc2 := 80) (st2 := [I ((b2n (t.testBit k) : Nat) : Int), .ref a]) rfl rfl (by
            first
              | (have q := b2n_1 c72; rw [q]; rfl)
              | (have q1 : t.testBit k = false := by
                   cases hb : t.testBit k
                   · rfl
                   · rw [hb] at c72; exact absurd rfl c72
                 rw [q1]; rfl)) ?_
          clear c72
          refine wi_iconst hX dX12_circuitWith_80 ?_
          refine wa_callV hX (c_X12_fails hW d (th := 0) (k := 3) (b := (t.testBit k)) k1 (by omega) (by omega)) (by assumption) (by rfl) (by rfl) (by omega) (nA := 2) (by rfl) (by decide +kernel) rfl (by exact Nat.le_of_ble_eq_true rfl) dX12_circuitWith_81 (fun r81 h81 p81 => ?_) (fun _ _ q => q.elim)
          obtain ⟨rfl, hh81⟩ := p81
          have f81 : Fr (fun x => x = 120) h59 h81 := by rw [hh81]; exact Fr.hset Fr.rf k1 rfl
          replace k1 : h81 a = some (120, oMod ((if ((t.testBit k)) = true ∧ (0 : Nat) = 0 then 3 else 0 : Nat) : Int) (c : Int) row brk al wk us kp pt) := by rw [hh81]; exact hset_eq
          replace kJ := kJ.fr f81 (fun x hx => by omega)
          replace ff := ff.trans f81
          replace g1 := f81 _ _ _ g1 (by omega)
          replace g2 := f81 _ _ _ g2 (by omega)
          clear hh81 f81
          rw [show (((t.testBit k)) || (0 : Nat) != 0) = ((t.testBit k)) from Bool.or_false _]
          clear kr kb kwk kus kkp kpt ka ke kI kMat hc60 hw hm24 hMt
          obtain ⟨⟨hc60, hw, hm24, hMt⟩, kr, kb, kwk, kus, kkp, kpt, ed, N, P, ka, ke, kI, kMat⟩ := id kJ
          dsimp only [Option.toList, List.cons_append, List.nil_append]
          refine wi_if_eq hX (tgt := 89) dX12_circuitWith_84 (by decide) (by exact b2n_inR _) (fun c84 => ?_) (fun c84 => ?_)
          · skip
            have hv84 := b2n_f c84
            rw [hv84, if_neg (fun z => Bool.false_ne_true z.1)] at k1
            refine wi_iconst hX dX12_circuitWith_89 ?_
            refine wa_iload_n hX (i := 3) dX12_circuitWith_90 rfl rfl ?_
            refine wn_shl1 hX dX12_circuitWith_91 (by rfl) (by omega) ?_
            refine wa_istore hX dX12_circuitWith_92 rfl ?_
            dsimp only [List.set]
            refine wi_iconst hX dX12_circuitWith_94 ?_
            refine wa_istore hX dX12_circuitWith_95 rfl ?_
            dsimp only [List.set]
            refine WA.loop (σ := Nat) (fun z => E i - z) (fun z => z ≤ E i) (fun _ => h81) (fun z => [.val (.ref a), .val (I (i : Int)), .val (I (t : Int)), .val (I (k : Int)), .val (.ref pM), .val (I (cwM (R i) (E i) t k z : Nat)), .val (I (z : Nat))]) ?_ 0 (Nat.zero_le _)
            intro z hz ih
            have hst : cwM (R i) (E i) t k (z + 1) = cwM (R i) (E i) t k z ||| (if (t.testBit z && bsB (R i) (E i) (sdf t (2 ^ z) ||| 2 ^ k)) = true then 2 ^ z else 0) := rfl
            have hcw := cwM_lt (rk := R i) (s := t) hk z hz
            have t147 : ∀ x : Nat, z < E i → x < 2 ^ E i → cwM (R i) (E i) t k (z + 1) = cwM (R i) (E i) t k z ||| x → WA X h81 0 0 147 [.val (.ref a), .val (I (i : Int)), .val (I (t : Int)), .val (I (k : Int)), .val (.ref pM), .val (I (cwM (R i) (E i) t k z : Nat)), .val (I (z : Nat))] [I (x : Int), I ((cwM (R i) (E i) t k z : Nat) : Int)] := by
              intro x hze hxx hx
              refine wn_ior hX dX12_circuitWith_147 (by rfl) (by rfl) ?_
              refine wa_istore hX dX12_circuitWith_148 rfl ?_
              dsimp only [List.set]
              refine wi_iinc hX dX12_circuitWith_150 rfl ?_
              dsimp only [List.set]
              refine wa_goto hX (tgt := 97) dX12_circuitWith_153 (by decide) ?_
              refine WA.eq rfl ?_ rfl (ih (z + 1) (by omega) (by omega))
              rw [hx]
              rfl
            refine wa_iload hX dX12_circuitWith_97 rfl ?_
            refine wa_aload hX dX12_circuitWith_99 rfl ?_
            refine wa_get hX 0 (by assumption) (by rfl) (by decide +kernel) dX12_circuitWith_101 ?_
            refine wi_icmp_ge hX (tgt := 156) dX12_circuitWith_104 (by decide) (by omega) (by omega) (fun c104 => ?_) (fun c104 => ?_)
            · skip
              refine wa_iload hX dX12_circuitWith_156 rfl ?_
              refine wa_iret hX dX12_circuitWith_158 ?_
              exact ⟨ff, Or.inr ⟨i, k, hi, rfl, hk, rfl, Or.inr ⟨t, rfl, ht, htb, Or.inr ⟨hv84, by rw [show z = E i by omega], row, brk, al, wk, us, kp, pt, k1, kJ⟩⟩⟩⟩
            · skip
              refine wa_iload hX dX12_circuitWith_107 rfl ?_
              refine wa_iload_n hX (i := 2) dX12_circuitWith_109 rfl rfl ?_
              refine wa_iload hX dX12_circuitWith_110 rfl ?_
              refine wn_ishr hX dX12_circuitWith_112 (by rfl) (by rfl) (by omega) (by omega) ?_
              refine wi_iconst hX dX12_circuitWith_113 ?_
              refine wn_iand hX dX12_circuitWith_114 (by rfl) (by rfl) ?_
              rw [bit1]
              refine wi_iconst hX dX12_circuitWith_115 ?_
              refine wi_icmp_ne hX (tgt := 146) dX12_circuitWith_116 (by decide) (by first | exact b2n_inR _ | decide +kernel) (by first | exact b2n_inR _ | decide +kernel) (fun c116 => ?_) (fun c116 => ?_)
              · skip
                refine wi_iconst hX dX12_circuitWith_146 ?_
                first
                  | (have q1 := b2n_1 c116
                     have q2 := b2n_t c136
                     have q3 : cwM (R i) (E i) t k (z + 1) = cwM (R i) (E i) t k z ||| 2 ^ z := by rw [hst, q1, q2]; rfl
                     exact t147 (2 ^ z) (by omega) hbz q3)
                  | (have q1 := b2n_1 c116
                     have q2 := b2n_f c136
                     have q3 : cwM (R i) (E i) t k (z + 1) = cwM (R i) (E i) t k z ||| 0 := by rw [hst, q1, q2]; rfl
                     exact WA.eq rfl rfl rfl (t147 0 (by omega) hp0 q3))
                  | (have q1 : t.testBit z = false := by
                       cases hb : t.testBit z
                       · rfl
                       · rw [hb] at c116; exact absurd rfl c116
                     have q3 : cwM (R i) (E i) t k (z + 1) = cwM (R i) (E i) t k z ||| 0 := by rw [hst, q1]; rfl
                     exact WA.eq rfl rfl rfl (t147 0 (by omega) hp0 q3))
              · skip
                have hbz := bit_lt (el := z) (e := E i) (by omega)
                have hbk := bit_lt (el := k) (e := E i) hk
                refine wa_aload hX dX12_circuitWith_119 rfl ?_
                refine wa_iload_n hX (i := 2) dX12_circuitWith_121 rfl rfl ?_
                refine wi_iconst hX dX12_circuitWith_122 ?_
                refine wa_iload hX dX12_circuitWith_123 rfl ?_
                refine wn_shl1 hX dX12_circuitWith_125 (by rfl) (by omega) ?_
                refine wi_iconst hX dX12_circuitWith_126 ?_
                refine wa_ixor hX dX12_circuitWith_127 ?_
                refine wn_andn hX dX12_circuitWith_128 (by rfl) (by rfl) ?_
                refine wi_iconst hX dX12_circuitWith_129 ?_
                refine wa_iload_n hX (i := 3) dX12_circuitWith_130 rfl rfl ?_
                refine wn_shl1 hX dX12_circuitWith_131 (by rfl) (by omega) ?_
                refine wn_ior hX dX12_circuitWith_132 (by rfl) (by rfl) ?_
                refine wa_callV hX (c_X11_isBasis hW d g1 g2 g3 he (fun s hs => hMi.le10 hs) (s := sdf t (2 ^ z) ||| 2 ^ k) (or_lt (sdf_lt ht) hbk)) (by assumption) (by rfl) (by rfl) (by omega) (nA := 1) (by rfl) (by decide +kernel) rfl (by exact Nat.le_of_ble_eq_true rfl) dX12_circuitWith_133 (fun r133 h133 p133 => ?_) (fun _ _ q => q.elim)
                obtain ⟨rfl, qq133⟩ := p133; subst h133
                dsimp only [Option.toList, List.cons_append, List.nil_append]
                refine wi_if_eq hX (tgt := 146) dX12_circuitWith_136 (by decide) (by exact b2n_inR _) (fun c136 => ?_) (fun c136 => ?_)
                · skip
                  refine wi_iconst hX dX12_circuitWith_146 ?_
                  first
                    | (have q1 := b2n_1 c116
                       have q2 := b2n_t c136
                       have q3 : cwM (R i) (E i) t k (z + 1) = cwM (R i) (E i) t k z ||| 2 ^ z := by rw [hst, q1, q2]; rfl
                       exact t147 (2 ^ z) (by omega) hbz q3)
                    | (have q1 := b2n_1 c116
                       have q2 := b2n_f c136
                       have q3 : cwM (R i) (E i) t k (z + 1) = cwM (R i) (E i) t k z ||| 0 := by rw [hst, q1, q2]; rfl
                       exact WA.eq rfl rfl rfl (t147 0 (by omega) hp0 q3))
                    | (have q1 : t.testBit z = false := by
                         cases hb : t.testBit z
                         · rfl
                         · rw [hb] at c116; exact absurd rfl c116
                       have q3 : cwM (R i) (E i) t k (z + 1) = cwM (R i) (E i) t k z ||| 0 := by rw [hst, q1]; rfl
                       exact WA.eq rfl rfl rfl (t147 0 (by omega) hp0 q3))
                · skip
                  refine wi_iconst hX dX12_circuitWith_139 ?_
                  refine wa_iload hX dX12_circuitWith_140 rfl ?_
                  refine wn_shl1 hX dX12_circuitWith_142 (by rfl) (by omega) ?_
                  refine wa_goto hX (tgt := 147) dX12_circuitWith_143 (by decide) ?_
                  first
                    | (have q1 := b2n_1 c116
                       have q2 := b2n_t c136
                       have q3 : cwM (R i) (E i) t k (z + 1) = cwM (R i) (E i) t k z ||| 2 ^ z := by rw [hst, q1, q2]; rfl
                       exact t147 (2 ^ z) (by omega) hbz q3)
                    | (have q1 := b2n_1 c116
                       have q2 := b2n_f c136
                       have q3 : cwM (R i) (E i) t k (z + 1) = cwM (R i) (E i) t k z ||| 0 := by rw [hst, q1, q2]; rfl
                       exact WA.eq rfl rfl rfl (t147 0 (by omega) hp0 q3))
                    | (have q1 : t.testBit z = false := by
                         cases hb : t.testBit z
                         · rfl
                         · rw [hb] at c116; exact absurd rfl c116
                       have q3 : cwM (R i) (E i) t k (z + 1) = cwM (R i) (E i) t k z ||| 0 := by rw [hst, q1]; rfl
                       exact WA.eq rfl rfl rfl (t147 0 (by omega) hp0 q3))
          · skip
            refine wi_iconst hX dX12_circuitWith_87 ?_
            refine wa_iret hX dX12_circuitWith_88 ?_
            have z := b2n_t c84
            rw [z, if_pos ⟨rfl, rfl⟩] at k1
            exact ⟨ff, Or.inr ⟨i, k, hi, rfl, hk, rfl, Or.inr ⟨t, rfl, ht, htb, Or.inl ⟨z, ⟨_, rfl⟩, row, brk, al, wk, us, kp, pt, k1, kJ⟩⟩⟩⟩
        · skip
          refine wi_iconst hX dX12_circuitWith_75 ?_
          refine wa_goto hX (tgt := 80) dX12_circuitWith_76 (by decide) ?_
          refine WA.eq (pc2 := 80) (st2 := [I ((b2n (t.testBit k) : Nat) : Int), .ref a]) rfl rfl (by
            first
              | (have q := b2n_1 c72; rw [q]; rfl)
              | (have q1 : t.testBit k = false := by
                   cases hb : t.testBit k
                   · rfl
                   · rw [hb] at c72; exact absurd rfl c72
                 rw [q1]; rfl)) ?_
          clear c72
          refine wi_iconst hX dX12_circuitWith_80 ?_
          refine wa_callV hX (c_X12_fails hW d (th := 0) (k := 3) (b := (t.testBit k)) k1 (by omega) (by omega)) (by assumption) (by rfl) (by rfl) (by omega) (nA := 2) (by rfl) (by decide +kernel) rfl (by exact Nat.le_of_ble_eq_true rfl) dX12_circuitWith_81 (fun r81 h81 p81 => ?_) (fun _ _ q => q.elim)
          obtain ⟨rfl, hh81⟩ := p81
          have f81 : Fr (fun x => x = 120) h59 h81 := by rw [hh81]; exact Fr.hset Fr.rf k1 rfl
          replace k1 : h81 a = some (120, oMod ((if ((t.testBit k)) = true ∧ (0 : Nat) = 0 then 3 else 0 : Nat) : Int) (c : Int) row brk al wk us kp pt) := by rw [hh81]; exact hset_eq
          replace kJ := kJ.fr f81 (fun x hx => by omega)
          replace ff := ff.trans f81
          replace g1 := f81 _ _ _ g1 (by omega)
          replace g2 := f81 _ _ _ g2 (by omega)
          clear hh81 f81
          rw [show (((t.testBit k)) || (0 : Nat) != 0) = ((t.testBit k)) from Bool.or_false _]
          clear kr kb kwk kus kkp kpt ka ke kI kMat hc60 hw hm24 hMt
          obtain ⟨⟨hc60, hw, hm24, hMt⟩, kr, kb, kwk, kus, kkp, kpt, ed, N, P, ka, ke, kI, kMat⟩ := id kJ
          dsimp only [Option.toList, List.cons_append, List.nil_append]
          refine wi_if_eq hX (tgt := 89) dX12_circuitWith_84 (by decide) (by exact b2n_inR _) (fun c84 => ?_) (fun c84 => ?_)
          · skip
            have hv84 := b2n_f c84
            rw [hv84, if_neg (fun z => Bool.false_ne_true z.1)] at k1
            refine wi_iconst hX dX12_circuitWith_89 ?_
            refine wa_iload_n hX (i := 3) dX12_circuitWith_90 rfl rfl ?_
            refine wn_shl1 hX dX12_circuitWith_91 (by rfl) (by omega) ?_
            refine wa_istore hX dX12_circuitWith_92 rfl ?_
            dsimp only [List.set]
            refine wi_iconst hX dX12_circuitWith_94 ?_
            refine wa_istore hX dX12_circuitWith_95 rfl ?_
            dsimp only [List.set]
            refine WA.loop (σ := Nat) (fun z => E i - z) (fun z => z ≤ E i) (fun _ => h81) (fun z => [.val (.ref a), .val (I (i : Int)), .val (I (t : Int)), .val (I (k : Int)), .val (.ref pM), .val (I (cwM (R i) (E i) t k z : Nat)), .val (I (z : Nat))]) ?_ 0 (Nat.zero_le _)
            intro z hz ih
            have hst : cwM (R i) (E i) t k (z + 1) = cwM (R i) (E i) t k z ||| (if (t.testBit z && bsB (R i) (E i) (sdf t (2 ^ z) ||| 2 ^ k)) = true then 2 ^ z else 0) := rfl
            have hcw := cwM_lt (rk := R i) (s := t) hk z hz
            have t147 : ∀ x : Nat, z < E i → x < 2 ^ E i → cwM (R i) (E i) t k (z + 1) = cwM (R i) (E i) t k z ||| x → WA X h81 0 0 147 [.val (.ref a), .val (I (i : Int)), .val (I (t : Int)), .val (I (k : Int)), .val (.ref pM), .val (I (cwM (R i) (E i) t k z : Nat)), .val (I (z : Nat))] [I (x : Int), I ((cwM (R i) (E i) t k z : Nat) : Int)] := by
              intro x hze hxx hx
              refine wn_ior hX dX12_circuitWith_147 (by rfl) (by rfl) ?_
              refine wa_istore hX dX12_circuitWith_148 rfl ?_
              dsimp only [List.set]
              refine wi_iinc hX dX12_circuitWith_150 rfl ?_
              dsimp only [List.set]
              refine wa_goto hX (tgt := 97) dX12_circuitWith_153 (by decide) ?_
              refine WA.eq rfl ?_ rfl (ih (z + 1) (by omega) (by omega))
              rw [hx]
              rfl
            refine wa_iload hX dX12_circuitWith_97 rfl ?_
            refine wa_aload hX dX12_circuitWith_99 rfl ?_
            refine wa_get hX 0 (by assumption) (by rfl) (by decide +kernel) dX12_circuitWith_101 ?_
            refine wi_icmp_ge hX (tgt := 156) dX12_circuitWith_104 (by decide) (by omega) (by omega) (fun c104 => ?_) (fun c104 => ?_)
            · skip
              refine wa_iload hX dX12_circuitWith_156 rfl ?_
              refine wa_iret hX dX12_circuitWith_158 ?_
              exact ⟨ff, Or.inr ⟨i, k, hi, rfl, hk, rfl, Or.inr ⟨t, rfl, ht, htb, Or.inr ⟨hv84, by rw [show z = E i by omega], row, brk, al, wk, us, kp, pt, k1, kJ⟩⟩⟩⟩
            · skip
              refine wa_iload hX dX12_circuitWith_107 rfl ?_
              refine wa_iload_n hX (i := 2) dX12_circuitWith_109 rfl rfl ?_
              refine wa_iload hX dX12_circuitWith_110 rfl ?_
              refine wn_ishr hX dX12_circuitWith_112 (by rfl) (by rfl) (by omega) (by omega) ?_
              refine wi_iconst hX dX12_circuitWith_113 ?_
              refine wn_iand hX dX12_circuitWith_114 (by rfl) (by rfl) ?_
              rw [bit1]
              refine wi_iconst hX dX12_circuitWith_115 ?_
              refine wi_icmp_ne hX (tgt := 146) dX12_circuitWith_116 (by decide) (by first | exact b2n_inR _ | decide +kernel) (by first | exact b2n_inR _ | decide +kernel) (fun c116 => ?_) (fun c116 => ?_)
              · skip
                refine wi_iconst hX dX12_circuitWith_146 ?_
                first
                  | (have q1 := b2n_1 c116
                     have q2 := b2n_t c136
                     have q3 : cwM (R i) (E i) t k (z + 1) = cwM (R i) (E i) t k z ||| 2 ^ z := by rw [hst, q1, q2]; rfl
                     exact t147 (2 ^ z) (by omega) hbz q3)
                  | (have q1 := b2n_1 c116
                     have q2 := b2n_f c136
                     have q3 : cwM (R i) (E i) t k (z + 1) = cwM (R i) (E i) t k z ||| 0 := by rw [hst, q1, q2]; rfl
                     exact WA.eq rfl rfl rfl (t147 0 (by omega) hp0 q3))
                  | (have q1 : t.testBit z = false := by
                       cases hb : t.testBit z
                       · rfl
                       · rw [hb] at c116; exact absurd rfl c116
                     have q3 : cwM (R i) (E i) t k (z + 1) = cwM (R i) (E i) t k z ||| 0 := by rw [hst, q1]; rfl
                     exact WA.eq rfl rfl rfl (t147 0 (by omega) hp0 q3))
              · skip
                have hbz := bit_lt (el := z) (e := E i) (by omega)
                have hbk := bit_lt (el := k) (e := E i) hk
                refine wa_aload hX dX12_circuitWith_119 rfl ?_
                refine wa_iload_n hX (i := 2) dX12_circuitWith_121 rfl rfl ?_
                refine wi_iconst hX dX12_circuitWith_122 ?_
                refine wa_iload hX dX12_circuitWith_123 rfl ?_
                refine wn_shl1 hX dX12_circuitWith_125 (by rfl) (by omega) ?_
                refine wi_iconst hX dX12_circuitWith_126 ?_
                refine wa_ixor hX dX12_circuitWith_127 ?_
                refine wn_andn hX dX12_circuitWith_128 (by rfl) (by rfl) ?_
                refine wi_iconst hX dX12_circuitWith_129 ?_
                refine wa_iload_n hX (i := 3) dX12_circuitWith_130 rfl rfl ?_
                refine wn_shl1 hX dX12_circuitWith_131 (by rfl) (by omega) ?_
                refine wn_ior hX dX12_circuitWith_132 (by rfl) (by rfl) ?_
                refine wa_callV hX (c_X11_isBasis hW d g1 g2 g3 he (fun s hs => hMi.le10 hs) (s := sdf t (2 ^ z) ||| 2 ^ k) (or_lt (sdf_lt ht) hbk)) (by assumption) (by rfl) (by rfl) (by omega) (nA := 1) (by rfl) (by decide +kernel) rfl (by exact Nat.le_of_ble_eq_true rfl) dX12_circuitWith_133 (fun r133 h133 p133 => ?_) (fun _ _ q => q.elim)
                obtain ⟨rfl, qq133⟩ := p133; subst h133
                dsimp only [Option.toList, List.cons_append, List.nil_append]
                refine wi_if_eq hX (tgt := 146) dX12_circuitWith_136 (by decide) (by exact b2n_inR _) (fun c136 => ?_) (fun c136 => ?_)
                · skip
                  refine wi_iconst hX dX12_circuitWith_146 ?_
                  first
                    | (have q1 := b2n_1 c116
                       have q2 := b2n_t c136
                       have q3 : cwM (R i) (E i) t k (z + 1) = cwM (R i) (E i) t k z ||| 2 ^ z := by rw [hst, q1, q2]; rfl
                       exact t147 (2 ^ z) (by omega) hbz q3)
                    | (have q1 := b2n_1 c116
                       have q2 := b2n_f c136
                       have q3 : cwM (R i) (E i) t k (z + 1) = cwM (R i) (E i) t k z ||| 0 := by rw [hst, q1, q2]; rfl
                       exact WA.eq rfl rfl rfl (t147 0 (by omega) hp0 q3))
                    | (have q1 : t.testBit z = false := by
                         cases hb : t.testBit z
                         · rfl
                         · rw [hb] at c116; exact absurd rfl c116
                       have q3 : cwM (R i) (E i) t k (z + 1) = cwM (R i) (E i) t k z ||| 0 := by rw [hst, q1]; rfl
                       exact WA.eq rfl rfl rfl (t147 0 (by omega) hp0 q3))
                · skip
                  refine wi_iconst hX dX12_circuitWith_139 ?_
                  refine wa_iload hX dX12_circuitWith_140 rfl ?_
                  refine wn_shl1 hX dX12_circuitWith_142 (by rfl) (by omega) ?_
                  refine wa_goto hX (tgt := 147) dX12_circuitWith_143 (by decide) ?_
                  first
                    | (have q1 := b2n_1 c116
                       have q2 := b2n_t c136
                       have q3 : cwM (R i) (E i) t k (z + 1) = cwM (R i) (E i) t k z ||| 2 ^ z := by rw [hst, q1, q2]; rfl
                       exact t147 (2 ^ z) (by omega) hbz q3)
                    | (have q1 := b2n_1 c116
                       have q2 := b2n_f c136
                       have q3 : cwM (R i) (E i) t k (z + 1) = cwM (R i) (E i) t k z ||| 0 := by rw [hst, q1, q2]; rfl
                       exact WA.eq rfl rfl rfl (t147 0 (by omega) hp0 q3))
                    | (have q1 : t.testBit z = false := by
                         cases hb : t.testBit z
                         · rfl
                         · rw [hb] at c116; exact absurd rfl c116
                       have q3 : cwM (R i) (E i) t k (z + 1) = cwM (R i) (E i) t k z ||| 0 := by rw [hst, q1]; rfl
                       exact WA.eq rfl rfl rfl (t147 0 (by omega) hp0 q3))
          · skip
            refine wi_iconst hX dX12_circuitWith_87 ?_
            refine wa_iret hX dX12_circuitWith_88 ?_
            have z := b2n_t c84
            rw [z, if_pos ⟨rfl, rfl⟩] at k1
            exact ⟨ff, Or.inr ⟨i, k, hi, rfl, hk, rfl, Or.inr ⟨t, rfl, ht, htb, Or.inl ⟨z, ⟨_, rfl⟩, row, brk, al, wk, us, kp, pt, k1, kJ⟩⟩⟩⟩
    refine wa_aload_n hX (i := 0) dX12_circuitWith_34 rfl rfl ?_
    refine wa_aload_n hX (i := 0) dX12_circuitWith_35 rfl rfl ?_
    refine wa_iload_n hX (i := 1) dX12_circuitWith_36 rfl rfl ?_
    refine wa_iload_n hX (i := 2) dX12_circuitWith_37 rfl rfl ?_
    refine wa_callV hX (c_X12_noSet hW d k1 ka e3 hN1 hN2 hi (by rw [hPM]; exact g1) he hs) (by assumption) (by rfl) (by rfl) (by omega) (nA := 2) (by rfl) (by decide +kernel) rfl (by exact Nat.le_of_ble_eq_true rfl) dX12_circuitWith_38 (fun r38 h38 p38 => ?_) (fun _ _ q => q.elim)
    obtain ⟨rfl, qq38⟩ := p38; subst h38
    dsimp only [Option.toList, List.cons_append, List.nil_append]
    refine wi_if_ne hX (tgt := 53) dX12_circuitWith_41 (by decide) (by exact b2n_inR _) (fun c41 => ?_) (fun c41 => ?_)
    · skip
      refine wi_iconst hX dX12_circuitWith_53 ?_
      refine wa_goto hX (tgt := 58) dX12_circuitWith_54 (by decide) ?_
      first
        | (have q := b2n_t c41
           rw [Bool.not_eq_true', decide_eq_false_iff_not] at q
           exact WA.eq rfl rfl rfl (t58 true (fun _ => Or.inl q) (fun z => nomatch z)))
        | (have q := b2n_f c50
           exact WA.eq rfl rfl rfl (t58 true (fun _ => Or.inr ⟨t, rfl, ht, q⟩) (fun z => nomatch z)))
        | (have q := b2n_t c50
           exact WA.eq rfl rfl rfl (t58 false (fun z => nomatch z) (fun _ => ⟨t, rfl, ht, q⟩)))
    · skip
      have q41 := b2n_f c41
      rw [Bool.not_eq_false', decide_eq_true_eq] at q41
      obtain ⟨t, rfl⟩ := Int.eq_ofNat_of_zero_le q41.1
      have ht : t < 2 ^ E i := by omega
      refine wa_aload hX dX12_circuitWith_44 rfl ?_
      refine wa_iload_n hX (i := 2) dX12_circuitWith_46 rfl rfl ?_
      refine wa_callV hX (c_X11_isBasis hW d g1 g2 g3 he (fun s hs => hMi.le10 hs) (s := t) ht) (by assumption) (by rfl) (by rfl) (by omega) (nA := 1) (by rfl) (by decide +kernel) rfl (by exact Nat.le_of_ble_eq_true rfl) dX12_circuitWith_47 (fun r47 h47 p47 => ?_) (fun _ _ q => q.elim)
      obtain ⟨rfl, qq47⟩ := p47; subst h47
      dsimp only [Option.toList, List.cons_append, List.nil_append]
      refine wi_if_ne hX (tgt := 57) dX12_circuitWith_50 (by decide) (by exact b2n_inR _) (fun c50 => ?_) (fun c50 => ?_)
      · skip
        refine wi_iconst hX dX12_circuitWith_57 ?_
        first
          | (have q := b2n_t c41
             rw [Bool.not_eq_true', decide_eq_false_iff_not] at q
             exact WA.eq rfl rfl rfl (t58 true (fun _ => Or.inl q) (fun z => nomatch z)))
          | (have q := b2n_f c50
             exact WA.eq rfl rfl rfl (t58 true (fun _ => Or.inr ⟨t, rfl, ht, q⟩) (fun z => nomatch z)))
          | (have q := b2n_t c50
             exact WA.eq rfl rfl rfl (t58 false (fun z => nomatch z) (fun _ => ⟨t, rfl, ht, q⟩)))
      · skip
        refine wi_iconst hX dX12_circuitWith_53 ?_
        refine wa_goto hX (tgt := 58) dX12_circuitWith_54 (by decide) ?_
        first
          | (have q := b2n_t c41
             rw [Bool.not_eq_true', decide_eq_false_iff_not] at q
             exact WA.eq rfl rfl rfl (t58 true (fun _ => Or.inl q) (fun z => nomatch z)))
          | (have q := b2n_f c50
             exact WA.eq rfl rfl rfl (t58 true (fun _ => Or.inr ⟨t, rfl, ht, q⟩) (fun z => nomatch z)))
          | (have q := b2n_t c50
             exact WA.eq rfl rfl rfl (t58 false (fun z => nomatch z) (fun _ => ⟨t, rfl, ht, q⟩)))
  · skip
    refine wi_iconst hX dX12_circuitWith_19 ?_
    refine wa_iret hX dX12_circuitWith_20 ?_
    have z := b2n_t c16
    rw [z, if_pos ⟨rfl, rfl⟩] at k1
    refine ⟨ff, Or.inl ⟨?_, ⟨_, rfl⟩, row, brk, al, wk, us, kp, pt, k1, kJ⟩⟩
    rcases hNE with ⟨_, q⟩ | ⟨i, hi, q, q2⟩
    · exact Or.inl q
    · have q3 := q2.symm.trans z
      rw [Bool.not_eq_true', decide_eq_false_iff_not] at q3
      exact Or.inr ⟨i, hi, q, q3⟩
end C85
