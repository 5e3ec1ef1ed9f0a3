/-! The reference (X12): coefficient, power, value -/
def cofM (rk : Nat → Nat) (e x y : Nat) : Nat → Int
  | 0 => 0
  | z + 1 => cofM rk e x y z + inpN (rk (2 ^ e - 1) - rk z) x * inpN (bc z - rk z) y
def valM (rk : Nat → Nat) (e : Nat) (x y : Int) : Nat → Int
  | 0 => 0
  | z + 1 => valM rk e x y z + ipow (x - 1) (rk (2 ^ e - 1) - rk z) * ipow (y - 1) (bc z - rk z)
section L92
variable {X : Cx} {own : String} {cc : ByteArray} {nL : Nat} {ret : Option FieldType} {nm : String} {d : Nat} {post : Option Value → AH → Prop} {px : String → AH → Prop} {h : AH} {k sl pc : Nat} {ls : List Slot} {rest : List Value}
theorem wl_sub (hX : Ok X own cc nL ret nm d post px) {x y : Int} (dg : decode cc pc = .ok (.lsub, 1)) (k' : WA X h k sl (pc + 1) ls (Lg (x - y) :: rest)) : WA X h k sl pc ls (Lg y :: Lg x :: rest) :=
  wa_lsub hX dg (by rw [← Int64.ofInt_sub]; exact k')
end L92
section C92
variable {l : Launch} {D : va_G} {S0 : State} {Z : Nat → Prop} {DR : (Nat → Nat) → Nat → Nat → Option (Nat → Nat) → Prop}
set_option maxRecDepth 100000 in
theorem c_X12_power (hW : WOK l D S0) (d : Nat) {h : AH} {b : Int} {k : Nat} (hk : k ≤ 1000) : MA l D S0 yX12_power cX12_power 6 (some .long) d [Lg b, I (k : Int)] h 0 0 (fun r h' => r = some (Lg (ipow b k)) ∧ h' = h) (fun _ _ => False) := by
  refine MA.start hW (by decide) [.val (Lg b), .second, .val (I (k : Int)), .unset, .unset, .unset] rfl ?_
  rintro X rfl rfl rfl hX
  refine wl_const1 hX dX12_power_0 ?_
  refine wa_lstore_n hX (i := 3) dX12_power_1 rfl rfl ?_
  dsimp only [List.set]
  refine wi_iconst hX dX12_power_2 ?_
  refine wa_istore hX dX12_power_3 rfl ?_
  dsimp only [List.set]
  refine WA.loop (σ := Nat) (fun z => k - z) (fun z => z ≤ k) (fun _ => h) (fun z => [.val (Lg b), .second, .val (I (k : Int)), .val (Lg (ipow b z)), .second, .val (I (z : Nat))]) ?_ 0 (Nat.zero_le _)
  intro z hz ih
  refine wa_iload hX dX12_power_5 rfl ?_
  refine wa_iload_n hX (i := 2) dX12_power_7 rfl rfl ?_
  refine wi_icmp_ge hX (tgt := 21) dX12_power_8 (by decide) (by omega) (by omega) (fun c8 => ?_) (fun c8 => ?_)
  · skip
    refine wa_lload_n hX (i := 3) dX12_power_21 rfl rfl ?_
    refine wa_lret hX dX12_power_22 ?_
    exact ⟨by rw [show z = k by omega], rfl⟩
  · skip
    refine wa_lload_n hX (i := 3) dX12_power_11 rfl rfl ?_
    refine wa_lload_n hX (i := 0) dX12_power_12 rfl rfl ?_
    refine wl_mul hX dX12_power_13 ?_
    refine wa_lstore_n hX (i := 3) dX12_power_14 rfl rfl ?_
    dsimp only [List.set]
    refine wi_iinc hX dX12_power_15 rfl ?_
    dsimp only [List.set]
    refine wa_goto hX (tgt := 5) dX12_power_18 (by decide) ?_
    exact ih (z + 1) (by omega) (by omega)
set_option maxHeartbeats 2000000 in
set_option maxRecDepth 100000 in
theorem c_X12_coefficient (hW : WOK l D S0) (d : Nat) {h : AH} {a th : Nat} {c m : Nat} {w : Nat → Nat} {E : Nat → Nat} {R : Nat → Nat → Nat} {b0 b1 b2 : Int} (hI : RI Z DR h a th c w m E R b0 b1 b2) {n x y : Int} (hn : inR n) (hx : inR x) (hy : inR y) : MA l D S0 yX12_coefficient cX12_coefficient 7 (some .int) (d + 4) [.ref a, I n, I x, I y] h 0 0 (fun r h' => Fr (fun x => x = 120) h h' ∧ ((noM n m ∧ (∃ z, r = some (I z)) ∧ RI Z DR h' a 1 c w m E R b0 b1 b2) ∨ ∃ i, i < m ∧ n = (i : Int) ∧ ((¬ (0 ≤ x ∧ x ≤ 10) ∨ ¬ (0 ≤ y ∧ y ≤ 10)) ∧ (∃ z, r = some (I z)) ∧ RI Z DR h' a 2 c w m E R b0 b1 b2 ∨ (∃ u v : Nat, u ≤ 10 ∧ v ≤ 10 ∧ x = (u : Int) ∧ y = (v : Int) ∧ r = some (I (cofM (R i) (E i) u v (2 ^ E i)))) ∧ RI Z DR h' a 0 c w m E R b0 b1 b2))) (fun _ _ => False) := by
  obtain ⟨row, brk, al, wk, us, kp, pt, k1, kJ⟩ := hI
  refine MA.start hW (by decide) [.val (.ref a), .val (I n), .val (I x), .val (I y), .unset, .unset, .unset] rfl ?_
  rintro X rfl rfl rfl hX
  refine wa_aload_n hX (i := 0) dX12_coefficient_0 rfl rfl ?_
  refine wi_iconst hX dX12_coefficient_1 ?_
  refine wa_put hX 0 k1 (Nat.le_of_ble_eq_true rfl) (by decide +kernel) (by rfl) (by rfl) (by rfl) dX12_coefficient_2 ?_
  refine WA.heap (h2 := hset h a (120, oMod ((0 : Nat) : Int) (c : Int) row brk al wk us kp pt)) rfl ?_
  refine WA.hgq (fun hA hh2 => ?_)
  have ff : Fr (fun x => x = 120) h hA := by rw [hh2]; exact Fr.hset Fr.rf k1 rfl
  replace k1 : hA a = some (120, oMod ((0 : Nat) : Int) (c : Int) row brk al wk us kp pt) := by rw [hh2]; exact hset_eq
  replace kJ := kJ.fr ff (fun x hx => by omega)
  clear hh2
  obtain ⟨⟨hc60, hw, hm24, hMt⟩, kr, kb, kwk, kus, kkp, kpt, ed, N, P, ka, ke, kI, kMat⟩ := id kJ
  refine wa_aload_n hX (i := 0) dX12_coefficient_5 rfl rfl ?_
  refine wa_aload_n hX (i := 0) dX12_coefficient_6 rfl rfl ?_
  refine wa_iload_n hX (i := 1) dX12_coefficient_7 rfl rfl ?_
  refine wa_callV hX (c_X12_no hW (d + 1) k1 ka hm24 hn) (by assumption) (by rfl) (by rfl) (by omega) (nA := 1) (by rfl) (by decide +kernel) rfl (by exact Nat.le_of_ble_eq_true rfl) dX12_coefficient_8 (fun r8 h8 p8 => ?_) (fun _ _ q => q.elim)
  obtain ⟨rfl, qq8⟩ := p8; subst h8
  dsimp only [Option.toList, List.cons_append, List.nil_append]
  refine wi_iconst hX dX12_coefficient_11 ?_
  refine wa_callV hX (c_X12_fails hW d (th := 0) (k := 1) (b := (!decide (0 ≤ n ∧ n < (m : Int)))) k1 (by omega) (by omega)) (by assumption) (by rfl) (by rfl) (by omega) (nA := 2) (by rfl) (by decide +kernel) rfl (by exact Nat.le_of_ble_eq_true rfl) dX12_coefficient_12 (fun r12 h12 p12 => ?_) (fun _ _ q => q.elim)
  obtain ⟨rfl, hh12⟩ := p12
  have f12 : Fr (fun x => x = 120) hA h12 := by rw [hh12]; exact Fr.hset Fr.rf k1 rfl
  replace k1 : h12 a = some (120, oMod ((if ((!decide (0 ≤ n ∧ n < (m : Int)))) = true ∧ (0 : Nat) = 0 then 1 else 0 : Nat) : Int) (c : Int) row brk al wk us kp pt) := by rw [hh12]; exact hset_eq
  replace kJ := kJ.fr f12 (fun x hx => by omega)
  replace ff := ff.trans f12
  clear hh12 f12
  rw [show (((!decide (0 ≤ n ∧ n < (m : Int)))) || (0 : Nat) != 0) = ((!decide (0 ≤ n ∧ n < (m : Int)))) from Bool.or_false _]
  clear kr kb kwk kus kkp kpt ka ke kI kMat hc60 hw hm24 hMt
  obtain ⟨⟨hc60, hw, hm24, hMt⟩, kr, kb, kwk, kus, kkp, kpt, ed, N, P, ka, ke, kI, kMat⟩ := id kJ
  dsimp only [Option.toList, List.cons_append, List.nil_append]
  refine wi_if_ne hX (tgt := 51) dX12_coefficient_15 (by decide) (by exact b2n_inR _) (fun c15 => ?_) (fun c15 => ?_)
  · skip
    refine wi_iconst hX dX12_coefficient_51 ?_
    refine wa_iret hX dX12_coefficient_52 ?_
    have z := b2n_t c15
    rw [z, if_pos ⟨rfl, rfl⟩] at k1
    rw [Bool.not_eq_true', decide_eq_false_iff_not] at z
    exact ⟨ff, Or.inl ⟨z, ⟨_, rfl⟩, row, brk, al, wk, us, kp, pt, k1, kJ⟩⟩
  · skip
    have hv15 := b2n_f c15
    rw [hv15, if_neg (fun z => Bool.false_ne_true z.1)] at k1
    rw [Bool.not_eq_false', decide_eq_true_eq] at hv15
    obtain ⟨i, rfl⟩ := Int.eq_ofNat_of_zero_le hv15.1
    have hi : i < m := by omega
    refine wa_aload_n hX (i := 0) dX12_coefficient_18 rfl rfl ?_
    refine wa_iload_n hX (i := 2) dX12_coefficient_19 rfl rfl ?_
    refine wi_iconst hX dX12_coefficient_20 ?_
    refine wi_bipush hX dX12_coefficient_21 (by decide) ?_
    refine wa_callS hX (c_X12_in hW d (v := x) (lo := 0) (hi := 10) hx (by omega) (by omega)) (by rfl) (by omega) (nA := 3) (by rfl) (by decide +kernel) rfl (by exact Nat.le_of_ble_eq_true rfl) dX12_coefficient_23 (fun r23 h23 p23 => ?_) (fun _ _ q => q.elim)
    obtain ⟨rfl, qq23⟩ := p23; subst h23
    dsimp only [Option.toList, List.cons_append, List.nil_append]
    refine wi_if_eq hX (tgt := 39) dX12_coefficient_26 (by decide) (by exact b2n_inR _) (fun c26 => ?_) (fun c26 => ?_)
    · skip
      refine wi_iconst hX dX12_coefficient_39 ?_
      refine wa_goto hX (tgt := 44) dX12_coefficient_40 (by decide) ?_
      refine WA.eq (pc2 := 44) (st2 := [I ((b2n (!decide ((0 : Int) ≤ x ∧ x ≤ 10) || !decide ((0 : Int) ≤ y ∧ y ≤ 10)) : Nat) : Int), .ref a]) rfl rfl (by
        first
          | (have q := b2n_f c26; rw [q]; rfl)
          | (have q := b2n_t c26; have q2 := b2n_t c36; rw [q, q2]; rfl)
          | (have q := b2n_t c26; have q2 := b2n_f c36; rw [q, q2]; rfl)) ?_
      clear c26
      refine wi_iconst hX dX12_coefficient_44 ?_
      refine wa_callV hX (c_X12_fails hW d (th := 0) (k := 2) (b := (!decide ((0 : Int) ≤ x ∧ x ≤ 10) || !decide ((0 : Int) ≤ y ∧ y ≤ 10))) k1 (by omega) (by omega)) (by assumption) (by rfl) (by rfl) (by omega) (nA := 2) (by rfl) (by decide +kernel) rfl (by exact Nat.le_of_ble_eq_true rfl) dX12_coefficient_45 (fun r45 h45 p45 => ?_) (fun _ _ q => q.elim)
      obtain ⟨rfl, hh45⟩ := p45
      have f45 : Fr (fun x => x = 120) h12 h45 := by rw [hh45]; exact Fr.hset Fr.rf k1 rfl
      replace k1 : h45 a = some (120, oMod ((if ((!decide ((0 : Int) ≤ x ∧ x ≤ 10) || !decide ((0 : Int) ≤ y ∧ y ≤ 10))) = true ∧ (0 : Nat) = 0 then 2 else 0 : Nat) : Int) (c : Int) row brk al wk us kp pt) := by rw [hh45]; exact hset_eq
      replace kJ := kJ.fr f45 (fun x hx => by omega)
      replace ff := ff.trans f45
      clear hh45 f45
      rw [show (((!decide ((0 : Int) ≤ x ∧ x ≤ 10) || !decide ((0 : Int) ≤ y ∧ y ≤ 10))) || (0 : Nat) != 0) = ((!decide ((0 : Int) ≤ x ∧ x ≤ 10) || !decide ((0 : Int) ≤ y ∧ y ≤ 10))) from Bool.or_false _]
      clear kr kb kwk kus kkp kpt ka ke kI kMat hc60 hw hm24 hMt
      obtain ⟨⟨hc60, hw, hm24, hMt⟩, kr, kb, kwk, kus, kkp, kpt, ed, N, P, ka, ke, kI, kMat⟩ := id kJ
      dsimp only [Option.toList, List.cons_append, List.nil_append]
      refine wi_if_eq hX (tgt := 53) dX12_coefficient_48 (by decide) (by exact b2n_inR _) (fun c48 => ?_) (fun c48 => ?_)
      · skip
        have hv48 := b2n_f c48
        rw [hv48, if_neg (fun z => Bool.false_ne_true z.1)] at k1
        rw [Bool.or_eq_false_iff, Bool.not_eq_false', decide_eq_true_eq, Bool.not_eq_false', decide_eq_true_eq] at hv48
        obtain ⟨⟨hx1, hx2⟩, hy1, hy2⟩ := hv48
        obtain ⟨x, rfl⟩ := Int.eq_ofNat_of_zero_le hx1
        obtain ⟨y, rfl⟩ := Int.eq_ofNat_of_zero_le hy1
        obtain ⟨e3, hN1, hN2⟩ : h45 ed = some (124, aR (.object "java/lang/Object") N (fun j => if j < m then some (P j) else none)) ∧ m ≤ N ∧ N ≤ 100 := by
          rcases ke with z | z
          · exfalso; omega
          · exact z
        obtain ⟨rq, m2, m3, l2, l3, G, g1, g2, g3, g4, g5⟩ := id (kMat i hi)
        have hMi := hMt i hi
        have he := hMi.1
        have hp := p2_le he
        have hp0 := p2_pos (E i)
        have hr0 := hMi.le10 (s := 2 ^ E i - 1) (by omega)
        refine wa_aload_n hX (i := 0) dX12_coefficient_53 rfl rfl ?_
        refine wa_get hX 4 (by assumption) (by rfl) (by decide +kernel) dX12_coefficient_54 ?_
        refine wa_iload_n hX (i := 1) dX12_coefficient_57 rfl rfl ?_
        refine wa_callV hX (c_AL_get hW d ka e3 (i := i) (q := P i) hi hN1 (by omega) (if_pos hi)) (by assumption) (by rfl) (by rfl) (by omega) (nA := 1) (by rfl) (by decide +kernel) rfl (by exact Nat.le_of_ble_eq_true rfl) dX12_coefficient_58 (fun r58 h58 p58 => ?_) (fun _ _ q => q.elim)
        obtain ⟨rfl, qq58⟩ := p58; subst h58
        dsimp only [Option.toList, List.cons_append, List.nil_append]
        refine wa_ccast hX g1 (by rfl) (by decide +kernel) dX12_coefficient_61 ?_
        refine wa_astore hX dX12_coefficient_64 rfl ?_
        dsimp only [List.set]
        refine wi_iconst hX dX12_coefficient_66 ?_
        refine wa_istore hX dX12_coefficient_67 rfl ?_
        dsimp only [List.set]
        refine wi_iconst hX dX12_coefficient_69 ?_
        refine wa_istore hX dX12_coefficient_70 rfl ?_
        dsimp only [List.set]
        refine WA.loop (σ := Nat) (fun z => 2 ^ E i - z) (fun z => z ≤ 2 ^ E i) (fun _ => h45) (fun z => [.val (.ref a), .val (I (i : Int)), .val (I (x : Int)), .val (I (y : Int)), .val (.ref (P i)), .val (I (cofM (R i) (E i) x y z)), .val (I (z : Nat))]) ?_ 0 (Nat.zero_le _)
        intro z hz ih
        have hst : cofM (R i) (E i) x y (z + 1) = cofM (R i) (E i) x y z + inpN (R i (2 ^ E i - 1) - R i z) x * inpN (bc z - R i z) y := rfl
        have hbz := bc_le z
        refine wa_iload hX dX12_coefficient_72 rfl ?_
        refine wa_aload hX dX12_coefficient_74 rfl ?_
        refine wa_callV hX (c_X11_full hW d g1 he) (by assumption) (by rfl) (by rfl) (by omega) (nA := 0) (by rfl) (by decide +kernel) rfl (by exact Nat.le_of_ble_eq_true rfl) dX12_coefficient_76 (fun r76 h76 p76 => ?_) (fun _ _ q => q.elim)
        obtain ⟨rfl, qq76⟩ := p76; subst h76
        dsimp only [Option.toList, List.cons_append, List.nil_append]
        refine wi_icmp_gt hX (tgt := 130) dX12_coefficient_79 (by decide) (by omega) (by omega) (fun c79 => ?_) (fun c79 => ?_)
        · skip
          refine wa_iload hX dX12_coefficient_130 rfl ?_
          refine wa_iret hX dX12_coefficient_132 ?_
          exact ⟨ff, Or.inr ⟨i, hi, rfl, Or.inr ⟨⟨x, y, by omega, by omega, rfl, rfl, by rw [show z = 2 ^ E i by omega]⟩, row, brk, al, wk, us, kp, pt, k1, kJ⟩⟩⟩
        · skip
          refine wa_iload hX dX12_coefficient_82 rfl ?_
          refine wa_aload hX dX12_coefficient_84 rfl ?_
          have hrz := hMi.le10 (s := z) (by omega)
          have hrf := hMi.le_all (s := z) (by omega)
          have hrb := hMi.le_bc (s := z) (by omega)
          refine wa_callV hX (c_X11_rank hW d g1 g2 g3 he (fun s hs => hMi.le10 hs)) (by assumption) (by rfl) (by rfl) (by omega) (nA := 0) (by rfl) (by decide +kernel) rfl (by exact Nat.le_of_ble_eq_true rfl) dX12_coefficient_86 (fun r86 h86 p86 => ?_) (fun _ _ q => q.elim)
          obtain ⟨rfl, qq86⟩ := p86; subst h86
          dsimp only [Option.toList, List.cons_append, List.nil_append]
          refine wa_aload hX dX12_coefficient_89 rfl ?_
          refine wa_get hX 1 (by assumption) (by rfl) (by decide +kernel) dX12_coefficient_91 ?_
          refine wa_iload hX dX12_coefficient_94 rfl ?_
          refine wi_iaload hX (by assumption) (by omega) (by omega) (by omega) dX12_coefficient_96 ?_
          rw [Int.toNat_natCast, g3 z (by omega)]
          refine wi_isub hX dX12_coefficient_97 ?_
          rw [show ((R i (2 ^ E i - 1) : Nat) : Int) - ((R i z : Nat) : Int) = ((R i (2 ^ E i - 1) - R i z : Nat) : Int) by omega]
          refine wa_iload_n hX (i := 2) dX12_coefficient_98 rfl rfl ?_
          refine wa_callS hX (c_X12_inPower hW d (n := R i (2 ^ E i - 1) - R i z) (k := x) (by omega) (by omega)) (by rfl) (by omega) (nA := 2) (by rfl) (by decide +kernel) rfl (by exact Nat.le_of_ble_eq_true rfl) dX12_coefficient_99 (fun r99 h99 p99 => ?_) (fun _ _ q => q.elim)
          obtain ⟨rfl, qq99⟩ := p99; subst h99
          dsimp only [Option.toList, List.cons_append, List.nil_append]
          refine wa_iload hX dX12_coefficient_102 rfl ?_
          refine wa_callS hX (c_J6_bitCount hW d (s := z) (by omega)) (by rfl) (by omega) (nA := 1) (by rfl) (by decide +kernel) rfl (by exact Nat.le_of_ble_eq_true rfl) dX12_coefficient_104 (fun r104 h104 p104 => ?_) (fun _ _ q => q.elim)
          obtain ⟨rfl, qq104⟩ := p104; subst h104
          dsimp only [Option.toList, List.cons_append, List.nil_append]
          refine wa_aload hX dX12_coefficient_107 rfl ?_
          refine wa_get hX 1 (by assumption) (by rfl) (by decide +kernel) dX12_coefficient_109 ?_
          refine wa_iload hX dX12_coefficient_112 rfl ?_
          refine wi_iaload hX (by assumption) (by omega) (by omega) (by omega) dX12_coefficient_114 ?_
          rw [Int.toNat_natCast, g3 z (by omega)]
          refine wi_isub hX dX12_coefficient_115 ?_
          rw [show ((bc z : Nat) : Int) - ((R i z : Nat) : Int) = ((bc z - R i z : Nat) : Int) by omega]
          refine wa_iload_n hX (i := 3) dX12_coefficient_116 rfl rfl ?_
          refine wa_callS hX (c_X12_inPower hW d (n := bc z - R i z) (k := y) (by omega) (by omega)) (by rfl) (by omega) (nA := 2) (by rfl) (by decide +kernel) rfl (by exact Nat.le_of_ble_eq_true rfl) dX12_coefficient_117 (fun r117 h117 p117 => ?_) (fun _ _ q => q.elim)
          obtain ⟨rfl, qq117⟩ := p117; subst h117
          dsimp only [Option.toList, List.cons_append, List.nil_append]
          refine wi_imul hX dX12_coefficient_120 ?_
          refine wi_iadd hX dX12_coefficient_121 ?_
          rw [← hst]
          refine wa_istore hX dX12_coefficient_122 rfl ?_
          dsimp only [List.set]
          refine wi_iinc hX dX12_coefficient_124 rfl ?_
          dsimp only [List.set]
          refine wa_goto hX (tgt := 72) dX12_coefficient_127 (by decide) ?_
          exact ih (z + 1) (by omega) (by omega)
      · skip
        refine wi_iconst hX dX12_coefficient_51 ?_
        refine wa_iret hX dX12_coefficient_52 ?_
        have z := b2n_t c48
        rw [z, if_pos ⟨rfl, rfl⟩] at k1
        refine ⟨ff, Or.inr ⟨i, hi, rfl, Or.inl ⟨?_, ⟨_, rfl⟩, row, brk, al, wk, us, kp, pt, k1, kJ⟩⟩⟩
        rw [Bool.or_eq_true, Bool.not_eq_true', decide_eq_false_iff_not, Bool.not_eq_true', decide_eq_false_iff_not] at z
        exact z
    · skip
      refine wa_iload_n hX (i := 3) dX12_coefficient_29 rfl rfl ?_
      refine wi_iconst hX dX12_coefficient_30 ?_
      refine wi_bipush hX dX12_coefficient_31 (by decide) ?_
      refine wa_callS hX (c_X12_in hW d (v := y) (lo := 0) (hi := 10) hy (by omega) (by omega)) (by rfl) (by omega) (nA := 3) (by rfl) (by decide +kernel) rfl (by exact Nat.le_of_ble_eq_true rfl) dX12_coefficient_33 (fun r33 h33 p33 => ?_) (fun _ _ q => q.elim)
      obtain ⟨rfl, qq33⟩ := p33; subst h33
      dsimp only [Option.toList, List.cons_append, List.nil_append]
      refine wi_if_ne hX (tgt := 43) dX12_coefficient_36 (by decide) (by exact b2n_inR _) (fun c36 => ?_) (fun c36 => ?_)
      · skip
        refine wi_iconst hX dX12_coefficient_43 ?_
        refine WA.eq (pc2 := 44) (st2 := [I ((b2n (!decide ((0 : Int) ≤ x ∧ x ≤ 10) || !decide ((0 : Int) ≤ y ∧ y ≤ 10)) : Nat) : Int), .ref a]) rfl rfl (by
          first
            | (have q := b2n_f c26; rw [q]; rfl)
            | (have q := b2n_t c26; have q2 := b2n_t c36; rw [q, q2]; rfl)
            | (have q := b2n_t c26; have q2 := b2n_f c36; rw [q, q2]; rfl)) ?_
        clear c26
        refine wi_iconst hX dX12_coefficient_44 ?_
        refine wa_callV hX (c_X12_fails hW d (th := 0) (k := 2) (b := (!decide ((0 : Int) ≤ x ∧ x ≤ 10) || !decide ((0 : Int) ≤ y ∧ y ≤ 10))) k1 (by omega) (by omega)) (by assumption) (by rfl) (by rfl) (by omega) (nA := 2) (by rfl) (by decide +kernel) rfl (by exact Nat.le_of_ble_eq_true rfl) dX12_coefficient_45 (fun r45 h45 p45 => ?_) (fun _ _ q => q.elim)
        obtain ⟨rfl, hh45⟩ := p45
        have f45 : Fr (fun x => x = 120) h12 h45 := by rw [hh45]; exact Fr.hset Fr.rf k1 rfl
        replace k1 : h45 a = some (120, oMod ((if ((!decide ((0 : Int) ≤ x ∧ x ≤ 10) || !decide ((0 : Int) ≤ y ∧ y ≤ 10))) = true ∧ (0 : Nat) = 0 then 2 else 0 : Nat) : Int) (c : Int) row brk al wk us kp pt) := by rw [hh45]; exact hset_eq
        replace kJ := kJ.fr f45 (fun x hx => by omega)
        replace ff := ff.trans f45
        clear hh45 f45
        rw [show (((!decide ((0 : Int) ≤ x ∧ x ≤ 10) || !decide ((0 : Int) ≤ y ∧ y ≤ 10))) || (0 : Nat) != 0) = ((!decide ((0 : Int) ≤ x ∧ x ≤ 10) || !decide ((0 : Int) ≤ y ∧ y ≤ 10))) from Bool.or_false _]
        clear kr kb kwk kus kkp kpt ka ke kI kMat hc60 hw hm24 hMt
        obtain ⟨⟨hc60, hw, hm24, hMt⟩, kr, kb, kwk, kus, kkp, kpt, ed, N, P, ka, ke, kI, kMat⟩ := id kJ
        dsimp only [Option.toList, List.cons_append, List.nil_append]
        refine wi_if_eq hX (tgt := 53) dX12_coefficient_48 (by decide) (by exact b2n_inR _) (fun c48 => ?_) (fun c48 => ?_)
        · skip
          have hv48 := b2n_f c48
          rw [hv48, if_neg (fun z => Bool.false_ne_true z.1)] at k1
          rw [Bool.or_eq_false_iff, Bool.not_eq_false', decide_eq_true_eq, Bool.not_eq_false', decide_eq_true_eq] at hv48
          obtain ⟨⟨hx1, hx2⟩, hy1, hy2⟩ := hv48
          obtain ⟨x, rfl⟩ := Int.eq_ofNat_of_zero_le hx1
          obtain ⟨y, rfl⟩ := Int.eq_ofNat_of_zero_le hy1
          obtain ⟨e3, hN1, hN2⟩ : h45 ed = some (124, aR (.object "java/lang/Object") N (fun j => if j < m then some (P j) else none)) ∧ m ≤ N ∧ N ≤ 100 := by
            rcases ke with z | z
            · exfalso; omega
            · exact z
          obtain ⟨rq, m2, m3, l2, l3, G, g1, g2, g3, g4, g5⟩ := id (kMat i hi)
          have hMi := hMt i hi
          have he := hMi.1
          have hp := p2_le he
          have hp0 := p2_pos (E i)
          have hr0 := hMi.le10 (s := 2 ^ E i - 1) (by omega)
          refine wa_aload_n hX (i := 0) dX12_coefficient_53 rfl rfl ?_
          refine wa_get hX 4 (by assumption) (by rfl) (by decide +kernel) dX12_coefficient_54 ?_
          refine wa_iload_n hX (i := 1) dX12_coefficient_57 rfl rfl ?_
          refine wa_callV hX (c_AL_get hW d ka e3 (i := i) (q := P i) hi hN1 (by omega) (if_pos hi)) (by assumption) (by rfl) (by rfl) (by omega) (nA := 1) (by rfl) (by decide +kernel) rfl (by exact Nat.le_of_ble_eq_true rfl) dX12_coefficient_58 (fun r58 h58 p58 => ?_) (fun _ _ q => q.elim)
          obtain ⟨rfl, qq58⟩ := p58; subst h58
          dsimp only [Option.toList, List.cons_append, List.nil_append]
          refine wa_ccast hX g1 (by rfl) (by decide +kernel) dX12_coefficient_61 ?_
          refine wa_astore hX dX12_coefficient_64 rfl ?_
          dsimp only [List.set]
          refine wi_iconst hX dX12_coefficient_66 ?_
          refine wa_istore hX dX12_coefficient_67 rfl ?_
          dsimp only [List.set]
          refine wi_iconst hX dX12_coefficient_69 ?_
          refine wa_istore hX dX12_coefficient_70 rfl ?_
          dsimp only [List.set]
          refine WA.loop (σ := Nat) (fun z => 2 ^ E i - z) (fun z => z ≤ 2 ^ E i) (fun _ => h45) (fun z => [.val (.ref a), .val (I (i : Int)), .val (I (x : Int)), .val (I (y : Int)), .val (.ref (P i)), .val (I (cofM (R i) (E i) x y z)), .val (I (z : Nat))]) ?_ 0 (Nat.zero_le _)
          intro z hz ih
          have hst : cofM (R i) (E i) x y (z + 1) = cofM (R i) (E i) x y z + inpN (R i (2 ^ E i - 1) - R i z) x * inpN (bc z - R i z) y := rfl
          have hbz := bc_le z
          refine wa_iload hX dX12_coefficient_72 rfl ?_
          refine wa_aload hX dX12_coefficient_74 rfl ?_
          refine wa_callV hX (c_X11_full hW d g1 he) (by assumption) (by rfl) (by rfl) (by omega) (nA := 0) (by rfl) (by decide +kernel) rfl (by exact Nat.le_of_ble_eq_true rfl) dX12_coefficient_76 (fun r76 h76 p76 => ?_) (fun _ _ q => q.elim)
          obtain ⟨rfl, qq76⟩ := p76; subst h76
          dsimp only [Option.toList, List.cons_append, List.nil_append]
          refine wi_icmp_gt hX (tgt := 130) dX12_coefficient_79 (by decide) (by omega) (by omega) (fun c79 => ?_) (fun c79 => ?_)
          · skip
            refine wa_iload hX dX12_coefficient_130 rfl ?_
            refine wa_iret hX dX12_coefficient_132 ?_
            exact ⟨ff, Or.inr ⟨i, hi, rfl, Or.inr ⟨⟨x, y, by omega, by omega, rfl, rfl, by rw [show z = 2 ^ E i by omega]⟩, row, brk, al, wk, us, kp, pt, k1, kJ⟩⟩⟩
          · skip
            refine wa_iload hX dX12_coefficient_82 rfl ?_
            refine wa_aload hX dX12_coefficient_84 rfl ?_
            have hrz := hMi.le10 (s := z) (by omega)
            have hrf := hMi.le_all (s := z) (by omega)
            have hrb := hMi.le_bc (s := z) (by omega)
            refine wa_callV hX (c_X11_rank hW d g1 g2 g3 he (fun s hs => hMi.le10 hs)) (by assumption) (by rfl) (by rfl) (by omega) (nA := 0) (by rfl) (by decide +kernel) rfl (by exact Nat.le_of_ble_eq_true rfl) dX12_coefficient_86 (fun r86 h86 p86 => ?_) (fun _ _ q => q.elim)
            obtain ⟨rfl, qq86⟩ := p86; subst h86
            dsimp only [Option.toList, List.cons_append, List.nil_append]
            refine wa_aload hX dX12_coefficient_89 rfl ?_
            refine wa_get hX 1 (by assumption) (by rfl) (by decide +kernel) dX12_coefficient_91 ?_
            refine wa_iload hX dX12_coefficient_94 rfl ?_
            refine wi_iaload hX (by assumption) (by omega) (by omega) (by omega) dX12_coefficient_96 ?_
            rw [Int.toNat_natCast, g3 z (by omega)]
            refine wi_isub hX dX12_coefficient_97 ?_
            rw [show ((R i (2 ^ E i - 1) : Nat) : Int) - ((R i z : Nat) : Int) = ((R i (2 ^ E i - 1) - R i z : Nat) : Int) by omega]
            refine wa_iload_n hX (i := 2) dX12_coefficient_98 rfl rfl ?_
            refine wa_callS hX (c_X12_inPower hW d (n := R i (2 ^ E i - 1) - R i z) (k := x) (by omega) (by omega)) (by rfl) (by omega) (nA := 2) (by rfl) (by decide +kernel) rfl (by exact Nat.le_of_ble_eq_true rfl) dX12_coefficient_99 (fun r99 h99 p99 => ?_) (fun _ _ q => q.elim)
            obtain ⟨rfl, qq99⟩ := p99; subst h99
            dsimp only [Option.toList, List.cons_append, List.nil_append]
            refine wa_iload hX dX12_coefficient_102 rfl ?_
            refine wa_callS hX (c_J6_bitCount hW d (s := z) (by omega)) (by rfl) (by omega) (nA := 1) (by rfl) (by decide +kernel) rfl (by exact Nat.le_of_ble_eq_true rfl) dX12_coefficient_104 (fun r104 h104 p104 => ?_) (fun _ _ q => q.elim)
            obtain ⟨rfl, qq104⟩ := p104; subst h104
            dsimp only [Option.toList, List.cons_append, List.nil_append]
            refine wa_aload hX dX12_coefficient_107 rfl ?_
            refine wa_get hX 1 (by assumption) (by rfl) (by decide +kernel) dX12_coefficient_109 ?_
            refine wa_iload hX dX12_coefficient_112 rfl ?_
            refine wi_iaload hX (by assumption) (by omega) (by omega) (by omega) dX12_coefficient_114 ?_
            rw [Int.toNat_natCast, g3 z (by omega)]
            refine wi_isub hX dX12_coefficient_115 ?_
            rw [show ((bc z : Nat) : Int) - ((R i z : Nat) : Int) = ((bc z - R i z : Nat) : Int) by omega]
            refine wa_iload_n hX (i := 3) dX12_coefficient_116 rfl rfl ?_
            refine wa_callS hX (c_X12_inPower hW d (n := bc z - R i z) (k := y) (by omega) (by omega)) (by rfl) (by omega) (nA := 2) (by rfl) (by decide +kernel) rfl (by exact Nat.le_of_ble_eq_true rfl) dX12_coefficient_117 (fun r117 h117 p117 => ?_) (fun _ _ q => q.elim)
            obtain ⟨rfl, qq117⟩ := p117; subst h117
            dsimp only [Option.toList, List.cons_append, List.nil_append]
            refine wi_imul hX dX12_coefficient_120 ?_
            refine wi_iadd hX dX12_coefficient_121 ?_
            rw [← hst]
            refine wa_istore hX dX12_coefficient_122 rfl ?_
            dsimp only [List.set]
            refine wi_iinc hX dX12_coefficient_124 rfl ?_
            dsimp only [List.set]
            refine wa_goto hX (tgt := 72) dX12_coefficient_127 (by decide) ?_
            exact ih (z + 1) (by omega) (by omega)
        · skip
          refine wi_iconst hX dX12_coefficient_51 ?_
          refine wa_iret hX dX12_coefficient_52 ?_
          have z := b2n_t c48
          rw [z, if_pos ⟨rfl, rfl⟩] at k1
          refine ⟨ff, Or.inr ⟨i, hi, rfl, Or.inl ⟨?_, ⟨_, rfl⟩, row, brk, al, wk, us, kp, pt, k1, kJ⟩⟩⟩
          rw [Bool.or_eq_true, Bool.not_eq_true', decide_eq_false_iff_not, Bool.not_eq_true', decide_eq_false_iff_not] at z
          exact z
      · skip
        refine wi_iconst hX dX12_coefficient_39 ?_
        refine wa_goto hX (tgt := 44) dX12_coefficient_40 (by decide) ?_
        refine WA.eq (pc2 := 44) (st2 := [I ((b2n (!decide ((0 : Int) ≤ x ∧ x ≤ 10) || !decide ((0 : Int) ≤ y ∧ y ≤ 10)) : Nat) : Int), .ref a]) rfl rfl (by
          first
            | (have q := b2n_f c26; rw [q]; rfl)
            | (have q := b2n_t c26; have q2 := b2n_t c36; rw [q, q2]; rfl)
            | (have q := b2n_t c26; have q2 := b2n_f c36; rw [q, q2]; rfl)) ?_
        clear c26
        refine wi_iconst hX dX12_coefficient_44 ?_
        refine wa_callV hX (c_X12_fails hW d (th := 0) (k := 2) (b := (!decide ((0 : Int) ≤ x ∧ x ≤ 10) || !decide ((0 : Int) ≤ y ∧ y ≤ 10))) k1 (by omega) (by omega)) (by assumption) (by rfl) (by rfl) (by omega) (nA := 2) (by rfl) (by decide +kernel) rfl (by exact Nat.le_of_ble_eq_true rfl) dX12_coefficient_45 (fun r45 h45 p45 => ?_) (fun _ _ q => q.elim)
        obtain ⟨rfl, hh45⟩ := p45
        have f45 : Fr (fun x => x = 120) h12 h45 := by rw [hh45]; exact Fr.hset Fr.rf k1 rfl
        replace k1 : h45 a = some (120, oMod ((if ((!decide ((0 : Int) ≤ x ∧ x ≤ 10) || !decide ((0 : Int) ≤ y ∧ y ≤ 10))) = true ∧ (0 : Nat) = 0 then 2 else 0 : Nat) : Int) (c : Int) row brk al wk us kp pt) := by rw [hh45]; exact hset_eq
        replace kJ := kJ.fr f45 (fun x hx => by omega)
        replace ff := ff.trans f45
        clear hh45 f45
        rw [show (((!decide ((0 : Int) ≤ x ∧ x ≤ 10) || !decide ((0 : Int) ≤ y ∧ y ≤ 10))) || (0 : Nat) != 0) = ((!decide ((0 : Int) ≤ x ∧ x ≤ 10) || !decide ((0 : Int) ≤ y ∧ y ≤ 10))) from Bool.or_false _]
        clear kr kb kwk kus kkp kpt ka ke kI kMat hc60 hw hm24 hMt
        obtain ⟨⟨hc60, hw, hm24, hMt⟩, kr, kb, kwk, kus, kkp, kpt, ed, N, P, ka, ke, kI, kMat⟩ := id kJ
        dsimp only [Option.toList, List.cons_append, List.nil_append]
        refine wi_if_eq hX (tgt := 53) dX12_coefficient_48 (by decide) (by exact b2n_inR _) (fun c48 => ?_) (fun c48 => ?_)
        · skip
          have hv48 := b2n_f c48
          rw [hv48, if_neg (fun z => Bool.false_ne_true z.1)] at k1
          rw [Bool.or_eq_false_iff, Bool.not_eq_false', decide_eq_true_eq, Bool.not_eq_false', decide_eq_true_eq] at hv48
          obtain ⟨⟨hx1, hx2⟩, hy1, hy2⟩ := hv48
          obtain ⟨x, rfl⟩ := Int.eq_ofNat_of_zero_le hx1
          obtain ⟨y, rfl⟩ := Int.eq_ofNat_of_zero_le hy1
          obtain ⟨e3, hN1, hN2⟩ : h45 ed = some (124, aR (.object "java/lang/Object") N (fun j => if j < m then some (P j) else none)) ∧ m ≤ N ∧ N ≤ 100 := by
            rcases ke with z | z
            · exfalso; omega
            · exact z
          obtain ⟨rq, m2, m3, l2, l3, G, g1, g2, g3, g4, g5⟩ := id (kMat i hi)
          have hMi := hMt i hi
          have he := hMi.1
          have hp := p2_le he
          have hp0 := p2_pos (E i)
          have hr0 := hMi.le10 (s := 2 ^ E i - 1) (by omega)
          refine wa_aload_n hX (i := 0) dX12_coefficient_53 rfl rfl ?_
          refine wa_get hX 4 (by assumption) (by rfl) (by decide +kernel) dX12_coefficient_54 ?_
          refine wa_iload_n hX (i := 1) dX12_coefficient_57 rfl rfl ?_
          refine wa_callV hX (c_AL_get hW d ka e3 (i := i) (q := P i) hi hN1 (by omega) (if_pos hi)) (by assumption) (by rfl) (by rfl) (by omega) (nA := 1) (by rfl) (by decide +kernel) rfl (by exact Nat.le_of_ble_eq_true rfl) dX12_coefficient_58 (fun r58 h58 p58 => ?_) (fun _ _ q => q.elim)
          obtain ⟨rfl, qq58⟩ := p58; subst h58
          dsimp only [Option.toList, List.cons_append, List.nil_append]
          refine wa_ccast hX g1 (by rfl) (by decide +kernel) dX12_coefficient_61 ?_
          refine wa_astore hX dX12_coefficient_64 rfl ?_
          dsimp only [List.set]
          refine wi_iconst hX dX12_coefficient_66 ?_
          refine wa_istore hX dX12_coefficient_67 rfl ?_
          dsimp only [List.set]
          refine wi_iconst hX dX12_coefficient_69 ?_
          refine wa_istore hX dX12_coefficient_70 rfl ?_
          dsimp only [List.set]
          refine WA.loop (σ := Nat) (fun z => 2 ^ E i - z) (fun z => z ≤ 2 ^ E i) (fun _ => h45) (fun z => [.val (.ref a), .val (I (i : Int)), .val (I (x : Int)), .val (I (y : Int)), .val (.ref (P i)), .val (I (cofM (R i) (E i) x y z)), .val (I (z : Nat))]) ?_ 0 (Nat.zero_le _)
          intro z hz ih
          have hst : cofM (R i) (E i) x y (z + 1) = cofM (R i) (E i) x y z + inpN (R i (2 ^ E i - 1) - R i z) x * inpN (bc z - R i z) y := rfl
          have hbz := bc_le z
          refine wa_iload hX dX12_coefficient_72 rfl ?_
          refine wa_aload hX dX12_coefficient_74 rfl ?_
          refine wa_callV hX (c_X11_full hW d g1 he) (by assumption) (by rfl) (by rfl) (by omega) (nA := 0) (by rfl) (by decide +kernel) rfl (by exact Nat.le_of_ble_eq_true rfl) dX12_coefficient_76 (fun r76 h76 p76 => ?_) (fun _ _ q => q.elim)
          obtain ⟨rfl, qq76⟩ := p76; subst h76
          dsimp only [Option.toList, List.cons_append, List.nil_append]
          refine wi_icmp_gt hX (tgt := 130) dX12_coefficient_79 (by decide) (by omega) (by omega) (fun c79 => ?_) (fun c79 => ?_)
          · skip
            refine wa_iload hX dX12_coefficient_130 rfl ?_
            refine wa_iret hX dX12_coefficient_132 ?_
            exact ⟨ff, Or.inr ⟨i, hi, rfl, Or.inr ⟨⟨x, y, by omega, by omega, rfl, rfl, by rw [show z = 2 ^ E i by omega]⟩, row, brk, al, wk, us, kp, pt, k1, kJ⟩⟩⟩
          · skip
            refine wa_iload hX dX12_coefficient_82 rfl ?_
            refine wa_aload hX dX12_coefficient_84 rfl ?_
            have hrz := hMi.le10 (s := z) (by omega)
            have hrf := hMi.le_all (s := z) (by omega)
            have hrb := hMi.le_bc (s := z) (by omega)
            refine wa_callV hX (c_X11_rank hW d g1 g2 g3 he (fun s hs => hMi.le10 hs)) (by assumption) (by rfl) (by rfl) (by omega) (nA := 0) (by rfl) (by decide +kernel) rfl (by exact Nat.le_of_ble_eq_true rfl) dX12_coefficient_86 (fun r86 h86 p86 => ?_) (fun _ _ q => q.elim)
            obtain ⟨rfl, qq86⟩ := p86; subst h86
            dsimp only [Option.toList, List.cons_append, List.nil_append]
            refine wa_aload hX dX12_coefficient_89 rfl ?_
            refine wa_get hX 1 (by assumption) (by rfl) (by decide +kernel) dX12_coefficient_91 ?_
            refine wa_iload hX dX12_coefficient_94 rfl ?_
            refine wi_iaload hX (by assumption) (by omega) (by omega) (by omega) dX12_coefficient_96 ?_
            rw [Int.toNat_natCast, g3 z (by omega)]
            refine wi_isub hX dX12_coefficient_97 ?_
            rw [show ((R i (2 ^ E i - 1) : Nat) : Int) - ((R i z : Nat) : Int) = ((R i (2 ^ E i - 1) - R i z : Nat) : Int) by omega]
            refine wa_iload_n hX (i := 2) dX12_coefficient_98 rfl rfl ?_
            refine wa_callS hX (c_X12_inPower hW d (n := R i (2 ^ E i - 1) - R i z) (k := x) (by omega) (by omega)) (by rfl) (by omega) (nA := 2) (by rfl) (by decide +kernel) rfl (by exact Nat.le_of_ble_eq_true rfl) dX12_coefficient_99 (fun r99 h99 p99 => ?_) (fun _ _ q => q.elim)
            obtain ⟨rfl, qq99⟩ := p99; subst h99
            dsimp only [Option.toList, List.cons_append, List.nil_append]
            refine wa_iload hX dX12_coefficient_102 rfl ?_
            refine wa_callS hX (c_J6_bitCount hW d (s := z) (by omega)) (by rfl) (by omega) (nA := 1) (by rfl) (by decide +kernel) rfl (by exact Nat.le_of_ble_eq_true rfl) dX12_coefficient_104 (fun r104 h104 p104 => ?_) (fun _ _ q => q.elim)
            obtain ⟨rfl, qq104⟩ := p104; subst h104
            dsimp only [Option.toList, List.cons_append, List.nil_append]
            refine wa_aload hX dX12_coefficient_107 rfl ?_
            refine wa_get hX 1 (by assumption) (by rfl) (by decide +kernel) dX12_coefficient_109 ?_
            refine wa_iload hX dX12_coefficient_112 rfl ?_
            refine wi_iaload hX (by assumption) (by omega) (by omega) (by omega) dX12_coefficient_114 ?_
            rw [Int.toNat_natCast, g3 z (by omega)]
            refine wi_isub hX dX12_coefficient_115 ?_
            rw [show ((bc z : Nat) : Int) - ((R i z : Nat) : Int) = ((bc z - R i z : Nat) : Int) by omega]
            refine wa_iload_n hX (i := 3) dX12_coefficient_116 rfl rfl ?_
            refine wa_callS hX (c_X12_inPower hW d (n := bc z - R i z) (k := y) (by omega) (by omega)) (by rfl) (by omega) (nA := 2) (by rfl) (by decide +kernel) rfl (by exact Nat.le_of_ble_eq_true rfl) dX12_coefficient_117 (fun r117 h117 p117 => ?_) (fun _ _ q => q.elim)
            obtain ⟨rfl, qq117⟩ := p117; subst h117
            dsimp only [Option.toList, List.cons_append, List.nil_append]
            refine wi_imul hX dX12_coefficient_120 ?_
            refine wi_iadd hX dX12_coefficient_121 ?_
            rw [← hst]
            refine wa_istore hX dX12_coefficient_122 rfl ?_
            dsimp only [List.set]
            refine wi_iinc hX dX12_coefficient_124 rfl ?_
            dsimp only [List.set]
            refine wa_goto hX (tgt := 72) dX12_coefficient_127 (by decide) ?_
            exact ih (z + 1) (by omega) (by omega)
        · skip
          refine wi_iconst hX dX12_coefficient_51 ?_
          refine wa_iret hX dX12_coefficient_52 ?_
          have z := b2n_t c48
          rw [z, if_pos ⟨rfl, rfl⟩] at k1
          refine ⟨ff, Or.inr ⟨i, hi, rfl, Or.inl ⟨?_, ⟨_, rfl⟩, row, brk, al, wk, us, kp, pt, k1, kJ⟩⟩⟩
          rw [Bool.or_eq_true, Bool.not_eq_true', decide_eq_false_iff_not, Bool.not_eq_true', decide_eq_false_iff_not] at z
          exact z
set_option maxHeartbeats 2000000 in
set_option maxRecDepth 100000 in
theorem c_X12_value (hW : WOK l D S0) (d : Nat) {h : AH} {a th : Nat} {c m : Nat} {w : Nat → Nat} {E : Nat → Nat} {R : Nat → Nat → Nat} {b0 b1 b2 : Int} (hI : RI Z DR h a th c w m E R b0 b1 b2) {n x y : Int} (hn : inR n) (hx : inR x) (hy : inR y) : MA l D S0 yX12_value cX12_value 8 (some .long) (d + 4) [.ref a, I n, I x, I y] h 0 0 (fun r h' => Fr (fun x => x = 120) h h' ∧ ((noM n m ∧ (∃ z, r = some (Lg z)) ∧ RI Z DR h' a 1 c w m E R b0 b1 b2) ∨ ∃ i, i < m ∧ n = (i : Int) ∧ ((¬ (-9 ≤ x ∧ x ≤ 9) ∨ ¬ (-9 ≤ y ∧ y ≤ 9)) ∧ (∃ z, r = some (Lg z)) ∧ RI Z DR h' a 2 c w m E R b0 b1 b2 ∨ (-9 ≤ x ∧ x ≤ 9 ∧ -9 ≤ y ∧ y ≤ 9 ∧ r = some (Lg (valM (R i) (E i) x y (2 ^ E i)))) ∧ RI Z DR h' a 0 c w m E R b0 b1 b2))) (fun _ _ => False) := by
  obtain ⟨row, brk, al, wk, us, kp, pt, k1, kJ⟩ := hI
  refine MA.start hW (by decide) [.val (.ref a), .val (I n), .val (I x), .val (I y), .unset, .unset, .unset, .unset] rfl ?_
  rintro X rfl rfl rfl hX
  refine wa_aload_n hX (i := 0) dX12_value_0 rfl rfl ?_
  refine wi_iconst hX dX12_value_1 ?_
  refine wa_put hX 0 k1 (Nat.le_of_ble_eq_true rfl) (by decide +kernel) (by rfl) (by rfl) (by rfl) dX12_value_2 ?_
  refine WA.heap (h2 := hset h a (120, oMod ((0 : Nat) : Int) (c : Int) row brk al wk us kp pt)) rfl ?_
  refine WA.hgq (fun hA hh2 => ?_)
  have ff : Fr (fun x => x = 120) h hA := by rw [hh2]; exact Fr.hset Fr.rf k1 rfl
  replace k1 : hA a = some (120, oMod ((0 : Nat) : Int) (c : Int) row brk al wk us kp pt) := by rw [hh2]; exact hset_eq
  replace kJ := kJ.fr ff (fun x hx => by omega)
  clear hh2
  obtain ⟨⟨hc60, hw, hm24, hMt⟩, kr, kb, kwk, kus, kkp, kpt, ed, N, P, ka, ke, kI, kMat⟩ := id kJ
  refine wa_aload_n hX (i := 0) dX12_value_5 rfl rfl ?_
  refine wa_aload_n hX (i := 0) dX12_value_6 rfl rfl ?_
  refine wa_iload_n hX (i := 1) dX12_value_7 rfl rfl ?_
  refine wa_callV hX (c_X12_no hW (d + 1) k1 ka hm24 hn) (by assumption) (by rfl) (by rfl) (by omega) (nA := 1) (by rfl) (by decide +kernel) rfl (by exact Nat.le_of_ble_eq_true rfl) dX12_value_8 (fun r8 h8 p8 => ?_) (fun _ _ q => q.elim)
  obtain ⟨rfl, qq8⟩ := p8; subst h8
  dsimp only [Option.toList, List.cons_append, List.nil_append]
  refine wi_iconst hX dX12_value_11 ?_
  refine wa_callV hX (c_X12_fails hW d (th := 0) (k := 1) (b := (!decide (0 ≤ n ∧ n < (m : Int)))) k1 (by omega) (by omega)) (by assumption) (by rfl) (by rfl) (by omega) (nA := 2) (by rfl) (by decide +kernel) rfl (by exact Nat.le_of_ble_eq_true rfl) dX12_value_12 (fun r12 h12 p12 => ?_) (fun _ _ q => q.elim)
  obtain ⟨rfl, hh12⟩ := p12
  have f12 : Fr (fun x => x = 120) hA h12 := by rw [hh12]; exact Fr.hset Fr.rf k1 rfl
  replace k1 : h12 a = some (120, oMod ((if ((!decide (0 ≤ n ∧ n < (m : Int)))) = true ∧ (0 : Nat) = 0 then 1 else 0 : Nat) : Int) (c : Int) row brk al wk us kp pt) := by rw [hh12]; exact hset_eq
  replace kJ := kJ.fr f12 (fun x hx => by omega)
  replace ff := ff.trans f12
  clear hh12 f12
  rw [show (((!decide (0 ≤ n ∧ n < (m : Int)))) || (0 : Nat) != 0) = ((!decide (0 ≤ n ∧ n < (m : Int)))) from Bool.or_false _]
  clear kr kb kwk kus kkp kpt ka ke kI kMat hc60 hw hm24 hMt
  obtain ⟨⟨hc60, hw, hm24, hMt⟩, kr, kb, kwk, kus, kkp, kpt, ed, N, P, ka, ke, kI, kMat⟩ := id kJ
  dsimp only [Option.toList, List.cons_append, List.nil_append]
  refine wi_if_ne hX (tgt := 53) dX12_value_15 (by decide) (by exact b2n_inR _) (fun c15 => ?_) (fun c15 => ?_)
  · skip
    refine wl_const0 hX dX12_value_53 ?_
    refine wa_lret hX dX12_value_54 ?_
    have z := b2n_t c15
    rw [z, if_pos ⟨rfl, rfl⟩] at k1
    rw [Bool.not_eq_true', decide_eq_false_iff_not] at z
    exact ⟨ff, Or.inl ⟨z, ⟨_, rfl⟩, row, brk, al, wk, us, kp, pt, k1, kJ⟩⟩
  · skip
    have hv15 := b2n_f c15
    rw [hv15, if_neg (fun z => Bool.false_ne_true z.1)] at k1
    rw [Bool.not_eq_false', decide_eq_true_eq] at hv15
    obtain ⟨i, rfl⟩ := Int.eq_ofNat_of_zero_le hv15.1
    have hi : i < m := by omega
    refine wa_aload_n hX (i := 0) dX12_value_18 rfl rfl ?_
    refine wa_iload_n hX (i := 2) dX12_value_19 rfl rfl ?_
    refine wi_bipush hX dX12_value_20 (by decide) ?_
    refine wi_bipush hX dX12_value_22 (by decide) ?_
    refine wa_callS hX (c_X12_in hW d (v := x) (lo := -9) (hi := 9) hx (by omega) (by omega)) (by rfl) (by omega) (nA := 3) (by rfl) (by decide +kernel) rfl (by exact Nat.le_of_ble_eq_true rfl) dX12_value_24 (fun r24 h24 p24 => ?_) (fun _ _ q => q.elim)
    obtain ⟨rfl, qq24⟩ := p24; subst h24
    dsimp only [Option.toList, List.cons_append, List.nil_append]
    refine wi_if_eq hX (tgt := 41) dX12_value_27 (by decide) (by exact b2n_inR _) (fun c27 => ?_) (fun c27 => ?_)
    · skip
      refine wi_iconst hX dX12_value_41 ?_
      refine wa_goto hX (tgt := 46) dX12_value_42 (by decide) ?_
      refine WA.eq (pc2 := 46) (st2 := [I ((b2n (!decide ((-9 : Int) ≤ x ∧ x ≤ 9) || !decide ((-9 : Int) ≤ y ∧ y ≤ 9)) : Nat) : Int), .ref a]) rfl rfl (by
        first
          | (have q := b2n_f c27; rw [q]; rfl)
          | (have q := b2n_t c27; have q2 := b2n_t c38; rw [q, q2]; rfl)
          | (have q := b2n_t c27; have q2 := b2n_f c38; rw [q, q2]; rfl)) ?_
      clear c27
      refine wi_iconst hX dX12_value_46 ?_
      refine wa_callV hX (c_X12_fails hW d (th := 0) (k := 2) (b := (!decide ((-9 : Int) ≤ x ∧ x ≤ 9) || !decide ((-9 : Int) ≤ y ∧ y ≤ 9))) k1 (by omega) (by omega)) (by assumption) (by rfl) (by rfl) (by omega) (nA := 2) (by rfl) (by decide +kernel) rfl (by exact Nat.le_of_ble_eq_true rfl) dX12_value_47 (fun r47 h47 p47 => ?_) (fun _ _ q => q.elim)
      obtain ⟨rfl, hh47⟩ := p47
      have f47 : Fr (fun x => x = 120) h12 h47 := by rw [hh47]; exact Fr.hset Fr.rf k1 rfl
      replace k1 : h47 a = some (120, oMod ((if ((!decide ((-9 : Int) ≤ x ∧ x ≤ 9) || !decide ((-9 : Int) ≤ y ∧ y ≤ 9))) = true ∧ (0 : Nat) = 0 then 2 else 0 : Nat) : Int) (c : Int) row brk al wk us kp pt) := by rw [hh47]; exact hset_eq
      replace kJ := kJ.fr f47 (fun x hx => by omega)
      replace ff := ff.trans f47
      clear hh47 f47
      rw [show (((!decide ((-9 : Int) ≤ x ∧ x ≤ 9) || !decide ((-9 : Int) ≤ y ∧ y ≤ 9))) || (0 : Nat) != 0) = ((!decide ((-9 : Int) ≤ x ∧ x ≤ 9) || !decide ((-9 : Int) ≤ y ∧ y ≤ 9))) from Bool.or_false _]
      clear kr kb kwk kus kkp kpt ka ke kI kMat hc60 hw hm24 hMt
      obtain ⟨⟨hc60, hw, hm24, hMt⟩, kr, kb, kwk, kus, kkp, kpt, ed, N, P, ka, ke, kI, kMat⟩ := id kJ
      dsimp only [Option.toList, List.cons_append, List.nil_append]
      refine wi_if_eq hX (tgt := 55) dX12_value_50 (by decide) (by exact b2n_inR _) (fun c50 => ?_) (fun c50 => ?_)
      · skip
        have hv50 := b2n_f c50
        rw [hv50, if_neg (fun z => Bool.false_ne_true z.1)] at k1
        rw [Bool.or_eq_false_iff, Bool.not_eq_false', decide_eq_true_eq, Bool.not_eq_false', decide_eq_true_eq] at hv50
        obtain ⟨⟨hx1, hx2⟩, hy1, hy2⟩ := hv50
        obtain ⟨e3, hN1, hN2⟩ : h47 ed = some (124, aR (.object "java/lang/Object") N (fun j => if j < m then some (P j) else none)) ∧ m ≤ N ∧ N ≤ 100 := by
          rcases ke with z | z
          · exfalso; omega
          · exact z
        obtain ⟨rq, m2, m3, l2, l3, G, g1, g2, g3, g4, g5⟩ := id (kMat i hi)
        have hMi := hMt i hi
        have he := hMi.1
        have hp := p2_le he
        have hp0 := p2_pos (E i)
        have hr0 := hMi.le10 (s := 2 ^ E i - 1) (by omega)
        refine wa_aload_n hX (i := 0) dX12_value_55 rfl rfl ?_
        refine wa_get hX 4 (by assumption) (by rfl) (by decide +kernel) dX12_value_56 ?_
        refine wa_iload_n hX (i := 1) dX12_value_59 rfl rfl ?_
        refine wa_callV hX (c_AL_get hW d ka e3 (i := i) (q := P i) hi hN1 (by omega) (if_pos hi)) (by assumption) (by rfl) (by rfl) (by omega) (nA := 1) (by rfl) (by decide +kernel) rfl (by exact Nat.le_of_ble_eq_true rfl) dX12_value_60 (fun r60 h60 p60 => ?_) (fun _ _ q => q.elim)
        obtain ⟨rfl, qq60⟩ := p60; subst h60
        dsimp only [Option.toList, List.cons_append, List.nil_append]
        refine wa_ccast hX g1 (by rfl) (by decide +kernel) dX12_value_63 ?_
        refine wa_astore hX dX12_value_66 rfl ?_
        dsimp only [List.set]
        refine wl_const0 hX dX12_value_68 ?_
        refine wa_lstore hX dX12_value_69 rfl ?_
        dsimp only [List.set]
        refine wi_iconst hX dX12_value_71 ?_
        refine wa_istore hX dX12_value_72 rfl ?_
        dsimp only [List.set]
        refine WA.loop (σ := Nat) (fun z => 2 ^ E i - z) (fun z => z ≤ 2 ^ E i) (fun _ => h47) (fun z => [.val (.ref a), .val (I (i : Int)), .val (I x), .val (I y), .val (.ref (P i)), .val (Lg (valM (R i) (E i) x y z)), .second, .val (I (z : Nat))]) ?_ 0 (Nat.zero_le _)
        intro z hz ih
        have hst : valM (R i) (E i) x y (z + 1) = valM (R i) (E i) x y z + ipow (x - 1) (R i (2 ^ E i - 1) - R i z) * ipow (y - 1) (bc z - R i z) := rfl
        have hbz := bc_le z
        refine wa_iload hX dX12_value_74 rfl ?_
        refine wa_aload hX dX12_value_76 rfl ?_
        refine wa_callV hX (c_X11_full hW d g1 he) (by assumption) (by rfl) (by rfl) (by omega) (nA := 0) (by rfl) (by decide +kernel) rfl (by exact Nat.le_of_ble_eq_true rfl) dX12_value_78 (fun r78 h78 p78 => ?_) (fun _ _ q => q.elim)
        obtain ⟨rfl, qq78⟩ := p78; subst h78
        dsimp only [Option.toList, List.cons_append, List.nil_append]
        refine wi_icmp_gt hX (tgt := 138) dX12_value_81 (by decide) (by omega) (by omega) (fun c81 => ?_) (fun c81 => ?_)
        · skip
          refine wa_lload hX dX12_value_138 rfl ?_
          refine wa_lret hX dX12_value_140 ?_
          exact ⟨ff, Or.inr ⟨i, hi, rfl, Or.inr ⟨⟨hx1, hx2, hy1, hy2, by rw [show z = 2 ^ E i by omega]⟩, row, brk, al, wk, us, kp, pt, k1, kJ⟩⟩⟩
        · skip
          refine wa_lload hX dX12_value_84 rfl ?_
          refine wa_iload_n hX (i := 2) dX12_value_86 rfl rfl ?_
          refine wl_i2l hX dX12_value_87 hx ?_
          refine wl_const1 hX dX12_value_88 ?_
          refine wl_sub hX dX12_value_89 ?_
          refine wa_aload hX dX12_value_90 rfl ?_
          have hrz := hMi.le10 (s := z) (by omega)
          have hrf := hMi.le_all (s := z) (by omega)
          have hrb := hMi.le_bc (s := z) (by omega)
          refine wa_callV hX (c_X11_rank hW d g1 g2 g3 he (fun s hs => hMi.le10 hs)) (by assumption) (by rfl) (by rfl) (by omega) (nA := 0) (by rfl) (by decide +kernel) rfl (by exact Nat.le_of_ble_eq_true rfl) dX12_value_92 (fun r92 h92 p92 => ?_) (fun _ _ q => q.elim)
          obtain ⟨rfl, qq92⟩ := p92; subst h92
          dsimp only [Option.toList, List.cons_append, List.nil_append]
          refine wa_aload hX dX12_value_95 rfl ?_
          refine wa_get hX 1 (by assumption) (by rfl) (by decide +kernel) dX12_value_97 ?_
          refine wa_iload hX dX12_value_100 rfl ?_
          refine wi_iaload hX (by assumption) (by omega) (by omega) (by omega) dX12_value_102 ?_
          rw [Int.toNat_natCast, g3 z (by omega)]
          refine wi_isub hX dX12_value_103 ?_
          rw [show ((R i (2 ^ E i - 1) : Nat) : Int) - ((R i z : Nat) : Int) = ((R i (2 ^ E i - 1) - R i z : Nat) : Int) by omega]
          refine wa_callS hX (c_X12_power hW d (b := x - 1) (k := R i (2 ^ E i - 1) - R i z) (by omega)) (by rfl) (by omega) (nA := 2) (by rfl) (by decide +kernel) rfl (by exact Nat.le_of_ble_eq_true rfl) dX12_value_104 (fun r104 h104 p104 => ?_) (fun _ _ q => q.elim)
          obtain ⟨rfl, qq104⟩ := p104; subst h104
          dsimp only [Option.toList, List.cons_append, List.nil_append]
          refine wa_iload_n hX (i := 3) dX12_value_107 rfl rfl ?_
          refine wl_i2l hX dX12_value_108 hy ?_
          refine wl_const1 hX dX12_value_109 ?_
          refine wl_sub hX dX12_value_110 ?_
          refine wa_iload hX dX12_value_111 rfl ?_
          refine wa_callS hX (c_J6_bitCount hW d (s := z) (by omega)) (by rfl) (by omega) (nA := 1) (by rfl) (by decide +kernel) rfl (by exact Nat.le_of_ble_eq_true rfl) dX12_value_113 (fun r113 h113 p113 => ?_) (fun _ _ q => q.elim)
          obtain ⟨rfl, qq113⟩ := p113; subst h113
          dsimp only [Option.toList, List.cons_append, List.nil_append]
          refine wa_aload hX dX12_value_116 rfl ?_
          refine wa_get hX 1 (by assumption) (by rfl) (by decide +kernel) dX12_value_118 ?_
          refine wa_iload hX dX12_value_121 rfl ?_
          refine wi_iaload hX (by assumption) (by omega) (by omega) (by omega) dX12_value_123 ?_
          rw [Int.toNat_natCast, g3 z (by omega)]
          refine wi_isub hX dX12_value_124 ?_
          rw [show ((bc z : Nat) : Int) - ((R i z : Nat) : Int) = ((bc z - R i z : Nat) : Int) by omega]
          refine wa_callS hX (c_X12_power hW d (b := y - 1) (k := bc z - R i z) (by omega)) (by rfl) (by omega) (nA := 2) (by rfl) (by decide +kernel) rfl (by exact Nat.le_of_ble_eq_true rfl) dX12_value_125 (fun r125 h125 p125 => ?_) (fun _ _ q => q.elim)
          obtain ⟨rfl, qq125⟩ := p125; subst h125
          dsimp only [Option.toList, List.cons_append, List.nil_append]
          refine wl_mul hX dX12_value_128 ?_
          refine wl_add hX dX12_value_129 ?_
          rw [← hst]
          refine wa_lstore hX dX12_value_130 rfl ?_
          dsimp only [List.set]
          refine wi_iinc hX dX12_value_132 rfl ?_
          dsimp only [List.set]
          refine wa_goto hX (tgt := 74) dX12_value_135 (by decide) ?_
          exact ih (z + 1) (by omega) (by omega)
      · skip
        refine wl_const0 hX dX12_value_53 ?_
        refine wa_lret hX dX12_value_54 ?_
        have z := b2n_t c50
        rw [z, if_pos ⟨rfl, rfl⟩] at k1
        refine ⟨ff, Or.inr ⟨i, hi, rfl, Or.inl ⟨?_, ⟨_, rfl⟩, row, brk, al, wk, us, kp, pt, k1, kJ⟩⟩⟩
        rw [Bool.or_eq_true, Bool.not_eq_true', decide_eq_false_iff_not, Bool.not_eq_true', decide_eq_false_iff_not] at z
        exact z
    · skip
      refine wa_iload_n hX (i := 3) dX12_value_30 rfl rfl ?_
      refine wi_bipush hX dX12_value_31 (by decide) ?_
      refine wi_bipush hX dX12_value_33 (by decide) ?_
      refine wa_callS hX (c_X12_in hW d (v := y) (lo := -9) (hi := 9) hy (by omega) (by omega)) (by rfl) (by omega) (nA := 3) (by rfl) (by decide +kernel) rfl (by exact Nat.le_of_ble_eq_true rfl) dX12_value_35 (fun r35 h35 p35 => ?_) (fun _ _ q => q.elim)
      obtain ⟨rfl, qq35⟩ := p35; subst h35
      dsimp only [Option.toList, List.cons_append, List.nil_append]
      refine wi_if_ne hX (tgt := 45) dX12_value_38 (by decide) (by exact b2n_inR _) (fun c38 => ?_) (fun c38 => ?_)
      · skip
        refine wi_iconst hX dX12_value_45 ?_
        refine WA.eq (pc2 := 46) (st2 := [I ((b2n (!decide ((-9 : Int) ≤ x ∧ x ≤ 9) || !decide ((-9 : Int) ≤ y ∧ y ≤ 9)) : Nat) : Int), .ref a]) rfl rfl (by
          first
            | (have q := b2n_f c27; rw [q]; rfl)
            | (have q := b2n_t c27; have q2 := b2n_t c38; rw [q, q2]; rfl)
            | (have q := b2n_t c27; have q2 := b2n_f c38; rw [q, q2]; rfl)) ?_
        clear c27
        refine wi_iconst hX dX12_value_46 ?_
        refine wa_callV hX (c_X12_fails hW d (th := 0) (k := 2) (b := (!decide ((-9 : Int) ≤ x ∧ x ≤ 9) || !decide ((-9 : Int) ≤ y ∧ y ≤ 9))) k1 (by omega) (by omega)) (by assumption) (by rfl) (by rfl) (by omega) (nA := 2) (by rfl) (by decide +kernel) rfl (by exact Nat.le_of_ble_eq_true rfl) dX12_value_47 (fun r47 h47 p47 => ?_) (fun _ _ q => q.elim)
        obtain ⟨rfl, hh47⟩ := p47
        have f47 : Fr (fun x => x = 120) h12 h47 := by rw [hh47]; exact Fr.hset Fr.rf k1 rfl
        replace k1 : h47 a = some (120, oMod ((if ((!decide ((-9 : Int) ≤ x ∧ x ≤ 9) || !decide ((-9 : Int) ≤ y ∧ y ≤ 9))) = true ∧ (0 : Nat) = 0 then 2 else 0 : Nat) : Int) (c : Int) row brk al wk us kp pt) := by rw [hh47]; exact hset_eq
        replace kJ := kJ.fr f47 (fun x hx => by omega)
        replace ff := ff.trans f47
        clear hh47 f47
        rw [show (((!decide ((-9 : Int) ≤ x ∧ x ≤ 9) || !decide ((-9 : Int) ≤ y ∧ y ≤ 9))) || (0 : Nat) != 0) = ((!decide ((-9 : Int) ≤ x ∧ x ≤ 9) || !decide ((-9 : Int) ≤ y ∧ y ≤ 9))) from Bool.or_false _]
        clear kr kb kwk kus kkp kpt ka ke kI kMat hc60 hw hm24 hMt
        obtain ⟨⟨hc60, hw, hm24, hMt⟩, kr, kb, kwk, kus, kkp, kpt, ed, N, P, ka, ke, kI, kMat⟩ := id kJ
        dsimp only [Option.toList, List.cons_append, List.nil_append]
        refine wi_if_eq hX (tgt := 55) dX12_value_50 (by decide) (by exact b2n_inR _) (fun c50 => ?_) (fun c50 => ?_)
        · skip
          have hv50 := b2n_f c50
          rw [hv50, if_neg (fun z => Bool.false_ne_true z.1)] at k1
          rw [Bool.or_eq_false_iff, Bool.not_eq_false', decide_eq_true_eq, Bool.not_eq_false', decide_eq_true_eq] at hv50
          obtain ⟨⟨hx1, hx2⟩, hy1, hy2⟩ := hv50
          obtain ⟨e3, hN1, hN2⟩ : h47 ed = some (124, aR (.object "java/lang/Object") N (fun j => if j < m then some (P j) else none)) ∧ m ≤ N ∧ N ≤ 100 := by
            rcases ke with z | z
            · exfalso; omega
            · exact z
          obtain ⟨rq, m2, m3, l2, l3, G, g1, g2, g3, g4, g5⟩ := id (kMat i hi)
          have hMi := hMt i hi
          have he := hMi.1
          have hp := p2_le he
          have hp0 := p2_pos (E i)
          have hr0 := hMi.le10 (s := 2 ^ E i - 1) (by omega)
          refine wa_aload_n hX (i := 0) dX12_value_55 rfl rfl ?_
          refine wa_get hX 4 (by assumption) (by rfl) (by decide +kernel) dX12_value_56 ?_
          refine wa_iload_n hX (i := 1) dX12_value_59 rfl rfl ?_
          refine wa_callV hX (c_AL_get hW d ka e3 (i := i) (q := P i) hi hN1 (by omega) (if_pos hi)) (by assumption) (by rfl) (by rfl) (by omega) (nA := 1) (by rfl) (by decide +kernel) rfl (by exact Nat.le_of_ble_eq_true rfl) dX12_value_60 (fun r60 h60 p60 => ?_) (fun _ _ q => q.elim)
          obtain ⟨rfl, qq60⟩ := p60; subst h60
          dsimp only [Option.toList, List.cons_append, List.nil_append]
          refine wa_ccast hX g1 (by rfl) (by decide +kernel) dX12_value_63 ?_
          refine wa_astore hX dX12_value_66 rfl ?_
          dsimp only [List.set]
          refine wl_const0 hX dX12_value_68 ?_
          refine wa_lstore hX dX12_value_69 rfl ?_
          dsimp only [List.set]
          refine wi_iconst hX dX12_value_71 ?_
          refine wa_istore hX dX12_value_72 rfl ?_
          dsimp only [List.set]
          refine WA.loop (σ := Nat) (fun z => 2 ^ E i - z) (fun z => z ≤ 2 ^ E i) (fun _ => h47) (fun z => [.val (.ref a), .val (I (i : Int)), .val (I x), .val (I y), .val (.ref (P i)), .val (Lg (valM (R i) (E i) x y z)), .second, .val (I (z : Nat))]) ?_ 0 (Nat.zero_le _)
          intro z hz ih
          have hst : valM (R i) (E i) x y (z + 1) = valM (R i) (E i) x y z + ipow (x - 1) (R i (2 ^ E i - 1) - R i z) * ipow (y - 1) (bc z - R i z) := rfl
          have hbz := bc_le z
          refine wa_iload hX dX12_value_74 rfl ?_
          refine wa_aload hX dX12_value_76 rfl ?_
          refine wa_callV hX (c_X11_full hW d g1 he) (by assumption) (by rfl) (by rfl) (by omega) (nA := 0) (by rfl) (by decide +kernel) rfl (by exact Nat.le_of_ble_eq_true rfl) dX12_value_78 (fun r78 h78 p78 => ?_) (fun _ _ q => q.elim)
          obtain ⟨rfl, qq78⟩ := p78; subst h78
          dsimp only [Option.toList, List.cons_append, List.nil_append]
          refine wi_icmp_gt hX (tgt := 138) dX12_value_81 (by decide) (by omega) (by omega) (fun c81 => ?_) (fun c81 => ?_)
          · skip
            refine wa_lload hX dX12_value_138 rfl ?_
            refine wa_lret hX dX12_value_140 ?_
            exact ⟨ff, Or.inr ⟨i, hi, rfl, Or.inr ⟨⟨hx1, hx2, hy1, hy2, by rw [show z = 2 ^ E i by omega]⟩, row, brk, al, wk, us, kp, pt, k1, kJ⟩⟩⟩
          · skip
            refine wa_lload hX dX12_value_84 rfl ?_
            refine wa_iload_n hX (i := 2) dX12_value_86 rfl rfl ?_
            refine wl_i2l hX dX12_value_87 hx ?_
            refine wl_const1 hX dX12_value_88 ?_
            refine wl_sub hX dX12_value_89 ?_
            refine wa_aload hX dX12_value_90 rfl ?_
            have hrz := hMi.le10 (s := z) (by omega)
            have hrf := hMi.le_all (s := z) (by omega)
            have hrb := hMi.le_bc (s := z) (by omega)
            refine wa_callV hX (c_X11_rank hW d g1 g2 g3 he (fun s hs => hMi.le10 hs)) (by assumption) (by rfl) (by rfl) (by omega) (nA := 0) (by rfl) (by decide +kernel) rfl (by exact Nat.le_of_ble_eq_true rfl) dX12_value_92 (fun r92 h92 p92 => ?_) (fun _ _ q => q.elim)
            obtain ⟨rfl, qq92⟩ := p92; subst h92
            dsimp only [Option.toList, List.cons_append, List.nil_append]
            refine wa_aload hX dX12_value_95 rfl ?_
            refine wa_get hX 1 (by assumption) (by rfl) (by decide +kernel) dX12_value_97 ?_
            refine wa_iload hX dX12_value_100 rfl ?_
            refine wi_iaload hX (by assumption) (by omega) (by omega) (by omega) dX12_value_102 ?_
            rw [Int.toNat_natCast, g3 z (by omega)]
            refine wi_isub hX dX12_value_103 ?_
            rw [show ((R i (2 ^ E i - 1) : Nat) : Int) - ((R i z : Nat) : Int) = ((R i (2 ^ E i - 1) - R i z : Nat) : Int) by omega]
            refine wa_callS hX (c_X12_power hW d (b := x - 1) (k := R i (2 ^ E i - 1) - R i z) (by omega)) (by rfl) (by omega) (nA := 2) (by rfl) (by decide +kernel) rfl (by exact Nat.le_of_ble_eq_true rfl) dX12_value_104 (fun r104 h104 p104 => ?_) (fun _ _ q => q.elim)
            obtain ⟨rfl, qq104⟩ := p104; subst h104
            dsimp only [Option.toList, List.cons_append, List.nil_append]
            refine wa_iload_n hX (i := 3) dX12_value_107 rfl rfl ?_
            refine wl_i2l hX dX12_value_108 hy ?_
            refine wl_const1 hX dX12_value_109 ?_
            refine wl_sub hX dX12_value_110 ?_
            refine wa_iload hX dX12_value_111 rfl ?_
            refine wa_callS hX (c_J6_bitCount hW d (s := z) (by omega)) (by rfl) (by omega) (nA := 1) (by rfl) (by decide +kernel) rfl (by exact Nat.le_of_ble_eq_true rfl) dX12_value_113 (fun r113 h113 p113 => ?_) (fun _ _ q => q.elim)
            obtain ⟨rfl, qq113⟩ := p113; subst h113
            dsimp only [Option.toList, List.cons_append, List.nil_append]
            refine wa_aload hX dX12_value_116 rfl ?_
            refine wa_get hX 1 (by assumption) (by rfl) (by decide +kernel) dX12_value_118 ?_
            refine wa_iload hX dX12_value_121 rfl ?_
            refine wi_iaload hX (by assumption) (by omega) (by omega) (by omega) dX12_value_123 ?_
            rw [Int.toNat_natCast, g3 z (by omega)]
            refine wi_isub hX dX12_value_124 ?_
            rw [show ((bc z : Nat) : Int) - ((R i z : Nat) : Int) = ((bc z - R i z : Nat) : Int) by omega]
            refine wa_callS hX (c_X12_power hW d (b := y - 1) (k := bc z - R i z) (by omega)) (by rfl) (by omega) (nA := 2) (by rfl) (by decide +kernel) rfl (by exact Nat.le_of_ble_eq_true rfl) dX12_value_125 (fun r125 h125 p125 => ?_) (fun _ _ q => q.elim)
            obtain ⟨rfl, qq125⟩ := p125; subst h125
            dsimp only [Option.toList, List.cons_append, List.nil_append]
            refine wl_mul hX dX12_value_128 ?_
            refine wl_add hX dX12_value_129 ?_
            rw [← hst]
            refine wa_lstore hX dX12_value_130 rfl ?_
            dsimp only [List.set]
            refine wi_iinc hX dX12_value_132 rfl ?_
            dsimp only [List.set]
            refine wa_goto hX (tgt := 74) dX12_value_135 (by decide) ?_
            exact ih (z + 1) (by omega) (by omega)
        · skip
          refine wl_const0 hX dX12_value_53 ?_
          refine wa_lret hX dX12_value_54 ?_
          have z := b2n_t c50
          rw [z, if_pos ⟨rfl, rfl⟩] at k1
          refine ⟨ff, Or.inr ⟨i, hi, rfl, Or.inl ⟨?_, ⟨_, rfl⟩, row, brk, al, wk, us, kp, pt, k1, kJ⟩⟩⟩
          rw [Bool.or_eq_true, Bool.not_eq_true', decide_eq_false_iff_not, Bool.not_eq_true', decide_eq_false_iff_not] at z
          exact z
      · skip
        refine wi_iconst hX dX12_value_41 ?_
        refine wa_goto hX (tgt := 46) dX12_value_42 (by decide) ?_
        refine WA.eq (pc2 := 46) (st2 := [I ((b2n (!decide ((-9 : Int) ≤ x ∧ x ≤ 9) || !decide ((-9 : Int) ≤ y ∧ y ≤ 9)) : Nat) : Int), .ref a]) rfl rfl (by
          first
            | (have q := b2n_f c27; rw [q]; rfl)
            | (have q := b2n_t c27; have q2 := b2n_t c38; rw [q, q2]; rfl)
            | (have q := b2n_t c27; have q2 := b2n_f c38; rw [q, q2]; rfl)) ?_
        clear c27
        refine wi_iconst hX dX12_value_46 ?_
        refine wa_callV hX (c_X12_fails hW d (th := 0) (k := 2) (b := (!decide ((-9 : Int) ≤ x ∧ x ≤ 9) || !decide ((-9 : Int) ≤ y ∧ y ≤ 9))) k1 (by omega) (by omega)) (by assumption) (by rfl) (by rfl) (by omega) (nA := 2) (by rfl) (by decide +kernel) rfl (by exact Nat.le_of_ble_eq_true rfl) dX12_value_47 (fun r47 h47 p47 => ?_) (fun _ _ q => q.elim)
        obtain ⟨rfl, hh47⟩ := p47
        have f47 : Fr (fun x => x = 120) h12 h47 := by rw [hh47]; exact Fr.hset Fr.rf k1 rfl
        replace k1 : h47 a = some (120, oMod ((if ((!decide ((-9 : Int) ≤ x ∧ x ≤ 9) || !decide ((-9 : Int) ≤ y ∧ y ≤ 9))) = true ∧ (0 : Nat) = 0 then 2 else 0 : Nat) : Int) (c : Int) row brk al wk us kp pt) := by rw [hh47]; exact hset_eq
        replace kJ := kJ.fr f47 (fun x hx => by omega)
        replace ff := ff.trans f47
        clear hh47 f47
        rw [show (((!decide ((-9 : Int) ≤ x ∧ x ≤ 9) || !decide ((-9 : Int) ≤ y ∧ y ≤ 9))) || (0 : Nat) != 0) = ((!decide ((-9 : Int) ≤ x ∧ x ≤ 9) || !decide ((-9 : Int) ≤ y ∧ y ≤ 9))) from Bool.or_false _]
        clear kr kb kwk kus kkp kpt ka ke kI kMat hc60 hw hm24 hMt
        obtain ⟨⟨hc60, hw, hm24, hMt⟩, kr, kb, kwk, kus, kkp, kpt, ed, N, P, ka, ke, kI, kMat⟩ := id kJ
        dsimp only [Option.toList, List.cons_append, List.nil_append]
        refine wi_if_eq hX (tgt := 55) dX12_value_50 (by decide) (by exact b2n_inR _) (fun c50 => ?_) (fun c50 => ?_)
        · skip
          have hv50 := b2n_f c50
          rw [hv50, if_neg (fun z => Bool.false_ne_true z.1)] at k1
          rw [Bool.or_eq_false_iff, Bool.not_eq_false', decide_eq_true_eq, Bool.not_eq_false', decide_eq_true_eq] at hv50
          obtain ⟨⟨hx1, hx2⟩, hy1, hy2⟩ := hv50
          obtain ⟨e3, hN1, hN2⟩ : h47 ed = some (124, aR (.object "java/lang/Object") N (fun j => if j < m then some (P j) else none)) ∧ m ≤ N ∧ N ≤ 100 := by
            rcases ke with z | z
            · exfalso; omega
            · exact z
          obtain ⟨rq, m2, m3, l2, l3, G, g1, g2, g3, g4, g5⟩ := id (kMat i hi)
          have hMi := hMt i hi
          have he := hMi.1
          have hp := p2_le he
          have hp0 := p2_pos (E i)
          have hr0 := hMi.le10 (s := 2 ^ E i - 1) (by omega)
          refine wa_aload_n hX (i := 0) dX12_value_55 rfl rfl ?_
          refine wa_get hX 4 (by assumption) (by rfl) (by decide +kernel) dX12_value_56 ?_
          refine wa_iload_n hX (i := 1) dX12_value_59 rfl rfl ?_
          refine wa_callV hX (c_AL_get hW d ka e3 (i := i) (q := P i) hi hN1 (by omega) (if_pos hi)) (by assumption) (by rfl) (by rfl) (by omega) (nA := 1) (by rfl) (by decide +kernel) rfl (by exact Nat.le_of_ble_eq_true rfl) dX12_value_60 (fun r60 h60 p60 => ?_) (fun _ _ q => q.elim)
          obtain ⟨rfl, qq60⟩ := p60; subst h60
          dsimp only [Option.toList, List.cons_append, List.nil_append]
          refine wa_ccast hX g1 (by rfl) (by decide +kernel) dX12_value_63 ?_
          refine wa_astore hX dX12_value_66 rfl ?_
          dsimp only [List.set]
          refine wl_const0 hX dX12_value_68 ?_
          refine wa_lstore hX dX12_value_69 rfl ?_
          dsimp only [List.set]
          refine wi_iconst hX dX12_value_71 ?_
          refine wa_istore hX dX12_value_72 rfl ?_
          dsimp only [List.set]
          refine WA.loop (σ := Nat) (fun z => 2 ^ E i - z) (fun z => z ≤ 2 ^ E i) (fun _ => h47) (fun z => [.val (.ref a), .val (I (i : Int)), .val (I x), .val (I y), .val (.ref (P i)), .val (Lg (valM (R i) (E i) x y z)), .second, .val (I (z : Nat))]) ?_ 0 (Nat.zero_le _)
          intro z hz ih
          have hst : valM (R i) (E i) x y (z + 1) = valM (R i) (E i) x y z + ipow (x - 1) (R i (2 ^ E i - 1) - R i z) * ipow (y - 1) (bc z - R i z) := rfl
          have hbz := bc_le z
          refine wa_iload hX dX12_value_74 rfl ?_
          refine wa_aload hX dX12_value_76 rfl ?_
          refine wa_callV hX (c_X11_full hW d g1 he) (by assumption) (by rfl) (by rfl) (by omega) (nA := 0) (by rfl) (by decide +kernel) rfl (by exact Nat.le_of_ble_eq_true rfl) dX12_value_78 (fun r78 h78 p78 => ?_) (fun _ _ q => q.elim)
          obtain ⟨rfl, qq78⟩ := p78; subst h78
          dsimp only [Option.toList, List.cons_append, List.nil_append]
          refine wi_icmp_gt hX (tgt := 138) dX12_value_81 (by decide) (by omega) (by omega) (fun c81 => ?_) (fun c81 => ?_)
          · skip
            refine wa_lload hX dX12_value_138 rfl ?_
            refine wa_lret hX dX12_value_140 ?_
            exact ⟨ff, Or.inr ⟨i, hi, rfl, Or.inr ⟨⟨hx1, hx2, hy1, hy2, by rw [show z = 2 ^ E i by omega]⟩, row, brk, al, wk, us, kp, pt, k1, kJ⟩⟩⟩
          · skip
            refine wa_lload hX dX12_value_84 rfl ?_
            refine wa_iload_n hX (i := 2) dX12_value_86 rfl rfl ?_
            refine wl_i2l hX dX12_value_87 hx ?_
            refine wl_const1 hX dX12_value_88 ?_
            refine wl_sub hX dX12_value_89 ?_
            refine wa_aload hX dX12_value_90 rfl ?_
            have hrz := hMi.le10 (s := z) (by omega)
            have hrf := hMi.le_all (s := z) (by omega)
            have hrb := hMi.le_bc (s := z) (by omega)
            refine wa_callV hX (c_X11_rank hW d g1 g2 g3 he (fun s hs => hMi.le10 hs)) (by assumption) (by rfl) (by rfl) (by omega) (nA := 0) (by rfl) (by decide +kernel) rfl (by exact Nat.le_of_ble_eq_true rfl) dX12_value_92 (fun r92 h92 p92 => ?_) (fun _ _ q => q.elim)
            obtain ⟨rfl, qq92⟩ := p92; subst h92
            dsimp only [Option.toList, List.cons_append, List.nil_append]
            refine wa_aload hX dX12_value_95 rfl ?_
            refine wa_get hX 1 (by assumption) (by rfl) (by decide +kernel) dX12_value_97 ?_
            refine wa_iload hX dX12_value_100 rfl ?_
            refine wi_iaload hX (by assumption) (by omega) (by omega) (by omega) dX12_value_102 ?_
            rw [Int.toNat_natCast, g3 z (by omega)]
            refine wi_isub hX dX12_value_103 ?_
            rw [show ((R i (2 ^ E i - 1) : Nat) : Int) - ((R i z : Nat) : Int) = ((R i (2 ^ E i - 1) - R i z : Nat) : Int) by omega]
            refine wa_callS hX (c_X12_power hW d (b := x - 1) (k := R i (2 ^ E i - 1) - R i z) (by omega)) (by rfl) (by omega) (nA := 2) (by rfl) (by decide +kernel) rfl (by exact Nat.le_of_ble_eq_true rfl) dX12_value_104 (fun r104 h104 p104 => ?_) (fun _ _ q => q.elim)
            obtain ⟨rfl, qq104⟩ := p104; subst h104
            dsimp only [Option.toList, List.cons_append, List.nil_append]
            refine wa_iload_n hX (i := 3) dX12_value_107 rfl rfl ?_
            refine wl_i2l hX dX12_value_108 hy ?_
            refine wl_const1 hX dX12_value_109 ?_
            refine wl_sub hX dX12_value_110 ?_
            refine wa_iload hX dX12_value_111 rfl ?_
            refine wa_callS hX (c_J6_bitCount hW d (s := z) (by omega)) (by rfl) (by omega) (nA := 1) (by rfl) (by decide +kernel) rfl (by exact Nat.le_of_ble_eq_true rfl) dX12_value_113 (fun r113 h113 p113 => ?_) (fun _ _ q => q.elim)
            obtain ⟨rfl, qq113⟩ := p113; subst h113
            dsimp only [Option.toList, List.cons_append, List.nil_append]
            refine wa_aload hX dX12_value_116 rfl ?_
            refine wa_get hX 1 (by assumption) (by rfl) (by decide +kernel) dX12_value_118 ?_
            refine wa_iload hX dX12_value_121 rfl ?_
            refine wi_iaload hX (by assumption) (by omega) (by omega) (by omega) dX12_value_123 ?_
            rw [Int.toNat_natCast, g3 z (by omega)]
            refine wi_isub hX dX12_value_124 ?_
            rw [show ((bc z : Nat) : Int) - ((R i z : Nat) : Int) = ((bc z - R i z : Nat) : Int) by omega]
            refine wa_callS hX (c_X12_power hW d (b := y - 1) (k := bc z - R i z) (by omega)) (by rfl) (by omega) (nA := 2) (by rfl) (by decide +kernel) rfl (by exact Nat.le_of_ble_eq_true rfl) dX12_value_125 (fun r125 h125 p125 => ?_) (fun _ _ q => q.elim)
            obtain ⟨rfl, qq125⟩ := p125; subst h125
            dsimp only [Option.toList, List.cons_append, List.nil_append]
            refine wl_mul hX dX12_value_128 ?_
            refine wl_add hX dX12_value_129 ?_
            rw [← hst]
            refine wa_lstore hX dX12_value_130 rfl ?_
            dsimp only [List.set]
            refine wi_iinc hX dX12_value_132 rfl ?_
            dsimp only [List.set]
            refine wa_goto hX (tgt := 74) dX12_value_135 (by decide) ?_
            exact ih (z + 1) (by omega) (by omega)
        · skip
          refine wl_const0 hX dX12_value_53 ?_
          refine wa_lret hX dX12_value_54 ?_
          have z := b2n_t c50
          rw [z, if_pos ⟨rfl, rfl⟩] at k1
          refine ⟨ff, Or.inr ⟨i, hi, rfl, Or.inl ⟨?_, ⟨_, rfl⟩, row, brk, al, wk, us, kp, pt, k1, kJ⟩⟩⟩
          rw [Bool.or_eq_true, Bool.not_eq_true', decide_eq_false_iff_not, Bool.not_eq_true', decide_eq_false_iff_not] at z
          exact z
end C92
