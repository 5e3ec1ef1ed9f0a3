/-! The reference (X12): left, minorOf, minorBy, minorWithout -/
def frM (cd s : Nat) : Nat → Nat × Nat
  | 0 => (0, 0)
  | k + 1 => if cd.testBit k = true then frM cd s k else ((frM cd s k).1 ||| (b2n (s.testBit (frM cd s k).2)) <<< k, (frM cd s k).2 + 1)
theorem b2n_shl {b : Bool} {k e : Nat} (h : k < e) : b2n b <<< k < 2 ^ e := by
  cases b
  · rw [show b2n false = 0 from rfl, Nat.zero_shiftLeft]
    exact p2_pos e
  · rw [show b2n true = 1 from rfl, Nat.one_shiftLeft]
    exact bit_lt h
theorem frM_lt {cd s e : Nat} : ∀ k, k ≤ e → (frM cd s k).1 < 2 ^ e ∧ (frM cd s k).2 ≤ k := by
  intro k
  induction k with
  | zero => intro _; exact ⟨p2_pos e, Nat.le_refl _⟩
  | succ k ih =>
    intro h
    obtain ⟨i1, i2⟩ := ih (by omega)
    unfold frM
    split
    · exact ⟨i1, by omega⟩
    · exact ⟨or_lt i1 (b2n_shl (by omega)), by show _ + 1 ≤ _; omega⟩
def leM (rk : Nat → Nat) (e con del s : Nat) : Nat := rk ((frM (con ||| del) s e).1 ||| con) - rk con
def CandP (r1 : Nat → Nat) (e1 : Nat) (r2 : Nat → Nat) (e2 c d : Nat) : Prop := ((bc c : Nat) : Int) = ((r1 (2 ^ e1 - 1) : Nat) : Int) - ((r2 (2 ^ e2 - 1) : Nat) : Int) ∧ frB r1 c = true ∧ ((bc d : Nat) : Int) = ((e1 : Int) - (e2 : Int)) - (((r1 (2 ^ e1 - 1) : Nat) : Int) - ((r2 (2 ^ e2 - 1) : Nat) : Int)) ∧ c &&& d = 0 ∧ r1 (sdf (2 ^ e1 - 1) d) = r1 (2 ^ e1 - 1) ∧ ∃ im : Nat → Nat, IsoG (leM r1 e1 c d) (e1 - bc (c ||| d)) r2 e2 true im
def MinG (r1 : Nat → Nat) (e1 : Nat) (r2 : Nat → Nat) (e2 : Nat) (z : Int) : Prop := (z = -1 ∧ ∀ c d, c < 2 ^ e1 → d < 2 ^ e1 → ¬ CandP r1 e1 r2 e2 c d) ∨ ∃ c d : Nat, z = ((1024 * c + d : Nat) : Int) ∧ c < 2 ^ e1 ∧ d < 2 ^ e1 ∧ CandP r1 e1 r2 e2 c d ∧ ∀ c' d', c' < 2 ^ e1 → d' < 2 ^ e1 → CandP r1 e1 r2 e2 c' d' → c < c' ∨ (c = c' ∧ d ≤ d')
theorem IsoG.not {r1 r2 : Nat → Nat} {e1 e2 : Nat} {im im2 : Nat → Nat} (h : IsoG r1 e1 r2 e2 false im) (h2 : IsoG r1 e1 r2 e2 true im2) : False := by
  rcases h with ⟨q, _⟩ | ⟨_, q⟩
  · cases q
  · rcases h2 with ⟨_, z1, z2, z3, _⟩ | ⟨z, _⟩
    · exact q ⟨z1, z2, im2, z3⟩
    · cases z
section C9c
variable {l : Launch} {D : va_G} {S0 : State} {Z : Nat → Prop} {DR : (Nat → Nat) → Nat → Nat → Option (Nat → Nat) → Prop}
set_option maxHeartbeats 1000000 in
set_option maxRecDepth 100000 in
theorem c_X12_left (hW : WOK l D S0) (d : Nat) {h : AH} {a row brk al wk us kp pt p1 l1 q1 lq1 e con del e0 rq0 : Nat} {th c : Int} {m12 m13 m20 m30 : Value} {k12 k13 l20 l30 : Int} {r1 : Nat → Nat} {G1 G0 : Nat → Int} (k1 : h a = some (120, oMod th c row brk al wk us kp pt)) (kp1 : h pt = some (128, oRef e0 rq0 m20 m30 l20 l30)) (kp2 : h rq0 = some (129, aI .int 1024 G0)) (a1 : h p1 = some (l1, oRef e q1 m12 m13 k12 k13)) (a2 : h q1 = some (lq1, aI .int 1024 G1)) (a3 : ∀ s, s < 2 ^ e → G1 s = ((r1 s : Nat) : Int)) (hM : Mtr e r1) (hl : l1 ≠ 128 ∧ l1 ≠ 129 ∧ lq1 ≠ 128 ∧ lq1 ≠ 129) (hc : con < 2 ^ e) (hd : del < 2 ^ e) : MA l D S0 yX12_left cX12_left 8 (some (.object "CircuitfoldModel$Matroid")) (d + 1) [.ref a, .ref p1, I (con : Int), I (del : Int)] h 0 0 (fun r h' => ∃ G' : Nat → Int, r = some (.ref pt) ∧ h' pt = some (128, oRef (e - bc (con ||| del)) rq0 m20 m30 l20 l30) ∧ h' rq0 = some (129, aI .int 1024 G') ∧ (∀ s, s < 2 ^ (e - bc (con ||| del)) → G' s = ((leM r1 e con del s : Nat) : Int)) ∧ Fr (fun x => 128 ≤ x ∧ x ≤ 129) h h') (fun _ _ => False) := by
  have he := hM.1
  have hp := p2_le he
  have hcd : con ||| del < 2 ^ e := or_lt hc hd
  have hbl : bc (con ||| del) ≤ e := bc_le2 e (by omega) _ hcd
  have hpe9 : 2 ^ (e - bc (con ||| del)) ≤ 2 ^ e := Nat.pow_le_pow_right (by decide) (Nat.sub_le _ _)
  have hpe0 := p2_pos (e - bc (con ||| del))
  refine MA.start hW (by decide) [.val (.ref a), .val (.ref p1), .val (I (con : Int)), .val (I (del : Int)), .unset, .unset, .unset, .unset] rfl ?_
  rintro X rfl rfl rfl hX
  refine wa_aload_n hX (i := 0) dX12_left_0 rfl rfl ?_
  refine wa_get hX 8 (by assumption) (by rfl) (by decide +kernel) dX12_left_1 ?_
  refine wa_aload_n hX (i := 1) dX12_left_4 rfl rfl ?_
  refine wa_get hX 0 (by assumption) (by rfl) (by decide +kernel) dX12_left_5 ?_
  refine wa_iload_n hX (i := 2) dX12_left_8 rfl rfl ?_
  refine wa_iload_n hX (i := 3) dX12_left_9 rfl rfl ?_
  refine wn_ior hX dX12_left_10 (by rfl) (by rfl) ?_
  refine wa_callS hX (c_J6_bitCount hW d (s := con ||| del) (by omega)) (by rfl) (by omega) (nA := 1) (by rfl) (by decide +kernel) rfl (by exact Nat.le_of_ble_eq_true rfl) dX12_left_11 (fun r11 h11 p11 => ?_) (fun _ _ q => q.elim)
  obtain ⟨rfl, qq11⟩ := p11; subst h11
  dsimp only [Option.toList, List.cons_append, List.nil_append]
  refine wi_isub hX dX12_left_14 ?_
  refine wa_put hX 0 kp1 (Nat.le_of_ble_eq_true rfl) (by decide +kernel) (by rfl) (by rfl) (by rfl) dX12_left_15 ?_
  refine WA.heap (h2 := hset h pt (128, oRef (e - bc (con ||| del)) rq0 m20 m30 l20 l30)) (by rw [show ((e : Int) - ((bc (con ||| del) : Nat) : Int)) = ((e - bc (con ||| del) : Nat) : Int) by omega]; rfl) ?_
  refine WA.hgq (fun hB hhB => ?_)
  have fB : Fr (fun x => x = 128) h hB := by rw [hhB]; exact Fr.hset Fr.rf kp1 rfl
  have p2 : hB pt = some (128, oRef (e - bc (con ||| del)) rq0 m20 m30 l20 l30) := by rw [hhB]; exact hset_eq
  have p3 := fB _ _ _ kp2 (by decide)
  have k2 := fB _ _ _ k1 (by decide)
  have a1B := fB _ _ _ a1 (by omega)
  have a2B := fB _ _ _ a2 (by omega)
  clear hhB
  refine wi_iconst hX dX12_left_18 ?_
  refine wa_istore hX dX12_left_19 (by first | rfl | assumption) ?_
  dsimp only [List.set]
  refine WA.heap (h2 := hset hB rq0 (129, aI .int 1024 G0)) (hset_self p3).symm ?_
  refine WA.loop (σ := Nat × (Nat → Int) × Slot × Slot × Slot) (fun z => 2 ^ (e - bc (con ||| del)) - z.1) (fun z => z.1 ≤ 2 ^ (e - bc (con ||| del)) ∧ (∀ s, s < z.1 → z.2.1 s = ((leM r1 e con del s : Nat) : Int)) ∧ okS [z.2.2.1] 0 = true ∧ okS [z.2.2.2.1] 0 = true ∧ okS [z.2.2.2.2] 0 = true) (fun z => hset hB rq0 (129, aI .int 1024 z.2.1)) (fun z => [.val (.ref a), .val (.ref p1), .val (I (con : Int)), .val (I (del : Int)), .val (I (z.1 : Nat)), z.2.2.1, z.2.2.2.1, z.2.2.2.2]) ?_ (0, G0, .unset, .unset, .unset) ⟨Nat.zero_le _, fun s hs => absurd hs (Nat.not_lt_zero s), rfl, rfl, rfl⟩
  rintro ⟨z, F, u5, u6, u7⟩ ⟨hz, hF, hu5, hu6, hu7⟩ ih
  dsimp only at hz hF hu5 hu6 hu7 ⊢
  have fF : Fr (fun x => x = 129) hB (hset hB rq0 (129, aI .int 1024 F)) := Fr.hset Fr.rf p3 rfl
  have p2F := fF _ _ _ p2 (by decide)
  have p3F : (hset hB rq0 (129, aI .int 1024 F)) rq0 = some (129, aI .int 1024 F) := hset_eq
  have k1F := fF _ _ _ k2 (by decide)
  have a1F := fF _ _ _ a1B (by omega)
  have a2F := fF _ _ _ a2B (by omega)
  refine wa_iload hX dX12_left_21 rfl ?_
  refine wa_aload_n hX (i := 0) dX12_left_23 rfl rfl ?_
  refine wa_get hX 8 (by assumption) (by rfl) (by decide +kernel) dX12_left_24 ?_
  refine wa_callV hX (c_X11_full hW d p2F (by omega)) (by assumption) (by rfl) (by rfl) (by omega) (nA := 0) (by rfl) (by decide +kernel) rfl (by exact Nat.le_of_ble_eq_true rfl) dX12_left_27 (fun r27 h27 p27 => ?_) (fun _ _ q => q.elim)
  obtain ⟨rfl, qq27⟩ := p27; subst h27
  dsimp only [Option.toList, List.cons_append, List.nil_append]
  refine wi_icmp_gt hX (tgt := 118) dX12_left_30 (by decide) (by omega) (by omega) (fun c30 => ?_) (fun c30 => ?_)
  · skip
    refine wa_aload_n hX (i := 0) dX12_left_118 rfl rfl ?_
    refine wa_get hX 8 (by assumption) (by rfl) (by decide +kernel) dX12_left_119 ?_
    refine wa_aretR hX dX12_left_122 (by first | exact Or.inl ⟨_, rfl⟩ | exact Or.inr ⟨_, rfl⟩) ?_
    exact ⟨F, rfl, p2F, p3F, fun s hs => hF s (by omega), (fB.mono (fun x hx => by omega)).trans (fF.mono (fun x hx => by omega))⟩
  · skip
    refine wi_iconst hX dX12_left_33 ?_
    refine wa_istore hX dX12_left_34 (by first | rfl | assumption) ?_
    dsimp only [List.set]
    refine wi_iconst hX dX12_left_36 ?_
    refine wa_istore hX dX12_left_37 (by first | rfl | assumption) ?_
    dsimp only [List.set]
    refine wi_iconst hX dX12_left_39 ?_
    refine wa_istore hX dX12_left_40 (by first | rfl | assumption) ?_
    dsimp only [List.set]
    refine WA.loop (σ := Nat) (fun k => e - k) (fun k => k ≤ e) (fun _ => (hset hB rq0 (129, aI .int 1024 F))) (fun k => [.val (.ref a), .val (.ref p1), .val (I (con : Int)), .val (I (del : Int)), .val (I (z : Nat)), .val (I ((frM (con ||| del) z k).1 : Nat)), .val (I ((frM (con ||| del) z k).2 : Nat)), .val (I (k : Nat))]) ?_ 0 (Nat.zero_le _)
    intro k hk ih2
    have hst : frM (con ||| del) z (k + 1) = if (con ||| del).testBit k = true then frM (con ||| del) z k else ((frM (con ||| del) z k).1 ||| (b2n (z.testBit (frM (con ||| del) z k).2)) <<< k, (frM (con ||| del) z k).2 + 1) := rfl
    obtain ⟨hf1, hf2⟩ := frM_lt (cd := con ||| del) (s := z) (e := e) k hk
    refine wa_iload hX dX12_left_42 rfl ?_
    refine wa_aload_n hX (i := 1) dX12_left_44 rfl rfl ?_
    refine wa_get hX 0 (by assumption) (by rfl) (by decide +kernel) dX12_left_45 ?_
    refine wi_icmp_ge hX (tgt := 86) dX12_left_48 (by decide) (by omega) (by omega) (fun c48 => ?_) (fun c48 => ?_)
    · skip
      have hke : k = e := by omega
      rw [hke]
      rw [hke] at hf1
      have hor : (frM (con ||| del) z e).1 ||| con < 2 ^ e := or_lt hf1 hc
      have hmo := hM.mono (s := con) hor (fun i hi => by rw [Nat.testBit_or, hi, Bool.or_true])
      have hv1 := hM.le10 hor
      refine wa_aload_n hX (i := 0) dX12_left_86 rfl rfl ?_
      refine wa_get hX 8 (by assumption) (by rfl) (by decide +kernel) dX12_left_87 ?_
      refine wa_get hX 1 (by assumption) (by rfl) (by decide +kernel) dX12_left_90 ?_
      refine wa_iload hX dX12_left_93 rfl ?_
      refine wa_aload_n hX (i := 1) dX12_left_95 rfl rfl ?_
      refine wa_get hX 1 (by assumption) (by rfl) (by decide +kernel) dX12_left_96 ?_
      refine wa_iload hX dX12_left_99 rfl ?_
      refine wa_iload_n hX (i := 2) dX12_left_101 rfl rfl ?_
      refine wn_ior hX dX12_left_102 (by rfl) (by rfl) ?_
      refine wi_iaload hX (by assumption) (by omega) (by omega) (by omega) dX12_left_103 ?_
      rw [Int.toNat_natCast, a3 _ hor]
      refine wa_aload_n hX (i := 1) dX12_left_104 rfl rfl ?_
      refine wa_get hX 1 (by assumption) (by rfl) (by decide +kernel) dX12_left_105 ?_
      refine wa_iload_n hX (i := 2) dX12_left_108 rfl rfl ?_
      refine wi_iaload hX (by assumption) (by omega) (by omega) (by omega) dX12_left_109 ?_
      rw [Int.toNat_natCast, a3 _ hc]
      refine wi_isub hX dX12_left_110 ?_
      rw [show ((r1 ((frM (con ||| del) z e).1 ||| con) : Nat) : Int) - ((r1 con : Nat) : Int) = ((leM r1 e con del z : Nat) : Int) by unfold leM; omega]
      refine wi_iastore hX p3F (by omega) (by omega) (by omega) dX12_left_111 ?_
      rw [hset_hset, Int.toNat_natCast]
      refine wi_iinc hX dX12_left_112 rfl ?_
      dsimp only [List.set]
      refine wa_goto hX (tgt := 21) dX12_left_115 (by decide) ?_
      refine ih (z + 1, up F z ((leM r1 e con del z : Nat) : Int), _, _, _) ⟨by show z + 1 ≤ _; omega, fill_step (spec := fun s => ((leM r1 e con del s : Nat) : Int)) hF, rfl, rfl, rfl⟩ (by show _ - (z + 1) < _; omega)
    · skip
      refine wa_iload_n hX (i := 2) dX12_left_51 rfl rfl ?_
      refine wa_iload_n hX (i := 3) dX12_left_52 rfl rfl ?_
      refine wn_ior hX dX12_left_53 (by rfl) (by rfl) ?_
      refine wa_iload hX dX12_left_54 rfl ?_
      refine wn_ishr hX dX12_left_56 (by rfl) (by rfl) (by omega) (by omega) ?_
      refine wi_iconst hX dX12_left_57 ?_
      refine wn_iand hX dX12_left_58 (by rfl) (by rfl) ?_
      rw [bit1]
      refine wi_if_ne hX (tgt := 80) dX12_left_59 (by decide) (by exact b2n_inR _) (fun c59 => ?_) (fun c59 => ?_)
      · skip
        refine wi_iinc hX dX12_left_80 rfl ?_
        dsimp only [List.set]
        refine wa_goto hX (tgt := 42) dX12_left_83 (by decide) ?_
        first
          | (have q := b2n_t c59
             rw [if_pos q] at hst
             refine WA.eq rfl ?_ rfl (ih2 (k + 1) (by omega) (by omega))
             rw [hst]
             rfl)
          | (have q := b2n_f c59
             rw [if_neg (by rw [q]; exact Bool.false_ne_true)] at hst
             refine WA.eq rfl ?_ rfl (ih2 (k + 1) (by omega) (by omega))
             rw [hst]
             rfl)
      · skip
        refine wa_iload hX dX12_left_62 rfl ?_
        refine wa_iload hX dX12_left_64 rfl ?_
        refine wa_iload hX dX12_left_66 rfl ?_
        refine wn_ishr hX dX12_left_68 (by rfl) (by rfl) (by omega) (by omega) ?_
        refine wi_iconst hX dX12_left_69 ?_
        refine wn_iand hX dX12_left_70 (by rfl) (by rfl) ?_
        rw [bit1]
        refine wa_iload hX dX12_left_71 rfl ?_
        refine wn_ishl hX dX12_left_73 (by rfl) (by rfl) (by omega) ?_
        refine wn_ior hX dX12_left_74 (by rfl) (by rfl) ?_
        refine wa_istore hX dX12_left_75 (by first | rfl | assumption) ?_
        dsimp only [List.set]
        refine wi_iinc hX dX12_left_77 rfl ?_
        dsimp only [List.set]
        refine wi_iinc hX dX12_left_80 rfl ?_
        dsimp only [List.set]
        refine wa_goto hX (tgt := 42) dX12_left_83 (by decide) ?_
        first
          | (have q := b2n_t c59
             rw [if_pos q] at hst
             refine WA.eq rfl ?_ rfl (ih2 (k + 1) (by omega) (by omega))
             rw [hst]
             rfl)
          | (have q := b2n_f c59
             rw [if_neg (by rw [q]; exact Bool.false_ne_true)] at hst
             refine WA.eq rfl ?_ rfl (ih2 (k + 1) (by omega) (by omega))
             rw [hst]
             rfl)
set_option maxHeartbeats 2000000 in
set_option maxRecDepth 100000 in
theorem c_X12_minorOf (hW : WOK l D S0) (d : Nat) {h : AH} {a row brk al wk us kp pt c m p1 p2 l1 l2 q1 q2 lq1 lq2 e1 e2 : Nat} {w E : Nat → Nat} {R : Nat → Nat → Nat} {b0 b1 b2 th : Int} {m12 m13 m22 m23 : Value} {k12 k13 k22 k23 : Int} {r1 r2 : Nat → Nat} {G1 G2 : Nat → Int} (k1 : h a = some (120, oMod th (c : Int) row brk al wk us kp pt)) (kJ : RJ Z DR h row brk al wk us kp pt c w m E R b0 b1 b2) (a1 : h p1 = some (l1, oRef e1 q1 m12 m13 k12 k13)) (a2 : h q1 = some (lq1, aI .int 1024 G1)) (a3 : ∀ s, s < 2 ^ e1 → G1 s = ((r1 s : Nat) : Int)) (hM1 : Mtr e1 r1) (u1 : h p2 = some (l2, oRef e2 q2 m22 m23 k22 k23)) (u2 : h q2 = some (lq2, aI .int 1024 G2)) (u3 : ∀ s, s < 2 ^ e2 → G2 s = ((r2 s : Nat) : Int)) (hM2 : Mtr e2 r2) (hl : 130 ≤ l1 ∧ 130 ≤ lq1 ∧ 130 ≤ l2 ∧ 130 ≤ lq2) : MA l D S0 yX12_minorOf cX12_minorOf 8 (some .int) (d + 13) [.ref a, .ref p1, .ref p2] h 0 0 (fun r h' => ∃ z : Int, r = some (I z) ∧ MinG r1 e1 r2 e2 z ∧ Fr (fun x => 125 ≤ x ∧ x ≤ 129) h h' ∧ RJ Z DR h' row brk al wk us kp pt c w m E R b0 b1 b2) (fun _ _ => False) := by
  have he1 := hM1.1
  have he2 := hM2.1
  have hp1 := p2_le he1
  have hp10 := p2_pos e1
  have hp20 := p2_pos e2
  have v1 := hM1.le10 (s := 2 ^ e1 - 1) (by omega)
  have v2 := hM2.le10 (s := 2 ^ e2 - 1) (by omega)
  refine MA.start hW (by decide) [.val (.ref a), .val (.ref p1), .val (.ref p2), .unset, .unset, .unset, .unset, .unset] rfl ?_
  rintro X rfl rfl rfl hX
  refine wa_aload_n hX (i := 1) dX12_minorOf_0 rfl rfl ?_
  refine wa_callV hX (c_X11_rank hW d a1 a2 a3 he1 (fun s hs => hM1.le10 hs)) (by assumption) (by rfl) (by rfl) (by omega) (nA := 0) (by rfl) (by decide +kernel) rfl (by exact Nat.le_of_ble_eq_true rfl) dX12_minorOf_1 (fun r1 h1 p1 => ?_) (fun _ _ q => q.elim)
  obtain ⟨rfl, qq1⟩ := p1; subst h1
  dsimp only [Option.toList, List.cons_append, List.nil_append]
  refine wa_aload_n hX (i := 2) dX12_minorOf_4 rfl rfl ?_
  refine wa_callV hX (c_X11_rank hW d u1 u2 u3 he2 (fun s hs => hM2.le10 hs)) (by assumption) (by rfl) (by rfl) (by omega) (nA := 0) (by rfl) (by decide +kernel) rfl (by exact Nat.le_of_ble_eq_true rfl) dX12_minorOf_5 (fun r5 h5 p5 => ?_) (fun _ _ q => q.elim)
  obtain ⟨rfl, qq5⟩ := p5; subst h5
  dsimp only [Option.toList, List.cons_append, List.nil_append]
  refine wi_isub hX dX12_minorOf_8 ?_
  refine wa_istore_n hX (i := 3) dX12_minorOf_9 rfl (by first | rfl | assumption) ?_
  dsimp only [List.set]
  refine wa_aload_n hX (i := 1) dX12_minorOf_10 rfl rfl ?_
  refine wa_get hX 0 (by assumption) (by rfl) (by decide +kernel) dX12_minorOf_11 ?_
  refine wa_aload_n hX (i := 2) dX12_minorOf_14 rfl rfl ?_
  refine wa_get hX 0 (by assumption) (by rfl) (by decide +kernel) dX12_minorOf_15 ?_
  refine wi_isub hX dX12_minorOf_18 ?_
  refine wa_istore hX dX12_minorOf_19 (by first | rfl | assumption) ?_
  dsimp only [List.set]
  refine wi_iconst hX dX12_minorOf_21 ?_
  refine wa_istore hX dX12_minorOf_22 (by first | rfl | assumption) ?_
  dsimp only [List.set]
  refine WA.loop (σ := Nat × AH × Slot × Slot) (fun z => 2 ^ e1 - z.1) (fun z => z.1 ≤ 2 ^ e1 ∧ (∀ c' d', c' < z.1 → d' < 2 ^ e1 → ¬ CandP r1 e1 r2 e2 c' d') ∧ (Fr (fun x => 125 ≤ x ∧ x ≤ 129) h z.2.1 ∧ RJ Z DR z.2.1 row brk al wk us kp pt c w m E R b0 b1 b2) ∧ okS [z.2.2.1] 0 = true ∧ okS [z.2.2.2] 0 = true) (fun z => z.2.1) (fun z => [.val (.ref a), .val (.ref p1), .val (.ref p2), .val (I (((r1 (2 ^ e1 - 1) : Nat) : Int) - ((r2 (2 ^ e2 - 1) : Nat) : Int))), .val (I ((e1 : Int) - (e2 : Int))), .val (I (z.1 : Nat)), z.2.2.1, z.2.2.2]) ?_ (0, h, .unset, .unset) ⟨Nat.zero_le _, fun c' d' hc => absurd hc (Nat.not_lt_zero c'), ⟨Fr.rf, kJ⟩, rfl, rfl⟩
  rintro ⟨z, hz, u6, u7⟩ ⟨hzl, hN, ⟨fz, kJz⟩, hu6, hu7⟩ ih
  dsimp only at hzl hN fz kJz hu6 hu7 ⊢
  have a1z := fz _ _ _ a1 (by omega)
  have a2z := fz _ _ _ a2 (by omega)
  have hbz := bc_le z
  have t162 : ∀ (h2 : AH) (u6 u7 : Slot), okS [u6] 0 = true → okS [u7] 0 = true → z < 2 ^ e1 → (Fr (fun x => 125 ≤ x ∧ x ≤ 129) h h2 ∧ RJ Z DR h2 row brk al wk us kp pt c w m E R b0 b1 b2) → (∀ d', d' < 2 ^ e1 → ¬ CandP r1 e1 r2 e2 z d') → WA X h2 0 0 162 [.val (.ref a), .val (.ref p1), .val (.ref p2), .val (I (((r1 (2 ^ e1 - 1) : Nat) : Int) - ((r2 (2 ^ e2 - 1) : Nat) : Int))), .val (I ((e1 : Int) - (e2 : Int))), .val (I (z : Nat)), u6, u7] [] := by
    intro h2 u6 u7 hu6 hu7 hze hinv hN2
    refine wi_iinc hX dX12_minorOf_162 rfl ?_
    dsimp only [List.set]
    refine wa_goto hX (tgt := 24) dX12_minorOf_165 (by decide) ?_
    refine ih (z + 1, h2, u6, u7) ⟨by show z + 1 ≤ _; omega, fun c' d' hc' hd' => ?_, hinv, hu6, hu7⟩ (by show _ - (z + 1) < _; omega)
    have hc2 : c' < z + 1 := hc'
    by_cases g : c' = z
    · subst g; exact hN2 d' hd'
    · exact hN c' d' (by omega) hd'
  refine wa_iload hX dX12_minorOf_24 rfl ?_
  refine wa_aload_n hX (i := 1) dX12_minorOf_26 rfl rfl ?_
  refine wa_callV hX (c_X11_full hW d a1z he1) (by assumption) (by rfl) (by rfl) (by omega) (nA := 0) (by rfl) (by decide +kernel) rfl (by exact Nat.le_of_ble_eq_true rfl) dX12_minorOf_27 (fun r27 h27 p27 => ?_) (fun _ _ q => q.elim)
  obtain ⟨rfl, qq27⟩ := p27; subst h27
  dsimp only [Option.toList, List.cons_append, List.nil_append]
  refine wi_icmp_gt hX (tgt := 168) dX12_minorOf_30 (by decide) (by omega) (by omega) (fun c30 => ?_) (fun c30 => ?_)
  · skip
    refine wi_iconst hX dX12_minorOf_168 ?_
    refine wa_iret hX dX12_minorOf_169 ?_
    refine ⟨-1, rfl, Or.inl ⟨rfl, fun c' d' hc' hd' hq => ?_⟩, fz, kJz⟩
    first
      | exact hN c' d' (by omega) hd' hq
      | (have q1 := hq.1
         have q2 := hq.2.2.1
         omega)
  · skip
    refine wa_iload_n hX (i := 3) dX12_minorOf_33 rfl rfl ?_
    refine wi_if_lt hX (tgt := 168) dX12_minorOf_34 (by decide) (by omega) (fun c34 => ?_) (fun c34 => ?_)
    · skip
      refine wi_iconst hX dX12_minorOf_168 ?_
      refine wa_iret hX dX12_minorOf_169 ?_
      refine ⟨-1, rfl, Or.inl ⟨rfl, fun c' d' hc' hd' hq => ?_⟩, fz, kJz⟩
      first
        | exact hN c' d' (by omega) hd' hq
        | (have q1 := hq.1
           have q2 := hq.2.2.1
           omega)
    · skip
      refine wa_iload hX dX12_minorOf_37 rfl ?_
      refine wa_iload_n hX (i := 3) dX12_minorOf_39 rfl rfl ?_
      refine wi_icmp_lt hX (tgt := 168) dX12_minorOf_40 (by decide) (by omega) (by omega) (fun c40 => ?_) (fun c40 => ?_)
      · skip
        refine wi_iconst hX dX12_minorOf_168 ?_
        refine wa_iret hX dX12_minorOf_169 ?_
        refine ⟨-1, rfl, Or.inl ⟨rfl, fun c' d' hc' hd' hq => ?_⟩, fz, kJz⟩
        first
          | exact hN c' d' (by omega) hd' hq
          | (have q1 := hq.1
             have q2 := hq.2.2.1
             omega)
      · skip
        refine wa_iload hX dX12_minorOf_43 rfl ?_
        refine wa_callS hX (c_J6_bitCount hW d (s := z) (by omega)) (by rfl) (by omega) (nA := 1) (by rfl) (by decide +kernel) rfl (by exact Nat.le_of_ble_eq_true rfl) dX12_minorOf_45 (fun r45 h45 p45 => ?_) (fun _ _ q => q.elim)
        obtain ⟨rfl, qq45⟩ := p45; subst h45
        dsimp only [Option.toList, List.cons_append, List.nil_append]
        refine wa_iload_n hX (i := 3) dX12_minorOf_48 rfl rfl ?_
        refine wi_icmp_ne hX (tgt := 162) dX12_minorOf_49 (by decide) (by omega) (by omega) (fun c49 => ?_) (fun c49 => ?_)
        · skip
          refine t162 hz u6 u7 hu6 hu7 (by omega) ⟨fz, kJz⟩ (fun d' _ hq => ?_)
          first
            | (have q := hq.1
               omega)
            | (have q := b2n_f c58
               rw [hq.2.1] at q
               cases q)
        · skip
          refine wa_aload_n hX (i := 1) dX12_minorOf_52 rfl rfl ?_
          refine wa_iload hX dX12_minorOf_53 rfl ?_
          refine wa_callV hX (c_X11_isFree hW d a1z a2z a3 he1 (fun s hs => hM1.le10 hs) (s := z) (by omega)) (by assumption) (by rfl) (by rfl) (by omega) (nA := 1) (by rfl) (by decide +kernel) rfl (by exact Nat.le_of_ble_eq_true rfl) dX12_minorOf_55 (fun r55 h55 p55 => ?_) (fun _ _ q => q.elim)
          obtain ⟨rfl, qq55⟩ := p55; subst h55
          dsimp only [Option.toList, List.cons_append, List.nil_append]
          refine wi_if_eq hX (tgt := 162) dX12_minorOf_58 (by decide) (by exact b2n_inR _) (fun c58 => ?_) (fun c58 => ?_)
          · skip
            refine t162 hz u6 u7 hu6 hu7 (by omega) ⟨fz, kJz⟩ (fun d' _ hq => ?_)
            first
              | (have q := hq.1
                 omega)
              | (have q := b2n_f c58
                 rw [hq.2.1] at q
                 cases q)
          · skip
            refine wi_iconst hX dX12_minorOf_61 ?_
            refine wa_istore hX dX12_minorOf_62 (by first | rfl | assumption) ?_
            dsimp only [List.set]
            have hze : z < 2 ^ e1 := by omega
            have hfz : frB r1 z = true := b2n_t c58
            refine WA.loop (σ := Nat × AH × Slot) (fun y => 2 ^ e1 - y.1) (fun y => y.1 ≤ 2 ^ e1 ∧ (∀ d', d' < y.1 → ¬ CandP r1 e1 r2 e2 z d') ∧ (Fr (fun x => 125 ≤ x ∧ x ≤ 129) h y.2.1 ∧ RJ Z DR y.2.1 row brk al wk us kp pt c w m E R b0 b1 b2) ∧ okS [y.2.2] 0 = true) (fun y => y.2.1) (fun y => [.val (.ref a), .val (.ref p1), .val (.ref p2), .val (I (((r1 (2 ^ e1 - 1) : Nat) : Int) - ((r2 (2 ^ e2 - 1) : Nat) : Int))), .val (I ((e1 : Int) - (e2 : Int))), .val (I (z : Nat)), .val (I (y.1 : Nat)), y.2.2]) ?_ (0, hz, u7) ⟨Nat.zero_le _, fun d' hd => absurd hd (Nat.not_lt_zero d'), ⟨fz, kJz⟩, hu7⟩
            rintro ⟨y, hy, u7⟩ ⟨hyl, hN2, ⟨fy, kJy⟩, hu7⟩ ih2
            dsimp only at hyl hN2 fy kJy hu7 ⊢
            have k1y := fy _ _ _ k1 (by omega)
            have a1y := fy _ _ _ a1 (by omega)
            have a2y := fy _ _ _ a2 (by omega)
            have u1y := fy _ _ _ u1 (by omega)
            have u2y := fy _ _ _ u2 (by omega)
            have hby := bc_le y
            obtain ⟨-, -, -, ⟨WK, q3⟩, ⟨US, q4⟩, ⟨KP, q5⟩, ⟨e0, rq0, m20, m30, l20, l30, G0, q6, q7⟩, -⟩ := id kJy
            have t156 : ∀ (h2 : AH) (u7 : Slot), okS [u7] 0 = true → y < 2 ^ e1 → (Fr (fun x => 125 ≤ x ∧ x ≤ 129) h h2 ∧ RJ Z DR h2 row brk al wk us kp pt c w m E R b0 b1 b2) → ¬ CandP r1 e1 r2 e2 z y → WA X h2 0 0 156 [.val (.ref a), .val (.ref p1), .val (.ref p2), .val (I (((r1 (2 ^ e1 - 1) : Nat) : Int) - ((r2 (2 ^ e2 - 1) : Nat) : Int))), .val (I ((e1 : Int) - (e2 : Int))), .val (I (z : Nat)), .val (I (y : Nat)), u7] [] := by
              intro h2 u7 hu7 hye hinv hN3
              refine wi_iinc hX dX12_minorOf_156 rfl ?_
              dsimp only [List.set]
              refine wa_goto hX (tgt := 64) dX12_minorOf_159 (by decide) ?_
              refine ih2 (y + 1, h2, u7) ⟨by show y + 1 ≤ _; omega, fun d' hd' => ?_, hinv, hu7⟩ (by show _ - (y + 1) < _; omega)
              have hd2 : d' < y + 1 := hd'
              by_cases g : d' = y
              · subst g; exact hN3
              · exact hN2 d' (by omega)
            refine wa_iload hX dX12_minorOf_64 rfl ?_
            refine wa_aload_n hX (i := 1) dX12_minorOf_66 rfl rfl ?_
            refine wa_callV hX (c_X11_full hW d a1y he1) (by assumption) (by rfl) (by rfl) (by omega) (nA := 0) (by rfl) (by decide +kernel) rfl (by exact Nat.le_of_ble_eq_true rfl) dX12_minorOf_67 (fun r67 h67 p67 => ?_) (fun _ _ q => q.elim)
            obtain ⟨rfl, qq67⟩ := p67; subst h67
            dsimp only [Option.toList, List.cons_append, List.nil_append]
            refine wi_icmp_gt hX (tgt := 162) dX12_minorOf_70 (by decide) (by omega) (by omega) (fun c70 => ?_) (fun c70 => ?_)
            · skip
              exact t162 hy _ u7 rfl hu7 hze ⟨fy, kJy⟩ (fun d' hd' => hN2 d' (by omega))
            · skip
              refine wa_iload hX dX12_minorOf_73 rfl ?_
              refine wa_callS hX (c_J6_bitCount hW d (s := y) (by omega)) (by rfl) (by omega) (nA := 1) (by rfl) (by decide +kernel) rfl (by exact Nat.le_of_ble_eq_true rfl) dX12_minorOf_75 (fun r75 h75 p75 => ?_) (fun _ _ q => q.elim)
              obtain ⟨rfl, qq75⟩ := p75; subst h75
              dsimp only [Option.toList, List.cons_append, List.nil_append]
              refine wa_iload hX dX12_minorOf_78 rfl ?_
              refine wa_iload_n hX (i := 3) dX12_minorOf_80 rfl rfl ?_
              refine wi_isub hX dX12_minorOf_81 ?_
              refine wi_icmp_ne hX (tgt := 97) dX12_minorOf_82 (by decide) (by omega) (by omega) (fun c82 => ?_) (fun c82 => ?_)
              · skip
                refine wi_iconst hX dX12_minorOf_97 ?_
                have t98 : ∀ b : Bool, (b = false → ¬ CandP r1 e1 r2 e2 z y) → (b = true → ((bc y : Nat) : Int) = ((e1 : Int) - (e2 : Int)) - (((r1 (2 ^ e1 - 1) : Nat) : Int) - ((r2 (2 ^ e2 - 1) : Nat) : Int)) ∧ z &&& y = 0) → WA X hy 0 0 98 [.val (.ref a), .val (.ref p1), .val (.ref p2), .val (I (((r1 (2 ^ e1 - 1) : Nat) : Int) - ((r2 (2 ^ e2 - 1) : Nat) : Int))), .val (I ((e1 : Int) - (e2 : Int))), .val (I (z : Nat)), .val (I (y : Nat)), u7] [I ((b2n b : Nat) : Int)] := by
                  intro b hb1 hb2
                  have hye : y < 2 ^ e1 := by omega
                  have hsd : sdf (2 ^ e1 - 1) y < 2 ^ e1 := sdf_lt (by omega)
                  have w1 := hM1.le10 hsd
                  refine wa_istore hX dX12_minorOf_98 (by first | rfl | assumption) ?_
                  dsimp only [List.set]
                  refine wa_iload hX dX12_minorOf_100 rfl ?_
                  refine wi_if_eq hX (tgt := 156) dX12_minorOf_102 (by decide) (by exact b2n_inR _) (fun c102 => ?_) (fun c102 => ?_)
                  · skip
                    first
                      | (have q := b2n_f c102
                         exact t156 hy _ rfl (by omega) ⟨fy, kJy⟩ (hb1 q))
                      | (have q := b2n_f c143
                         rw [q] at hG
                         exact t156 h140 _ rfl (by omega) ⟨fyy, kJ2⟩ (fun hq => hq.2.2.2.2.2.elim (fun im2 h2 => hG.not h2)))
                      | exact t156 hy _ rfl (by omega) ⟨fy, kJy⟩ (fun hq => by have := hq.2.2.2.2.1; omega)
                  · skip
                    refine wa_aload_n hX (i := 1) dX12_minorOf_105 rfl rfl ?_
                    refine wa_get hX 1 (by assumption) (by rfl) (by decide +kernel) dX12_minorOf_106 ?_
                    refine wa_aload_n hX (i := 1) dX12_minorOf_109 rfl rfl ?_
                    refine wa_callV hX (c_X11_full hW d a1y he1) (by assumption) (by rfl) (by rfl) (by omega) (nA := 0) (by rfl) (by decide +kernel) rfl (by exact Nat.le_of_ble_eq_true rfl) dX12_minorOf_110 (fun r110 h110 p110 => ?_) (fun _ _ q => q.elim)
                    obtain ⟨rfl, qq110⟩ := p110; subst h110
                    dsimp only [Option.toList, List.cons_append, List.nil_append]
                    refine wa_iload hX dX12_minorOf_113 rfl ?_
                    refine wi_iconst hX dX12_minorOf_115 ?_
                    refine wa_ixor hX dX12_minorOf_116 ?_
                    refine wn_andn hX dX12_minorOf_117 (by rfl) (by rfl) ?_
                    refine wi_iaload hX (by assumption) (by first | omega | exact inR_nat (and_ltl (by omega)) | exact inR_nat (and_ltr (by omega))) (by first | omega | exact inR_nat (and_ltl (by omega)) | exact inR_nat (and_ltr (by omega))) (by first | omega | exact inR_nat (and_ltl (by omega)) | exact inR_nat (and_ltr (by omega))) dX12_minorOf_118 ?_
                    rw [Int.toNat_natCast, a3 _ hsd]
                    refine wa_aload_n hX (i := 1) dX12_minorOf_119 rfl rfl ?_
                    refine wa_callV hX (c_X11_rank hW d a1y a2y a3 he1 (fun s hs => hM1.le10 hs)) (by assumption) (by rfl) (by rfl) (by omega) (nA := 0) (by rfl) (by decide +kernel) rfl (by exact Nat.le_of_ble_eq_true rfl) dX12_minorOf_120 (fun r120 h120 p120 => ?_) (fun _ _ q => q.elim)
                    obtain ⟨rfl, qq120⟩ := p120; subst h120
                    dsimp only [Option.toList, List.cons_append, List.nil_append]
                    refine wi_icmp_ne hX (tgt := 156) dX12_minorOf_123 (by decide) (by omega) (by omega) (fun c123 => ?_) (fun c123 => ?_)
                    · skip
                      first
                        | (have q := b2n_f c102
                           exact t156 hy _ rfl (by omega) ⟨fy, kJy⟩ (hb1 q))
                        | (have q := b2n_f c143
                           rw [q] at hG
                           exact t156 h140 _ rfl (by omega) ⟨fyy, kJ2⟩ (fun hq => hq.2.2.2.2.2.elim (fun im2 h2 => hG.not h2)))
                        | exact t156 hy _ rfl (by omega) ⟨fy, kJy⟩ (fun hq => by have := hq.2.2.2.2.1; omega)
                    · skip
                      refine wa_aload_n hX (i := 0) dX12_minorOf_126 rfl rfl ?_
                      refine wa_aload_n hX (i := 1) dX12_minorOf_127 rfl rfl ?_
                      refine wa_iload hX dX12_minorOf_128 rfl ?_
                      refine wa_iload hX dX12_minorOf_130 rfl ?_
                      refine wa_callV hX (c_X12_left hW d k1y q6 q7 a1y a2y a3 hM1 (by omega) hze hye) (by assumption) (by rfl) (by rfl) (by omega) (nA := 3) (by rfl) (by decide +kernel) rfl (by exact Nat.le_of_ble_eq_true rfl) dX12_minorOf_132 (fun r132 h132 p132 => ?_) (fun _ _ q => q.elim)
                      obtain ⟨G', rfl, z1, z2, z3, f1⟩ := p132
                      have k1L := f1 _ _ _ k1y (by omega)
                      have u1L := f1 _ _ _ u1y (by omega)
                      have u2L := f1 _ _ _ u2y (by omega)
                      have q3L := f1 _ _ _ q3 (by omega)
                      have q4L := f1 _ _ _ q4 (by omega)
                      have q5L := f1 _ _ _ q5 (by omega)
                      have hlr : ∀ s, s < 2 ^ (e1 - bc (z ||| y)) → leM r1 e1 z y s ≤ 10 := fun s hs => by
                        have hf1 := (frM_lt (cd := z ||| y) (s := s) (e := e1) e1 (Nat.le_refl e1)).1
                        have := hM1.le10 (or_lt hf1 hze)
                        unfold leM
                        omega
                      dsimp only [Option.toList, List.cons_append, List.nil_append]
                      refine wa_aload_n hX (i := 2) dX12_minorOf_135 rfl rfl ?_
                      refine wa_aload_n hX (i := 0) dX12_minorOf_136 rfl rfl ?_
                      refine wa_get hX 7 (by assumption) (by rfl) (by decide +kernel) dX12_minorOf_137 ?_
                      refine wa_callS hX (c_X12_areAlike hW d z1 z2 z3 u1L u2L u3 (by omega) he2 hlr (fun s hs => hM2.le10 hs) q5L (by omega)) (by rfl) (by omega) (nA := 3) (by rfl) (by decide +kernel) rfl (by exact Nat.le_of_ble_eq_true rfl) dX12_minorOf_140 (fun r140 h140 p140 => ?_) (fun _ _ q => q.elim)
                      obtain ⟨vv, KP', im, rfl, hh140, hKP, hG⟩ := p140
                      have f2 : Fr (fun x => x = 127) h132 h140 := by rw [hh140]; exact Fr.hset Fr.rf q5L rfl
                      have kpK : h140 kp = some (127, aI .int 10 KP') := by rw [hh140]; exact hset_eq
                      have f12 : Fr (fun x => 125 ≤ x ∧ x ≤ 129) hy h140 := (f1.mono (fun x hx => by omega)).trans (f2.mono (fun x hx => by omega))
                      have kJ2 := kJy.chg f12 ⟨WK, f2 _ _ _ q3L (by omega)⟩ ⟨US, f2 _ _ _ q4L (by omega)⟩ ⟨KP', kpK⟩ ⟨_, rq0, m20, m30, l20, l30, G', f2 _ _ _ z1 (by omega), f2 _ _ _ z2 (by omega)⟩
                      have fyy := fy.trans f12
                      clear hh140
                      dsimp only [Option.toList, List.cons_append, List.nil_append]
                      refine wi_if_eq hX (tgt := 156) dX12_minorOf_143 (by decide) (by exact b2n_inR _) (fun c143 => ?_) (fun c143 => ?_)
                      · skip
                        first
                          | (have q := b2n_f c102
                             exact t156 hy _ rfl (by omega) ⟨fy, kJy⟩ (hb1 q))
                          | (have q := b2n_f c143
                             rw [q] at hG
                             exact t156 h140 _ rfl (by omega) ⟨fyy, kJ2⟩ (fun hq => hq.2.2.2.2.2.elim (fun im2 h2 => hG.not h2)))
                          | exact t156 hy _ rfl (by omega) ⟨fy, kJy⟩ (fun hq => by have := hq.2.2.2.2.1; omega)
                      · skip
                        refine wi_sipush hX dX12_minorOf_146 (by decide) ?_
                        refine wa_iload hX dX12_minorOf_149 rfl ?_
                        refine wi_imul hX dX12_minorOf_151 ?_
                        refine wa_iload hX dX12_minorOf_152 rfl ?_
                        refine wi_iadd hX dX12_minorOf_154 ?_
                        refine wa_iret hX dX12_minorOf_155 ?_
                        have q := b2n_t c143
                        have q2 := hb2 (b2n_t c102)
                        rw [q] at hG
                        have hcc : CandP r1 e1 r2 e2 z y := ⟨by omega, hfz, q2.1, q2.2, by omega, im, hG⟩
                        refine ⟨_, rfl, Or.inr ⟨z, y, by omega, hze, hye, hcc, fun c' d' hc' hd' hq => ?_⟩, fyy, kJ2⟩
                        by_cases g1 : c' < z
                        · exact absurd hq (hN c' d' g1 hd')
                        · by_cases g2 : c' = z
                          · subst g2
                            by_cases g3 : d' < y
                            · exact absurd hq (hN2 d' g3)
                            · exact Or.inr ⟨rfl, by omega⟩
                          · exact Or.inl (by omega)
                first
                  | (refine WA.eq (st2 := [I ((b2n true : Nat) : Int)]) rfl rfl rfl (t98 true (fun z => nomatch z) (fun _ => ⟨by omega, by omega⟩))
                     done)
                  | (refine WA.eq (st2 := [I ((b2n false : Nat) : Int)]) rfl rfl rfl (t98 false (fun _ hq => ?_) (fun z => nomatch z))
                     first
                       | (have q := hq.2.2.1
                          omega)
                       | (have q := hq.2.2.2.1
                          omega))
              · skip
                refine wa_iload hX dX12_minorOf_85 rfl ?_
                refine wa_iload hX dX12_minorOf_87 rfl ?_
                refine wn_iand hX dX12_minorOf_89 (by rfl) (by rfl) ?_
                refine wi_if_ne hX (tgt := 97) dX12_minorOf_90 (by decide) (by first | omega | exact inR_nat (and_ltl (by omega)) | exact inR_nat (and_ltr (by omega))) (fun c90 => ?_) (fun c90 => ?_)
                · skip
                  refine wi_iconst hX dX12_minorOf_97 ?_
                  have t98 : ∀ b : Bool, (b = false → ¬ CandP r1 e1 r2 e2 z y) → (b = true → ((bc y : Nat) : Int) = ((e1 : Int) - (e2 : Int)) - (((r1 (2 ^ e1 - 1) : Nat) : Int) - ((r2 (2 ^ e2 - 1) : Nat) : Int)) ∧ z &&& y = 0) → WA X hy 0 0 98 [.val (.ref a), .val (.ref p1), .val (.ref p2), .val (I (((r1 (2 ^ e1 - 1) : Nat) : Int) - ((r2 (2 ^ e2 - 1) : Nat) : Int))), .val (I ((e1 : Int) - (e2 : Int))), .val (I (z : Nat)), .val (I (y : Nat)), u7] [I ((b2n b : Nat) : Int)] := by
                    intro b hb1 hb2
                    have hye : y < 2 ^ e1 := by omega
                    have hsd : sdf (2 ^ e1 - 1) y < 2 ^ e1 := sdf_lt (by omega)
                    have w1 := hM1.le10 hsd
                    refine wa_istore hX dX12_minorOf_98 (by first | rfl | assumption) ?_
                    dsimp only [List.set]
                    refine wa_iload hX dX12_minorOf_100 rfl ?_
                    refine wi_if_eq hX (tgt := 156) dX12_minorOf_102 (by decide) (by exact b2n_inR _) (fun c102 => ?_) (fun c102 => ?_)
                    · skip
                      first
                        | (have q := b2n_f c102
                           exact t156 hy _ rfl (by omega) ⟨fy, kJy⟩ (hb1 q))
                        | (have q := b2n_f c143
                           rw [q] at hG
                           exact t156 h140 _ rfl (by omega) ⟨fyy, kJ2⟩ (fun hq => hq.2.2.2.2.2.elim (fun im2 h2 => hG.not h2)))
                        | exact t156 hy _ rfl (by omega) ⟨fy, kJy⟩ (fun hq => by have := hq.2.2.2.2.1; omega)
                    · skip
                      refine wa_aload_n hX (i := 1) dX12_minorOf_105 rfl rfl ?_
                      refine wa_get hX 1 (by assumption) (by rfl) (by decide +kernel) dX12_minorOf_106 ?_
                      refine wa_aload_n hX (i := 1) dX12_minorOf_109 rfl rfl ?_
                      refine wa_callV hX (c_X11_full hW d a1y he1) (by assumption) (by rfl) (by rfl) (by omega) (nA := 0) (by rfl) (by decide +kernel) rfl (by exact Nat.le_of_ble_eq_true rfl) dX12_minorOf_110 (fun r110 h110 p110 => ?_) (fun _ _ q => q.elim)
                      obtain ⟨rfl, qq110⟩ := p110; subst h110
                      dsimp only [Option.toList, List.cons_append, List.nil_append]
                      refine wa_iload hX dX12_minorOf_113 rfl ?_
                      refine wi_iconst hX dX12_minorOf_115 ?_
                      refine wa_ixor hX dX12_minorOf_116 ?_
                      refine wn_andn hX dX12_minorOf_117 (by rfl) (by rfl) ?_
                      refine wi_iaload hX (by assumption) (by first | omega | exact inR_nat (and_ltl (by omega)) | exact inR_nat (and_ltr (by omega))) (by first | omega | exact inR_nat (and_ltl (by omega)) | exact inR_nat (and_ltr (by omega))) (by first | omega | exact inR_nat (and_ltl (by omega)) | exact inR_nat (and_ltr (by omega))) dX12_minorOf_118 ?_
                      rw [Int.toNat_natCast, a3 _ hsd]
                      refine wa_aload_n hX (i := 1) dX12_minorOf_119 rfl rfl ?_
                      refine wa_callV hX (c_X11_rank hW d a1y a2y a3 he1 (fun s hs => hM1.le10 hs)) (by assumption) (by rfl) (by rfl) (by omega) (nA := 0) (by rfl) (by decide +kernel) rfl (by exact Nat.le_of_ble_eq_true rfl) dX12_minorOf_120 (fun r120 h120 p120 => ?_) (fun _ _ q => q.elim)
                      obtain ⟨rfl, qq120⟩ := p120; subst h120
                      dsimp only [Option.toList, List.cons_append, List.nil_append]
                      refine wi_icmp_ne hX (tgt := 156) dX12_minorOf_123 (by decide) (by omega) (by omega) (fun c123 => ?_) (fun c123 => ?_)
                      · skip
                        first
                          | (have q := b2n_f c102
                             exact t156 hy _ rfl (by omega) ⟨fy, kJy⟩ (hb1 q))
                          | (have q := b2n_f c143
                             rw [q] at hG
                             exact t156 h140 _ rfl (by omega) ⟨fyy, kJ2⟩ (fun hq => hq.2.2.2.2.2.elim (fun im2 h2 => hG.not h2)))
                          | exact t156 hy _ rfl (by omega) ⟨fy, kJy⟩ (fun hq => by have := hq.2.2.2.2.1; omega)
                      · skip
                        refine wa_aload_n hX (i := 0) dX12_minorOf_126 rfl rfl ?_
                        refine wa_aload_n hX (i := 1) dX12_minorOf_127 rfl rfl ?_
                        refine wa_iload hX dX12_minorOf_128 rfl ?_
                        refine wa_iload hX dX12_minorOf_130 rfl ?_
                        refine wa_callV hX (c_X12_left hW d k1y q6 q7 a1y a2y a3 hM1 (by omega) hze hye) (by assumption) (by rfl) (by rfl) (by omega) (nA := 3) (by rfl) (by decide +kernel) rfl (by exact Nat.le_of_ble_eq_true rfl) dX12_minorOf_132 (fun r132 h132 p132 => ?_) (fun _ _ q => q.elim)
                        obtain ⟨G', rfl, z1, z2, z3, f1⟩ := p132
                        have k1L := f1 _ _ _ k1y (by omega)
                        have u1L := f1 _ _ _ u1y (by omega)
                        have u2L := f1 _ _ _ u2y (by omega)
                        have q3L := f1 _ _ _ q3 (by omega)
                        have q4L := f1 _ _ _ q4 (by omega)
                        have q5L := f1 _ _ _ q5 (by omega)
                        have hlr : ∀ s, s < 2 ^ (e1 - bc (z ||| y)) → leM r1 e1 z y s ≤ 10 := fun s hs => by
                          have hf1 := (frM_lt (cd := z ||| y) (s := s) (e := e1) e1 (Nat.le_refl e1)).1
                          have := hM1.le10 (or_lt hf1 hze)
                          unfold leM
                          omega
                        dsimp only [Option.toList, List.cons_append, List.nil_append]
                        refine wa_aload_n hX (i := 2) dX12_minorOf_135 rfl rfl ?_
                        refine wa_aload_n hX (i := 0) dX12_minorOf_136 rfl rfl ?_
                        refine wa_get hX 7 (by assumption) (by rfl) (by decide +kernel) dX12_minorOf_137 ?_
                        refine wa_callS hX (c_X12_areAlike hW d z1 z2 z3 u1L u2L u3 (by omega) he2 hlr (fun s hs => hM2.le10 hs) q5L (by omega)) (by rfl) (by omega) (nA := 3) (by rfl) (by decide +kernel) rfl (by exact Nat.le_of_ble_eq_true rfl) dX12_minorOf_140 (fun r140 h140 p140 => ?_) (fun _ _ q => q.elim)
                        obtain ⟨vv, KP', im, rfl, hh140, hKP, hG⟩ := p140
                        have f2 : Fr (fun x => x = 127) h132 h140 := by rw [hh140]; exact Fr.hset Fr.rf q5L rfl
                        have kpK : h140 kp = some (127, aI .int 10 KP') := by rw [hh140]; exact hset_eq
                        have f12 : Fr (fun x => 125 ≤ x ∧ x ≤ 129) hy h140 := (f1.mono (fun x hx => by omega)).trans (f2.mono (fun x hx => by omega))
                        have kJ2 := kJy.chg f12 ⟨WK, f2 _ _ _ q3L (by omega)⟩ ⟨US, f2 _ _ _ q4L (by omega)⟩ ⟨KP', kpK⟩ ⟨_, rq0, m20, m30, l20, l30, G', f2 _ _ _ z1 (by omega), f2 _ _ _ z2 (by omega)⟩
                        have fyy := fy.trans f12
                        clear hh140
                        dsimp only [Option.toList, List.cons_append, List.nil_append]
                        refine wi_if_eq hX (tgt := 156) dX12_minorOf_143 (by decide) (by exact b2n_inR _) (fun c143 => ?_) (fun c143 => ?_)
                        · skip
                          first
                            | (have q := b2n_f c102
                               exact t156 hy _ rfl (by omega) ⟨fy, kJy⟩ (hb1 q))
                            | (have q := b2n_f c143
                               rw [q] at hG
                               exact t156 h140 _ rfl (by omega) ⟨fyy, kJ2⟩ (fun hq => hq.2.2.2.2.2.elim (fun im2 h2 => hG.not h2)))
                            | exact t156 hy _ rfl (by omega) ⟨fy, kJy⟩ (fun hq => by have := hq.2.2.2.2.1; omega)
                        · skip
                          refine wi_sipush hX dX12_minorOf_146 (by decide) ?_
                          refine wa_iload hX dX12_minorOf_149 rfl ?_
                          refine wi_imul hX dX12_minorOf_151 ?_
                          refine wa_iload hX dX12_minorOf_152 rfl ?_
                          refine wi_iadd hX dX12_minorOf_154 ?_
                          refine wa_iret hX dX12_minorOf_155 ?_
                          have q := b2n_t c143
                          have q2 := hb2 (b2n_t c102)
                          rw [q] at hG
                          have hcc : CandP r1 e1 r2 e2 z y := ⟨by omega, hfz, q2.1, q2.2, by omega, im, hG⟩
                          refine ⟨_, rfl, Or.inr ⟨z, y, by omega, hze, hye, hcc, fun c' d' hc' hd' hq => ?_⟩, fyy, kJ2⟩
                          by_cases g1 : c' < z
                          · exact absurd hq (hN c' d' g1 hd')
                          · by_cases g2 : c' = z
                            · subst g2
                              by_cases g3 : d' < y
                              · exact absurd hq (hN2 d' g3)
                              · exact Or.inr ⟨rfl, by omega⟩
                            · exact Or.inl (by omega)
                  first
                    | (refine WA.eq (st2 := [I ((b2n true : Nat) : Int)]) rfl rfl rfl (t98 true (fun z => nomatch z) (fun _ => ⟨by omega, by omega⟩))
                       done)
                    | (refine WA.eq (st2 := [I ((b2n false : Nat) : Int)]) rfl rfl rfl (t98 false (fun _ hq => ?_) (fun z => nomatch z))
                       first
                         | (have q := hq.2.2.1
                            omega)
                         | (have q := hq.2.2.2.1
                            omega))
                · skip
                  refine wi_iconst hX dX12_minorOf_93 ?_
                  refine wa_goto hX (tgt := 98) dX12_minorOf_94 (by decide) ?_
                  have t98 : ∀ b : Bool, (b = false → ¬ CandP r1 e1 r2 e2 z y) → (b = true → ((bc y : Nat) : Int) = ((e1 : Int) - (e2 : Int)) - (((r1 (2 ^ e1 - 1) : Nat) : Int) - ((r2 (2 ^ e2 - 1) : Nat) : Int)) ∧ z &&& y = 0) → WA X hy 0 0 98 [.val (.ref a), .val (.ref p1), .val (.ref p2), .val (I (((r1 (2 ^ e1 - 1) : Nat) : Int) - ((r2 (2 ^ e2 - 1) : Nat) : Int))), .val (I ((e1 : Int) - (e2 : Int))), .val (I (z : Nat)), .val (I (y : Nat)), u7] [I ((b2n b : Nat) : Int)] := by
                    intro b hb1 hb2
                    have hye : y < 2 ^ e1 := by omega
                    have hsd : sdf (2 ^ e1 - 1) y < 2 ^ e1 := sdf_lt (by omega)
                    have w1 := hM1.le10 hsd
                    refine wa_istore hX dX12_minorOf_98 (by first | rfl | assumption) ?_
                    dsimp only [List.set]
                    refine wa_iload hX dX12_minorOf_100 rfl ?_
                    refine wi_if_eq hX (tgt := 156) dX12_minorOf_102 (by decide) (by exact b2n_inR _) (fun c102 => ?_) (fun c102 => ?_)
                    · skip
                      first
                        | (have q := b2n_f c102
                           exact t156 hy _ rfl (by omega) ⟨fy, kJy⟩ (hb1 q))
                        | (have q := b2n_f c143
                           rw [q] at hG
                           exact t156 h140 _ rfl (by omega) ⟨fyy, kJ2⟩ (fun hq => hq.2.2.2.2.2.elim (fun im2 h2 => hG.not h2)))
                        | exact t156 hy _ rfl (by omega) ⟨fy, kJy⟩ (fun hq => by have := hq.2.2.2.2.1; omega)
                    · skip
                      refine wa_aload_n hX (i := 1) dX12_minorOf_105 rfl rfl ?_
                      refine wa_get hX 1 (by assumption) (by rfl) (by decide +kernel) dX12_minorOf_106 ?_
                      refine wa_aload_n hX (i := 1) dX12_minorOf_109 rfl rfl ?_
                      refine wa_callV hX (c_X11_full hW d a1y he1) (by assumption) (by rfl) (by rfl) (by omega) (nA := 0) (by rfl) (by decide +kernel) rfl (by exact Nat.le_of_ble_eq_true rfl) dX12_minorOf_110 (fun r110 h110 p110 => ?_) (fun _ _ q => q.elim)
                      obtain ⟨rfl, qq110⟩ := p110; subst h110
                      dsimp only [Option.toList, List.cons_append, List.nil_append]
                      refine wa_iload hX dX12_minorOf_113 rfl ?_
                      refine wi_iconst hX dX12_minorOf_115 ?_
                      refine wa_ixor hX dX12_minorOf_116 ?_
                      refine wn_andn hX dX12_minorOf_117 (by rfl) (by rfl) ?_
                      refine wi_iaload hX (by assumption) (by first | omega | exact inR_nat (and_ltl (by omega)) | exact inR_nat (and_ltr (by omega))) (by first | omega | exact inR_nat (and_ltl (by omega)) | exact inR_nat (and_ltr (by omega))) (by first | omega | exact inR_nat (and_ltl (by omega)) | exact inR_nat (and_ltr (by omega))) dX12_minorOf_118 ?_
                      rw [Int.toNat_natCast, a3 _ hsd]
                      refine wa_aload_n hX (i := 1) dX12_minorOf_119 rfl rfl ?_
                      refine wa_callV hX (c_X11_rank hW d a1y a2y a3 he1 (fun s hs => hM1.le10 hs)) (by assumption) (by rfl) (by rfl) (by omega) (nA := 0) (by rfl) (by decide +kernel) rfl (by exact Nat.le_of_ble_eq_true rfl) dX12_minorOf_120 (fun r120 h120 p120 => ?_) (fun _ _ q => q.elim)
                      obtain ⟨rfl, qq120⟩ := p120; subst h120
                      dsimp only [Option.toList, List.cons_append, List.nil_append]
                      refine wi_icmp_ne hX (tgt := 156) dX12_minorOf_123 (by decide) (by omega) (by omega) (fun c123 => ?_) (fun c123 => ?_)
                      · skip
                        first
                          | (have q := b2n_f c102
                             exact t156 hy _ rfl (by omega) ⟨fy, kJy⟩ (hb1 q))
                          | (have q := b2n_f c143
                             rw [q] at hG
                             exact t156 h140 _ rfl (by omega) ⟨fyy, kJ2⟩ (fun hq => hq.2.2.2.2.2.elim (fun im2 h2 => hG.not h2)))
                          | exact t156 hy _ rfl (by omega) ⟨fy, kJy⟩ (fun hq => by have := hq.2.2.2.2.1; omega)
                      · skip
                        refine wa_aload_n hX (i := 0) dX12_minorOf_126 rfl rfl ?_
                        refine wa_aload_n hX (i := 1) dX12_minorOf_127 rfl rfl ?_
                        refine wa_iload hX dX12_minorOf_128 rfl ?_
                        refine wa_iload hX dX12_minorOf_130 rfl ?_
                        refine wa_callV hX (c_X12_left hW d k1y q6 q7 a1y a2y a3 hM1 (by omega) hze hye) (by assumption) (by rfl) (by rfl) (by omega) (nA := 3) (by rfl) (by decide +kernel) rfl (by exact Nat.le_of_ble_eq_true rfl) dX12_minorOf_132 (fun r132 h132 p132 => ?_) (fun _ _ q => q.elim)
                        obtain ⟨G', rfl, z1, z2, z3, f1⟩ := p132
                        have k1L := f1 _ _ _ k1y (by omega)
                        have u1L := f1 _ _ _ u1y (by omega)
                        have u2L := f1 _ _ _ u2y (by omega)
                        have q3L := f1 _ _ _ q3 (by omega)
                        have q4L := f1 _ _ _ q4 (by omega)
                        have q5L := f1 _ _ _ q5 (by omega)
                        have hlr : ∀ s, s < 2 ^ (e1 - bc (z ||| y)) → leM r1 e1 z y s ≤ 10 := fun s hs => by
                          have hf1 := (frM_lt (cd := z ||| y) (s := s) (e := e1) e1 (Nat.le_refl e1)).1
                          have := hM1.le10 (or_lt hf1 hze)
                          unfold leM
                          omega
                        dsimp only [Option.toList, List.cons_append, List.nil_append]
                        refine wa_aload_n hX (i := 2) dX12_minorOf_135 rfl rfl ?_
                        refine wa_aload_n hX (i := 0) dX12_minorOf_136 rfl rfl ?_
                        refine wa_get hX 7 (by assumption) (by rfl) (by decide +kernel) dX12_minorOf_137 ?_
                        refine wa_callS hX (c_X12_areAlike hW d z1 z2 z3 u1L u2L u3 (by omega) he2 hlr (fun s hs => hM2.le10 hs) q5L (by omega)) (by rfl) (by omega) (nA := 3) (by rfl) (by decide +kernel) rfl (by exact Nat.le_of_ble_eq_true rfl) dX12_minorOf_140 (fun r140 h140 p140 => ?_) (fun _ _ q => q.elim)
                        obtain ⟨vv, KP', im, rfl, hh140, hKP, hG⟩ := p140
                        have f2 : Fr (fun x => x = 127) h132 h140 := by rw [hh140]; exact Fr.hset Fr.rf q5L rfl
                        have kpK : h140 kp = some (127, aI .int 10 KP') := by rw [hh140]; exact hset_eq
                        have f12 : Fr (fun x => 125 ≤ x ∧ x ≤ 129) hy h140 := (f1.mono (fun x hx => by omega)).trans (f2.mono (fun x hx => by omega))
                        have kJ2 := kJy.chg f12 ⟨WK, f2 _ _ _ q3L (by omega)⟩ ⟨US, f2 _ _ _ q4L (by omega)⟩ ⟨KP', kpK⟩ ⟨_, rq0, m20, m30, l20, l30, G', f2 _ _ _ z1 (by omega), f2 _ _ _ z2 (by omega)⟩
                        have fyy := fy.trans f12
                        clear hh140
                        dsimp only [Option.toList, List.cons_append, List.nil_append]
                        refine wi_if_eq hX (tgt := 156) dX12_minorOf_143 (by decide) (by exact b2n_inR _) (fun c143 => ?_) (fun c143 => ?_)
                        · skip
                          first
                            | (have q := b2n_f c102
                               exact t156 hy _ rfl (by omega) ⟨fy, kJy⟩ (hb1 q))
                            | (have q := b2n_f c143
                               rw [q] at hG
                               exact t156 h140 _ rfl (by omega) ⟨fyy, kJ2⟩ (fun hq => hq.2.2.2.2.2.elim (fun im2 h2 => hG.not h2)))
                            | exact t156 hy _ rfl (by omega) ⟨fy, kJy⟩ (fun hq => by have := hq.2.2.2.2.1; omega)
                        · skip
                          refine wi_sipush hX dX12_minorOf_146 (by decide) ?_
                          refine wa_iload hX dX12_minorOf_149 rfl ?_
                          refine wi_imul hX dX12_minorOf_151 ?_
                          refine wa_iload hX dX12_minorOf_152 rfl ?_
                          refine wi_iadd hX dX12_minorOf_154 ?_
                          refine wa_iret hX dX12_minorOf_155 ?_
                          have q := b2n_t c143
                          have q2 := hb2 (b2n_t c102)
                          rw [q] at hG
                          have hcc : CandP r1 e1 r2 e2 z y := ⟨by omega, hfz, q2.1, q2.2, by omega, im, hG⟩
                          refine ⟨_, rfl, Or.inr ⟨z, y, by omega, hze, hye, hcc, fun c' d' hc' hd' hq => ?_⟩, fyy, kJ2⟩
                          by_cases g1 : c' < z
                          · exact absurd hq (hN c' d' g1 hd')
                          · by_cases g2 : c' = z
                            · subst g2
                              by_cases g3 : d' < y
                              · exact absurd hq (hN2 d' g3)
                              · exact Or.inr ⟨rfl, by omega⟩
                            · exact Or.inl (by omega)
                  first
                    | (refine WA.eq (st2 := [I ((b2n true : Nat) : Int)]) rfl rfl rfl (t98 true (fun z => nomatch z) (fun _ => ⟨by omega, by omega⟩))
                       done)
                    | (refine WA.eq (st2 := [I ((b2n false : Nat) : Int)]) rfl rfl rfl (t98 false (fun _ hq => ?_) (fun z => nomatch z))
                       first
                         | (have q := hq.2.2.1
                            omega)
                         | (have q := hq.2.2.2.1
                            omega))
set_option maxHeartbeats 2000000 in
set_option maxRecDepth 100000 in
theorem c_X12_minorOf_ (hW : WOK l D S0) (d : Nat) {h : AH} {a th : Nat} {c m : Nat} {w : Nat → Nat} {E : Nat → Nat} {R : Nat → Nat → Nat} {b0 b1 b2 : Int} (hI : RI Z DR h a th c w m E R b0 b1 b2) {n v : Int} (hn : inR n) (hv : inR v) : MA l D S0 yX12_minorOf_ cX12_minorOf_ 4 (some .int) (d + 14) [.ref a, I n, I v] h 0 0 (fun r h' => Fr (fun x => 120 ≤ x ∧ x ≤ 139) h h' ∧ (((noM n m ∨ noM v m) ∧ r = some (I 0) ∧ RI Z DR h' a 1 c w m E R b0 b1 b2) ∨ ∃ i j : Nat, i < m ∧ n = (i : Int) ∧ j < m ∧ v = (j : Int) ∧ ∃ z : Int, MinG (R i) (E i) (R j) (E j) z ∧ ((z = -1 ∧ r = some (I 0) ∧ RI Z DR h' a 2 c w m E R b0 b1 b2) ∨ (z ≠ -1 ∧ r = some (I z) ∧ RI Z DR h' a 0 c w m E R b0 b1 b2)))) (fun _ _ => False) := by
  obtain ⟨row, brk, al, wk, us, kp, pt, k1, kJ⟩ := hI
  refine MA.start hW (by decide) [.val (.ref a), .val (I n), .val (I v), .unset] rfl ?_
  rintro X rfl rfl rfl hX
  refine wa_aload_n hX (i := 0) dX12_minorOf__0 rfl rfl ?_
  refine wi_iconst hX dX12_minorOf__1 ?_
  refine wa_put hX 0 k1 (Nat.le_of_ble_eq_true rfl) (by decide +kernel) (by rfl) (by rfl) (by rfl) dX12_minorOf__2 ?_
  refine WA.heap (h2 := hset h a (120, oMod ((0 : Nat) : Int) (c : Int) row brk al wk us kp pt)) rfl ?_
  refine WA.hgq (fun hA hh2 => ?_)
  have ff : Fr (fun x => x = 120) h hA := by rw [hh2]; exact Fr.hset Fr.rf k1 rfl
  replace k1 : hA a = some (120, oMod ((0 : Nat) : Int) (c : Int) row brk al wk us kp pt) := by rw [hh2]; exact hset_eq
  replace kJ := kJ.fr ff (fun x hx => by omega)
  clear hh2
  obtain ⟨⟨hc60, hw, hm24, hMt⟩, kr, kb, kwk, kus, kkp, kpt, ed, N, P, ka, ke, kI, kMat⟩ := id kJ
  refine wa_aload_n hX (i := 0) dX12_minorOf__5 rfl rfl ?_
  refine wa_aload_n hX (i := 0) dX12_minorOf__6 rfl rfl ?_
  refine wa_iload_n hX (i := 1) dX12_minorOf__7 rfl rfl ?_
  have t27 : WA X hA 0 0 27 [.val (.ref a), .val (I n), .val (I v), .unset] [I ((b2n (!decide (0 ≤ n ∧ n < (m : Int)) || !decide (0 ≤ v ∧ v < (m : Int))) : Nat) : Int), .ref a] := by
    refine wi_iconst hX dX12_minorOf__27 ?_
    refine wa_callV hX (c_X12_fails hW d (th := 0) (k := 1) (b := (!decide (0 ≤ n ∧ n < (m : Int)) || !decide (0 ≤ v ∧ v < (m : Int)))) k1 (by omega) (by omega)) (by assumption) (by rfl) (by rfl) (by omega) (nA := 2) (by rfl) (by decide +kernel) rfl (by exact Nat.le_of_ble_eq_true rfl) dX12_minorOf__28 (fun r28 h28 p28 => ?_) (fun _ _ q => q.elim)
    obtain ⟨rfl, hh28⟩ := p28
    have f28 : Fr (fun x => x = 120) hA h28 := by rw [hh28]; exact Fr.hset Fr.rf k1 rfl
    replace k1 : h28 a = some (120, oMod ((if ((!decide (0 ≤ n ∧ n < (m : Int)) || !decide (0 ≤ v ∧ v < (m : Int)))) = true ∧ (0 : Nat) = 0 then 1 else 0 : Nat) : Int) (c : Int) row brk al wk us kp pt) := by rw [hh28]; exact hset_eq
    replace kJ := kJ.fr f28 (fun x hx => by omega)
    replace ff := ff.trans f28
    clear hh28 f28
    rw [show (((!decide (0 ≤ n ∧ n < (m : Int)) || !decide (0 ≤ v ∧ v < (m : Int)))) || (0 : Nat) != 0) = ((!decide (0 ≤ n ∧ n < (m : Int)) || !decide (0 ≤ v ∧ v < (m : Int)))) from Bool.or_false _]
    clear kr kb kwk kus kkp kpt ka ke kI kMat hc60 hw hm24 hMt
    obtain ⟨⟨hc60, hw, hm24, hMt⟩, kr, kb, kwk, kus, kkp, kpt, ed, N, P, ka, ke, kI, kMat⟩ := id kJ
    dsimp only [Option.toList, List.cons_append, List.nil_append]
    refine wi_if_eq hX (tgt := 36) dX12_minorOf__31 (by decide) (by exact b2n_inR _) (fun c31 => ?_) (fun c31 => ?_)
    · skip
      have hv31 := b2n_f c31
      rw [hv31, if_neg (fun z => Bool.false_ne_true z.1)] at k1
      rw [Bool.or_eq_false_iff, Bool.not_eq_false', decide_eq_true_eq, Bool.not_eq_false', decide_eq_true_eq] at hv31
      obtain ⟨i, rfl⟩ := Int.eq_ofNat_of_zero_le hv31.1.1
      obtain ⟨j, rfl⟩ := Int.eq_ofNat_of_zero_le hv31.2.1
      have hi : i < m := by omega
      have hj : j < m := by omega
      obtain ⟨e3, hN1, hN2⟩ : h28 ed = some (124, aR (.object "java/lang/Object") N (fun j => if j < m then some (P j) else none)) ∧ m ≤ N ∧ N ≤ 100 := by
        rcases ke with z | z
        · exfalso; omega
        · exact z
      obtain ⟨rq, m2, m3, l2, l3, G, g1, g2, g3, g4, g5⟩ := id (kMat i hi)
      have hMi := hMt i hi
      have he := hMi.1
      have hp := p2_le he
      have hp0 := p2_pos (E i)
      obtain ⟨rq', m2', m3', l2', l3', G', u1, u2, u3, u4, u5⟩ := id (kMat j hj)
      have hMj := hMt j hj
      have hej := hMj.1
      refine wa_aload_n hX (i := 0) dX12_minorOf__36 rfl rfl ?_
      refine wa_aload_n hX (i := 0) dX12_minorOf__37 rfl rfl ?_
      refine wa_get hX 4 (by assumption) (by rfl) (by decide +kernel) dX12_minorOf__38 ?_
      refine wa_iload_n hX (i := 1) dX12_minorOf__41 rfl rfl ?_
      refine wa_callV hX (c_AL_get hW d ka e3 (i := i) (q := P i) hi hN1 (by omega) (if_pos hi)) (by assumption) (by rfl) (by rfl) (by omega) (nA := 1) (by rfl) (by decide +kernel) rfl (by exact Nat.le_of_ble_eq_true rfl) dX12_minorOf__42 (fun r42 h42 p42 => ?_) (fun _ _ q => q.elim)
      obtain ⟨rfl, qq42⟩ := p42; subst h42
      dsimp only [Option.toList, List.cons_append, List.nil_append]
      refine wa_ccast hX g1 (by rfl) (by decide +kernel) dX12_minorOf__45 ?_
      refine wa_aload_n hX (i := 0) dX12_minorOf__48 rfl rfl ?_
      refine wa_get hX 4 (by assumption) (by rfl) (by decide +kernel) dX12_minorOf__49 ?_
      refine wa_iload_n hX (i := 2) dX12_minorOf__52 rfl rfl ?_
      refine wa_callV hX (c_AL_get hW d ka e3 (i := j) (q := P j) hj hN1 (by omega) (if_pos hj)) (by assumption) (by rfl) (by rfl) (by omega) (nA := 1) (by rfl) (by decide +kernel) rfl (by exact Nat.le_of_ble_eq_true rfl) dX12_minorOf__53 (fun r53 h53 p53 => ?_) (fun _ _ q => q.elim)
      obtain ⟨rfl, qq53⟩ := p53; subst h53
      dsimp only [Option.toList, List.cons_append, List.nil_append]
      refine wa_ccast hX u1 (by rfl) (by decide +kernel) dX12_minorOf__56 ?_
      refine wa_callV hX (c_X12_minorOf hW d k1 kJ g1 g2 g3 hMi u1 u2 u3 hMj (by omega)) (by assumption) (by rfl) (by rfl) (by omega) (nA := 2) (by rfl) (by decide +kernel) rfl (by exact Nat.le_of_ble_eq_true rfl) dX12_minorOf__59 (fun r59 h59 p59 => ?_) (fun _ _ q => q.elim)
      obtain ⟨z9, rfl, hG, fK, kJK⟩ := p59
      have k1K := fK _ _ _ k1 (by omega)
      have hz9 : -1 ≤ z9 ∧ z9 < 2000000 := by
        rcases hG with ⟨q, _⟩ | ⟨c', d', q, q1, q2, _⟩
        · omega
        · omega
      dsimp only [Option.toList, List.cons_append, List.nil_append]
      refine wa_istore_n hX (i := 3) dX12_minorOf__62 rfl rfl ?_
      dsimp only [List.set]
      refine wa_aload_n hX (i := 0) dX12_minorOf__63 rfl rfl ?_
      refine wa_iload_n hX (i := 3) dX12_minorOf__64 rfl rfl ?_
      refine wi_iconst hX dX12_minorOf__65 ?_
      have t74 : WA X h59 0 0 74 [.val (.ref a), .val (I (i : Int)), .val (I (j : Int)), .val (I z9)] [I ((b2n (z9 == -1) : Nat) : Int), .ref a] := by
        refine wi_iconst hX dX12_minorOf__74 ?_
        refine wa_callV hX (c_X12_fails hW d (th := 0) (k := 2) (b := (z9 == -1)) k1K (by omega) (by omega)) (by assumption) (by rfl) (by rfl) (by omega) (nA := 2) (by rfl) (by decide +kernel) rfl (by exact Nat.le_of_ble_eq_true rfl) dX12_minorOf__75 (fun r75 h75 p75 => ?_) (fun _ _ q => q.elim)
        obtain ⟨rfl, hh75⟩ := p75
        have f75 : Fr (fun x => x = 120) h59 h75 := by rw [hh75]; exact Fr.hset Fr.rf k1K rfl
        have k1Z : h75 a = some (120, oMod ((if ((z9 == -1)) = true ∧ (0 : Nat) = 0 then 2 else 0 : Nat) : Int) (c : Int) row brk al wk us kp pt) := by rw [hh75]; exact hset_eq
        have kJZ := kJK.fr f75 (fun x hx => by omega)
        clear hh75
        rw [show (((z9 == -1)) || (0 : Nat) != 0) = ((z9 == -1)) from Bool.or_false _]
        dsimp only [Option.toList, List.cons_append, List.nil_append]
        refine wi_if_eq hX (tgt := 85) dX12_minorOf__78 (by decide) (by exact b2n_inR _) (fun c78 => ?_) (fun c78 => ?_)
        · skip
          refine wa_iload_n hX (i := 3) dX12_minorOf__85 rfl rfl ?_
          refine wa_iret hX dX12_minorOf__86 ?_
          first
            | (have z := b2n_t c78
               rw [z, if_pos ⟨rfl, rfl⟩] at k1Z
               exact ⟨((ff.mono (fun x hx => by omega)).trans (fK.mono (fun x hx => by omega))).trans (f75.mono (fun x hx => by omega)), Or.inr ⟨i, j, hi, rfl, hj, rfl, z9, hG, Or.inl ⟨beq_iff_eq.mp z, rfl, row, brk, al, wk, us, kp, pt, k1Z, kJZ⟩⟩⟩)
            | (have z := b2n_f c78
               rw [z, if_neg (fun z => Bool.false_ne_true z.1)] at k1Z
               exact ⟨((ff.mono (fun x hx => by omega)).trans (fK.mono (fun x hx => by omega))).trans (f75.mono (fun x hx => by omega)), Or.inr ⟨i, j, hi, rfl, hj, rfl, z9, hG, Or.inr ⟨beq_eq_false_iff_ne.mp z, rfl, row, brk, al, wk, us, kp, pt, k1Z, kJZ⟩⟩⟩)
        · skip
          refine wi_iconst hX dX12_minorOf__81 ?_
          refine wa_goto hX (tgt := 86) dX12_minorOf__82 (by decide) ?_
          refine wa_iret hX dX12_minorOf__86 ?_
          first
            | (have z := b2n_t c78
               rw [z, if_pos ⟨rfl, rfl⟩] at k1Z
               exact ⟨((ff.mono (fun x hx => by omega)).trans (fK.mono (fun x hx => by omega))).trans (f75.mono (fun x hx => by omega)), Or.inr ⟨i, j, hi, rfl, hj, rfl, z9, hG, Or.inl ⟨beq_iff_eq.mp z, rfl, row, brk, al, wk, us, kp, pt, k1Z, kJZ⟩⟩⟩)
            | (have z := b2n_f c78
               rw [z, if_neg (fun z => Bool.false_ne_true z.1)] at k1Z
               exact ⟨((ff.mono (fun x hx => by omega)).trans (fK.mono (fun x hx => by omega))).trans (f75.mono (fun x hx => by omega)), Or.inr ⟨i, j, hi, rfl, hj, rfl, z9, hG, Or.inr ⟨beq_eq_false_iff_ne.mp z, rfl, row, brk, al, wk, us, kp, pt, k1Z, kJZ⟩⟩⟩)
      refine wi_icmp_ne hX (tgt := 73) dX12_minorOf__66 (by decide) (by omega) (by omega) (fun c66 => ?_) (fun c66 => ?_)
      · skip
        refine wi_iconst hX dX12_minorOf__73 ?_
        refine WA.eq rfl rfl ?_ t74
        first
          | (rw [show (z9 == -1) = true from beq_iff_eq.mpr (by omega)]; rfl)
          | (rw [show (z9 == -1) = false from beq_eq_false_iff_ne.mpr (by omega)]; rfl)
      · skip
        refine wi_iconst hX dX12_minorOf__69 ?_
        refine wa_goto hX (tgt := 74) dX12_minorOf__70 (by decide) ?_
        refine WA.eq rfl rfl ?_ t74
        first
          | (rw [show (z9 == -1) = true from beq_iff_eq.mpr (by omega)]; rfl)
          | (rw [show (z9 == -1) = false from beq_eq_false_iff_ne.mpr (by omega)]; rfl)
    · skip
      refine wi_iconst hX dX12_minorOf__34 ?_
      refine wa_iret hX dX12_minorOf__35 ?_
      have z := b2n_t c31
      rw [z, if_pos ⟨rfl, rfl⟩] at k1
      rw [Bool.or_eq_true, Bool.not_eq_true', decide_eq_false_iff_not, Bool.not_eq_true', decide_eq_false_iff_not] at z
      exact ⟨ff.mono (fun x hx => by omega), Or.inl ⟨z, rfl, row, brk, al, wk, us, kp, pt, k1, kJ⟩⟩
  refine wa_callV hX (c_X12_no hW (d + 1) k1 ka hm24 hn) (by assumption) (by rfl) (by rfl) (by omega) (nA := 1) (by rfl) (by decide +kernel) rfl (by exact Nat.le_of_ble_eq_true rfl) dX12_minorOf__8 (fun r8 h8 p8 => ?_) (fun _ _ q => q.elim)
  obtain ⟨rfl, qq8⟩ := p8; subst h8
  dsimp only [Option.toList, List.cons_append, List.nil_append]
  refine wi_if_ne hX (tgt := 22) dX12_minorOf__11 (by decide) (by exact b2n_inR _) (fun c11 => ?_) (fun c11 => ?_)
  · skip
    refine wi_iconst hX dX12_minorOf__22 ?_
    refine wa_goto hX (tgt := 27) dX12_minorOf__23 (by decide) ?_
    refine WA.eq rfl rfl ?_ t27
    first
      | (have q := b2n_t c11; rw [q]; rfl)
      | (have q := b2n_f c11; have q2 := b2n_t c19; rw [q, q2]; rfl)
      | (have q := b2n_f c11; have q2 := b2n_f c19; rw [q, q2]; rfl)
  · skip
    refine wa_aload_n hX (i := 0) dX12_minorOf__14 rfl rfl ?_
    refine wa_iload_n hX (i := 2) dX12_minorOf__15 rfl rfl ?_
    refine wa_callV hX (c_X12_no hW (d + 1) k1 ka hm24 hv) (by assumption) (by rfl) (by rfl) (by omega) (nA := 1) (by rfl) (by decide +kernel) rfl (by exact Nat.le_of_ble_eq_true rfl) dX12_minorOf__16 (fun r16 h16 p16 => ?_) (fun _ _ q => q.elim)
    obtain ⟨rfl, qq16⟩ := p16; subst h16
    dsimp only [Option.toList, List.cons_append, List.nil_append]
    refine wi_if_eq hX (tgt := 26) dX12_minorOf__19 (by decide) (by exact b2n_inR _) (fun c19 => ?_) (fun c19 => ?_)
    · skip
      refine wi_iconst hX dX12_minorOf__26 ?_
      refine WA.eq rfl rfl ?_ t27
      first
        | (have q := b2n_t c11; rw [q]; rfl)
        | (have q := b2n_f c11; have q2 := b2n_t c19; rw [q, q2]; rfl)
        | (have q := b2n_f c11; have q2 := b2n_f c19; rw [q, q2]; rfl)
    · skip
      refine wi_iconst hX dX12_minorOf__22 ?_
      refine wa_goto hX (tgt := 27) dX12_minorOf__23 (by decide) ?_
      refine WA.eq rfl rfl ?_ t27
      first
        | (have q := b2n_t c11; rw [q]; rfl)
        | (have q := b2n_f c11; have q2 := b2n_t c19; rw [q, q2]; rfl)
        | (have q := b2n_f c11; have q2 := b2n_f c19; rw [q, q2]; rfl)
set_option maxHeartbeats 1000000 in
set_option maxRecDepth 100000 in
theorem c_X12_minorBy (hW : WOK l D S0) (d : Nat) {h : AH} {a th : Nat} {c m : Nat} {w : Nat → Nat} {E : Nat → Nat} {R : Nat → Nat → Nat} {b0 b1 b2 : Int} (hI : RI Z DR h a th c w m E R b0 b1 b2) {n v : Int} (hn : inR n) (hv : inR v) : MA l D S0 yX12_minorBy cX12_minorBy 3 (some .int) (d + 15) [.ref a, I n, I v] h 0 0 (fun r h' => Fr (fun x => 120 ≤ x ∧ x ≤ 139) h h' ∧ (((noM n m ∨ noM v m) ∧ (∃ z, r = some (I z)) ∧ RI Z DR h' a 1 c w m E R b0 b1 b2) ∨ ∃ i j : Nat, i < m ∧ n = (i : Int) ∧ j < m ∧ v = (j : Int) ∧ ((MinG (R i) (E i) (R j) (E j) (-1) ∧ (∃ z, r = some (I z)) ∧ RI Z DR h' a 2 c w m E R b0 b1 b2) ∨ ∃ c1 d1 : Nat, c1 < 1024 ∧ d1 < 1024 ∧ MinG (R i) (E i) (R j) (E j) ((1024 * c1 + d1 : Nat) : Int) ∧ r = some (I (c1 : Int)) ∧ RI Z DR h' a 0 c w m E R b0 b1 b2))) (fun _ _ => False) := by
  obtain ⟨row9, brk9, al9, wk9, us9, kp9, pt9, k9, _⟩ := id hI
  refine MA.start hW (by decide) [.val (.ref a), .val (I n), .val (I v)] rfl ?_
  rintro X rfl rfl rfl hX
  refine wa_aload_n hX (i := 0) dX12_minorBy_0 rfl rfl ?_
  refine wa_iload_n hX (i := 1) dX12_minorBy_1 rfl rfl ?_
  refine wa_iload_n hX (i := 2) dX12_minorBy_2 rfl rfl ?_
  refine wa_callV hX (c_X12_minorOf_ hW d hI hn hv) (by assumption) (by rfl) (by rfl) (by omega) (nA := 2) (by rfl) (by decide +kernel) rfl (by exact Nat.le_of_ble_eq_true rfl) dX12_minorBy_3 (fun r3 h3 p3 => ?_) (fun _ _ q => q.elim)
  obtain ⟨f3, hz⟩ := p3
  obtain ⟨t, rfl, ht, hz2⟩ : ∃ t : Nat, r3 = some (I (t : Int)) ∧ t < 2000000 ∧ (((noM n m ∨ noM v m) ∧ RI Z DR h3 a 1 c w m E R b0 b1 b2) ∨ ∃ i j : Nat, i < m ∧ n = (i : Int) ∧ j < m ∧ v = (j : Int) ∧ ((MinG (R i) (E i) (R j) (E j) (-1) ∧ RI Z DR h3 a 2 c w m E R b0 b1 b2) ∨ ∃ c1 d1 : Nat, c1 < 1024 ∧ d1 < 1024 ∧ t = 1024 * c1 + d1 ∧ MinG (R i) (E i) (R j) (E j) ((1024 * c1 + d1 : Nat) : Int) ∧ RI Z DR h3 a 0 c w m E R b0 b1 b2)) := by
    rcases hz with ⟨z1, z2, z3⟩ | ⟨i, j, z1, z2, z3, z4, z, z5, ⟨rfl, z7, z8⟩ | ⟨z6, z7, z8⟩⟩
    · exact ⟨0, z2, by omega, Or.inl ⟨z1, z3⟩⟩
    · exact ⟨0, z7, by omega, Or.inr ⟨i, j, z1, z2, z3, z4, Or.inl ⟨z5, z8⟩⟩⟩
    · have z9 := z5
      rcases z5 with ⟨q, _⟩ | ⟨c', d', q, q1, q2, _⟩
      · exact absurd q z6
      · have he : E i ≤ 10 := by
          obtain ⟨_, _, _, _, _, _, _, _, ⟨⟨_, _, _, hMt⟩, _⟩⟩ := z8
          exact (hMt i z1).1
        have hpe := p2_le he
        subst q
        exact ⟨1024 * c' + d', z7, by omega, Or.inr ⟨i, j, z1, z2, z3, z4, Or.inr ⟨c', d', by omega, by omega, rfl, z9, z8⟩⟩⟩
  clear hz
  dsimp only [Option.toList, List.cons_append, List.nil_append]
  refine wi_sipush hX dX12_minorBy_6 (by decide) ?_
  refine wn_idiv hX (a := t) (b := 1024) dX12_minorBy_9 rfl rfl (by omega) (by omega) (by omega) ?_
  refine wa_iret hX dX12_minorBy_10 ?_
  rcases hz2 with ⟨z1, z2⟩ | ⟨i, j, z1, z2, z3, z4, ⟨z5, z6⟩ | ⟨c1, d1, z5, z6, z7, z8, z9⟩⟩
  · exact ⟨f3, Or.inl ⟨z1, ⟨_, rfl⟩, z2⟩⟩
  · exact ⟨f3, Or.inr ⟨i, j, z1, z2, z3, z4, Or.inl ⟨z5, ⟨_, rfl⟩, z6⟩⟩⟩
  · refine ⟨f3, Or.inr ⟨i, j, z1, z2, z3, z4, Or.inr ⟨c1, d1, z5, z6, z8, ?_, z9⟩⟩⟩
    rw [show (t / 1024) = c1 by omega]
set_option maxHeartbeats 1000000 in
set_option maxRecDepth 100000 in
theorem c_X12_minorWithout (hW : WOK l D S0) (d : Nat) {h : AH} {a th : Nat} {c m : Nat} {w : Nat → Nat} {E : Nat → Nat} {R : Nat → Nat → Nat} {b0 b1 b2 : Int} (hI : RI Z DR h a th c w m E R b0 b1 b2) {n v : Int} (hn : inR n) (hv : inR v) : MA l D S0 yX12_minorWithout cX12_minorWithout 3 (some .int) (d + 15) [.ref a, I n, I v] h 0 0 (fun r h' => Fr (fun x => 120 ≤ x ∧ x ≤ 139) h h' ∧ (((noM n m ∨ noM v m) ∧ (∃ z, r = some (I z)) ∧ RI Z DR h' a 1 c w m E R b0 b1 b2) ∨ ∃ i j : Nat, i < m ∧ n = (i : Int) ∧ j < m ∧ v = (j : Int) ∧ ((MinG (R i) (E i) (R j) (E j) (-1) ∧ (∃ z, r = some (I z)) ∧ RI Z DR h' a 2 c w m E R b0 b1 b2) ∨ ∃ c1 d1 : Nat, c1 < 1024 ∧ d1 < 1024 ∧ MinG (R i) (E i) (R j) (E j) ((1024 * c1 + d1 : Nat) : Int) ∧ r = some (I (d1 : Int)) ∧ RI Z DR h' a 0 c w m E R b0 b1 b2))) (fun _ _ => False) := by
  obtain ⟨row9, brk9, al9, wk9, us9, kp9, pt9, k9, _⟩ := id hI
  refine MA.start hW (by decide) [.val (.ref a), .val (I n), .val (I v)] rfl ?_
  rintro X rfl rfl rfl hX
  refine wa_aload_n hX (i := 0) dX12_minorWithout_0 rfl rfl ?_
  refine wa_iload_n hX (i := 1) dX12_minorWithout_1 rfl rfl ?_
  refine wa_iload_n hX (i := 2) dX12_minorWithout_2 rfl rfl ?_
  refine wa_callV hX (c_X12_minorOf_ hW d hI hn hv) (by assumption) (by rfl) (by rfl) (by omega) (nA := 2) (by rfl) (by decide +kernel) rfl (by exact Nat.le_of_ble_eq_true rfl) dX12_minorWithout_3 (fun r3 h3 p3 => ?_) (fun _ _ q => q.elim)
  obtain ⟨f3, hz⟩ := p3
  obtain ⟨t, rfl, ht, hz2⟩ : ∃ t : Nat, r3 = some (I (t : Int)) ∧ t < 2000000 ∧ (((noM n m ∨ noM v m) ∧ RI Z DR h3 a 1 c w m E R b0 b1 b2) ∨ ∃ i j : Nat, i < m ∧ n = (i : Int) ∧ j < m ∧ v = (j : Int) ∧ ((MinG (R i) (E i) (R j) (E j) (-1) ∧ RI Z DR h3 a 2 c w m E R b0 b1 b2) ∨ ∃ c1 d1 : Nat, c1 < 1024 ∧ d1 < 1024 ∧ t = 1024 * c1 + d1 ∧ MinG (R i) (E i) (R j) (E j) ((1024 * c1 + d1 : Nat) : Int) ∧ RI Z DR h3 a 0 c w m E R b0 b1 b2)) := by
    rcases hz with ⟨z1, z2, z3⟩ | ⟨i, j, z1, z2, z3, z4, z, z5, ⟨rfl, z7, z8⟩ | ⟨z6, z7, z8⟩⟩
    · exact ⟨0, z2, by omega, Or.inl ⟨z1, z3⟩⟩
    · exact ⟨0, z7, by omega, Or.inr ⟨i, j, z1, z2, z3, z4, Or.inl ⟨z5, z8⟩⟩⟩
    · have z9 := z5
      rcases z5 with ⟨q, _⟩ | ⟨c', d', q, q1, q2, _⟩
      · exact absurd q z6
      · have he : E i ≤ 10 := by
          obtain ⟨_, _, _, _, _, _, _, _, ⟨⟨_, _, _, hMt⟩, _⟩⟩ := z8
          exact (hMt i z1).1
        have hpe := p2_le he
        subst q
        exact ⟨1024 * c' + d', z7, by omega, Or.inr ⟨i, j, z1, z2, z3, z4, Or.inr ⟨c', d', by omega, by omega, rfl, z9, z8⟩⟩⟩
  clear hz
  dsimp only [Option.toList, List.cons_append, List.nil_append]
  refine wi_sipush hX dX12_minorWithout_6 (by decide) ?_
  refine wn_irem hX (a := t) (b := 1024) dX12_minorWithout_9 rfl rfl (by omega) (by omega) (by omega) ?_
  refine wa_iret hX dX12_minorWithout_10 ?_
  rcases hz2 with ⟨z1, z2⟩ | ⟨i, j, z1, z2, z3, z4, ⟨z5, z6⟩ | ⟨c1, d1, z5, z6, z7, z8, z9⟩⟩
  · exact ⟨f3, Or.inl ⟨z1, ⟨_, rfl⟩, z2⟩⟩
  · exact ⟨f3, Or.inr ⟨i, j, z1, z2, z3, z4, Or.inl ⟨z5, ⟨_, rfl⟩, z6⟩⟩⟩
  · refine ⟨f3, Or.inr ⟨i, j, z1, z2, z3, z4, Or.inr ⟨c1, d1, z5, z6, z8, ?_, z9⟩⟩⟩
    rw [show (t % 1024) = d1 by omega]
end C9c
