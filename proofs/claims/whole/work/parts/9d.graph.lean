/-! The reference (X12): graph -/
def grS (w : Nat → Nat) (s : Nat) : Nat → (Nat → Nat) × Nat
  | 0 => (fun x => x, 0)
  | k + 1 => if s.testBit k = true ∧ (grS w s k).1 (w (2 * k)) ≠ (grS w s k).1 (w (2 * k + 1)) then (fun x => if (grS w s k).1 x = (grS w s k).1 (w (2 * k)) then (grS w s k).1 (w (2 * k + 1)) else (grS w s k).1 x, (grS w s k).2 + 1) else grS w s k
def graM (w : Nat → Nat) (e s : Nat) : Nat := (grS w s e).2
theorem grS_le {w : Nat → Nat} {s : Nat} : ∀ k, (grS w s k).2 ≤ k := by
  intro k
  induction k with
  | zero => exact Nat.le_refl _
  | succ k ih =>
    unfold grS
    split
    · show (grS w s k).2 + 1 ≤ _
      omega
    · omega
/-- pointers en lead to the ends rt -/
def FoP (en rt : Nat → Nat) (ht : Nat → Nat) : Prop := ∀ x, x < 10 → en x < 10 ∧ rt x < 10 ∧ en (rt x) = rt x ∧ (en x = x → rt x = x) ∧ (en x ≠ x → rt x = rt (en x) ∧ ht (en x) < ht x)
theorem FoP.init : FoP (fun x => x) (fun x => x) (fun _ => 0) := fun x hx => ⟨hx, hx, rfl, fun _ => rfl, fun h => absurd rfl h⟩
theorem FoP.join {en rt ht : Nat → Nat} (h : FoP en rt ht) {u v : Nat} (hu : u < 10) (hv : v < 10) (hne : rt u ≠ rt v) : FoP (up en (rt u) (rt v)) (fun x => if rt x = rt u then rt v else rt x) (fun x => if rt x = rt u then ht x + (ht (rt v) + 1) else ht x) := by
  obtain ⟨-, u2, u3, -, -⟩ := h u hu
  obtain ⟨-, v2, v3, -, -⟩ := h v hv
  obtain ⟨-, -, -, a1, -⟩ := h (rt u) u2
  obtain ⟨-, -, -, b1, -⟩ := h (rt v) v2
  have ru : rt (rt u) = rt u := a1 u3
  have rv : rt (rt v) = rt v := b1 v3
  intro x hx
  obtain ⟨x1, x2, x3, x4, x5⟩ := h x hx
  have e3 : up en (rt u) (rt v) (if rt x = rt u then rt v else rt x) = (if rt x = rt u then rt v else rt x) := by
    by_cases g : rt x = rt u
    · rw [if_pos g, up_n (fun e => hne e.symm), v3]
    · rw [if_neg g, up_n g, x3]
  have e2 : (if rt x = rt u then rt v else rt x) < 10 := by split <;> assumption
  by_cases gx : x = rt u
  · subst gx
    rw [up_s]
    refine ⟨v2, e2, e3, fun q => absurd q.symm hne, fun _ => ⟨?_, ?_⟩⟩
    · show (if rt (rt u) = rt u then rt v else rt (rt u)) = (if rt (rt v) = rt u then rt v else rt (rt v))
      rw [if_pos ru, rv, if_neg (fun e => hne e.symm)]
    · show (if rt (rt v) = rt u then ht (rt v) + (ht (rt v) + 1) else ht (rt v)) < (if rt (rt u) = rt u then ht (rt u) + (ht (rt v) + 1) else ht (rt u))
      rw [if_pos ru, rv, if_neg (fun e => hne e.symm)]
      omega
  · rw [up_n gx]
    refine ⟨x1, e2, e3, fun q => ?_, fun q => ?_⟩
    · show (if rt x = rt u then rt v else rt x) = x
      have := x4 q
      rw [if_neg (fun e => gx (by rw [← e, this])), this]
    · obtain ⟨y1, y2⟩ := x5 q
      refine ⟨?_, ?_⟩
      · show (if rt x = rt u then rt v else rt x) = (if rt (en x) = rt u then rt v else rt (en x))
        rw [y1]
      · show (if rt (en x) = rt u then ht (en x) + (ht (rt v) + 1) else ht (en x)) < (if rt x = rt u then ht x + (ht (rt v) + 1) else ht x)
        rw [y1]
        split <;> omega
theorem grS_lt {w : Nat → Nat} {s : Nat} : ∀ k, (∀ j, j < 2 * k → w j < 10) → ∀ x, x < 10 → (grS w s k).1 x < 10 := by
  intro k
  induction k with
  | zero => intro _ x hx; exact hx
  | succ k ih =>
    intro h x hx
    have i1 := ih (fun j hj => h j (by omega))
    unfold grS
    split
    · show (if _ then _ else _) < 10
      split
      · exact i1 _ (h _ (by omega))
      · exact i1 x hx
    · exact i1 x hx
section C9d
variable {l : Launch} {D : va_G} {S0 : State} {DR : (Nat → Nat) → Nat → Nat → Option (Nat → Nat) → Prop}
set_option maxRecDepth 100000 in
theorem c_X12_end (hW : WOK l D S0) (d : Nat) {h : AH} {a nb ln v : Nat} {en rt ht : Nat → Nat} (hn : h nb = some (ln, aI .int 10 (fun j => ((en j : Nat) : Int)))) (hF : FoP en rt ht) (hv : v < 10) : MA l D S0 yX12_end cX12_end 4 (some .int) d [.ref a, .ref nb, I (v : Int)] h 0 0 (fun r h' => r = some (I (rt v : Nat)) ∧ h' = h) (fun _ _ => False) := by
  refine MA.start hW (by decide) [.val (.ref a), .val (.ref nb), .val (I (v : Int)), .unset] rfl ?_
  rintro X rfl rfl rfl hX
  refine wa_iload_n hX (i := 2) dX12_end_0 rfl rfl ?_
  refine wa_istore_n hX (i := 3) dX12_end_1 rfl rfl ?_
  dsimp only [List.set]
  refine WA.loop (σ := Nat) (fun y => ht y) (fun y => y < 10 ∧ rt y = rt v) (fun _ => h) (fun y => [.val (.ref a), .val (.ref nb), .val (I (v : Int)), .val (I (y : Nat))]) ?_ v ⟨hv, rfl⟩
  rintro y ⟨hy, hr⟩ ih
  obtain ⟨y1, -, -, y4, y5⟩ := hF y hy
  refine wa_aload_n hX (i := 1) dX12_end_2 rfl rfl ?_
  refine wa_iload_n hX (i := 3) dX12_end_3 rfl rfl ?_
  refine wi_iaload hX (by assumption) (by omega) (by omega) (by omega) dX12_end_4 ?_
  rw [Int.toNat_natCast]
  refine wa_iload_n hX (i := 3) dX12_end_5 rfl rfl ?_
  refine wi_icmp_eq hX (tgt := 16) dX12_end_6 (by decide) (by omega) (by omega) (fun c6 => ?_) (fun c6 => ?_)
  · skip
    refine wa_iload_n hX (i := 3) dX12_end_16 rfl rfl ?_
    refine wa_iret hX dX12_end_17 ?_
    have q := y4 (by omega)
    exact ⟨by rw [← hr, q], rfl⟩
  · skip
    refine wa_aload_n hX (i := 1) dX12_end_9 rfl rfl ?_
    refine wa_iload_n hX (i := 3) dX12_end_10 rfl rfl ?_
    refine wi_iaload hX (by assumption) (by omega) (by omega) (by omega) dX12_end_11 ?_
    rw [Int.toNat_natCast]
    refine wa_istore_n hX (i := 3) dX12_end_12 rfl rfl ?_
    dsimp only [List.set]
    refine wa_goto hX (tgt := 2) dX12_end_13 (by decide) ?_
    obtain ⟨z1, z2⟩ := y5 (by omega)
    exact ih (en y) ⟨y1, by rw [← z1]; exact hr⟩ z2
set_option maxHeartbeats 2000000 in
set_option maxRecDepth 100000 in
theorem c_X12_graph (hW : WOK l D S0) (d : Nat) {h : AH} {a th : Nat} {c m : Nat} {w : Nat → Nat} {E : Nat → Nat} {R : Nat → Nat → Nat} {b0 b1 b2 : Int} (hI : RI (zA S0) DR h a th c w m E R b0 b1 b2) (hN : c % 2 = 0 → c ≤ 20 → (∀ k, k < c → w k ≤ 9) → Mtr (c / 2) (fun s => graM w (c / 2) s)) {rmc rms : Nat} (hroom : ((c % 2 = 0 ∧ c ≤ 20) ∧ (∀ k, k < c → w k ≤ 9) ∧ m < 24) → 4 ≤ rmc ∧ 2200 ≤ rms) : MA l D S0 yX12_graph cX12_graph 8 (some .int) (d + 7) [.ref a] h rmc rms (fun r h' => Fr (fun x => 120 ≤ x ∧ x ≤ 139) h h' ∧ (((c % 2 = 0 ∧ c ≤ 20 → (∀ k, k < c → w k ≤ 9) → False) ∧ (∃ z, r = some (I z)) ∧ RI (zA S0) DR h' a 1 c w m E R b0 b1 b2) ∨ ((c % 2 = 0 ∧ c ≤ 20) ∧ (∀ k, k < c → w k ≤ 9) ∧ ((m = 24 ∧ (∃ z, r = some (I z)) ∧ RI (zA S0) DR h' a 2 c w m E R b0 b1 b2) ∨ (m ≠ 24 ∧ r = some (I (m : Nat)) ∧ RI (zA S0) DR h' a 0 0 w (m + 1) (up E m (c / 2)) (up R m (fun s => graM w (c / 2) s)) b0 b1 b2))))) (fun _ _ => False) := by
  obtain ⟨row, brk, al, wk, us, kp, pt, k1, kJ⟩ := hI
  refine MA.start hW (by decide) [.val (.ref a), .unset, .unset, .unset, .unset, .unset, .unset, .unset] rfl ?_
  rintro X rfl rfl rfl hX
  refine wa_aload_n hX (i := 0) dX12_graph_0 rfl rfl ?_
  refine wi_iconst hX dX12_graph_1 ?_
  refine wa_put hX 0 k1 (Nat.le_of_ble_eq_true rfl) (by decide +kernel) (by rfl) (by rfl) (by rfl) dX12_graph_2 ?_
  refine WA.heap (h2 := hset h a (120, oMod ((0 : Nat) : Int) (c : Int) row brk al wk us kp pt)) rfl ?_
  refine WA.hgq (fun hA hh2 => ?_)
  have ff : Fr (fun x => x = 120) h hA := by rw [hh2]; exact Fr.hset Fr.rf k1 rfl
  replace k1 : hA a = some (120, oMod ((0 : Nat) : Int) (c : Int) row brk al wk us kp pt) := by rw [hh2]; exact hset_eq
  replace kJ := kJ.fr ff (fun x hx => by omega)
  clear hh2
  obtain ⟨⟨hc60, hw, hm24, hMt⟩, kr, kb, kwk, kus, kkp, kpt, ed, N, P, ka, ke, kI, kMat⟩ := id kJ
  refine wa_aload_n hX (i := 0) dX12_graph_5 rfl rfl ?_
  have t28 : WA X hA rmc rms 28 [.val (.ref a), .unset, .unset, .unset, .unset, .unset, .unset, .unset] [I ((b2n (decide (c % 2 = 0 ∧ c ≤ 20)) : Nat) : Int)] := by
   refine wa_istore_n hX (i := 1) dX12_graph_28 rfl (by first | rfl | assumption) ?_
   dsimp only [List.set]
   refine wi_iconst hX dX12_graph_29 ?_
   refine wa_istore_n hX (i := 2) dX12_graph_30 rfl (by first | rfl | assumption) ?_
   dsimp only [List.set]
   refine WA.eq rfl (by simp only [allB, Bool.and_true]; rfl) rfl (WA.loop (σ := Nat) (fun k => c - k) (fun k => k ≤ c) (fun _ => hA) (fun k => [.val (.ref a), .val (I ((b2n ((decide (c % 2 = 0 ∧ c ≤ 20)) && allB (fun k => decide (w k ≤ 9)) k) : Nat) : Int)), .val (I (k : Nat)), .unset, .unset, .unset, .unset, .unset]) ?_ 0 (Nat.zero_le _))
   intro k hk ih
   have hwk := hw k
   have hst : allB (fun k => decide (w k ≤ 9)) (k + 1) = (allB (fun k => decide (w k ≤ 9)) k && decide (w k ≤ 9)) := rfl
   refine wa_iload_n hX (i := 2) dX12_graph_31 rfl rfl ?_
   refine wa_aload_n hX (i := 0) dX12_graph_32 rfl rfl ?_
   refine wa_get hX 1 (by assumption) (by rfl) (by decide +kernel) dX12_graph_33 ?_
   refine wi_icmp_ge hX (tgt := 66) dX12_graph_36 (by decide) (by omega) (by omega) (fun c36 => ?_) (fun c36 => ?_)
   · skip
     have hkc : k = c := by omega
     rw [hkc]
     clear ih hst hwk hk c36
     refine wa_aload_n hX (i := 0) dX12_graph_66 rfl rfl ?_
     have t76 : WA X hA rmc rms 76 [.val (.ref a), .val (I ((b2n ((decide (c % 2 = 0 ∧ c ≤ 20)) && allB (fun k => decide (w k ≤ 9)) c) : Nat) : Int)), .val (I (c : Int)), .unset, .unset, .unset, .unset, .unset] [I ((b2n (!((decide (c % 2 = 0 ∧ c ≤ 20)) && allB (fun k => decide (w k ≤ 9)) c)) : Nat) : Int), .ref a] := by
       refine wi_iconst hX dX12_graph_76 ?_
       refine wa_callV hX (c_X12_fails hW d (th := 0) (k := 1) (b := (!((decide (c % 2 = 0 ∧ c ≤ 20)) && allB (fun k => decide (w k ≤ 9)) c))) k1 (by omega) (by omega)) (by assumption) (by rfl) (by rfl) (by omega) (nA := 2) (by rfl) (by decide +kernel) rfl (by exact Nat.le_of_ble_eq_true rfl) dX12_graph_77 (fun r77 h77 p77 => ?_) (fun _ _ q => q.elim)
       obtain ⟨rfl, hh77⟩ := p77
       have f77 : Fr (fun x => x = 120) hA h77 := by rw [hh77]; exact Fr.hset Fr.rf k1 rfl
       replace k1 : h77 a = some (120, oMod ((if ((!((decide (c % 2 = 0 ∧ c ≤ 20)) && allB (fun k => decide (w k ≤ 9)) c))) = true ∧ (0 : Nat) = 0 then 1 else 0 : Nat) : Int) (c : Int) row brk al wk us kp pt) := by rw [hh77]; exact hset_eq
       replace kJ := kJ.fr f77 (fun x hx => by omega)
       replace ff := ff.trans f77
       clear hh77 f77
       rw [show (((!((decide (c % 2 = 0 ∧ c ≤ 20)) && allB (fun k => decide (w k ≤ 9)) c))) || (0 : Nat) != 0) = ((!((decide (c % 2 = 0 ∧ c ≤ 20)) && allB (fun k => decide (w k ≤ 9)) c))) from Bool.or_false _]
       clear kr kb kwk kus kkp kpt ka ke kI kMat hc60 hw hm24 hMt
       obtain ⟨⟨hc60, hw, hm24, hMt⟩, kr, kb, kwk, kus, kkp, kpt, ed, N, P, ka, ke, kI, kMat⟩ := id kJ
       dsimp only [Option.toList, List.cons_append, List.nil_append]
       refine wi_if_ne hX (tgt := 108) dX12_graph_80 (by decide) (by exact b2n_inR _) (fun c80 => ?_) (fun c80 => ?_)
       · skip
         refine wi_iconst hX dX12_graph_108 ?_
         refine wa_iret hX dX12_graph_109 ?_
         have z := b2n_t c80
         rw [z, if_pos ⟨rfl, rfl⟩] at k1
         refine ⟨ff.mono (fun x hx => by omega), Or.inl ⟨?_, ⟨_, rfl⟩, row, brk, al, wk, us, kp, pt, k1, kJ⟩⟩
         intro q1 q2
         rw [Bool.not_eq_true', Bool.and_eq_false_iff] at z
         rcases z with z | z
         · exact absurd q1 (of_decide_eq_false z)
         · rw [allB_iff.mpr (fun k hk => decide_eq_true (q2 k hk))] at z
           cases z
       · skip
         have hv80 := b2n_f c80
         rw [hv80, if_neg (fun z => Bool.false_ne_true z.1)] at k1
         rw [Bool.not_eq_false', Bool.and_eq_true, decide_eq_true_eq, allB_iff] at hv80
         obtain ⟨hR0, hR2⟩ := hv80
         replace hR2 : ∀ k, k < c → w k ≤ 9 := fun k hk => of_decide_eq_true (hR2 k hk)
         refine wa_aload_n hX (i := 0) dX12_graph_83 rfl rfl ?_
         refine wa_aload_n hX (i := 0) dX12_graph_84 rfl rfl ?_
         refine wa_get hX 4 (by assumption) (by rfl) (by decide +kernel) dX12_graph_85 ?_
         have t101 : WA X h77 rmc rms 101 [.val (.ref a), .val (I ((b2n ((decide (c % 2 = 0 ∧ c ≤ 20)) && allB (fun k => decide (w k ≤ 9)) c) : Nat) : Int)), .val (I (c : Int)), .unset, .unset, .unset, .unset, .unset] [I ((b2n (m == 24) : Nat) : Int), .ref a] := by
           refine wi_iconst hX dX12_graph_101 ?_
           refine wa_callV hX (c_X12_fails hW d (th := 0) (k := 2) (b := (m == 24)) k1 (by omega) (by omega)) (by assumption) (by rfl) (by rfl) (by omega) (nA := 2) (by rfl) (by decide +kernel) rfl (by exact Nat.le_of_ble_eq_true rfl) dX12_graph_102 (fun r102 h102 p102 => ?_) (fun _ _ q => q.elim)
           obtain ⟨rfl, hh102⟩ := p102
           have f102 : Fr (fun x => x = 120) h77 h102 := by rw [hh102]; exact Fr.hset Fr.rf k1 rfl
           replace k1 : h102 a = some (120, oMod ((if ((m == 24)) = true ∧ (0 : Nat) = 0 then 2 else 0 : Nat) : Int) (c : Int) row brk al wk us kp pt) := by rw [hh102]; exact hset_eq
           replace kJ := kJ.fr f102 (fun x hx => by omega)
           replace ff := ff.trans f102
           clear hh102 f102
           rw [show (((m == 24)) || (0 : Nat) != 0) = ((m == 24)) from Bool.or_false _]
           clear kr kb kwk kus kkp kpt ka ke kI kMat hc60 hw hm24 hMt
           obtain ⟨⟨hc60, hw, hm24, hMt⟩, kr, kb, kwk, kus, kkp, kpt, ed, N, P, ka, ke, kI, kMat⟩ := id kJ
           dsimp only [Option.toList, List.cons_append, List.nil_append]
           refine wi_if_eq hX (tgt := 110) dX12_graph_105 (by decide) (by exact b2n_inR _) (fun c105 => ?_) (fun c105 => ?_)
           · skip
             have hv105 := b2n_f c105
             rw [hv105, if_neg (fun z => Bool.false_ne_true z.1)] at k1
             have hmne : m ≠ 24 := beq_eq_false_iff_ne.mp hv105
             have hm9 : m < 24 := by omega
             refine wa_aload_n hX (i := 0) dX12_graph_110 rfl rfl ?_
             refine wa_get hX 1 (by assumption) (by rfl) (by decide +kernel) dX12_graph_111 ?_
             refine wi_iconst hX dX12_graph_114 ?_
             refine wn_idiv hX (a := c) (b := 2) dX12_graph_115 rfl rfl (by omega) (by omega) (by omega) ?_
             obtain ⟨hkk, hss⟩ := hroom ⟨hR0, hR2, hm9⟩
             refine WA.room (k2 := 2 + 2) (sl2 := 1064 + 1030) (by omega) (by omega) ?_
             refine wa_callS hX (c_X12_sized hW d (e := c / 2) (by omega)) (by rfl) (by omega) (nA := 1) (by rfl) (by decide +kernel) rfl (by exact Nat.le_of_ble_eq_true rfl) dX12_graph_116 (fun r116 h116 p116 => ?_) (fun _ _ q => q.elim)
             obtain ⟨p, q, rfl, fS, p1, q1⟩ := p116
             have k1S := fS _ _ _ k1 id
             have kJS := kJ.fr fS (fun x hx => hx.elim)
             dsimp only [Option.toList, List.cons_append, List.nil_append]
             refine wa_astore_n hX (i := 2) dX12_graph_119 rfl (by first | rfl | assumption) ?_
             dsimp only [List.set]
             refine wi_bipush hX dX12_graph_120 (by decide) ?_
             refine WA.room (k2 := 1 + 1) (sl2 := 40 + 10) (by omega) (by omega) ?_
             refine wa_newa hX 10 135 .int (.inl (fun j => Int32.ofInt ((fun _ => 0 : Nat → Int) j))) rfl (by rfl) (by omega) (fun cA => by rfl) (by decide +kernel) dX12_graph_122 (fun nb nbn => ?_)
             refine WA.hgq (fun hB hhB => ?_)
             have fB : Fr (fun _ => False) h116 hB := by rw [hhB]; exact fun b lb ob z _ => hset_new nbn z
             have n1 : hB nb = some (135, aI .int 10 (fun _ => 0)) := by rw [hhB]; exact hset_eq
             clear hhB
             replace p1 := fB _ _ _ p1 id
             replace q1 := fB _ _ _ q1 id
             replace k1S := fB _ _ _ k1S id
             replace kJS := kJS.fr fB (fun x hx => hx.elim)
             replace fS := fS.trans fB
             have hee : c / 2 ≤ 10 := by omega
             have hpe := p2_le hee
             have hpe0 := p2_pos (c / 2)
             refine wa_astore_n hX (i := 3) dX12_graph_124 rfl (by first | rfl | assumption) ?_
             dsimp only [List.set]
             refine wi_iconst hX dX12_graph_125 ?_
             refine wa_istore hX dX12_graph_126 (by first | rfl | assumption) ?_
             dsimp only [List.set]
             refine WA.loop (σ := Nat × AH × (Nat → Int) × Slot × Slot × Slot) (fun z => 2 ^ (c / 2) - z.1) (fun z => z.1 ≤ 2 ^ (c / 2) ∧ (∀ s, s < z.1 → z.2.2.1 s = ((graM w (c / 2) s : Nat) : Int)) ∧ (∀ s, z.1 ≤ s → z.2.2.1 s = 0) ∧ (Fr (fun x => x = 134 ∨ x = 135) hB z.2.1 ∧ z.2.1 q = some (134, aI .int 1024 z.2.2.1)) ∧ (∃ g : Nat → Int, z.2.1 nb = some (135, aI .int 10 g)) ∧ okS [z.2.2.2.1] 0 = true ∧ okS [z.2.2.2.2.1] 0 = true ∧ okS [z.2.2.2.2.2] 0 = true) (fun z => z.2.1) (fun z => [.val (.ref a), .val (I ((b2n ((decide (c % 2 = 0 ∧ c ≤ 20)) && allB (fun k => decide (w k ≤ 9)) c) : Nat) : Int)), .val (.ref p), .val (.ref nb), .val (I (z.1 : Nat)), z.2.2.2.1, z.2.2.2.2.1, z.2.2.2.2.2]) ?_ (0, hB, (fun _ => 0), .unset, .unset, .unset) ⟨Nat.zero_le _, fun s hs => absurd hs (Nat.not_lt_zero s), fun s _ => rfl, ⟨Fr.rf, q1⟩, ⟨_, n1⟩, rfl, rfl, rfl⟩
             rintro ⟨z, h2, F, u5, u6, u7⟩ ⟨hz, hF, hF0, ⟨f2, q2⟩, ⟨g0, n2⟩, hu5, hu6, hu7⟩ ih
             dsimp only at hz hF hF0 f2 q2 n2 hu5 hu6 hu7 ⊢
             have p2 := f2 _ _ _ p1 (by omega)
             have k2 := f2 _ _ _ k1S (by omega)
             have kJ2 := kJS.fr f2 (fun x hx => by omega)
             have t162 : ∀ (h3 : AH) (k : Nat) (F2 : Nat → Int) (u6 u7 : Slot), okS [u6] 0 = true → okS [u7] 0 = true → z < 2 ^ (c / 2) → k ≤ c / 2 → (Fr (fun x => x = 134 ∨ x = 135) hB h3 ∧ h3 q = some (134, aI .int 1024 F2)) → (∃ en ht : Nat → Nat, h3 nb = some (135, aI .int 10 (fun j => ((en j : Nat) : Int))) ∧ FoP en (grS w z k).1 ht) → F2 = up F z (((grS w z k).2 : Nat) : Int) → WA X h3 1 40 162 [.val (.ref a), .val (I ((b2n ((decide (c % 2 = 0 ∧ c ≤ 20)) && allB (fun k => decide (w k ≤ 9)) c) : Nat) : Int)), .val (.ref p), .val (.ref nb), .val (I (z : Nat)), .val (I (k : Nat)), u6, u7] [] := by
               intro h3 k F2 u6 u7 hu6 hu7 hzl hk hinv hen hFF
               refine WA.loop (σ := Nat × AH × (Nat → Int) × Slot × Slot) (fun y => c / 2 - y.1) (fun y => y.1 ≤ c / 2 ∧ (Fr (fun x => x = 134 ∨ x = 135) hB y.2.1 ∧ y.2.1 q = some (134, aI .int 1024 y.2.2.1)) ∧ (∃ en ht : Nat → Nat, y.2.1 nb = some (135, aI .int 10 (fun j => ((en j : Nat) : Int))) ∧ FoP en (grS w z y.1).1 ht) ∧ y.2.2.1 = up F z (((grS w z y.1).2 : Nat) : Int) ∧ okS [y.2.2.2.1] 0 = true ∧ okS [y.2.2.2.2] 0 = true) (fun y => y.2.1) (fun y => [.val (.ref a), .val (I ((b2n ((decide (c % 2 = 0 ∧ c ≤ 20)) && allB (fun k => decide (w k ≤ 9)) c) : Nat) : Int)), .val (.ref p), .val (.ref nb), .val (I (z : Nat)), .val (I (y.1 : Nat)), y.2.2.2.1, y.2.2.2.2]) ?_ (k, h3, F2, u6, u7) ⟨hk, hinv, hen, hFF, hu6, hu7⟩
               clear hu6 hu7 hk hinv hen hFF u6 u7 h3 k F2
               rintro ⟨k, h3, F2, u6, u7⟩ ⟨hk, ⟨f3, q3⟩, ⟨en, ht, n3, hFo⟩, hFF, hu6, hu7⟩ ih2
               dsimp only at hk f3 q3 n3 hFo hFF hu6 hu7 ⊢
               have p3 := f3 _ _ _ p1 (by omega)
               have k3 := f3 _ _ _ k1S (by omega)
               have kr3 := (kJS.fr f3 (fun x hx => by omega)).2.1
               have hst : grS w z (k + 1) = if z.testBit k = true ∧ (grS w z k).1 (w (2 * k)) ≠ (grS w z k).1 (w (2 * k + 1)) then (fun x => if (grS w z k).1 x = (grS w z k).1 (w (2 * k)) then (grS w z k).1 (w (2 * k + 1)) else (grS w z k).1 x, (grS w z k).2 + 1) else grS w z k := rfl
               have hgl := grS_le (w := w) (s := z) k
               have t240 : ∀ (h4 : AH) (F4 : Nat → Int) (x y : Nat), k < c / 2 → (Fr (fun x => x = 134 ∨ x = 135) hB h4 ∧ h4 q = some (134, aI .int 1024 F4)) → (∃ en ht : Nat → Nat, h4 nb = some (135, aI .int 10 (fun j => ((en j : Nat) : Int))) ∧ FoP en (grS w z (k + 1)).1 ht) → F4 = up F z (((grS w z (k + 1)).2 : Nat) : Int) → WA X h4 1 40 240 [.val (.ref a), .val (I ((b2n ((decide (c % 2 = 0 ∧ c ≤ 20)) && allB (fun k => decide (w k ≤ 9)) c) : Nat) : Int)), .val (.ref p), .val (.ref nb), .val (I (z : Nat)), .val (I (k : Nat)), .val (I (x : Nat)), .val (I (y : Nat))] [] := by
                 intro h4 F4 x y hkc hinv hen hFF
                 refine wi_iinc hX dX12_graph_240 rfl ?_
                 dsimp only [List.set]
                 refine wa_goto hX (tgt := 162) dX12_graph_243 (by decide) ?_
                 exact ih2 (k + 1, h4, F4, .val (I (x : Nat)), .val (I (y : Nat))) ⟨by show k + 1 ≤ _; omega, hinv, hen, hFF, rfl, rfl⟩ (by show _ - (k + 1) < _; omega)
               refine wa_iload hX dX12_graph_162 rfl ?_
               refine wa_aload_n hX (i := 2) dX12_graph_164 rfl rfl ?_
               refine wa_get hX 0 (by assumption) (by rfl) (by decide +kernel) dX12_graph_165 ?_
               refine wi_icmp_ge hX (tgt := 246) dX12_graph_168 (by decide) (by omega) (by omega) (fun c168 => ?_) (fun c168 => ?_)
               · skip
                 refine wi_iinc hX dX12_graph_246 rfl ?_
                 dsimp only [List.set]
                 refine wa_goto hX (tgt := 128) dX12_graph_249 (by decide) ?_
                 have hke : k = c / 2 := by omega
                 refine ih (z + 1, h3, F2, .val (I (k : Nat)), u6, u7) ⟨by show z + 1 ≤ _; omega, fun s hs => ?_, fun s hs => ?_, ⟨f3, q3⟩, ⟨_, n3⟩, rfl, hu6, hu7⟩ (by show _ - (z + 1) < _; omega)
                 · show F2 s = _
                   have hs2 : s < z + 1 := hs
                   rw [hFF]
                   by_cases g : s = z
                   · subst g
                     rw [up_s, hke]
                     rfl
                   · rw [up_n g]
                     exact hF s (by omega)
                 · show F2 s = _
                   have hs2 : z + 1 ≤ s := hs
                   rw [hFF, up_n (by omega)]
                   exact hF0 s (by omega)
               · skip
                 have w1 : w (2 * k) < 10 := by have := hR2 (2 * k) (by omega); omega
                 have w2 : w (2 * k + 1) < 10 := by have := hR2 (2 * k + 1) (by omega); omega
                 have x1 := grS_lt (w := w) (s := z) k (fun j hj => by have := hR2 j (by omega); omega)
                 have x2 := x1 _ w1
                 have x3 := x1 _ w2
                 refine wa_aload_n hX (i := 0) dX12_graph_171 rfl rfl ?_
                 refine wa_aload_n hX (i := 3) dX12_graph_172 rfl rfl ?_
                 refine wa_aload_n hX (i := 0) dX12_graph_173 rfl rfl ?_
                 refine wa_get hX 2 (by assumption) (by rfl) (by decide +kernel) dX12_graph_174 ?_
                 refine wi_iconst hX dX12_graph_177 ?_
                 refine wa_iload hX dX12_graph_178 rfl ?_
                 refine wi_imul hX dX12_graph_180 ?_
                 rw [show (2 : Int) * (k : Int) = ((2 * k : Nat) : Int) by omega]
                 refine wi_iaload hX (by assumption) (by omega) (by omega) (by omega) dX12_graph_181 ?_
                 rw [Int.toNat_natCast]
                 refine wa_callV hX (c_X12_end hW d n3 hFo w1) (by assumption) (by rfl) (by rfl) (by omega) (nA := 2) (by rfl) (by decide +kernel) rfl (by exact Nat.le_of_ble_eq_true rfl) dX12_graph_182 (fun r182 h182 p182 => ?_) (fun _ _ q => q.elim)
                 obtain ⟨rfl, qq182⟩ := p182; subst h182
                 dsimp only [Option.toList, List.cons_append, List.nil_append]
                 refine wa_istore hX dX12_graph_185 (by first | rfl | assumption) ?_
                 dsimp only [List.set]
                 refine wa_aload_n hX (i := 0) dX12_graph_187 rfl rfl ?_
                 refine wa_aload_n hX (i := 3) dX12_graph_188 rfl rfl ?_
                 refine wa_aload_n hX (i := 0) dX12_graph_189 rfl rfl ?_
                 refine wa_get hX 2 (by assumption) (by rfl) (by decide +kernel) dX12_graph_190 ?_
                 refine wi_iconst hX dX12_graph_193 ?_
                 refine wa_iload hX dX12_graph_194 rfl ?_
                 refine wi_imul hX dX12_graph_196 ?_
                 refine wi_iconst hX dX12_graph_197 ?_
                 refine wi_iadd hX dX12_graph_198 ?_
                 rw [show (2 : Int) * (k : Int) + 1 = ((2 * k + 1 : Nat) : Int) by omega]
                 refine wi_iaload hX (by assumption) (by omega) (by omega) (by omega) dX12_graph_199 ?_
                 rw [Int.toNat_natCast]
                 refine wa_callV hX (c_X12_end hW d n3 hFo w2) (by assumption) (by rfl) (by rfl) (by omega) (nA := 2) (by rfl) (by decide +kernel) rfl (by exact Nat.le_of_ble_eq_true rfl) dX12_graph_200 (fun r200 h200 p200 => ?_) (fun _ _ q => q.elim)
                 obtain ⟨rfl, qq200⟩ := p200; subst h200
                 dsimp only [Option.toList, List.cons_append, List.nil_append]
                 refine wa_istore hX dX12_graph_203 (by first | rfl | assumption) ?_
                 dsimp only [List.set]
                 refine wa_iload hX dX12_graph_205 rfl ?_
                 refine wa_iload hX dX12_graph_207 rfl ?_
                 refine wn_ishr hX dX12_graph_209 (by rfl) (by rfl) (by omega) (by omega) ?_
                 refine wi_iconst hX dX12_graph_210 ?_
                 refine wn_iand hX dX12_graph_211 (by rfl) (by rfl) ?_
                 rw [bit1]
                 refine wi_iconst hX dX12_graph_212 ?_
                 refine wi_icmp_ne hX (tgt := 240) dX12_graph_213 (by decide) (by first | exact b2n_inR _ | decide +kernel) (by first | exact b2n_inR _ | decide +kernel) (fun c213 => ?_) (fun c213 => ?_)
                 · skip
                   first
                     | (have hc : ¬ (z.testBit k = true ∧ (grS w z k).1 (w (2 * k)) ≠ (grS w z k).1 (w (2 * k + 1))) := fun hq => by
                          have h1 := hq.1
                          have h2 := hq.2
                          first
                            | (rw [h1] at c213; exact c213 rfl)
                            | omega
                        rw [if_neg hc] at hst
                        exact t240 h3 F2 _ _ (by omega) ⟨f3, q3⟩ ⟨en, ht, n3, by rw [hst]; exact hFo⟩ (by rw [hst]; exact hFF))
                     | (have b1 : z.testBit k = true := b2n_1 c213
                        have hc : z.testBit k = true ∧ (grS w z k).1 (w (2 * k)) ≠ (grS w z k).1 (w (2 * k + 1)) := ⟨b1, by omega⟩
                        rw [if_pos hc] at hst
                        have hFj := hFo.join w1 w2 hc.2
                        rw [show (fun x => if (grS w z k).1 x = (grS w z k).1 (w (2 * k)) then (grS w z k).1 (w (2 * k + 1)) else (grS w z k).1 x) = (grS w z (k + 1)).1 by rw [hst]] at hFj
                        refine t240 h5 _ _ _ (by omega) ⟨(f3.trans (f4.mono (fun x hx => Or.inr hx))).trans (f5.mono (fun x hx => Or.inl hx)), q5⟩ ⟨_, _, n5, hFj⟩ (by rw [hst]))
                 · skip
                   refine wa_iload hX dX12_graph_216 rfl ?_
                   refine wa_iload hX dX12_graph_218 rfl ?_
                   refine wi_icmp_eq hX (tgt := 240) dX12_graph_220 (by decide) (by omega) (by omega) (fun c220 => ?_) (fun c220 => ?_)
                   · skip
                     first
                       | (have hc : ¬ (z.testBit k = true ∧ (grS w z k).1 (w (2 * k)) ≠ (grS w z k).1 (w (2 * k + 1))) := fun hq => by
                            have h1 := hq.1
                            have h2 := hq.2
                            first
                              | (rw [h1] at c213; exact c213 rfl)
                              | omega
                          rw [if_neg hc] at hst
                          exact t240 h3 F2 _ _ (by omega) ⟨f3, q3⟩ ⟨en, ht, n3, by rw [hst]; exact hFo⟩ (by rw [hst]; exact hFF))
                       | (have b1 : z.testBit k = true := b2n_1 c213
                          have hc : z.testBit k = true ∧ (grS w z k).1 (w (2 * k)) ≠ (grS w z k).1 (w (2 * k + 1)) := ⟨b1, by omega⟩
                          rw [if_pos hc] at hst
                          have hFj := hFo.join w1 w2 hc.2
                          rw [show (fun x => if (grS w z k).1 x = (grS w z k).1 (w (2 * k)) then (grS w z k).1 (w (2 * k + 1)) else (grS w z k).1 x) = (grS w z (k + 1)).1 by rw [hst]] at hFj
                          refine t240 h5 _ _ _ (by omega) ⟨(f3.trans (f4.mono (fun x hx => Or.inr hx))).trans (f5.mono (fun x hx => Or.inl hx)), q5⟩ ⟨_, _, n5, hFj⟩ (by rw [hst]))
                   · skip
                     refine wa_aload_n hX (i := 3) dX12_graph_223 rfl rfl ?_
                     refine wa_iload hX dX12_graph_224 rfl ?_
                     refine wa_iload hX dX12_graph_226 rfl ?_
                     refine wi_iastore hX n3 (by omega) (by omega) (by omega) dX12_graph_228 ?_
                     rw [Int.toNat_natCast, up_castN]
                     refine WA.hgq (fun h4 hh4 => ?_)
                     have f4 : Fr (fun x => x = 135) h3 h4 := by rw [hh4]; exact Fr.hset Fr.rf n3 rfl
                     have n4 : h4 nb = some (135, aI .int 10 (fun j => ((up en ((grS w z k).1 (w (2 * k))) ((grS w z k).1 (w (2 * k + 1))) j : Nat) : Int))) := by rw [hh4]; exact hset_eq
                     have p4 := f4 _ _ _ p3 (by decide)
                     have q4 := f4 _ _ _ q3 (by decide)
                     clear hh4
                     refine wa_aload_n hX (i := 2) dX12_graph_229 rfl rfl ?_
                     refine wa_get hX 1 (by assumption) (by rfl) (by decide +kernel) dX12_graph_230 ?_
                     refine wa_iload hX dX12_graph_233 rfl ?_
                     refine wa_dup2 hX dX12_graph_235 rfl rfl ?_
                     refine wi_iaload hX q4 (by omega) (by omega) (by omega) dX12_graph_236 ?_
                     rw [Int.toNat_natCast, hFF, up_s]
                     refine wi_iconst hX dX12_graph_237 ?_
                     refine wi_iadd hX dX12_graph_238 ?_
                     refine wi_iastore hX q4 (by omega) (by omega) (by omega) dX12_graph_239 ?_
                     rw [Int.toNat_natCast]
                     refine WA.hgq (fun h5 hh5 => ?_)
                     have f5 : Fr (fun x => x = 134) h4 h5 := by rw [hh5]; exact Fr.hset Fr.rf q4 rfl
                     have n5 := f5 _ _ _ n4 (by decide)
                     have q5 : h5 q = some (134, aI .int 1024 (up F z ((((grS w z k).2 + 1 : Nat)) : Int))) := by
                       rw [hh5, hFF, up_up]
                       exact hset_eq
                     clear hh5
                     first
                       | (have hc : ¬ (z.testBit k = true ∧ (grS w z k).1 (w (2 * k)) ≠ (grS w z k).1 (w (2 * k + 1))) := fun hq => by
                            have h1 := hq.1
                            have h2 := hq.2
                            first
                              | (rw [h1] at c213; exact c213 rfl)
                              | omega
                          rw [if_neg hc] at hst
                          exact t240 h3 F2 _ _ (by omega) ⟨f3, q3⟩ ⟨en, ht, n3, by rw [hst]; exact hFo⟩ (by rw [hst]; exact hFF))
                       | (have b1 : z.testBit k = true := b2n_1 c213
                          have hc : z.testBit k = true ∧ (grS w z k).1 (w (2 * k)) ≠ (grS w z k).1 (w (2 * k + 1)) := ⟨b1, by omega⟩
                          rw [if_pos hc] at hst
                          have hFj := hFo.join w1 w2 hc.2
                          rw [show (fun x => if (grS w z k).1 x = (grS w z k).1 (w (2 * k)) then (grS w z k).1 (w (2 * k + 1)) else (grS w z k).1 x) = (grS w z (k + 1)).1 by rw [hst]] at hFj
                          refine t240 h5 _ _ _ (by omega) ⟨(f3.trans (f4.mono (fun x hx => Or.inr hx))).trans (f5.mono (fun x hx => Or.inl hx)), q5⟩ ⟨_, _, n5, hFj⟩ (by rw [hst]))
             refine wa_iload hX dX12_graph_128 rfl ?_
             refine wa_aload_n hX (i := 2) dX12_graph_130 rfl rfl ?_
             refine wa_callV hX (c_X11_full hW d p2 (by omega)) (by assumption) (by rfl) (by rfl) (by omega) (nA := 0) (by rfl) (by decide +kernel) rfl (by exact Nat.le_of_ble_eq_true rfl) dX12_graph_131 (fun r131 h131 p131 => ?_) (fun _ _ q => q.elim)
             obtain ⟨rfl, qq131⟩ := p131; subst h131
             dsimp only [Option.toList, List.cons_append, List.nil_append]
             refine wi_icmp_gt hX (tgt := 252) dX12_graph_134 (by decide) (by omega) (by omega) (fun c134 => ?_) (fun c134 => ?_)
             · skip
               refine wa_aload_n hX (i := 0) dX12_graph_252 rfl rfl ?_
               refine wi_iconst hX dX12_graph_253 ?_
               refine wa_put hX 1 k2 (Nat.le_of_ble_eq_true rfl) (by decide +kernel) (by rfl) (by rfl) (by rfl) dX12_graph_254 ?_
               refine WA.heap (h2 := hset h2 a (120, oMod ((0 : Nat) : Int) ((0 : Nat) : Int) row brk al wk us kp pt)) rfl ?_
               refine WA.hgq (fun hG hhG => ?_)
               have fG : Fr (fun x => x = 120) h2 hG := by rw [hhG]; exact Fr.hset Fr.rf k2 rfl
               have k3 : hG a = some (120, oMod ((0 : Nat) : Int) ((0 : Nat) : Int) row brk al wk us kp pt) := by rw [hhG]; exact hset_eq
               have p3 := fG _ _ _ p2 (by decide)
               have q3 := fG _ _ _ q2 (by decide)
               have kJ3 := kJ2.fr fG (fun x hx => by omega)
               replace kJ3 : RJ (zA (cxS X)) DR hG row brk al wk us kp pt 0 w m E R b0 b1 b2 := ⟨⟨Nat.zero_le _, kJ3.1.2⟩, kJ3.2⟩
               clear hhG
               refine wa_aload_n hX (i := 0) dX12_graph_257 rfl rfl ?_
               refine wa_aload_n hX (i := 2) dX12_graph_258 rfl rfl ?_
               refine WA.room (k2 := 0 + 1) (sl2 := 0 + 40) (by omega) (by omega) ?_
               refine wa_callV hX (c_X12_add hW d (e := c / 2) (rk := fun s => graM w (c / 2) s) k3 kJ3 hm9 p3 q3 (fun s hs => hF s (by omega)) (hN hR0.1 hR0.2 hR2)) (by assumption) (by rfl) (by rfl) (by omega) (nA := 1) (by rfl) (by decide +kernel) rfl (by exact Nat.le_of_ble_eq_true rfl) dX12_graph_259 (fun r259 h259 p259 => ?_) (fun _ _ q => q.elim)
               obtain ⟨rfl, f9, kJ9⟩ := p259
               have k19 := f9 _ _ _ k3 (by omega)
               dsimp only [Option.toList, List.cons_append, List.nil_append]
               refine wa_iret hX dX12_graph_262 ?_
               exact ⟨((((ff.mono (fun x hx => by omega)).trans (fS.mono (fun x hx => hx.elim))).trans (f2.mono (fun x hx => by omega))).trans (fG.mono (fun x hx => by omega))).trans (f9.mono (fun x hx => by omega)), Or.inr ⟨hR0, hR2, Or.inr ⟨hmne, rfl, row, brk, al, wk, us, kp, pt, k19, kJ9⟩⟩⟩
             · skip
               refine wi_iconst hX dX12_graph_137 ?_
               refine wa_istore hX dX12_graph_138 (by first | rfl | assumption) ?_
               dsimp only [List.set]
               refine WA.loop (σ := Nat × AH × (Nat → Int)) (fun y => 10 - y.1) (fun y => y.1 ≤ 10 ∧ (Fr (fun x => x = 134 ∨ x = 135) hB y.2.1 ∧ y.2.1 q = some (134, aI .int 1024 F)) ∧ y.2.1 nb = some (135, aI .int 10 y.2.2) ∧ ∀ j, j < y.1 → y.2.2 j = ((j : Nat) : Int)) (fun y => y.2.1) (fun y => [.val (.ref a), .val (I ((b2n ((decide (c % 2 = 0 ∧ c ≤ 20)) && allB (fun k => decide (w k ≤ 9)) c) : Nat) : Int)), .val (.ref p), .val (.ref nb), .val (I (z : Nat)), .val (I (y.1 : Nat)), u6, u7]) ?_ (0, h2, g0) ⟨Nat.zero_le _, ⟨f2, q2⟩, n2, fun j hj => absurd hj (Nat.not_lt_zero j)⟩
               rintro ⟨y, h3, g⟩ ⟨hy, ⟨f3, q3⟩, n3, hg⟩ ih2
               dsimp only at hy f3 q3 n3 hg ⊢
               refine wa_iload hX dX12_graph_140 rfl ?_
               refine wi_bipush hX dX12_graph_142 (by decide) ?_
               refine wi_icmp_ge hX (tgt := 159) dX12_graph_144 (by decide) (by omega) (by omega) (fun c144 => ?_) (fun c144 => ?_)
               · skip
                 refine wi_iconst hX dX12_graph_159 ?_
                 refine wa_istore hX dX12_graph_160 (by first | rfl | assumption) ?_
                 dsimp only [List.set]
                 refine WA.ext9 (fun j => ((j : Nat) : Int)) n3 (fun j hj => hg j (by omega)) ?_
                 refine WA.hgq (fun h4 hh4 => ?_)
                 have f4 : Fr (fun x => x = 135) h3 h4 := by rw [hh4]; exact Fr.hset Fr.rf n3 rfl
                 have n4 : h4 nb = some (135, aI .int 10 (fun j => ((j : Nat) : Int))) := by rw [hh4]; exact hset_eq
                 have q4 := f4 _ _ _ q3 (by decide)
                 refine t162 h4 0 F u6 u7 hu6 hu7 (by omega) (Nat.zero_le _) ⟨f3.trans (f4.mono (fun x hx => Or.inr hx)), q4⟩ ⟨fun j => j, fun _ => 0, n4, FoP.init⟩ ?_
                 exact (up_same (by rw [hF0 z (Nat.le_refl z)]; rfl)).symm
               · skip
                 refine wa_aload_n hX (i := 3) dX12_graph_147 rfl rfl ?_
                 refine wa_iload hX dX12_graph_148 rfl ?_
                 refine wa_iload hX dX12_graph_150 rfl ?_
                 refine wi_iastore hX n3 (by omega) (by omega) (by omega) dX12_graph_152 ?_
                 rw [Int.toNat_natCast]
                 refine WA.hgq (fun h4 hh4 => ?_)
                 have f4 : Fr (fun x => x = 135) h3 h4 := by rw [hh4]; exact Fr.hset Fr.rf n3 rfl
                 have n4 : h4 nb = some (135, aI .int 10 (up g y ((y : Nat) : Int))) := by rw [hh4]; exact hset_eq
                 have q4 := f4 _ _ _ q3 (by decide)
                 clear hh4
                 refine wi_iinc hX dX12_graph_153 rfl ?_
                 dsimp only [List.set]
                 refine wa_goto hX (tgt := 140) dX12_graph_156 (by decide) ?_
                 exact ih2 (y + 1, h4, up g y ((y : Nat) : Int)) ⟨by show y + 1 ≤ 10; omega, ⟨f3.trans (f4.mono (fun x hx => Or.inr hx)), q4⟩, n4, fill_step (spec := fun j => ((j : Nat) : Int)) hg⟩ (by show 10 - (y + 1) < 10 - y; omega)
           · skip
             refine wi_iconst hX dX12_graph_108 ?_
             refine wa_iret hX dX12_graph_109 ?_
             have z := b2n_t c105
             rw [z, if_pos ⟨rfl, rfl⟩] at k1
             exact ⟨ff.mono (fun x hx => by omega), Or.inr ⟨hR0, hR2, Or.inl ⟨beq_iff_eq.mp z, ⟨_, rfl⟩, row, brk, al, wk, us, kp, pt, k1, kJ⟩⟩⟩
         refine wa_callV hX (c_AL_size hW d ka) (by assumption) (by rfl) (by rfl) (by omega) (nA := 0) (by rfl) (by decide +kernel) rfl (by exact Nat.le_of_ble_eq_true rfl) dX12_graph_88 (fun r88 h88 p88 => ?_) (fun _ _ q => q.elim)
         obtain ⟨rfl, qq88⟩ := p88; subst h88
         dsimp only [Option.toList, List.cons_append, List.nil_append]
         refine wi_bipush hX dX12_graph_91 (by decide) ?_
         refine wi_icmp_ne hX (tgt := 100) dX12_graph_93 (by decide) (by omega) (by omega) (fun c93 => ?_) (fun c93 => ?_)
         · skip
           refine wi_iconst hX dX12_graph_100 ?_
           refine WA.eq rfl rfl ?_ t101
           first
             | (rw [show (m == 24) = true from beq_iff_eq.mpr (by omega)]; rfl)
             | (rw [show (m == 24) = false from beq_eq_false_iff_ne.mpr (by omega)]; rfl)
         · skip
           refine wi_iconst hX dX12_graph_96 ?_
           refine wa_goto hX (tgt := 101) dX12_graph_97 (by decide) ?_
           refine WA.eq rfl rfl ?_ t101
           first
             | (rw [show (m == 24) = true from beq_iff_eq.mpr (by omega)]; rfl)
             | (rw [show (m == 24) = false from beq_eq_false_iff_ne.mpr (by omega)]; rfl)
     refine wa_iload_n hX (i := 1) dX12_graph_67 rfl rfl ?_
     refine wi_if_ne hX (tgt := 75) dX12_graph_68 (by decide) (by exact b2n_inR _) (fun c68 => ?_) (fun c68 => ?_)
     · skip
       refine wi_iconst hX dX12_graph_75 ?_
       refine WA.eq rfl rfl ?_ t76
       first
         | (have q := b2n_t c68; rw [q]; rfl)
         | (have q := b2n_f c68; rw [q]; rfl)
     · skip
       refine wi_iconst hX dX12_graph_71 ?_
       refine wa_goto hX (tgt := 76) dX12_graph_72 (by decide) ?_
       refine WA.eq rfl rfl ?_ t76
       first
         | (have q := b2n_t c68; rw [q]; rfl)
         | (have q := b2n_f c68; rw [q]; rfl)
   · skip
     refine wa_iload_n hX (i := 1) dX12_graph_39 rfl rfl ?_
     refine wi_if_eq hX (tgt := 58) dX12_graph_40 (by decide) (by exact b2n_inR _) (fun c40 => ?_) (fun c40 => ?_)
     · skip
       refine wi_iconst hX dX12_graph_58 ?_
       refine WA.eq (pc2 := 59) (st2 := [I ((b2n ((decide (c % 2 = 0 ∧ c ≤ 20)) && allB (fun k => decide (w k ≤ 9)) (k + 1)) : Nat) : Int)]) rfl rfl (by
         rw [hst]
         first
           | (have q := b2n_f c40
              rw [← Bool.and_assoc, q]; rfl)
           | (have q := b2n_t c40
              rw [← Bool.and_assoc, q, Bool.true_and]
              first
                | (rw [decide_eq_true (show w k ≤ 9 by omega)]; rfl)
                | (rw [decide_eq_false (show ¬ (w k ≤ 9) by omega)]; rfl))) ?_
       clear c40
       refine wa_istore_n hX (i := 1) dX12_graph_59 rfl (by first | rfl | assumption) ?_
       dsimp only [List.set]
       refine wi_iinc hX dX12_graph_60 rfl ?_
       dsimp only [List.set]
       refine wa_goto hX (tgt := 31) dX12_graph_63 (by decide) ?_
       exact ih (k + 1) (by omega) (by omega)
     · skip
       refine wa_aload_n hX (i := 0) dX12_graph_43 rfl rfl ?_
       refine wa_get hX 2 (by assumption) (by rfl) (by decide +kernel) dX12_graph_44 ?_
       refine wa_iload_n hX (i := 2) dX12_graph_47 rfl rfl ?_
       refine wi_iaload hX (by assumption) (by omega) (by omega) (by omega) dX12_graph_48 ?_
       rw [Int.toNat_natCast]
       refine wi_bipush hX dX12_graph_49 (by decide) ?_
       refine wi_icmp_gt hX (tgt := 58) dX12_graph_51 (by decide) (by omega) (by omega) (fun c51 => ?_) (fun c51 => ?_)
       · skip
         refine wi_iconst hX dX12_graph_58 ?_
         refine WA.eq (pc2 := 59) (st2 := [I ((b2n ((decide (c % 2 = 0 ∧ c ≤ 20)) && allB (fun k => decide (w k ≤ 9)) (k + 1)) : Nat) : Int)]) rfl rfl (by
           rw [hst]
           first
             | (have q := b2n_f c40
                rw [← Bool.and_assoc, q]; rfl)
             | (have q := b2n_t c40
                rw [← Bool.and_assoc, q, Bool.true_and]
                first
                  | (rw [decide_eq_true (show w k ≤ 9 by omega)]; rfl)
                  | (rw [decide_eq_false (show ¬ (w k ≤ 9) by omega)]; rfl))) ?_
         clear c40
         refine wa_istore_n hX (i := 1) dX12_graph_59 rfl (by first | rfl | assumption) ?_
         dsimp only [List.set]
         refine wi_iinc hX dX12_graph_60 rfl ?_
         dsimp only [List.set]
         refine wa_goto hX (tgt := 31) dX12_graph_63 (by decide) ?_
         exact ih (k + 1) (by omega) (by omega)
       · skip
         refine wi_iconst hX dX12_graph_54 ?_
         refine wa_goto hX (tgt := 59) dX12_graph_55 (by decide) ?_
         refine WA.eq (pc2 := 59) (st2 := [I ((b2n ((decide (c % 2 = 0 ∧ c ≤ 20)) && allB (fun k => decide (w k ≤ 9)) (k + 1)) : Nat) : Int)]) rfl rfl (by
           rw [hst]
           first
             | (have q := b2n_f c40
                rw [← Bool.and_assoc, q]; rfl)
             | (have q := b2n_t c40
                rw [← Bool.and_assoc, q, Bool.true_and]
                first
                  | (rw [decide_eq_true (show w k ≤ 9 by omega)]; rfl)
                  | (rw [decide_eq_false (show ¬ (w k ≤ 9) by omega)]; rfl))) ?_
         clear c40
         refine wa_istore_n hX (i := 1) dX12_graph_59 rfl (by first | rfl | assumption) ?_
         dsimp only [List.set]
         refine wi_iinc hX dX12_graph_60 rfl ?_
         dsimp only [List.set]
         refine wa_goto hX (tgt := 31) dX12_graph_63 (by decide) ?_
         exact ih (k + 1) (by omega) (by omega)
  refine wa_get hX 1 (by assumption) (by rfl) (by decide +kernel) dX12_graph_6 ?_
  refine wi_iconst hX dX12_graph_9 ?_
  refine wn_irem hX (a := c) (b := 2) dX12_graph_10 rfl rfl (by omega) (by omega) (by omega) ?_
  refine wi_if_ne hX (tgt := 27) dX12_graph_11 (by decide) (by omega) (fun c11 => ?_) (fun c11 => ?_)
  · skip
    refine wi_iconst hX dX12_graph_27 ?_
    refine WA.eq rfl rfl ?_ t28
    first
      | (rw [show (decide (c % 2 = 0 ∧ c ≤ 20)) = true from decide_eq_true (by omega)]; rfl)
      | (rw [show (decide (c % 2 = 0 ∧ c ≤ 20)) = false from decide_eq_false (by omega)]; rfl)
  · skip
    refine wa_aload_n hX (i := 0) dX12_graph_14 rfl rfl ?_
    refine wa_get hX 1 (by assumption) (by rfl) (by decide +kernel) dX12_graph_15 ?_
    refine wi_bipush hX dX12_graph_18 (by decide) ?_
    refine wi_icmp_gt hX (tgt := 27) dX12_graph_20 (by decide) (by omega) (by omega) (fun c20 => ?_) (fun c20 => ?_)
    · skip
      refine wi_iconst hX dX12_graph_27 ?_
      refine WA.eq rfl rfl ?_ t28
      first
        | (rw [show (decide (c % 2 = 0 ∧ c ≤ 20)) = true from decide_eq_true (by omega)]; rfl)
        | (rw [show (decide (c % 2 = 0 ∧ c ≤ 20)) = false from decide_eq_false (by omega)]; rfl)
    · skip
      refine wi_iconst hX dX12_graph_23 ?_
      refine wa_goto hX (tgt := 28) dX12_graph_24 (by decide) ?_
      refine WA.eq rfl rfl ?_ t28
      first
        | (rw [show (decide (c % 2 = 0 ∧ c ≤ 20)) = true from decide_eq_true (by omega)]; rfl)
        | (rw [show (decide (c % 2 = 0 ∧ c ≤ 20)) = false from decide_eq_false (by omega)]; rfl)
end C9d
