/-! The reference (X12): bases, its public method -/
theorem RJ.brk {Z : Nat → Prop} {DR : (Nat → Nat) → Nat → Nat → Option (Nat → Nat) → Prop} {h h' : AH} {row brk al wk us kp pt c m : Nat} {w : Nat → Nat} {E : Nat → Nat} {R : Nat → Nat → Nat} {b0 b1 b2 x y z : Int} (q : RJ Z DR h row brk al wk us kp pt c w m E R b0 b1 b2) (f : Fr (fun x => x = 122) h h') (hb : h' brk = some (122, brkA x y z)) : RJ Z DR h' row brk al wk us kp pt c w m E R x y z := by
  obtain ⟨q0, q1, q2, ⟨WK, q3⟩, ⟨US, q4⟩, ⟨KP, q5⟩, ⟨e0, rq, m2, m3, l2, l3, G0, q6, q7⟩, ed, N, P, q8, q9, q10, q11⟩ := q
  refine ⟨q0, f _ _ _ q1 (by omega), hb, ⟨WK, f _ _ _ q3 (by omega)⟩, ⟨US, f _ _ _ q4 (by omega)⟩, ⟨KP, f _ _ _ q5 (by omega)⟩, ⟨e0, rq, m2, m3, l2, l3, G0, f _ _ _ q6 (by omega), f _ _ _ q7 (by omega)⟩, ed, N, P, f _ _ _ q8 (by omega), ?_, q10, fun j hj => (q11 j hj).fr f (fun x hx => by omega)⟩
  rcases q9 with z | ⟨z, z2⟩
  · exact Or.inl z
  · exact Or.inr ⟨f _ _ _ z (by omega), z2⟩
theorem bas_up {w : Nat → Nat} {k : Nat} : up (fun s => ((b2n (anyB (fun j => w j == s) k) : Nat) : Int)) (w k) 1 = fun s => ((b2n (anyB (fun j => w j == s) (k + 1)) : Nat) : Int) := by
  funext s
  rw [anyB_succ]
  by_cases g : s = w k
  · subst g
    rw [up_s, show (w k == w k) = true from beq_self_eq_true _, Bool.or_true]
    rfl
  · rw [up_n g, show (w k == s) = false from beq_eq_false_iff_ne.mpr (fun q => g q.symm), Bool.or_false]
section C9f
variable {l : Launch} {D : va_G} {S0 : State} {DR : (Nat → Nat) → Nat → Nat → Option (Nat → Nat) → Prop}
set_option maxHeartbeats 2000000 in
set_option maxRecDepth 100000 in
theorem c_X12_bases (hW : WOK l D S0) (d : Nat) {h : AH} {a th : Nat} {c m : Nat} {w : Nat → Nat} {E : Nat → Nat} {R : Nat → Nat → Nat} {b0 b1 b2 : Int} (hI : RI (zA S0) DR h a th c w m E R b0 b1 b2) {n : Int} (hn : inR n) (hN : ∀ e : Nat, e ≤ 10 → (∀ k, k < c → w k < 2 ^ e) → evnP w c → xchO (basB w c) → Mtr e (basM w c e)) {rmc rms : Nat} (hroom0 : 1 ≤ rmc ∧ 1024 ≤ rms) (hroom : ((∃ e : Nat, n = (e : Int) ∧ e ≤ 10 ∧ (∀ k, k < c → w k < 2 ^ e) ∧ evnP w c ∧ xchO (basB w c)) ∧ m < 24) → 5 ≤ rmc ∧ 3200 ≤ rms) : MA l D S0 yX12_bases cX12_bases 8 (some .int) (d + 7) [.ref a, I n] h rmc rms (fun r h' => Fr (fun x => 120 ≤ x ∧ x ≤ 139) h h' ∧ ((¬ (0 ≤ n ∧ n ≤ 10) ∧ (∃ z, r = some (I z)) ∧ RI (zA S0) DR h' a 1 c w m E R b0 b1 b2) ∨ ∃ e : Nat, n = (e : Int) ∧ e ≤ 10 ∧ ((¬ (∀ k, k < c → w k < 2 ^ e) ∧ (∃ z, r = some (I z)) ∧ RI (zA S0) DR h' a 2 c w m E R (-1) (-1) (-1)) ∨ ((∀ k, k < c → w k < 2 ^ e) ∧ ((¬ evnP w c ∧ (∃ z, r = some (I z)) ∧ RI (zA S0) DR h' a 2 c w m E R (-1) (-1) (-1)) ∨ (evnP w c ∧ ((∃ s t u : Nat, BrkP (basB w c) s t u ∧ (∃ z, r = some (I z)) ∧ RI (zA S0) DR h' a 2 c w m E R (s : Int) (t : Int) (u : Int)) ∨ (xchO (basB w c) ∧ ((m = 24 ∧ (∃ z, r = some (I z)) ∧ RI (zA S0) DR h' a 3 c w m E R (-1) (-1) (-1)) ∨ (m ≠ 24 ∧ r = some (I (m : Nat)) ∧ RI (zA S0) DR h' a 0 0 w (m + 1) (up E m e) (up R m (basM w c e)) (-1) (-1) (-1))))))))))) (fun _ _ => False) := by
  obtain ⟨row, brk, al, wk, us, kp, pt, k1, kJ⟩ := hI
  refine MA.start hW (by decide) [.val (.ref a), .val (I n), .unset, .unset, .unset, .unset, .unset, .unset] rfl ?_
  rintro X rfl rfl rfl hX
  refine wa_aload_n hX (i := 0) dX12_bases_0 rfl rfl ?_
  refine wi_iconst hX dX12_bases_1 ?_
  refine wa_put hX 0 k1 (Nat.le_of_ble_eq_true rfl) (by decide +kernel) (by rfl) (by rfl) (by rfl) dX12_bases_2 ?_
  refine WA.heap (h2 := hset h a (120, oMod ((0 : Nat) : Int) (c : Int) row brk al wk us kp pt)) rfl ?_
  refine WA.hgq (fun hA hh2 => ?_)
  have ff : Fr (fun x => x = 120) h hA := by rw [hh2]; exact Fr.hset Fr.rf k1 rfl
  replace k1 : hA a = some (120, oMod ((0 : Nat) : Int) (c : Int) row brk al wk us kp pt) := by rw [hh2]; exact hset_eq
  replace kJ := kJ.fr ff (fun x hx => by omega)
  clear hh2
  obtain ⟨⟨hc60, hw, hm24, hMt⟩, kr, kb, kwk, kus, kkp, kpt, ed, N, P, ka, ke, kI, kMat⟩ := id kJ
  refine wa_aload_n hX (i := 0) dX12_bases_5 rfl rfl ?_
  refine wa_iload_n hX (i := 1) dX12_bases_6 rfl rfl ?_
  refine wi_iconst hX dX12_bases_7 ?_
  refine wi_bipush hX dX12_bases_8 (by decide) ?_
  have t21 : WA X hA rmc rms 21 [.val (.ref a), .val (I n), .unset, .unset, .unset, .unset, .unset, .unset] [I ((b2n (!decide ((0 : Int) ≤ n ∧ n ≤ 10)) : Nat) : Int), .ref a] := by
    refine wi_iconst hX dX12_bases_21 ?_
    refine wa_callV hX (c_X12_fails hW d (th := 0) (k := 1) (b := (!decide ((0 : Int) ≤ n ∧ n ≤ 10))) k1 (by omega) (by omega)) (by assumption) (by rfl) (by rfl) (by omega) (nA := 2) (by rfl) (by decide +kernel) rfl (by exact Nat.le_of_ble_eq_true rfl) dX12_bases_22 (fun r22 h22 p22 => ?_) (fun _ _ q => q.elim)
    obtain ⟨rfl, hh22⟩ := p22
    have f22 : Fr (fun x => x = 120) hA h22 := by rw [hh22]; exact Fr.hset Fr.rf k1 rfl
    replace k1 : h22 a = some (120, oMod ((if ((!decide ((0 : Int) ≤ n ∧ n ≤ 10))) = true ∧ (0 : Nat) = 0 then 1 else 0 : Nat) : Int) (c : Int) row brk al wk us kp pt) := by rw [hh22]; exact hset_eq
    replace kJ := kJ.fr f22 (fun x hx => by omega)
    replace ff := ff.trans f22
    clear hh22 f22
    rw [show (((!decide ((0 : Int) ≤ n ∧ n ≤ 10))) || (0 : Nat) != 0) = ((!decide ((0 : Int) ≤ n ∧ n ≤ 10))) from Bool.or_false _]
    clear kr kb kwk kus kkp kpt ka ke kI kMat hc60 hw hm24 hMt
    obtain ⟨⟨hc60, hw, hm24, hMt⟩, kr, kb, kwk, kus, kkp, kpt, ed, N, P, ka, ke, kI, kMat⟩ := id kJ
    dsimp only [Option.toList, List.cons_append, List.nil_append]
    refine wi_if_eq hX (tgt := 30) dX12_bases_25 (by decide) (by exact b2n_inR _) (fun c25 => ?_) (fun c25 => ?_)
    · skip
      have hv25 := b2n_f c25
      rw [hv25, if_neg (fun z => Bool.false_ne_true z.1)] at k1
      rw [Bool.not_eq_false', decide_eq_true_eq] at hv25
      obtain ⟨hn1, hn2⟩ := hv25
      obtain ⟨e, rfl⟩ := Int.eq_ofNat_of_zero_le hn1
      have hpe9 : 2 ^ e ≤ 1024 := p2_le (by omega)
      have hpe8 := p2_pos e
      refine wi_iconst hX dX12_bases_30 ?_
      refine wa_istore_n hX (i := 2) dX12_bases_31 rfl (by first | rfl | assumption) ?_
      dsimp only [List.set]
      refine wi_sipush hX dX12_bases_32 (by decide) ?_
      obtain ⟨hk0, hs0⟩ := hroom0
      obtain ⟨r1, rfl⟩ : ∃ r1, rmc = r1 + 1 := ⟨rmc - 1, by omega⟩
      obtain ⟨r2, rfl⟩ : ∃ r2, rms = r2 + 1024 := ⟨rms - 1024, by omega⟩
      refine wa_newa hX 1024 136 .boolean (.inl (fun j => Int32.ofInt ((fun _ => 0 : Nat → Int) j))) rfl (by rfl) (by omega) (fun cA => by rfl) (by decide +kernel) dX12_bases_35 (fun ib ibn => ?_)
      refine WA.hgq (fun hB hhB => ?_)
      have fB : Fr (fun _ => False) h22 hB := by rw [hhB]; exact fun b lb ob z _ => hset_new ibn z
      have i1 : hB ib = some (136, aI .boolean 1024 (fun _ => 0)) := by rw [hhB]; exact hset_eq
      clear hhB
      have k1B := fB _ _ _ k1 id
      have kJB := kJ.fr fB (fun x hx => hx.elim)
      have krB := kJB.2.1
      refine wa_astore_n hX (i := 3) dX12_bases_37 rfl (by first | rfl | assumption) ?_
      dsimp only [List.set]
      refine wi_iconst hX dX12_bases_38 ?_
      refine wa_istore hX dX12_bases_39 (by first | rfl | assumption) ?_
      dsimp only [List.set]
      refine WA.heap (h2 := hset hB ib (136, aI .boolean 1024 (fun s => ((b2n (anyB (fun j => w j == s) 0) : Nat) : Int)))) (hset_self i1).symm ?_
      refine WA.eq rfl (by rw [show (1 : Int) = ((b2n (allB (fun k => decide (w k < 2 ^ e)) 0) : Nat) : Int) from rfl]; rfl) rfl (WA.loop (σ := Nat) (fun k => c - k) (fun k => k ≤ c) (fun k => hset hB ib (136, aI .boolean 1024 (fun s => ((b2n (anyB (fun j => w j == s) k) : Nat) : Int)))) (fun k => [.val (.ref a), .val (I (e : Int)), .val (I ((b2n (allB (fun k => decide (w k < 2 ^ e)) k) : Nat) : Int)), .val (.ref ib), .val (I (k : Nat)), .unset, .unset, .unset]) ?_ 0 (Nat.zero_le _))
      intro k hk ih
      have hwk := hw k
      have hst : allB (fun k => decide (w k < 2 ^ e)) (k + 1) = (allB (fun k => decide (w k < 2 ^ e)) k && decide (w k < 2 ^ e)) := rfl
      have fE : Fr (fun x => x = 136) hB (hset hB ib (136, aI .boolean 1024 (fun s => ((b2n (anyB (fun j => w j == s) k) : Nat) : Int)))) := Fr.hset Fr.rf i1 rfl
      have k1E := fE _ _ _ k1B (by decide)
      have kJE := kJB.fr fE (fun x hx => by omega)
      have krE := kJE.2.1
      have ibE : (hset hB ib (136, aI .boolean 1024 (fun s => ((b2n (anyB (fun j => w j == s) k) : Nat) : Int)))) ib = some (136, aI .boolean 1024 (fun s => ((b2n (anyB (fun j => w j == s) k) : Nat) : Int))) := hset_eq
      have t72 : ∀ v : Bool, k < c → v = allB (fun k => decide (w k < 2 ^ e)) (k + 1) → WA X (hset hB ib (136, aI .boolean 1024 (fun s => ((b2n (anyB (fun j => w j == s) k) : Nat) : Int)))) r1 r2 72 [.val (.ref a), .val (I (e : Int)), .val (I ((b2n (allB (fun k => decide (w k < 2 ^ e)) k) : Nat) : Int)), .val (.ref ib), .val (I (k : Nat)), .unset, .unset, .unset] [I ((b2n v : Nat) : Int)] := by
        intro v hkc hv
        subst hv
        refine wa_istore_n hX (i := 2) dX12_bases_72 rfl (by first | rfl | assumption) ?_
        dsimp only [List.set]
        refine wa_aload_n hX (i := 3) dX12_bases_73 rfl rfl ?_
        refine wa_aload_n hX (i := 0) dX12_bases_74 rfl rfl ?_
        refine wa_get hX 2 (by assumption) (by rfl) (by decide +kernel) dX12_bases_75 ?_
        refine wa_iload hX dX12_bases_78 rfl ?_
        refine wi_iaload hX (by assumption) (by omega) (by omega) (by omega) dX12_bases_80 ?_
        rw [Int.toNat_natCast]
        refine wi_iconst hX dX12_bases_81 ?_
        refine wi_zastore hX ibE (by omega) (by omega) (by omega) (by rfl) dX12_bases_82 ?_
        rw [hset_hset, Int.toNat_natCast, bas_up]
        refine wi_iinc hX dX12_bases_83 rfl ?_
        dsimp only [List.set]
        refine wa_goto hX (tgt := 41) dX12_bases_86 (by decide) ?_
        exact ih (k + 1) (by omega) (by omega)
      refine wa_iload hX dX12_bases_41 rfl ?_
      refine wa_aload_n hX (i := 0) dX12_bases_43 rfl rfl ?_
      refine wa_get hX 1 (by assumption) (by rfl) (by decide +kernel) dX12_bases_44 ?_
      refine wi_icmp_ge hX (tgt := 89) dX12_bases_47 (by decide) (by omega) (by omega) (fun c47 => ?_) (fun c47 => ?_)
      · skip
        have hkc : k = c := by omega
        have hal : allB (fun k => decide (w k < 2 ^ e)) k = true ↔ ∀ j, j < c → w j < 2 ^ e := by
          rw [hkc, allB_iff]
          exact ⟨fun z j hj => of_decide_eq_true (z j hj), fun z j hj => decide_eq_true (z j hj)⟩
        have kbE := kJE.2.2.1
        refine WA.hgq (fun hE hhE => ?_)
        rw [← hhE] at fE k1E kJE krE ibE kbE
        generalize allB (fun k => decide (w k < 2 ^ e)) k = rr at hal ⊢
        rw [hkc]
        rw [hkc] at ibE
        have t114 : ∀ (h4 : AH) (B2 : Bool) (x y z : Int), h4 a = some (120, oMod ((0 : Nat) : Int) (c : Int) row brk al wk us kp pt) → RJ (zA (cxS X)) DR h4 row brk al wk us kp pt c w m E R x y z → Fr (fun x => 120 ≤ x ∧ x ≤ 139) h h4 → h4 ib = some (136, aI .boolean 1024 (fun j => ((b2n (basB w c j) : Nat) : Int))) → ((B2 = true ∧ ¬ (∀ k, k < c → w k < 2 ^ e) ∧ x = -1 ∧ y = -1 ∧ z = -1) ∨ (B2 = true ∧ (∀ k, k < c → w k < 2 ^ e) ∧ ¬ evnP w c ∧ x = -1 ∧ y = -1 ∧ z = -1) ∨ (B2 = true ∧ (∀ k, k < c → w k < 2 ^ e) ∧ evnP w c ∧ ∃ s t u : Nat, BrkP (basB w c) s t u ∧ x = (s : Int) ∧ y = (t : Int) ∧ z = (u : Int)) ∨ (B2 = false ∧ (∀ k, k < c → w k < 2 ^ e) ∧ evnP w c ∧ xchO (basB w c) ∧ x = -1 ∧ y = -1 ∧ z = -1)) → WA X h4 r1 r2 114 [.val (.ref a), .val (I (e : Int)), .val (I ((b2n rr : Nat) : Int)), .val (.ref ib), .val (I (c : Nat)), .unset, .unset, .unset] [I ((b2n B2 : Nat) : Int), .ref a] := by
          intro h4 B2 x y z k1 kJ ff ibH hB2
          refine wi_iconst hX dX12_bases_114 ?_
          refine wa_callV hX (c_X12_fails hW d (th := 0) (k := 2) (b := B2) k1 (by omega) (by omega)) (by assumption) (by rfl) (by rfl) (by omega) (nA := 2) (by rfl) (by decide +kernel) rfl (by exact Nat.le_of_ble_eq_true rfl) dX12_bases_115 (fun r115 h115 p115 => ?_) (fun _ _ q => q.elim)
          obtain ⟨rfl, hh115⟩ := p115
          have f115 : Fr (fun x => x = 120) h4 h115 := by rw [hh115]; exact Fr.hset Fr.rf k1 rfl
          replace k1 : h115 a = some (120, oMod ((if (B2) = true ∧ (0 : Nat) = 0 then 2 else 0 : Nat) : Int) (c : Int) row brk al wk us kp pt) := by rw [hh115]; exact hset_eq
          replace kJ := kJ.fr f115 (fun x hx => by omega)
          replace ff := ff.trans (f115.mono (fun x hx => by omega))
          replace ibH := f115 _ _ _ ibH (by omega)
          clear hh115 f115
          rw [show ((B2) || (0 : Nat) != 0) = (B2) from Bool.or_false _]
          clear kr kb kwk kus kkp kpt ka ke kI kMat hc60 hw hm24 hMt
          obtain ⟨⟨hc60, hw, hm24, hMt⟩, kr, kb, kwk, kus, kkp, kpt, ed, N, P, ka, ke, kI, kMat⟩ := id kJ
          dsimp only [Option.toList, List.cons_append, List.nil_append]
          refine wi_if_ne hX (tgt := 146) dX12_bases_118 (by decide) (by exact b2n_inR _) (fun c118 => ?_) (fun c118 => ?_)
          · skip
            refine wi_iconst hX dX12_bases_146 ?_
            refine wa_iret hX dX12_bases_147 ?_
            have z9 := b2n_t c118
            rw [z9, if_pos ⟨rfl, rfl⟩] at k1
            refine ⟨ff.mono (fun x hx => by omega), Or.inr ⟨e, rfl, by omega, ?_⟩⟩
            rcases hB2 with ⟨_, q1, rfl, rfl, rfl⟩ | ⟨_, q1, q2, rfl, rfl, rfl⟩ | ⟨_, q1, q2, s, t, u, q3, rfl, rfl, rfl⟩ | ⟨q, _⟩
            · exact Or.inl ⟨q1, ⟨_, rfl⟩, row, brk, al, wk, us, kp, pt, k1, kJ⟩
            · exact Or.inr ⟨q1, Or.inl ⟨q2, ⟨_, rfl⟩, row, brk, al, wk, us, kp, pt, k1, kJ⟩⟩
            · exact Or.inr ⟨q1, Or.inr ⟨q2, Or.inl ⟨s, t, u, q3, ⟨_, rfl⟩, row, brk, al, wk, us, kp, pt, k1, kJ⟩⟩⟩
            · rw [q] at z9; cases z9
          · skip
            have hv118 := b2n_f c118
            rw [hv118, if_neg (fun z => Bool.false_ne_true z.1)] at k1
            obtain ⟨hR2, hE2, hX2, rfl, rfl, rfl⟩ : (∀ k, k < c → w k < 2 ^ e) ∧ evnP w c ∧ xchO (basB w c) ∧ x = -1 ∧ y = -1 ∧ z = -1 := by
              rcases hB2 with ⟨q, _⟩ | ⟨q, _⟩ | ⟨q, _⟩ | ⟨_, q⟩
              · rw [q] at hv118; cases hv118
              · rw [q] at hv118; cases hv118
              · rw [q] at hv118; cases hv118
              · exact q
            refine wa_aload_n hX (i := 0) dX12_bases_121 rfl rfl ?_
            refine wa_aload_n hX (i := 0) dX12_bases_122 rfl rfl ?_
            refine wa_get hX 4 (by assumption) (by rfl) (by decide +kernel) dX12_bases_123 ?_
            have t139 : WA X h115 r1 r2 139 [.val (.ref a), .val (I (e : Int)), .val (I ((b2n rr : Nat) : Int)), .val (.ref ib), .val (I (c : Nat)), .unset, .unset, .unset] [I ((b2n (m == 24) : Nat) : Int), .ref a] := by
              refine wi_iconst hX dX12_bases_139 ?_
              refine wa_callV hX (c_X12_fails hW d (th := 0) (k := 3) (b := (m == 24)) k1 (by omega) (by omega)) (by assumption) (by rfl) (by rfl) (by omega) (nA := 2) (by rfl) (by decide +kernel) rfl (by exact Nat.le_of_ble_eq_true rfl) dX12_bases_140 (fun r140 h140 p140 => ?_) (fun _ _ q => q.elim)
              obtain ⟨rfl, hh140⟩ := p140
              have f140 : Fr (fun x => x = 120) h115 h140 := by rw [hh140]; exact Fr.hset Fr.rf k1 rfl
              replace k1 : h140 a = some (120, oMod ((if ((m == 24)) = true ∧ (0 : Nat) = 0 then 3 else 0 : Nat) : Int) (c : Int) row brk al wk us kp pt) := by rw [hh140]; exact hset_eq
              replace kJ := kJ.fr f140 (fun x hx => by omega)
              replace ff := ff.trans (f140.mono (fun x hx => by omega))
              replace ibH := f140 _ _ _ ibH (by omega)
              clear hh140 f140
              rw [show (((m == 24)) || (0 : Nat) != 0) = ((m == 24)) from Bool.or_false _]
              clear kr kb kwk kus kkp kpt ka ke kI kMat hc60 hw hm24 hMt
              obtain ⟨⟨hc60, hw, hm24, hMt⟩, kr, kb, kwk, kus, kkp, kpt, ed, N, P, ka, ke, kI, kMat⟩ := id kJ
              dsimp only [Option.toList, List.cons_append, List.nil_append]
              refine wi_if_eq hX (tgt := 148) dX12_bases_143 (by decide) (by exact b2n_inR _) (fun c143 => ?_) (fun c143 => ?_)
              · skip
                have hv143 := b2n_f c143
                rw [hv143, if_neg (fun z => Bool.false_ne_true z.1)] at k1
                have hmne : m ≠ 24 := beq_eq_false_iff_ne.mp hv143
                have hm9 : m < 24 := by omega
                refine wa_iload_n hX (i := 1) dX12_bases_148 rfl rfl ?_
                obtain ⟨hkk, hss⟩ := hroom ⟨⟨e, rfl, by omega, hR2, hE2, hX2⟩, hm9⟩
                refine WA.room (k2 := 2 + 2) (sl2 := 1064 + 1030) (by omega) (by omega) ?_
                refine wa_callS hX (c_X12_sized hW d (e := e) (by omega)) (by rfl) (by omega) (nA := 1) (by rfl) (by decide +kernel) rfl (by exact Nat.le_of_ble_eq_true rfl) dX12_bases_149 (fun r149 h149 p149 => ?_) (fun _ _ q => q.elim)
                obtain ⟨p, q, rfl, fS, p1, q1⟩ := p149
                have k1S := fS _ _ _ k1 id
                have kJS := kJ.fr fS (fun x hx => hx.elim)
                dsimp only [Option.toList, List.cons_append, List.nil_append]
                refine wa_astore hX dX12_bases_152 (by first | rfl | assumption) ?_
                dsimp only [List.set]
                refine wi_sipush hX dX12_bases_154 (by decide) ?_
                refine WA.room (k2 := 1 + 1) (sl2 := 40 + 1024) (by omega) (by omega) ?_
                refine wa_newa hX 1024 135 .boolean (.inl (fun j => Int32.ofInt ((fun _ => 0 : Nat → Int) j))) rfl (by rfl) (by omega) (fun cA => by rfl) (by decide +kernel) dX12_bases_157 (fun fb fbn => ?_)
                refine WA.hgq (fun hD hhD => ?_)
                have fD : Fr (fun _ => False) h149 hD := by rw [hhD]; exact fun b lb ob z _ => hset_new fbn z
                have n1 : hD fb = some (135, aI .boolean 1024 (fun _ => 0)) := by rw [hhD]; exact hset_eq
                clear hhD
                replace p1 := fD _ _ _ p1 id
                replace q1 := fD _ _ _ q1 id
                replace k1S := fD _ _ _ k1S id
                replace kJS := kJS.fr fD (fun x hx => hx.elim)
                replace fS := fS.trans fD
                have i2 := fS _ _ _ ibH id
                refine wa_astore hX dX12_bases_159 (by first | rfl | assumption) ?_
                dsimp only [List.set]
                refine wi_iconst hX dX12_bases_161 ?_
                refine wa_istore hX dX12_bases_162 (by first | rfl | assumption) ?_
                dsimp only [List.set]
                refine WA.loop (σ := Nat × AH × (Nat → Int) × Slot) (fun z => 1024 - z.1) (fun z => z.1 ≤ 1024 ∧ (∀ s, z.2.2.1 s = ((b2n (anyB (fun t => basB w c t && (s &&& t == s)) z.1) : Nat) : Int)) ∧ Fr (fun x => x = 135) hD z.2.1 ∧ z.2.1 fb = some (135, aI .boolean 1024 z.2.2.1) ∧ okS [z.2.2.2] 0 = true) (fun z => z.2.1) (fun z => [.val (.ref a), .val (I (e : Int)), .val (I ((b2n rr : Nat) : Int)), .val (.ref ib), .val (.ref p), .val (.ref fb), .val (I (z.1 : Nat)), z.2.2.2]) ?_ (0, hD, (fun _ => 0), .unset) ⟨Nat.zero_le _, fun s => rfl, Fr.rf, n1, rfl⟩
                rintro ⟨z, h2, F, u7⟩ ⟨hz, hF, f2, n2, hu7⟩ ih
                dsimp only at hz hF f2 n2 hu7 ⊢
                have i3 := f2 _ _ _ i2 (by decide)
                have t176 : ∀ (h3 : AH) (u : Nat) (F3 : Nat → Int), z < 1024 → u ≤ z + 1 → (u ≠ 0 → (u - 1) &&& z = u - 1) → (basB w c z = false → u = z + 1) → Fr (fun x => x = 135) hD h3 → h3 fb = some (135, aI .boolean 1024 F3) → (∀ s, F3 s = ((b2n (anyB (fun t => basB w c t && (s &&& t == s)) z || (decide (u ≤ s) && (s &&& z == s))) : Nat) : Int)) → WA X h3 1 40 176 [.val (.ref a), .val (I (e : Int)), .val (I ((b2n rr : Nat) : Int)), .val (.ref ib), .val (.ref p), .val (.ref fb), .val (I (z : Nat)), .val (I ((u : Int) - 1))] [] := by
                  intro h3 u F3 hzl hu1 hu2 hu3 hf3 hn3 hF3
                  refine WA.loop (σ := Nat × AH × (Nat → Int)) (fun y => y.1) (fun y => y.1 ≤ z + 1 ∧ (y.1 ≠ 0 → (y.1 - 1) &&& z = y.1 - 1) ∧ (basB w c z = false → y.1 = z + 1) ∧ Fr (fun x => x = 135) hD y.2.1 ∧ y.2.1 fb = some (135, aI .boolean 1024 y.2.2) ∧ (∀ s, y.2.2 s = ((b2n (anyB (fun t => basB w c t && (s &&& t == s)) z || (decide (y.1 ≤ s) && (s &&& z == s))) : Nat) : Int))) (fun y => y.2.1) (fun y => [.val (.ref a), .val (I (e : Int)), .val (I ((b2n rr : Nat) : Int)), .val (.ref ib), .val (.ref p), .val (.ref fb), .val (I (z : Nat)), .val (I ((y.1 : Int) - 1))]) ?_ (u, h3, F3) ⟨hu1, hu2, hu3, hf3, hn3, hF3⟩
                  clear hu1 hu2 hu3 hf3 hn3 hF3 h3 u F3
                  rintro ⟨u, h3, F3⟩ ⟨hu1, hu2, hu3, hf3, hn3, hF3⟩ ih2
                  dsimp only at hu1 hu2 hu3 hf3 hn3 hF3 ⊢
                  have i4 := hf3 _ _ _ i2 (by decide)
                  have t215 : (basB w c z = false ∨ u = 0) → WA X h3 1 40 215 [.val (.ref a), .val (I (e : Int)), .val (I ((b2n rr : Nat) : Int)), .val (.ref ib), .val (.ref p), .val (.ref fb), .val (I (z : Nat)), .val (I ((u : Int) - 1))] [] := by
                    intro hor
                    refine wi_iinc hX dX12_bases_215 rfl ?_
                    dsimp only [List.set]
                    refine wa_goto hX (tgt := 164) dX12_bases_218 (by decide) ?_
                    refine ih (z + 1, h3, F3, .val (I ((u : Int) - 1))) ⟨by show z + 1 ≤ 1024; omega, fun s => ?_, hf3, hn3, rfl⟩ (by show 1024 - (z + 1) < 1024 - z; omega)
                    show F3 s = _
                    rw [hF3 s, anyB_succ]
                    rcases hor with hb | hb
                    · have hu4 := hu3 hb
                      rw [hb, Bool.false_and]
                      by_cases g : s &&& z = s
                      · have : s ≤ z := by rw [← g]; exact Nat.and_le_right
                        rw [decide_eq_false (show ¬ u ≤ s by omega), Bool.false_and]
                      · rw [show (s &&& z == s) = false from beq_eq_false_iff_ne.mpr g, Bool.and_false]
                    · have hbt : basB w c z = true := by
                        cases hq : basB w c z
                        · have := hu3 hq; omega
                        · rfl
                      rw [hbt, hb, decide_eq_true (Nat.zero_le s), Bool.true_and]
                  rcases Nat.eq_zero_or_pos u with hu0 | hu0
                  · have hu9 := hu0
                    refine wa_aload_n hX (i := 3) dX12_bases_176 rfl rfl ?_
                    refine wa_iload hX dX12_bases_177 rfl ?_
                    refine wi_zaload hX i4 (by omega) (by omega) (by omega) dX12_bases_179 ?_
                    rw [Int.toNat_natCast]
                    refine wi_if_eq hX (tgt := 215) dX12_bases_180 (by decide) (by exact b2n_inR _) (fun c180 => ?_) (fun c180 => ?_)
                    · skip
                      exact t215 (Or.inr hu0)
                    · skip
                      refine wa_iload hX dX12_bases_183 rfl ?_
                      refine wi_if_lt hX (tgt := 215) dX12_bases_185 (by decide) (by omega) (fun c185 => ?_) (fun c185 => ?_)
                      · skip
                        exact t215 (Or.inr hu0)
                      · skip
                        exfalso; omega
                  · obtain ⟨t, rfl⟩ : ∃ t, u = t + 1 := ⟨u - 1, by omega⟩
                    have htz : t &&& z = t := by
                      have := hu2 (by omega)
                      rw [Nat.add_sub_cancel] at this
                      exact this
                    have e9 : (((t + 1 : Nat) : Int) - 1) = (t : Int) := by omega
                    rw [e9] at t215 ⊢
                    have t210 : ∀ (h4 : AH) (u' : Nat), u' ≤ t → basB w c z = true → (u' ≠ 0 → (u' - 1) &&& z = u' - 1) → (∀ q, q &&& z = q → u' ≤ q → q < t → False) → Fr (fun x => x = 135) hD h4 → h4 fb = some (135, aI .boolean 1024 (up F3 t ((b2n true : Nat) : Int))) → WA X h4 1 40 210 [.val (.ref a), .val (I (e : Int)), .val (I ((b2n rr : Nat) : Int)), .val (.ref ib), .val (.ref p), .val (.ref fb), .val (I (z : Nat)), .val (I (t : Int))] [I ((u' : Int) - 1)] := by
                      intro h4 u' hu4 hbt hu5 hu6 hf4 hn4
                      refine wa_istore hX dX12_bases_210 (by first | rfl | assumption) ?_
                      dsimp only [List.set]
                      refine wa_goto hX (tgt := 176) dX12_bases_212 (by decide) ?_
                      refine ih2 (u', h4, up F3 t ((b2n true : Nat) : Int)) ⟨by show u' ≤ z + 1; omega, hu5, fun q => (by rw [hbt] at q; cases q), hf4, hn4, fun s => ?_⟩ (by show u' < t + 1; omega)
                      show up F3 t ((b2n true : Nat) : Int) s = _
                      by_cases g : s = t
                      · subst g
                        rw [up_s, decide_eq_true (show u' ≤ s by omega), Bool.true_and, show (s &&& z == s) = true from beq_iff_eq.mpr htz, Bool.or_true]
                      · rw [up_n g, hF3 s]
                        by_cases g2 : s &&& z = s
                        · rw [show (s &&& z == s) = true from beq_iff_eq.mpr g2, Bool.and_true, Bool.and_true]
                          by_cases g3 : t + 1 ≤ s
                          · rw [decide_eq_true g3, decide_eq_true (show u' ≤ s by omega)]
                          · have g4 : ¬ u' ≤ s := fun q => hu6 s g2 q (by omega)
                            rw [decide_eq_false g3, decide_eq_false g4]
                        · rw [show (s &&& z == s) = false from beq_eq_false_iff_ne.mpr g2, Bool.and_false, Bool.and_false]
                    refine wa_aload_n hX (i := 3) dX12_bases_176 rfl rfl ?_
                    refine wa_iload hX dX12_bases_177 rfl ?_
                    refine wi_zaload hX i4 (by omega) (by omega) (by omega) dX12_bases_179 ?_
                    rw [Int.toNat_natCast]
                    refine wi_if_eq hX (tgt := 215) dX12_bases_180 (by decide) (by exact b2n_inR _) (fun c180 => ?_) (fun c180 => ?_)
                    · skip
                      first
                        | exact t215 (Or.inl (b2n_f c180))
                        | (exfalso; omega)
                    · skip
                      have hbt := b2n_t c180
                      refine wa_iload hX dX12_bases_183 rfl ?_
                      refine wi_if_lt hX (tgt := 215) dX12_bases_185 (by decide) (by omega) (fun c185 => ?_) (fun c185 => ?_)
                      · skip
                        first
                          | exact t215 (Or.inl (b2n_f c180))
                          | (exfalso; omega)
                      · skip
                        refine wa_aload hX dX12_bases_188 rfl ?_
                        refine wa_iload hX dX12_bases_190 rfl ?_
                        refine wi_iconst hX dX12_bases_192 ?_
                        refine wi_zastore hX hn3 (by omega) (by omega) (by omega) (by rfl) dX12_bases_193 ?_
                        rw [Int.toNat_natCast]
                        refine WA.hgq (fun h4 hh4 => ?_)
                        have f4 : Fr (fun x => x = 135) h3 h4 := by rw [hh4]; exact Fr.hset Fr.rf hn3 rfl
                        have n4 : h4 fb = some (135, aI .boolean 1024 (up F3 t ((b2n true : Nat) : Int))) := by rw [hh4]; exact hset_eq
                        clear hh4
                        refine wa_iload hX dX12_bases_194 rfl ?_
                        refine wi_if_ne hX (tgt := 203) dX12_bases_196 (by decide) (by omega) (fun c196 => ?_) (fun c196 => ?_)
                        · skip
                          refine wa_iload hX dX12_bases_203 rfl ?_
                          have hta : (t - 1) &&& z ≤ t - 1 := Nat.and_le_left
                          refine wi_iconst hX dX12_bases_205 ?_
                          refine wi_isub hX dX12_bases_206 ?_
                          refine wa_iload hX dX12_bases_207 rfl ?_
                          rw [show ((t : Int) - 1) = ((t - 1 : Nat) : Int) by omega]
                          refine wn_iand hX dX12_bases_209 (by rfl) (by rfl) ?_
                          first
                            | (refine WA.eq (st2 := [I (((0 : Nat) : Int) - 1)]) rfl rfl rfl (t210 h4 0 (by omega) hbt (fun q => absurd rfl q) (fun q _ _ h => ?_) (hf3.trans f4) n4)
                               omega)
                            | (refine WA.eq (st2 := [I (((((t - 1) &&& z) + 1 : Nat) : Int) - 1)]) rfl rfl (by rw [show ((((t - 1) &&& z) + 1 : Nat) : Int) - 1 = (((t - 1) &&& z : Nat) : Int) by omega]) (t210 h4 (((t - 1) &&& z) + 1) (by omega) hbt (fun _ => ?_) (fun q hq h1 h3 => ?_) (hf3.trans f4) n4)
                               · rw [Nat.add_sub_cancel, Nat.and_assoc, Nat.and_self]
                               · have := sub_pred t z q htz hq h3
                                 omega)
                        · skip
                          refine wi_iconst hX dX12_bases_199 ?_
                          refine wa_goto hX (tgt := 210) dX12_bases_200 (by decide) ?_
                          first
                            | (refine WA.eq (st2 := [I (((0 : Nat) : Int) - 1)]) rfl rfl rfl (t210 h4 0 (by omega) hbt (fun q => absurd rfl q) (fun q _ _ h => ?_) (hf3.trans f4) n4)
                               omega)
                            | (refine WA.eq (st2 := [I (((((t - 1) &&& z) + 1 : Nat) : Int) - 1)]) rfl rfl (by rw [show ((((t - 1) &&& z) + 1 : Nat) : Int) - 1 = (((t - 1) &&& z : Nat) : Int) by omega]) (t210 h4 (((t - 1) &&& z) + 1) (by omega) hbt (fun _ => ?_) (fun q hq h1 h3 => ?_) (hf3.trans f4) n4)
                               · rw [Nat.add_sub_cancel, Nat.and_assoc, Nat.and_self]
                               · have := sub_pred t z q htz hq h3
                                 omega)
                refine wa_iload hX dX12_bases_164 rfl ?_
                refine wi_sipush hX dX12_bases_166 (by decide) ?_
                refine wi_icmp_ge hX (tgt := 221) dX12_bases_169 (by decide) (by omega) (by omega) (fun c169 => ?_) (fun c169 => ?_)
                · skip
                  have hz9 : z = 1024 := by omega
                  have n3 : h2 fb = some (135, aI .boolean 1024 (fun s => ((b2n (freB w c s) : Nat) : Int))) := by
                    rw [n2, show F = (fun s => ((b2n (freB w c s) : Nat) : Int)) from funext (fun s => by rw [hF s, hz9]; rfl)]
                  have p3 := f2 _ _ _ p1 (by decide)
                  have q3 := f2 _ _ _ q1 (by decide)
                  have k3 := f2 _ _ _ k1S (by decide)
                  have kJ3 := kJS.fr f2 (fun x hx => by omega)
                  refine wa_aload hX dX12_bases_221 rfl ?_
                  refine wa_aload hX dX12_bases_223 rfl ?_
                  refine wa_callV hX (c_X11_fill hW d (G0 := fun _ => 0) (fr := freB w c) p3 q3 n3 (by decide) (by omega) (fun _ => Nat.zero_le _)) (by assumption) (by rfl) (by rfl) (by omega) (nA := 1) (by rfl) (by decide +kernel) rfl (by exact Nat.le_of_ble_eq_true rfl) dX12_bases_225 (fun r225 h225 p225 => ?_) (fun _ _ q => q.elim)
                  obtain ⟨rfl, hh225⟩ := p225
                  have fH : Fr (fun x => x = 134) h2 h225 := by rw [hh225]; exact Fr.hset Fr.rf q3 rfl
                  have q4 : h225 q = some (134, aV 1024 (basM w c e)) := by rw [hh225]; exact hset_eq
                  have p4 := fH _ _ _ p3 (by decide)
                  have k4 := fH _ _ _ k3 (by decide)
                  have kJ4 := kJ3.fr fH (fun x hx => by omega)
                  clear hh225
                  dsimp only [Option.toList, List.cons_append, List.nil_append]
                  refine wa_aload_n hX (i := 0) dX12_bases_228 rfl rfl ?_
                  refine wi_iconst hX dX12_bases_229 ?_
                  refine wa_put hX 1 k4 (Nat.le_of_ble_eq_true rfl) (by decide +kernel) (by rfl) (by rfl) (by rfl) dX12_bases_230 ?_
                  refine WA.heap (h2 := hset h225 a (120, oMod ((0 : Nat) : Int) ((0 : Nat) : Int) row brk al wk us kp pt)) rfl ?_
                  refine WA.hgq (fun hG hhG => ?_)
                  have fG : Fr (fun x => x = 120) h225 hG := by rw [hhG]; exact Fr.hset Fr.rf k4 rfl
                  have k5 : hG a = some (120, oMod ((0 : Nat) : Int) ((0 : Nat) : Int) row brk al wk us kp pt) := by rw [hhG]; exact hset_eq
                  have p5 := fG _ _ _ p4 (by decide)
                  have q5 := fG _ _ _ q4 (by decide)
                  have kJ5 := kJ4.fr fG (fun x hx => by omega)
                  replace kJ5 : RJ (zA (cxS X)) DR hG row brk al wk us kp pt 0 w m E R (-1) (-1) (-1) := ⟨⟨Nat.zero_le _, kJ5.1.2⟩, kJ5.2⟩
                  clear hhG
                  refine wa_aload_n hX (i := 0) dX12_bases_233 rfl rfl ?_
                  refine wa_aload hX dX12_bases_234 rfl ?_
                  refine WA.room (k2 := 0 + 1) (sl2 := 0 + 40) (by omega) (by omega) ?_
                  refine wa_callV hX (c_X12_add hW d (e := e) (rk := basM w c e) k5 kJ5 hm9 p5 q5 (fun s hs => rfl) (hN e (by omega) hR2 hE2 hX2)) (by assumption) (by rfl) (by rfl) (by omega) (nA := 1) (by rfl) (by decide +kernel) rfl (by exact Nat.le_of_ble_eq_true rfl) dX12_bases_236 (fun r236 h236 p236 => ?_) (fun _ _ q => q.elim)
                  obtain ⟨rfl, f9, kJ9⟩ := p236
                  have k19 := f9 _ _ _ k5 (by omega)
                  dsimp only [Option.toList, List.cons_append, List.nil_append]
                  refine wa_iret hX dX12_bases_239 ?_
                  exact ⟨(((((ff.mono (fun x hx => by omega)).trans (fS.mono (fun x hx => hx.elim))).trans (f2.mono (fun x hx => by omega))).trans (fH.mono (fun x hx => by omega))).trans (fG.mono (fun x hx => by omega))).trans (f9.mono (fun x hx => by omega)), Or.inr ⟨e, rfl, by omega, Or.inr ⟨hR2, Or.inr ⟨hE2, Or.inr ⟨hX2, Or.inr ⟨hmne, rfl, row, brk, al, wk, us, kp, pt, k19, kJ9⟩⟩⟩⟩⟩⟩
                · skip
                  refine wa_iload hX dX12_bases_172 rfl ?_
                  refine wa_istore hX dX12_bases_174 (by first | rfl | assumption) ?_
                  dsimp only [List.set]
                  refine WA.eq rfl (by rw [show (z : Int) = ((z + 1 : Nat) : Int) - 1 by omega]) rfl (t176 h2 (z + 1) F (by omega) (Nat.le_refl _) (fun _ => by rw [Nat.add_sub_cancel, Nat.and_self]) (fun _ => rfl) f2 n2 (fun s => ?_))
                  rw [hF s]
                  by_cases g : s &&& z = s
                  · have : s ≤ z := by rw [← g]; exact Nat.and_le_right
                    rw [decide_eq_false (show ¬ z + 1 ≤ s by omega), Bool.false_and, Bool.or_false]
                  · rw [show (s &&& z == s) = false from beq_eq_false_iff_ne.mpr g, Bool.and_false, Bool.or_false]
              · skip
                refine wi_iconst hX dX12_bases_146 ?_
                refine wa_iret hX dX12_bases_147 ?_
                have z9 := b2n_t c143
                rw [z9, if_pos ⟨rfl, rfl⟩] at k1
                exact ⟨ff.mono (fun x hx => by omega), Or.inr ⟨e, rfl, by omega, Or.inr ⟨hR2, Or.inr ⟨hE2, Or.inr ⟨hX2, Or.inl ⟨beq_iff_eq.mp z9, ⟨_, rfl⟩, row, brk, al, wk, us, kp, pt, k1, kJ⟩⟩⟩⟩⟩⟩
            refine wa_callV hX (c_AL_size hW d ka) (by assumption) (by rfl) (by rfl) (by omega) (nA := 0) (by rfl) (by decide +kernel) rfl (by exact Nat.le_of_ble_eq_true rfl) dX12_bases_126 (fun r126 h126 p126 => ?_) (fun _ _ q => q.elim)
            obtain ⟨rfl, qq126⟩ := p126; subst h126
            dsimp only [Option.toList, List.cons_append, List.nil_append]
            refine wi_bipush hX dX12_bases_129 (by decide) ?_
            refine wi_icmp_ne hX (tgt := 138) dX12_bases_131 (by decide) (by omega) (by omega) (fun c131 => ?_) (fun c131 => ?_)
            · skip
              refine wi_iconst hX dX12_bases_138 ?_
              refine WA.eq rfl rfl ?_ t139
              first
                | (rw [show (m == 24) = true from beq_iff_eq.mpr (by omega)]; rfl)
                | (rw [show (m == 24) = false from beq_eq_false_iff_ne.mpr (by omega)]; rfl)
            · skip
              refine wi_iconst hX dX12_bases_134 ?_
              refine wa_goto hX (tgt := 139) dX12_bases_135 (by decide) ?_
              refine WA.eq rfl rfl ?_ t139
              first
                | (rw [show (m == 24) = true from beq_iff_eq.mpr (by omega)]; rfl)
                | (rw [show (m == 24) = false from beq_eq_false_iff_ne.mpr (by omega)]; rfl)
        have ff9 : Fr (fun x => 120 ≤ x ∧ x ≤ 139) h hE := ((ff.mono (fun x hx => by omega)).trans (fB.mono (fun x hx => hx.elim))).trans (fE.mono (fun x hx => by omega))
        refine wa_aload_n hX (i := 0) dX12_bases_89 rfl rfl ?_
        refine wi_iconst hX dX12_bases_90 ?_
        refine wi_iconst hX dX12_bases_91 ?_
        refine wi_iconst hX dX12_bases_92 ?_
        refine wa_callV hX (c_X12_breaks hW d k1E kbE (by decide) (-1) (-1) (-1)) (by assumption) (by rfl) (by rfl) (by omega) (nA := 3) (by rfl) (by decide +kernel) rfl (by exact Nat.le_of_ble_eq_true rfl) dX12_bases_93 (fun r93 h93 p93 => ?_) (fun _ _ q => q.elim)
        obtain ⟨rfl, hh93⟩ := p93
        have fK : Fr (fun x => x = 122) hE h93 := by rw [hh93]; exact Fr.hset Fr.rf kbE rfl
        have kbK : h93 brk = some (122, brkA (-1) (-1) (-1)) := by rw [hh93]; exact hset_eq
        have k1K := fK _ _ _ k1E (by decide)
        have ibK := fK _ _ _ ibE (by decide)
        have kJK := kJE.brk fK kbK
        have krK := kJK.2.1
        have ffK := ff9.trans (fK.mono (fun x hx => by omega))
        clear hh93
        dsimp only [Option.toList, List.cons_append, List.nil_append]
        refine wa_aload_n hX (i := 0) dX12_bases_96 rfl rfl ?_
        refine wa_iload_n hX (i := 2) dX12_bases_97 rfl rfl ?_
        refine wi_if_eq hX (tgt := 109) dX12_bases_98 (by decide) (by exact b2n_inR _) (fun c98 => ?_) (fun c98 => ?_)
        · skip
          refine wi_iconst hX dX12_bases_109 ?_
          refine wa_goto hX (tgt := 114) dX12_bases_110 (by decide) ?_
          first
            | (have q := b2n_f c98
               exact WA.eq rfl rfl rfl (t114 h93 true (-1) (-1) (-1) k1K kJK ffK ibK (Or.inl ⟨rfl, fun z => (by rw [hal.mpr z] at q; cases q), rfl, rfl, rfl⟩)))
            | (have q := b2n_t c106
               rw [q] at hv
               exact WA.eq rfl rfl rfl (t114 h103 false x y z k1V kJV ffV ibV hv))
            | (have q := b2n_f c106
               rw [q] at hv
               exact WA.eq rfl rfl rfl (t114 h103 true x y z k1V kJV ffV ibV hv))
        · skip
          refine wa_aload_n hX (i := 0) dX12_bases_101 rfl rfl ?_
          refine wa_aload_n hX (i := 3) dX12_bases_102 rfl rfl ?_
          refine wa_callV hX (c_X12_areBases hW d (B := basB w c) k1K krK hc60 hw kbK (by decide) ibK) (by assumption) (by rfl) (by rfl) (by omega) (nA := 1) (by rfl) (by decide +kernel) rfl (by exact Nat.le_of_ble_eq_true rfl) dX12_bases_103 (fun r103 h103 p103 => ?_) (fun _ _ q => q.elim)
          obtain ⟨v, x, y, z, rfl, k1V, kJV, ffV, ibV, hv⟩ : ∃ (v : Bool) (x y z : Int), r103 = some (I ((b2n v : Nat) : Int)) ∧ h103 a = some (120, oMod ((0 : Nat) : Int) (c : Int) row brk al wk us kp pt) ∧ RJ (zA (cxS X)) DR h103 row brk al wk us kp pt c w m E R x y z ∧ Fr (fun x => 120 ≤ x ∧ x ≤ 139) h h103 ∧ h103 ib = some (136, aI .boolean 1024 (fun j => ((b2n (basB w c j) : Nat) : Int))) ∧ (((!v) = true ∧ ¬ (∀ k, k < c → w k < 2 ^ e) ∧ x = -1 ∧ y = -1 ∧ z = -1) ∨ ((!v) = true ∧ (∀ k, k < c → w k < 2 ^ e) ∧ ¬ evnP w c ∧ x = -1 ∧ y = -1 ∧ z = -1) ∨ ((!v) = true ∧ (∀ k, k < c → w k < 2 ^ e) ∧ evnP w c ∧ ∃ s t u : Nat, BrkP (basB w c) s t u ∧ x = (s : Int) ∧ y = (t : Int) ∧ z = (u : Int)) ∨ ((!v) = false ∧ (∀ k, k < c → w k < 2 ^ e) ∧ evnP w c ∧ xchO (basB w c) ∧ x = -1 ∧ y = -1 ∧ z = -1)) := by
            have hR9 : ∀ j, j < c → w j < 2 ^ e := hal.mp (b2n_t c98)
            rcases p103 with ⟨z1, z2, z3, z4⟩ | ⟨z1, z3, z4⟩ | ⟨z1, s, t, u, z2, z3, z4⟩
            · rw [z4]
              exact ⟨true, -1, -1, -1, z3, k1K, kJK, ffK, ibK, Or.inr (Or.inr (Or.inr ⟨rfl, hR9, z1, z2, rfl, rfl, rfl⟩))⟩
            · rw [z4]
              exact ⟨false, -1, -1, -1, z3, k1K, kJK, ffK, ibK, Or.inr (Or.inl ⟨rfl, hR9, z1, rfl, rfl, rfl⟩)⟩
            · have fV : Fr (fun x => x = 122) h93 h103 := by rw [z4]; exact Fr.hset Fr.rf kbK rfl
              have kbV : h103 brk = some (122, brkA (s : Int) (t : Int) (u : Int)) := by rw [z4]; exact hset_eq
              exact ⟨false, _, _, _, z3, fV _ _ _ k1K (by decide), kJK.brk fV kbV, ffK.trans (fV.mono (fun x hx => by omega)), fV _ _ _ ibK (by decide), Or.inr (Or.inr (Or.inl ⟨rfl, hR9, z1, s, t, u, z2, rfl, rfl, rfl⟩))⟩
          clear p103
          dsimp only [Option.toList, List.cons_append, List.nil_append]
          refine wi_if_ne hX (tgt := 113) dX12_bases_106 (by decide) (by exact b2n_inR _) (fun c106 => ?_) (fun c106 => ?_)
          · skip
            refine wi_iconst hX dX12_bases_113 ?_
            first
              | (have q := b2n_f c98
                 exact WA.eq rfl rfl rfl (t114 h93 true (-1) (-1) (-1) k1K kJK ffK ibK (Or.inl ⟨rfl, fun z => (by rw [hal.mpr z] at q; cases q), rfl, rfl, rfl⟩)))
              | (have q := b2n_t c106
                 rw [q] at hv
                 exact WA.eq rfl rfl rfl (t114 h103 false x y z k1V kJV ffV ibV hv))
              | (have q := b2n_f c106
                 rw [q] at hv
                 exact WA.eq rfl rfl rfl (t114 h103 true x y z k1V kJV ffV ibV hv))
          · skip
            refine wi_iconst hX dX12_bases_109 ?_
            refine wa_goto hX (tgt := 114) dX12_bases_110 (by decide) ?_
            first
              | (have q := b2n_f c98
                 exact WA.eq rfl rfl rfl (t114 h93 true (-1) (-1) (-1) k1K kJK ffK ibK (Or.inl ⟨rfl, fun z => (by rw [hal.mpr z] at q; cases q), rfl, rfl, rfl⟩)))
              | (have q := b2n_t c106
                 rw [q] at hv
                 exact WA.eq rfl rfl rfl (t114 h103 false x y z k1V kJV ffV ibV hv))
              | (have q := b2n_f c106
                 rw [q] at hv
                 exact WA.eq rfl rfl rfl (t114 h103 true x y z k1V kJV ffV ibV hv))
      · skip
        refine wa_iload_n hX (i := 2) dX12_bases_50 rfl rfl ?_
        refine wi_if_eq hX (tgt := 71) dX12_bases_51 (by decide) (by exact b2n_inR _) (fun c51 => ?_) (fun c51 => ?_)
        · skip
          refine wi_iconst hX dX12_bases_71 ?_
          first
            | (have q := b2n_f c51
               exact WA.eq rfl rfl rfl (t72 false (by omega) (by rw [hst, q]; rfl)))
            | (have q := b2n_t c51
               exact WA.eq rfl rfl rfl (t72 true (by omega) (by rw [hst, q, decide_eq_true (show w k < 2 ^ e by omega)]; rfl)))
            | (have q := b2n_t c51
               exact WA.eq rfl rfl rfl (t72 false (by omega) (by rw [hst, q, decide_eq_false (show ¬ w k < 2 ^ e by omega)]; rfl)))
        · skip
          refine wa_aload_n hX (i := 0) dX12_bases_54 rfl rfl ?_
          refine wa_get hX 2 (by assumption) (by rfl) (by decide +kernel) dX12_bases_55 ?_
          refine wa_iload hX dX12_bases_58 rfl ?_
          refine wi_iaload hX (by assumption) (by omega) (by omega) (by omega) dX12_bases_60 ?_
          rw [Int.toNat_natCast]
          refine wi_iconst hX dX12_bases_61 ?_
          refine wa_iload_n hX (i := 1) dX12_bases_62 rfl rfl ?_
          refine wn_shl1 hX dX12_bases_63 (by rfl) (by omega) ?_
          refine wi_icmp_ge hX (tgt := 71) dX12_bases_64 (by decide) (by omega) (by omega) (fun c64 => ?_) (fun c64 => ?_)
          · skip
            refine wi_iconst hX dX12_bases_71 ?_
            first
              | (have q := b2n_f c51
                 exact WA.eq rfl rfl rfl (t72 false (by omega) (by rw [hst, q]; rfl)))
              | (have q := b2n_t c51
                 exact WA.eq rfl rfl rfl (t72 true (by omega) (by rw [hst, q, decide_eq_true (show w k < 2 ^ e by omega)]; rfl)))
              | (have q := b2n_t c51
                 exact WA.eq rfl rfl rfl (t72 false (by omega) (by rw [hst, q, decide_eq_false (show ¬ w k < 2 ^ e by omega)]; rfl)))
          · skip
            refine wi_iconst hX dX12_bases_67 ?_
            refine wa_goto hX (tgt := 72) dX12_bases_68 (by decide) ?_
            first
              | (have q := b2n_f c51
                 exact WA.eq rfl rfl rfl (t72 false (by omega) (by rw [hst, q]; rfl)))
              | (have q := b2n_t c51
                 exact WA.eq rfl rfl rfl (t72 true (by omega) (by rw [hst, q, decide_eq_true (show w k < 2 ^ e by omega)]; rfl)))
              | (have q := b2n_t c51
                 exact WA.eq rfl rfl rfl (t72 false (by omega) (by rw [hst, q, decide_eq_false (show ¬ w k < 2 ^ e by omega)]; rfl)))
    · skip
      refine wi_iconst hX dX12_bases_28 ?_
      refine wa_iret hX dX12_bases_29 ?_
      have z := b2n_t c25
      rw [z, if_pos ⟨rfl, rfl⟩] at k1
      refine ⟨ff.mono (fun x hx => by omega), Or.inl ⟨?_, ⟨_, rfl⟩, row, brk, al, wk, us, kp, pt, k1, kJ⟩⟩
      rw [Bool.not_eq_true', decide_eq_false_iff_not] at z
      exact z
  refine wa_callS hX (c_X12_in hW d (v := n) (lo := 0) (hi := 10) hn (by omega) (by omega)) (by rfl) (by omega) (nA := 3) (by rfl) (by decide +kernel) rfl (by exact Nat.le_of_ble_eq_true rfl) dX12_bases_10 (fun r10 h10 p10 => ?_) (fun _ _ q => q.elim)
  obtain ⟨rfl, qq10⟩ := p10; subst h10
  dsimp only [Option.toList, List.cons_append, List.nil_append]
  refine wi_if_ne hX (tgt := 20) dX12_bases_13 (by decide) (by exact b2n_inR _) (fun c13 => ?_) (fun c13 => ?_)
  · skip
    refine wi_iconst hX dX12_bases_20 ?_
    refine WA.eq rfl rfl ?_ t21
    first
      | (have q := b2n_t c13; rw [q]; rfl)
      | (have q := b2n_f c13; rw [q]; rfl)
  · skip
    refine wi_iconst hX dX12_bases_16 ?_
    refine wa_goto hX (tgt := 21) dX12_bases_17 (by decide) ?_
    refine WA.eq rfl rfl ?_ t21
    first
      | (have q := b2n_t c13; rw [q]; rfl)
      | (have q := b2n_f c13; rw [q]; rfl)
end C9f
