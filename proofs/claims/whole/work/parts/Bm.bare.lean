/-! The law: the cases with no wrapper; the cases whose answers are shares -/
section Bm
theorem lw_two {S0 : State} {h h1 h2 : AH} {x mo out oD sc n th : Nat} {f : Nat → Int} {g : Nat → Int64} {G : Nat → UInt64} {w : Nat → Nat} {c m : Nat} {E : Nat → Nat} {R : Nat → Nat → Nat} {br bf bs be b0 b1 b2 : Int} {D2 D3 : Nat → Bool} {so : Nat} (fr1 : Fr HF h h1) (fr2 : Fr (fun x => x = 120) h1 h2) (hI : HI h1 x w c m E R br bf bs be D2 D3 so) (hR : RI (zA S0) DRp h2 mo th c w m E R b0 b1 b2) (hB : BrR br bf bs be b0 b1 b2) (ho : h out = some (200, aL 1 g)) (hoD : h oD = some (201, aD 1 G)) (hsc : ScT S0 sc n f) : LST S0 h2 sc n f x mo out oD th g G (pC so D2) (pS so D2) := by
  have e0 := fr2 _ _ _ (fr1 _ _ _ ho HF200) (fun z => by omega)
  have e1 := fr2 _ _ _ (fr1 _ _ _ hoD (fun z => by have := z.2; omega)) (fun z => by omega)
  exact ⟨⟨w, c, m, E, R, br, bf, bs, be, D2, D3, so, b0, b1, b2, hI.fr fr2 (fun y hy => by omega), hR, hB, rfl, rfl⟩, e0, e1, hsc⟩
set_option maxHeartbeats 1000000 in
set_option maxRecDepth 100000 in
theorem w_erase {X : Cx} {d : Nat} {post : Option Value → AH → Prop} {px : String → AH → Prop} {h : AH} {k sl sc x mo out oD i0 n : Nat} {u6 u7 u8 : Slot} {f : Nat → Int} {th pc ps : Nat} {g : Nat → Int64} {G : Nat → UInt64} (hW : WOK (cxL X) (cxD X) (cxS X)) (hX : Ok X yL_law.cls cL_law 9 (some .boolean) yL_law.name (d + 20) post px) (hS : LST (cxS X) h sc n f x mo out oD th g G pc ps) (hf : ∀ j, inR (f j)) (hn : n ≤ 2560) (hb : i0 + 4 < n) (j6 : oc1 u6) (j7 : jk7 u7 u8) (K : LwK X k sl sc n f x mo out oD i0 pc ps) : WA X h (k + 65 + pc) (sl + 7400 + ps) 296 (lwL sc x mo out oD ((i0 : Nat) : Int) u6 u7 u8) [] := by
  obtain ⟨⟨w, c, m, E, R, br, bf, bs, be, D2, D3, so, b0, b1, b2, hI, hR, hB, rfl, rfl⟩, ho, hoD, hsc⟩ := hS
  obtain ⟨fs, hobj⟩ := hI.obj
  have hM := hI.mtr.2.2.2.2.2.2
  have hc60 := hI.mtr.1
  have hm24 := hI.mtr.2.2.1
  have hso := hI.mtr.2.2.2.1
  refine WA.room (k2 := (k + pC so D2) + 4) (sl2 := (sl + pS so D2) + 24) (by omega) (by omega) ?_
  refine wa_aload_n hX (i := 1) dL_law_296 rfl rfl ?_
  refine wa_callV hX (c_X10_erase hW 0 hI) hobj (by rfl) (by rfl) (by omega) (nA := 0) (by rfl) (by decide +kernel) rfl (by exact Nat.le_of_ble_eq_true rfl) dL_law_297 (fun r1 h1 p1 => ?_) (fun _ _ q => q.elim)
  obtain ⟨rfl, hI1, fr1⟩ := p1
  have hR1 := hR.fr fr1 (fun y hy z => by have := hy.2; omega)
  obtain ⟨row, brk, al, wk, us, kp, pt, hmo⟩ := hR1.obj
  dsimp only [Option.toList, List.cons_append, List.nil_append]
  refine WA.room (k2 := (k + pC so D2) + 0) (sl2 := (sl + pS so D2) + 0) (by omega) (by omega) ?_
  refine wa_aload_n hX (i := 2) dL_law_300 rfl rfl ?_
  refine wa_callV hX (c_X12_erase hW 0 hR1) hmo (by rfl) (by rfl) (by omega) (nA := 0) (by rfl) (by decide +kernel) rfl (by exact Nat.le_of_ble_eq_true rfl) dL_law_301 (fun r2 h2 p2 => ?_) (fun _ _ q => q.elim)
  obtain ⟨fr2, rfl, hR2⟩ := p2
  dsimp only [Option.toList, List.cons_append, List.nil_append]
  refine wi_icmp_eq hX (tgt := 3053) dL_law_304 (by omega) (inR_nat (by omega)) (inR_nat (by omega)) (fun _ => ?_) (fun z => absurd rfl z)
  exact K h2 0 g G _ _ _ _ _ (lw_two fr1 fr2 hI1 hR2 hB ho hoD hsc) (Nat.le_refl _) (Nat.le_refl _) j6 j7
set_option maxHeartbeats 1000000 in
set_option maxRecDepth 100000 in
theorem w_matroids {X : Cx} {d : Nat} {post : Option Value → AH → Prop} {px : String → AH → Prop} {h : AH} {k sl sc x mo out oD i0 n : Nat} {u6 u7 u8 : Slot} {f : Nat → Int} {th pc ps : Nat} {g : Nat → Int64} {G : Nat → UInt64} (hW : WOK (cxL X) (cxD X) (cxS X)) (hX : Ok X yL_law.cls cL_law 9 (some .boolean) yL_law.name (d + 20) post px) (hS : LST (cxS X) h sc n f x mo out oD th g G pc ps) (hf : ∀ j, inR (f j)) (hn : n ≤ 2560) (hb : i0 + 4 < n) (j6 : oc1 u6) (j7 : jk7 u7 u8) (K : LwK X k sl sc n f x mo out oD i0 pc ps) : WA X h (k + 65 + pc) (sl + 7400 + ps) 2896 (lwL sc x mo out oD ((i0 : Nat) : Int) u6 u7 u8) [] := by
  obtain ⟨⟨w, c, m, E, R, br, bf, bs, be, D2, D3, so, b0, b1, b2, hI, hR, hB, rfl, rfl⟩, ho, hoD, hsc⟩ := hS
  obtain ⟨fs, hobj⟩ := hI.obj
  have hM := hI.mtr.2.2.2.2.2.2
  have hc60 := hI.mtr.1
  have hm24 := hI.mtr.2.2.1
  have hso := hI.mtr.2.2.2.1
  refine WA.room (k2 := (k + pC so D2) + 4) (sl2 := (sl + pS so D2) + 24) (by omega) (by omega) ?_
  refine wa_aload_n hX (i := 1) dL_law_2896 rfl rfl ?_
  refine wa_callV hX (c_X10_matroids hW 0 hI) hobj (by rfl) (by rfl) (by omega) (nA := 0) (by rfl) (by decide +kernel) rfl (by exact Nat.le_of_ble_eq_true rfl) dL_law_2897 (fun r1 h1 p1 => ?_) (fun _ _ q => q.elim)
  obtain ⟨e9, rfl⟩ := p1
  have hI1 : HI h1 x w c m E R br bf bs be D2 D3 so := by rw [e9]; exact hI
  have fr1 : Fr HF h h1 := by rw [e9]; exact Fr.rf
  have hR1 := hR.fr fr1 (fun y hy z => by have := hy.2; omega)
  obtain ⟨row, brk, al, wk, us, kp, pt, hmo⟩ := hR1.obj
  dsimp only [Option.toList, List.cons_append, List.nil_append]
  refine WA.room (k2 := (k + pC so D2) + 0) (sl2 := (sl + pS so D2) + 0) (by omega) (by omega) ?_
  refine wa_aload_n hX (i := 2) dL_law_2900 rfl rfl ?_
  refine wa_callV hX (c_X12_matroids hW 0 hR1) hmo (by rfl) (by rfl) (by omega) (nA := 0) (by rfl) (by decide +kernel) rfl (by exact Nat.le_of_ble_eq_true rfl) dL_law_2901 (fun r2 h2 p2 => ?_) (fun _ _ q => q.elim)
  obtain ⟨fr2, rfl, hR2⟩ := p2
  dsimp only [Option.toList, List.cons_append, List.nil_append]
  refine wi_icmp_eq hX (tgt := 3053) dL_law_2904 (by omega) (inR_nat (by omega)) (inR_nat (by omega)) (fun _ => ?_) (fun z => absurd rfl z)
  exact K h2 0 g G _ _ _ _ _ (lw_two fr1 fr2 hI1 hR2 hB ho hoD hsc) (Nat.le_refl _) (Nat.le_refl _) j6 j7
set_option maxHeartbeats 1000000 in
set_option maxRecDepth 100000 in
theorem w_isSound {X : Cx} {d : Nat} {post : Option Value → AH → Prop} {px : String → AH → Prop} {h : AH} {k sl sc x mo out oD i0 n : Nat} {u6 u7 u8 : Slot} {f : Nat → Int} {th pc ps : Nat} {g : Nat → Int64} {G : Nat → UInt64} (hW : WOK (cxL X) (cxD X) (cxS X)) (hX : Ok X yL_law.cls cL_law 9 (some .boolean) yL_law.name (d + 20) post px) (hS : LST (cxS X) h sc n f x mo out oD th g G pc ps) (hf : ∀ j, inR (f j)) (hn : n ≤ 2560) (hb : i0 + 4 < n) (j6 : oc1 u6) (j7 : jk7 u7 u8) (K : LwK X k sl sc n f x mo out oD i0 pc ps) : WA X h (k + 65 + pc) (sl + 7400 + ps) 3040 (lwL sc x mo out oD ((i0 : Nat) : Int) u6 u7 u8) [] := by
  obtain ⟨⟨w, c, m, E, R, br, bf, bs, be, D2, D3, so, b0, b1, b2, hI, hR, hB, rfl, rfl⟩, ho, hoD, hsc⟩ := hS
  obtain ⟨fs, hobj⟩ := hI.obj
  have hM := hI.mtr.2.2.2.2.2.2
  have hc60 := hI.mtr.1
  have hm24 := hI.mtr.2.2.1
  have hso := hI.mtr.2.2.2.1
  have pc1 : pC m D2 + 3 * (m - so) = pC so D2 := by unfold pC; omega
  have ps1 : pS m D2 + 2054 * (m - so) = pS so D2 := by unfold pS; omega
  refine WA.room (k2 := (k + pC m D2) + 3 * (m - so)) (sl2 := (sl + pS m D2) + 2054 * (m - so)) (by omega) (by omega) ?_
  refine wa_aload_n hX (i := 1) dL_law_3040 rfl rfl ?_
  refine wa_callV hX (c_X10_isSound hW 0 hI (mN_sound hM)) hobj (by rfl) (by rfl) (by omega) (nA := 0) (by rfl) (by decide +kernel) rfl (by exact Nat.le_of_ble_eq_true rfl) dL_law_3041 (fun r1 h1 p1 => ?_) (fun _ _ q => q.elim)
  obtain ⟨rfl, hI1, fr1⟩ := p1
  have hR1 := hR.fr fr1 (fun y hy z => by have := hy.2; omega)
  obtain ⟨row, brk, al, wk, us, kp, pt, hmo⟩ := hR1.obj
  dsimp only [Option.toList, List.cons_append, List.nil_append]
  refine WA.room (k2 := (k + pC m D2) + 0) (sl2 := (sl + pS m D2) + 0) (by omega) (by omega) ?_
  refine wa_aload_n hX (i := 2) dL_law_3044 rfl rfl ?_
  refine wa_callV hX (c_X12_isSound hW 0 hR1) hmo (by rfl) (by rfl) (by omega) (nA := 0) (by rfl) (by decide +kernel) rfl (by exact Nat.le_of_ble_eq_true rfl) dL_law_3045 (fun r2 h2 p2 => ?_) (fun _ _ q => q.elim)
  obtain ⟨fr2, rfl, hR2⟩ := p2
  dsimp only [Option.toList, List.cons_append, List.nil_append]
  refine wi_icmp_eq hX (tgt := 3053) dL_law_3048 (by omega) (by decide) (by decide) (fun _ => ?_) (fun z => absurd rfl z)
  exact K h2 0 g G _ _ _ _ _ (lw_two fr1 fr2 hI1 hR2 hB ho hoD hsc) (by omega) (by omega) j6 j7
theorem drwn_lo {D2 : Nat → Bool} {m : Nat} : ∀ n, n ≤ m → smC (drwn D2 m) n = n ∧ smS (drwn D2 m) n = 6 * n := by
  intro n
  induction n with
  | zero => intro _; exact ⟨rfl, rfl⟩
  | succ n ih =>
    intro h
    obtain ⟨a, b⟩ := ih (by omega)
    have e : drwn D2 m n = true := if_pos (show n < m by omega)
    unfold smC smS
    rw [a, b, e]
    have r1 : rmC true = 0 := rfl
    have r2 : rmS true = 0 := rfl
    omega
theorem drwn_hi {D2 : Nat → Bool} {m : Nat} : ∀ j, smC (drwn D2 m) (m + j) + smC D2 m = smC D2 (m + j) + m ∧ smS (drwn D2 m) (m + j) + smS D2 m = smS D2 (m + j) + 6 * m := by
  intro j
  induction j with
  | zero =>
    obtain ⟨a, b⟩ := drwn_lo (D2 := D2) (m := m) m (Nat.le_refl m)
    rw [Nat.add_zero, a, b]
    omega
  | succ j ih =>
    have e : drwn D2 m (m + j) = D2 (m + j) := if_neg (show ¬ m + j < m by omega)
    show smC (drwn D2 m) (m + j) + rmC (drwn D2 m (m + j)) + 1 + smC D2 m = smC D2 (m + j) + rmC (D2 (m + j)) + 1 + m ∧ smS (drwn D2 m) (m + j) + rmS (drwn D2 m (m + j)) + 6 + smS D2 m = smS D2 (m + j) + rmS (D2 (m + j)) + 6 + 6 * m
    rw [e]
    omega
theorem drwn_pay {D2 : Nat → Bool} {m so : Nat} (hm : m ≤ 24) : pC so (drwn D2 m) + smC D2 m = pC so D2 + m ∧ pS so (drwn D2 m) + smS D2 m = pS so D2 + 6 * m := by
  obtain ⟨a, b⟩ := drwn_hi (D2 := D2) (m := m) (24 - m)
  rw [show m + (24 - m) = 24 by omega] at a b
  unfold pC pS
  omega
theorem drwn_le {D2 : Nat → Bool} {m : Nat} : ∀ n, smC (drwn D2 m) n ≤ smC D2 n ∧ smS (drwn D2 m) n ≤ smS D2 n := by
  intro n
  induction n with
  | zero => exact ⟨Nat.le_refl _, Nat.le_refl _⟩
  | succ n ih =>
    unfold smC smS
    by_cases g : n < m
    · have e : drwn D2 m n = true := if_pos g
      rw [e]
      have r1 : rmC true = 0 := rfl
      have r2 : rmS true = 0 := rfl
      omega
    · have e : drwn D2 m n = D2 n := if_neg g
      rw [e]
      omega
theorem drwn_p {D2 : Nat → Bool} {m so : Nat} : pC so (drwn D2 m) ≤ pC so D2 ∧ pS so (drwn D2 m) ≤ pS so D2 := by
  obtain ⟨a, b⟩ := drwn_le (D2 := D2) (m := m) 24
  unfold pC pS
  omega
theorem isDr_v {rk : Nat → Nat} {e : Nat} {o : Option (Nat → Nat)} (hM : Mtr e rk) (h : DRp rk e 2 o) : b2n (isDr rk e 2) = b2n o.isSome := by
  have q : draP rk e 2 ((b2n (isDr rk e 2) : Nat) : Int) := by
    refine ⟨b2n_01 _, ?_⟩
    cases g : isDr rk e 2
    · refine ⟨fun z => absurd z (by decide), fun z => ?_⟩
      exfalso
      unfold isDr at g
      rw [← Bool.not_eq_true, allB_iff] at g
      exact g (fun s hs => beq_iff_eq.mpr (z s hs))
    · refine ⟨fun _ => ?_, fun _ => rfl⟩
      unfold isDr at g
      rw [allB_iff] at g
      exact fun s hs => beq_iff_eq.mp (g s hs)
  have := drw_none hM (Or.inl rfl) q h
  omega
theorem cnt_dr {E : Nat → Nat} {R : Nat → Nat → Nat} : ∀ n cn, (∀ j, j < n → Mtr (E j) (R j)) → DrK E R n cn → cnt (fun j => isDr (R j) (E j) 2) n = cn := by
  intro n
  induction n with
  | zero => intro cn _ h; exact (show cn = 0 from h).symm
  | succ n ih =>
    intro cn hM h
    obtain ⟨c0, o, h1, h2, rfl⟩ := h
    have i1 := ih c0 (fun j hj => hM j (by omega)) h1
    have i2 := isDr_v (hM n (by omega)) h2
    show cnt (fun j => isDr (R j) (E j) 2) n + (if isDr (R n) (E n) 2 then 1 else 0) = c0 + b2n o.isSome
    rw [i1, ← i2]
    cases isDr (R n) (E n) 2 <;> rfl
theorem bas_ck {E : Nat → Nat} {R : Nat → Nat → Nat} : ∀ n, basC E R n = basK E R n := by
  intro n
  induction n with
  | zero => rfl
  | succ n ih =>
    show basC E R n + cnt (fun s => sortN (R n) (E n) s &&& 2 != 0) (2 ^ E n) = basK E R n + cnt (isB (R n) (E n) 98) (2 ^ E n)
    rw [ih]
    have e : (fun s => sortN (R n) (E n) s &&& 2 != 0) = isB (R n) (E n) 98 := by
      funext s
      rw [sortB9]
      rfl
    rw [e]
theorem ne_zI {m : Nat} (hm : m ≤ 24) (h : m ≠ 0) : Int32.ofInt ((m : Nat) : Int) ≠ 0 := ofI_ne (inR_nat (by omega)) (by omega)
theorem f2d_no {v : UInt32} (h : Jvm.FP.Core.fIsNaN v = false) : Jvm.FP.Core.dIsNaN (FP.f2d v) = false := by
  unfold FP.f2d
  rw [h]
  exact Jvm.FP.Core.f2d_out h
theorem share_nan {a : Int32} {m : Nat} (hm : m ≤ 24) (h : m ≠ 0) : Jvm.FP.Core.dIsNaN (FP.f2d (FP.fdiv (FP.i2f a) (FP.i2f (Int32.ofInt ((m : Nat) : Int))))) = false := f2d_no (Jvm.FP.Core.fdiv_out ((Jvm.FP.Core.notNaN_iff32 _).mpr (Jvm.FP.Core.i2f_fin a).ne_nan) (Jvm.FP.Core.i2f_fin _) (fun z => Jvm.FP.Core.i2f_ne_zero (ne_zI hm h) ((Jvm.FP.Core.zero_bits232 _).mp z)))
theorem mean_nan {a : Int32} {m : Nat} (hm : m ≤ 24) (h : m ≠ 0) : Jvm.FP.Core.dIsNaN (FP.ddiv (FP.i2d a) (FP.i2d (Int32.ofInt ((m : Nat) : Int)))) = false := Jvm.FP.Core.ddiv_out ((Jvm.FP.Core.notNaN_iff _).mpr (Jvm.FP.Core.i2d_fin a).ne_nan) (Jvm.FP.Core.i2d_fin _) (fun z => Jvm.FP.Core.i2d_ne_zero (ne_zI hm h) ((Jvm.FP.Core.zero_bits2 _).mp z))
theorem lw_dcmp {X : Cx} {d pc k sl : Nat} {post : Option Value → AH → Prop} {px : String → AH → Prop} {h : AH} {ls : List Slot} {rest : List Value} {v : UInt64} (hX : Ok X yL_law.cls cL_law 9 (some .boolean) yL_law.name d post px) (hv : Jvm.FP.Core.dIsNaN v = false) {off : Int} {tgt : Nat} (A : decode cL_law pc = .ok (.dcmp .l, 1)) (B : decode cL_law (pc + 1) = .ok (.ifCond .eq off, 3)) (ht : ((pc + 1 : Nat) : Int) + off = (tgt : Int)) (k' : WA X h k sl tgt ls rest) : WA X h k sl pc ls (.double v :: .double v :: rest) := by
  refine wa_dcmp hX A ?_
  have e : FP.dcmp v v = some .eq := Jvm.FP.Core.dcmp_refl hv
  rw [e]
  exact wi_if_eq hX (x := 0) (tgt := tgt) B ht (by decide) (fun _ => k') (fun z => absurd rfl z)
section Bm2
variable {h h1 h2 : AH} {out oD : Nat} {g : Nat → Int64} {G G1 : Nat → UInt64}
theorem HF201 : ¬ HF 201 := fun z => by have := z.2; omega
theorem fr_outD {hh : AH} {a l : Nat} {o : Ob} (hq : hh a = some (l, o)) (hn : l ≠ 201) (ho : hh oD = some (201, aD 1 G)) : hset hh oD (201, aD 1 G1) a = some (l, o) := by
  have hne : a ≠ oD := fun z => by
    subst z
    rw [ho] at hq
    cases hq
    exact hn rfl
  unfold hset
  rw [if_neg hne]
  exact hq
theorem fr_withD {S : Nat → Prop} (f : Fr S h h1) (ho : h1 oD = some (201, aD 1 G)) : Fr (fun x => S x ∨ x = 201) h (hset h1 oD (201, aD 1 G1)) := fun a l o q n => fr_outD (f a l o q (fun z => n (Or.inl z))) (fun z => n (Or.inr z)) ho
theorem lw_midD {S0 : State} {mo th c m : Nat} {w : Nat → Nat} {E : Nat → Nat} {R : Nat → Nat → Nat} {b0 b1 b2 : Int} (fr : Fr HF h h1) (ho : h oD = some (201, aD 1 G)) (hR : RI (zA S0) DRp h mo th c w m E R b0 b1 b2) : RI (zA S0) DRp (hset h1 oD (201, aD 1 G1)) mo th c w m E R b0 b1 b2 := by
  have ho1 := fr _ _ _ ho HF201
  exact hR.fr (fr_withD (G1 := G1) fr ho1) (fun y hy z => by
    rcases hy with hy | hy
    · have := hy.2; omega
    · omega)
theorem lw_endD {S0 : State} {x mo sc n th : Nat} {f : Nat → Int} {w : Nat → Nat} {c m : Nat} {E : Nat → Nat} {R : Nat → Nat → Nat} {br bf bs be b0 b1 b2 : Int} {D2 D3 : Nat → Bool} {so : Nat} (fr1 : Fr HF h h1) (frR : Fr (fun x => 120 ≤ x ∧ x ≤ 136) (hset h1 oD (201, aD 1 G1)) h2) (hI : HI h1 x w c m E R br bf bs be D2 D3 so) (hR : RI (zA S0) DRp h2 mo th c w m E R b0 b1 b2) (hB : BrR br bf bs be b0 b1 b2) (ho : h out = some (200, aL 1 g)) (hoD : h oD = some (201, aD 1 G)) (hsc : ScT S0 sc n f) : LST S0 h2 sc n f x mo out oD th g G1 (pC so D2) (pS so D2) := by
  have ho1 := fr1 _ _ _ hoD HF201
  have e0 := frR _ _ _ (fr_outD (G1 := G1) (fr1 _ _ _ ho HF200) (by decide) ho1) (fun z => by omega)
  have e1 : h2 oD = some (201, aD 1 G1) := frR _ _ _ (by unfold hset; rw [if_pos rfl]) (fun z => by omega)
  have i1 := hI.fr (fr_withD (G1 := G1) (S := fun _ => False) Fr.rf ho1) (fun y hy => by
    rcases hy with hy | hy
    · exact hy.elim
    · omega)
  exact ⟨⟨w, c, m, E, R, br, bf, bs, be, D2, D3, so, b0, b1, b2, i1.fr frR (fun y hy => by omega), hR, hB, rfl, rfl⟩, e0, e1, hsc⟩
end Bm2
set_option maxHeartbeats 1000000 in
set_option maxRecDepth 100000 in
theorem w_binaryShare {X : Cx} {d : Nat} {post : Option Value → AH → Prop} {px : String → AH → Prop} {h : AH} {k sl sc x mo out oD i0 n : Nat} {u6 u7 u8 : Slot} {f : Nat → Int} {th pc ps : Nat} {g : Nat → Int64} {G : Nat → UInt64} (hW : WOK (cxL X) (cxD X) (cxS X)) (hX : Ok X yL_law.cls cL_law 9 (some .boolean) yL_law.name (d + 20) post px) (hS : LST (cxS X) h sc n f x mo out oD th g G pc ps) (hf : ∀ j, inR (f j)) (hn : n ≤ 2560) (hb : i0 + 4 < n) (j6 : oc1 u6) (j7 : jk7 u7 u8) (K : LwK X k sl sc n f x mo out oD i0 pc ps) : WA X h (k + 65 + pc) (sl + 7400 + ps) 2909 (lwL sc x mo out oD ((i0 : Nat) : Int) u6 u7 u8) [] := by
  obtain ⟨⟨w, c, m, E, R, br, bf, bs, be, D2, D3, so, b0, b1, b2, hI, hR, hB, rfl, rfl⟩, ho, hoD, hsc⟩ := hS
  obtain ⟨fs, hobj⟩ := hI.obj
  have hM := hI.mtr.2.2.2.2.2.2
  have hc60 := hI.mtr.1
  have hm24 := hI.mtr.2.2.1
  have hso := hI.mtr.2.2.2.1
  obtain ⟨py1, py2⟩ := drwn_pay (D2 := D2) (so := so) hm24
  obtain ⟨py3, py4⟩ := drwn_p (D2 := D2) (so := so) (m := m)
  refine WA.room (k2 := (k + 25 + pC so (drwn D2 m)) + (1 + smC D2 m)) (sl2 := (sl + 2404 + pS so (drwn D2 m)) + (6 + smS D2 m)) (by omega) (by omega) ?_
  refine wa_aload_n hX (i := 1) dL_law_2909 rfl rfl ?_
  refine wa_aload hX (i := 4) dL_law_2910 rfl ?_
  refine wa_callSH hX (c_L_binaryShare hW _ hobj (c_X10_binaryShare hW 0 hI) (fun r9 h9 q => ⟨⟨_, q.2.1, vf64 (share_nan hm24 q.1)⟩, q.2.2.2 _ _ _ hoD HF201⟩) (fun e9 h9 q => q.2.2)) (by rfl) (by omega) (nA := 2) (by rfl) (by decide +kernel) rfl (by exact Nat.le_of_ble_eq_true rfl) dL_law_2912 (fun r1 hh p1 => ?_)
  have mid : ∃ (kk : Nat) (h1 : AH) (G1 : Nat → UInt64), r1 = some (I (kk : Int)) ∧ hh = hset h1 oD (201, aD 1 G1) ∧ Fr HF h h1 ∧ HI h1 x w c m E R br bf bs be (drwn D2 m) D3 so ∧ ((kk = 0 ∧ m ≠ 0 ∧ G1 0 = FP.f2d (FP.fdiv (FP.i2f (Int32.ofInt (cnt (fun j => isDr (R j) (E j) 2) m : Nat))) (FP.i2f (Int32.ofInt (m : Nat))))) ∨ (kk = 1 ∧ m = 0)) := by
    rcases p1 with ⟨z, h1, ⟨q1, q2, q3, q4⟩, rfl, rfl⟩ | ⟨⟨e9, q2, q3⟩, rfl⟩
    · refine ⟨0, h1, _, rfl, rfl, q4, q3, Or.inl ⟨rfl, q1, ?_⟩⟩
      rw [up_s, Value.float.inj (Option.some.inj q2)]
    · refine ⟨1, h, G, rfl, e9.trans (hset_self hoD).symm, Fr.rf, ?_, Or.inr ⟨rfl, q2⟩⟩
      have e : drwn D2 m = D2 := by
        funext j
        exact if_neg (by omega)
      rw [e]
      exact hI
  obtain ⟨kk, h1, G1, rfl, rfl, fr1, hI1, hv⟩ := mid
  dsimp only [Option.toList, List.cons_append, List.nil_append]
  refine lw_i6 hX dL_law_2915 j6 ?_
  have hR1 := lw_midD (G1 := G1) fr1 hoD hR
  obtain ⟨row, brk, al, wk, us, kp, pt, hmo⟩ := hR1.obj
  refine WA.room (k2 := (k + pC so (drwn D2 m)) + 25) (sl2 := (sl + pS so (drwn D2 m)) + 2404) (by omega) (by omega) ?_
  refine wa_aload_n hX (i := 2) dL_law_2917 rfl rfl ?_
  refine wa_callV hX (c_X12_binaryShare hW 0 hR1) hmo (by rfl) (by rfl) (by omega) (nA := 0) (by rfl) (by decide +kernel) rfl (by exact Nat.le_of_ble_eq_true rfl) dL_law_2918 (fun r2 h2 p2 => ?_) (fun _ _ q => q.elim)
  obtain ⟨frR, p3⟩ := p2
  have mrg : ∃ z2 : UInt32, r2 = some (.float z2) ∧ RI (zA (cxS X)) DRp h2 mo kk c w m E R b0 b1 b2 ∧ (kk = 0 → G1 0 = FP.f2d z2 ∧ Jvm.FP.Core.dIsNaN (FP.f2d z2) = false) ∧ kk ≤ 4 := by
    rcases hv with ⟨rfl, z1, z2⟩ | ⟨rfl, z1⟩
    · rcases p3 with ⟨y1, -⟩ | ⟨y1, cn, y2, y3, y4⟩
      · exact absurd y1 z1
      · refine ⟨_, y3, y4, fun _ => ⟨?_, share_nan hm24 z1⟩, by decide⟩
        rw [z2, cnt_dr m cn hM y2]
    · rcases p3 with ⟨y1, ⟨z, y2⟩, y3⟩ | ⟨y1, -⟩
      · exact ⟨z, y2, y3, fun q => absurd q (by decide), by decide⟩
      · exact absurd z1 y1
  obtain ⟨z2, rfl, hR2, hz, hk4⟩ := mrg
  dsimp only [Option.toList, List.cons_append, List.nil_append]
  refine lw_f7 hX dL_law_2921 j7 (fun v8 j8 => ?_)
  have hS2 := lw_endD fr1 frR hI1 hR2 hB ho hoD hsc
  obtain ⟨row2, brk2, al2, wk2, us2, kp2, pt2, hmo2⟩ := hR2.obj
  have fin : WA X h2 (k + pC so (drwn D2 m)) (sl + pS so (drwn D2 m)) 2972 (lwL sc x mo out oD ((i0 : Nat) : Int) (.val (I ((kk : Nat) : Int))) (.val (.float z2)) v8) [] := by
    refine wa_goto hX (tgt := 3053) dL_law_2972 (by omega) ?_
    exact K h2 kk g G1 _ _ _ _ _ hS2 (by omega) (by omega) (Or.inr ⟨_, rfl, rfl⟩) (Or.inl ⟨Or.inr ⟨_, rfl, rfl⟩, j8⟩)
  refine lw_thrown hW hX (by omega) hk4 ⟨_, _, _, _, _, _, _, _, hmo2⟩ dL_law_2923 dL_law_2924 dL_law_2927 dL_law_2929 ?_
  refine wa_iload hX dL_law_2934 rfl ?_
  refine wi_if_ne hX (tgt := 2972) dL_law_2936 (by omega) (inR_nat (by omega)) (fun _ => fin) (fun q => ?_)
  obtain ⟨hz1, hz2⟩ := hz (by omega)
  refine wa_aload hX (i := 4) dL_law_2939 rfl ?_
  refine wi_iconst hX dL_law_2941 ?_
  refine wi_daload hX hS2.2.2.1 (by decide) (by decide) (by decide) dL_law_2942 ?_
  refine wa_fload hX dL_law_2943 rfl ?_
  refine wa_f2d hX dL_law_2945 (vf64 hz2) ?_
  rw [show ((0 : Int).toNat) = 0 from rfl, hz1]
  exact lw_dcmp hX hz2 dL_law_2946 dL_law_2947 (by omega) fin
set_option maxHeartbeats 1000000 in
set_option maxRecDepth 100000 in
theorem w_meanBases {X : Cx} {d : Nat} {post : Option Value → AH → Prop} {px : String → AH → Prop} {h : AH} {k sl sc x mo out oD i0 n : Nat} {u6 u7 u8 : Slot} {f : Nat → Int} {th pc ps : Nat} {g : Nat → Int64} {G : Nat → UInt64} (hW : WOK (cxL X) (cxD X) (cxS X)) (hX : Ok X yL_law.cls cL_law 9 (some .boolean) yL_law.name (d + 20) post px) (hS : LST (cxS X) h sc n f x mo out oD th g G pc ps) (hf : ∀ j, inR (f j)) (hn : n ≤ 2560) (hb : i0 + 4 < n) (j6 : oc1 u6) (j7 : jk7 u7 u8) (K : LwK X k sl sc n f x mo out oD i0 pc ps) : WA X h (k + 65 + pc) (sl + 7400 + ps) 2975 (lwL sc x mo out oD ((i0 : Nat) : Int) u6 u7 u8) [] := by
  obtain ⟨⟨w, c, m, E, R, br, bf, bs, be, D2, D3, so, b0, b1, b2, hI, hR, hB, rfl, rfl⟩, ho, hoD, hsc⟩ := hS
  obtain ⟨fs, hobj⟩ := hI.obj
  have hM := hI.mtr.2.2.2.2.2.2
  have hc60 := hI.mtr.1
  have hm24 := hI.mtr.2.2.1
  have hso := hI.mtr.2.2.2.1
  refine WA.room (k2 := (k + 25 + pC so D2) + 40) (sl2 := (sl + 2404 + pS so D2) + 200) (by omega) (by omega) ?_
  refine wa_aload_n hX (i := 1) dL_law_2975 rfl rfl ?_
  refine wa_aload hX (i := 4) dL_law_2976 rfl ?_
  refine wa_callSH hX (c_L_meanBases hW _ hobj (c_X10_meanBases hW 0 hI) (fun r9 h9 q => ⟨⟨_, q.2.2⟩, by rw [q.1]; exact hoD⟩) (fun e9 h9 q => q.2.2)) (by rfl) (by omega) (nA := 2) (by rfl) (by decide +kernel) rfl (by exact Nat.le_of_ble_eq_true rfl) dL_law_2978 (fun r1 hh p1 => ?_)
  have mid : ∃ (kk : Nat) (G1 : Nat → UInt64), r1 = some (I (kk : Int)) ∧ hh = hset h oD (201, aD 1 G1) ∧ ((kk = 0 ∧ m ≠ 0 ∧ G1 0 = FP.ddiv (FP.i2d (Int32.ofInt (basC E R m : Nat))) (FP.i2d (Int32.ofInt (m : Nat)))) ∨ (kk = 1 ∧ m = 0)) := by
    rcases p1 with ⟨z, h1, ⟨e9, q1, q2⟩, rfl, e8⟩ | ⟨⟨e9, q2, q3⟩, rfl⟩
    · rw [e9] at e8
      refine ⟨0, _, rfl, e8, Or.inl ⟨rfl, q1, ?_⟩⟩
      rw [up_s, Value.double.inj (Option.some.inj q2)]
    · exact ⟨1, G, rfl, e9.trans (hset_self hoD).symm, Or.inr ⟨rfl, q2⟩⟩
  obtain ⟨kk, G1, rfl, rfl, hv⟩ := mid
  have fr1 : Fr HF h h := Fr.rf
  dsimp only [Option.toList, List.cons_append, List.nil_append]
  refine lw_i6 hX dL_law_2981 j6 ?_
  have hR1 := lw_midD (G1 := G1) fr1 hoD hR
  obtain ⟨row, brk, al, wk, us, kp, pt, hmo⟩ := hR1.obj
  refine WA.room (k2 := (k + pC so D2) + 1) (sl2 := (sl + pS so D2) + 4) (by omega) (by omega) ?_
  refine wa_aload_n hX (i := 2) dL_law_2983 rfl rfl ?_
  refine wa_callV hX (c_X12_meanBases hW 0 hR1) hmo (by rfl) (by rfl) (by omega) (nA := 0) (by rfl) (by decide +kernel) rfl (by exact Nat.le_of_ble_eq_true rfl) dL_law_2984 (fun r2 h2 p2 => ?_) (fun _ _ q => q.elim)
  obtain ⟨frR, p3⟩ := p2
  have mrg : ∃ z2 : UInt64, r2 = some (.double z2) ∧ RI (zA (cxS X)) DRp h2 mo kk c w m E R b0 b1 b2 ∧ (kk = 0 → G1 0 = z2 ∧ Jvm.FP.Core.dIsNaN z2 = false) ∧ kk ≤ 4 := by
    rcases hv with ⟨rfl, z1, z2⟩ | ⟨rfl, z1⟩
    · rcases p3 with ⟨y1, -⟩ | ⟨y1, y3, y4⟩
      · exact absurd y1 z1
      · refine ⟨_, y3, y4, fun _ => ⟨?_, mean_nan hm24 z1⟩, by decide⟩
        rw [z2, bas_ck]
    · rcases p3 with ⟨y1, ⟨z, y2⟩, y3⟩ | ⟨y1, -⟩
      · exact ⟨z, y2, y3, fun q => absurd q (by decide), by decide⟩
      · exact absurd z1 y1
  obtain ⟨z2, rfl, hR2, hz, hk4⟩ := mrg
  dsimp only [Option.toList, List.cons_append, List.nil_append]
  refine lw_d7 hX dL_law_2987 j7 ?_
  have hS2 := lw_endD fr1 frR hI hR2 hB ho hoD hsc
  obtain ⟨row2, brk2, al2, wk2, us2, kp2, pt2, hmo2⟩ := hR2.obj
  have fin : WA X h2 (k + pC so D2) (sl + pS so D2) 3037 (lwL sc x mo out oD ((i0 : Nat) : Int) (.val (I ((kk : Nat) : Int))) (.val (.double z2)) .second) [] := by
    refine wa_goto hX (tgt := 3053) dL_law_3037 (by omega) ?_
    exact K h2 kk g G1 _ _ _ _ _ hS2 (by omega) (by omega) (Or.inr ⟨_, rfl, rfl⟩) (Or.inr ⟨_, rfl, rfl, rfl⟩)
  refine lw_thrown hW hX (by omega) hk4 ⟨_, _, _, _, _, _, _, _, hmo2⟩ dL_law_2989 dL_law_2990 dL_law_2993 dL_law_2995 ?_
  refine wa_iload hX dL_law_3000 rfl ?_
  refine wi_if_ne hX (tgt := 3037) dL_law_3002 (by omega) (inR_nat (by omega)) (fun _ => fin) (fun q => ?_)
  obtain ⟨hz1, hz2⟩ := hz (by omega)
  refine wa_aload hX (i := 4) dL_law_3005 rfl ?_
  refine wi_iconst hX dL_law_3007 ?_
  refine wi_daload hX hS2.2.2.1 (by decide) (by decide) (by decide) dL_law_3008 ?_
  refine wa_dload hX dL_law_3009 rfl ?_
  rw [show ((0 : Int).toNat) = 0 from rfl, hz1]
  exact lw_dcmp hX hz2 dL_law_3011 dL_law_3012 (by omega) fin
end Bm
