/-! The law: arguments out of the script; the ends of its cases -/
section B9
variable {X : Cx} {d : Nat} {post : Option Value → AH → Prop} {px : String → AH → Prop} {h : AH} {k sl p : Nat} {rest : List Value}
variable {sc x mo out oD i0 n : Nat} {u6 u7 u8 : Slot} {f : Nat → Int}
theorem wa_ialdT {own : String} {cc : ByteArray} {nL : Nat} {ret : Option FieldType} {nm : String} {pc a : Nat} {ls : List Slot} (hX : Ok X own cc nL ret nm d post px) {i : Int} (hz : va_T .int a n (fun j => I (f j)) (frA (cxS X)) (cxS X) (cxS X).heap) (hr : inR i) (h0 : 0 ≤ i) (hi : i < n) (dg : decode cc pc = .ok (.iaload, 1)) (k' : WA X h k sl (pc + 1) ls (I (f i.toNat) :: rest)) : WA X h k sl pc ls (I i :: .ref a :: rest) := by
  obtain ⟨p, l, e, s, m, args, below, meth, c, D, S0, d0, mc, ms, po, pp⟩ := X
  intro H locs cells slots h1 h2 hR hL
  have hX' := hX
  obtain ⟨hx, hb, hml, hr9, hlk, hown, hW, hWO, hnx, hnm, rfl, rfl, rfl, hz1, hz2⟩ := hX'
  have hkp : ∀ a : Nat, a < S0.heap.size → ¬ frA S0 a → s.heap[a]? = S0.heap[a]? := fun a h _ => hz2 a h
  have hT2 : va_T .int a n (fun j => I (f j)) (frA S0) s s.heap := va_T.moved hW.alike (va_T.kept hz hkp)
  intro T hTh X0
  have hzT : s.heap.size ≤ H.size := by
    have h9 := (vx_frame X0.same).1
    rw [← hTh]; exact h9
  exact va_ti hx hb hT2 ⟨hzT, fun q hq hn => by
    have hq2 : q < S0.heap.size := Nat.not_le.mp hn
    rw [hR.2.1 q hq2, hz2 q hq2], hL⟩ (vpI hr h0 hi) (v := I (f i.toNat)) (by rw [nn_tI hr]) dg (k' H locs cells slots h1 h2 hR hL) T hTh X0
/-- one argument -/
theorem lw_arg (hX : Ok X yL_law.cls cL_law 9 (some .boolean) yL_law.name d post px) {j : Nat} {jz : Int} (hj : jz = ((j : Nat) : Int)) (hs : ScT (cxS X) sc n f) (hb : i0 + j < n) (hn : n ≤ 2560) (A0 : decode cL_law p = .ok (.aload_n 0, 1)) (A1 : decode cL_law (p + 1) = .ok (.iload 5, 2)) (A2 : decode cL_law (p + 3) = .ok (.iconst jz, 1)) (A3 : decode cL_law (p + 4) = .ok (.iadd, 1)) (A4 : decode cL_law (p + 5) = .ok (.iaload, 1)) (k' : WA X h k sl (p + 6) (lwL sc x mo out oD ((i0 : Nat) : Int) u6 u7 u8) (I (f (i0 + j)) :: rest)) : WA X h k sl p (lwL sc x mo out oD ((i0 : Nat) : Int) u6 u7 u8) rest := by
  subst hj
  refine wa_aload_n hX (i := 0) A0 rfl rfl ?_
  refine wa_iload hX A1 rfl ?_
  refine wi_iconst hX A2 ?_
  refine wi_iadd hX A3 ?_
  refine wa_ialdT hX (i := ((i0 : Nat) : Int) + ((j : Nat) : Int)) hs (inR_nat (by omega)) (by omega) (by omega) A4 ?_
  rw [show (((i0 : Nat) : Int) + ((j : Nat) : Int)).toNat = i0 + j by omega]
  exact k'
/-- a number as a char -/
def chrZ (z : Int) : Int := ((Int32.ofInt z).toUInt32 % 65536).toInt32.toInt
theorem lw_i2c (hX : Ok X yL_law.cls cL_law 9 (some .boolean) yL_law.name d post px) {z : Int} {ls : List Slot} (dg : decode cL_law p = .ok (.i2c, 1)) (k' : WA X h k sl (p + 1) ls (I (chrZ z) :: rest)) : WA X h k sl p ls (I z :: rest) := by
  refine wa_i2c hX dg ?_
  have e : (Int32.ofInt (chrZ z)) = ((Int32.ofInt z).toUInt32 % 65536).toInt32 := Int32.ofInt_toInt _
  rw [← e]
  exact k'
theorem chrZ_in (z : Int) : inR (chrZ z) := ⟨Int32.le_toInt _, Int32.toInt_lt _⟩
/-- what thrown says, and whether it is what the wrapper said -/
theorem lw_thrown (hW : WOK (cxL X) (cxD X) (cxS X)) (hX : Ok X yL_law.cls cL_law 9 (some .boolean) yL_law.name d post px) (hd : 0 < d) {kk : Nat} (hk : kk ≤ 4) (hth : ∃ (c : Int) (row brk al wk us kp pt : Nat), h mo = some (120, oMod ((kk : Nat) : Int) c row brk al wk us kp pt)) (D0 : decode cL_law p = .ok (.aload_n 2, 1)) (D1 : decode cL_law (p + 1) = .ok (.invokevirtual 169, 3)) (D2 : decode cL_law (p + 4) = .ok (.iload 6, 2)) (D3 : decode cL_law (p + 6) = .ok (.if_icmp .eq 5, 3)) (k' : WA X h k sl (p + 11) (lwL sc x mo out oD ((i0 : Nat) : Int) (.val (I ((kk : Nat) : Int))) u7 u8) []) : WA X h k sl p (lwL sc x mo out oD ((i0 : Nat) : Int) (.val (I ((kk : Nat) : Int))) u7 u8) [] := by
  obtain ⟨c, row, brk, al, wk, us, kp, pt, hm⟩ := hth
  refine WA.room (k2 := k + 0) (sl2 := sl + 0) (by omega) (by omega) ?_
  refine wa_aload_n hX (i := 2) D0 rfl rfl ?_
  refine wa_callV hX (c_X12_thrown hW 0 hm) hm (by rfl) (by rfl) hd (nA := 0) (by rfl) (by decide +kernel) rfl (by exact Nat.le_of_ble_eq_true rfl) D1 (fun r1 h1 p1 => ?_) (fun _ _ q => q.elim)
  obtain ⟨rfl, q⟩ := p1
  subst q
  dsimp only [Option.toList, List.cons_append, List.nil_append]
  refine wa_iload hX D2 rfl ?_
  exact wi_icmp_eq hX (tgt := p + 11) D3 (by omega) (inR_nat (by omega)) (inR_nat (by omega)) (fun _ => k') (fun z => absurd rfl z)
/-- the end of a case whose answers are whole numbers -/
theorem tail_i (hW : WOK (cxL X) (cxD X) (cxS X)) (hX : Ok X yL_law.cls cL_law 9 (some .boolean) yL_law.name d post px) (hd : 0 < d) {kk : Nat} (hk : kk ≤ 4) (hth : ∃ (c : Int) (row brk al wk us kp pt : Nat), h mo = some (120, oMod ((kk : Nat) : Int) c row brk al wk us kp pt)) {g : Nat → Int64} (hg : h out = some (200, aL 1 g)) {z2 : Int} (hz : kk = 0 → g 0 = (Int32.ofInt z2).toInt64) {o1 : Int} (ho : ((p + 28 : Nat) : Int) + o1 = ((3053 : Nat) : Int)) (D0 : decode cL_law p = .ok (.aload_n 2, 1)) (D1 : decode cL_law (p + 1) = .ok (.invokevirtual 169, 3)) (D2 : decode cL_law (p + 4) = .ok (.iload 6, 2)) (D3 : decode cL_law (p + 6) = .ok (.if_icmp .eq 5, 3)) (D4 : decode cL_law (p + 11) = .ok (.iload 6, 2)) (D5 : decode cL_law (p + 13) = .ok (.ifCond .ne 15, 3)) (D6 : decode cL_law (p + 16) = .ok (.aload_n 3, 1)) (D7 : decode cL_law (p + 17) = .ok (.iconst 0, 1)) (D8 : decode cL_law (p + 18) = .ok (.laload, 1)) (D9 : decode cL_law (p + 19) = .ok (.iload 7, 2)) (D10 : decode cL_law (p + 21) = .ok (.i2l, 1)) (D11 : decode cL_law (p + 22) = .ok (.lcmp, 1)) (D12 : decode cL_law (p + 23) = .ok (.ifCond .eq 5, 3)) (D13 : decode cL_law (p + 28) = .ok (.goto o1, 3)) (k' : WA X h k sl 3053 (lwL sc x mo out oD ((i0 : Nat) : Int) (.val (I ((kk : Nat) : Int))) (.val (I z2)) u8) []) : WA X h k sl p (lwL sc x mo out oD ((i0 : Nat) : Int) (.val (I ((kk : Nat) : Int))) (.val (I z2)) u8) [] := by
  have fin : WA X h k sl (p + 28) (lwL sc x mo out oD ((i0 : Nat) : Int) (.val (I ((kk : Nat) : Int))) (.val (I z2)) u8) [] := wa_goto hX (tgt := 3053) D13 ho k'
  refine lw_thrown hW hX hd hk hth D0 D1 D2 D3 ?_
  refine wa_iload hX D4 rfl ?_
  refine wi_if_ne hX (tgt := p + 28) D5 (by omega) (inR_nat (by omega)) (fun _ => fin) (fun q => ?_)
  refine wa_aload_n hX (i := 3) D6 rfl rfl ?_
  refine wi_iconst hX D7 ?_
  refine wi_laload hX hg (by decide) (by decide) (by decide) D8 ?_
  refine wa_iload hX D9 rfl ?_
  refine wa_i2l hX D10 ?_
  refine wa_lcmp hX D11 (fun z q1 q2 => ?_)
  refine wi_if_eq hX (tgt := p + 28) D12 (by omega) q2 (fun _ => fin) (fun q3 => ?_)
  exact absurd (q1.mpr (hz (by omega))) q3
/-- the end of a case whose answers are true or false -/
theorem tail_z (hW : WOK (cxL X) (cxD X) (cxS X)) (hX : Ok X yL_law.cls cL_law 9 (some .boolean) yL_law.name d post px) (hd : 0 < d) {kk : Nat} (hk : kk ≤ 4) (hth : ∃ (c : Int) (row brk al wk us kp pt : Nat), h mo = some (120, oMod ((kk : Nat) : Int) c row brk al wk us kp pt)) {g : Nat → Int64} (hg : h out = some (200, aL 1 g)) {z2 : Int} (hz : kk = 0 → (z2 = 0 ∨ z2 = 1) ∧ g 0 = (Int32.ofInt z2).toInt64) {o1 : Int} (ho : ((p + 35 : Nat) : Int) + o1 = ((3053 : Nat) : Int)) (D0 : decode cL_law p = .ok (.aload_n 2, 1)) (D1 : decode cL_law (p + 1) = .ok (.invokevirtual 169, 3)) (D2 : decode cL_law (p + 4) = .ok (.iload 6, 2)) (D3 : decode cL_law (p + 6) = .ok (.if_icmp .eq 5, 3)) (D4 : decode cL_law (p + 11) = .ok (.iload 6, 2)) (D5 : decode cL_law (p + 13) = .ok (.ifCond .ne 22, 3)) (D6 : decode cL_law (p + 16) = .ok (.aload_n 3, 1)) (D7 : decode cL_law (p + 17) = .ok (.iconst 0, 1)) (D8 : decode cL_law (p + 18) = .ok (.laload, 1)) (D9 : decode cL_law (p + 19) = .ok (.iload 7, 2)) (E0 : decode cL_law (p + 21) = .ok (.ifCond .eq 7, 3)) (E1 : decode cL_law (p + 24) = .ok (.lconst 1, 1)) (E2 : decode cL_law (p + 25) = .ok (.goto 4, 3)) (E3 : decode cL_law (p + 28) = .ok (.lconst 0, 1)) (D11 : decode cL_law (p + 29) = .ok (.lcmp, 1)) (D12 : decode cL_law (p + 30) = .ok (.ifCond .eq 5, 3)) (D13 : decode cL_law (p + 35) = .ok (.goto o1, 3)) (k' : WA X h k sl 3053 (lwL sc x mo out oD ((i0 : Nat) : Int) (.val (I ((kk : Nat) : Int))) (.val (I z2)) u8) []) : WA X h k sl p (lwL sc x mo out oD ((i0 : Nat) : Int) (.val (I ((kk : Nat) : Int))) (.val (I z2)) u8) [] := by
  have fin : WA X h k sl (p + 35) (lwL sc x mo out oD ((i0 : Nat) : Int) (.val (I ((kk : Nat) : Int))) (.val (I z2)) u8) [] := wa_goto hX (tgt := 3053) D13 ho k'
  have cmp : ∀ y : Int64, kk = 0 → y = (Int32.ofInt z2).toInt64 → WA X h k sl (p + 29) (lwL sc x mo out oD ((i0 : Nat) : Int) (.val (I ((kk : Nat) : Int))) (.val (I z2)) u8) [.long y, .long (g 0)] := fun y q0 qy => by
    refine wa_lcmp hX D11 (fun z q1 q2 => ?_)
    refine wi_if_eq hX (tgt := p + 35) D12 (by omega) q2 (fun _ => fin) (fun q3 => ?_)
    exact absurd (q1.mpr ((hz q0).2.trans qy.symm)) q3
  refine lw_thrown hW hX hd hk hth D0 D1 D2 D3 ?_
  refine wa_iload hX D4 rfl ?_
  refine wi_if_ne hX (tgt := p + 35) D5 (by omega) (inR_nat (by omega)) (fun _ => fin) (fun q => ?_)
  have q0 : kk = 0 := by omega
  refine wa_aload_n hX (i := 3) D6 rfl rfl ?_
  refine wi_iconst hX D7 ?_
  refine wi_laload hX hg (by decide) (by decide) (by decide) D8 ?_
  refine wa_iload hX D9 rfl ?_
  rcases (hz q0).1 with rfl | rfl
  · refine wi_if_eq hX (tgt := p + 28) E0 (by omega) (by decide) (fun _ => ?_) (fun q3 => absurd rfl q3)
    refine wa_lconst hX E3 ?_
    exact cmp _ q0 (by decide)
  · refine wi_if_eq hX (tgt := p + 28) E0 (by omega) (by decide) (fun q3 => absurd q3 (by decide)) (fun _ => ?_)
    refine wa_lconst hX E1 ?_
    refine wa_goto hX (tgt := p + 29) E2 (by omega) ?_
    exact cmp _ q0 (by decide)
/-- the end of a case whose answers are long -/
theorem tail_l (hW : WOK (cxL X) (cxD X) (cxS X)) (hX : Ok X yL_law.cls cL_law 9 (some .boolean) yL_law.name d post px) (hd : 0 < d) {kk : Nat} (hk : kk ≤ 4) (hth : ∃ (c : Int) (row brk al wk us kp pt : Nat), h mo = some (120, oMod ((kk : Nat) : Int) c row brk al wk us kp pt)) {g : Nat → Int64} (hg : h out = some (200, aL 1 g)) {z2 : Int64} (hz : kk = 0 → g 0 = z2) {o1 : Int} (ho : ((p + 27 : Nat) : Int) + o1 = ((3053 : Nat) : Int)) (D0 : decode cL_law p = .ok (.aload_n 2, 1)) (D1 : decode cL_law (p + 1) = .ok (.invokevirtual 169, 3)) (D2 : decode cL_law (p + 4) = .ok (.iload 6, 2)) (D3 : decode cL_law (p + 6) = .ok (.if_icmp .eq 5, 3)) (D4 : decode cL_law (p + 11) = .ok (.iload 6, 2)) (D5 : decode cL_law (p + 13) = .ok (.ifCond .ne 14, 3)) (D6 : decode cL_law (p + 16) = .ok (.aload_n 3, 1)) (D7 : decode cL_law (p + 17) = .ok (.iconst 0, 1)) (D8 : decode cL_law (p + 18) = .ok (.laload, 1)) (D9 : decode cL_law (p + 19) = .ok (.lload 7, 2)) (D11 : decode cL_law (p + 21) = .ok (.lcmp, 1)) (D12 : decode cL_law (p + 22) = .ok (.ifCond .eq 5, 3)) (D13 : decode cL_law (p + 27) = .ok (.goto o1, 3)) (k' : WA X h k sl 3053 (lwL sc x mo out oD ((i0 : Nat) : Int) (.val (I ((kk : Nat) : Int))) (.val (.long z2)) u8) []) : WA X h k sl p (lwL sc x mo out oD ((i0 : Nat) : Int) (.val (I ((kk : Nat) : Int))) (.val (.long z2)) u8) [] := by
  have fin : WA X h k sl (p + 27) (lwL sc x mo out oD ((i0 : Nat) : Int) (.val (I ((kk : Nat) : Int))) (.val (.long z2)) u8) [] := wa_goto hX (tgt := 3053) D13 ho k'
  refine lw_thrown hW hX hd hk hth D0 D1 D2 D3 ?_
  refine wa_iload hX D4 rfl ?_
  refine wi_if_ne hX (tgt := p + 27) D5 (by omega) (inR_nat (by omega)) (fun _ => fin) (fun q => ?_)
  refine wa_aload_n hX (i := 3) D6 rfl rfl ?_
  refine wi_iconst hX D7 ?_
  refine wi_laload hX hg (by decide) (by decide) (by decide) D8 ?_
  refine wa_lload hX D9 rfl ?_
  refine wa_lcmp hX D11 (fun z q1 q2 => ?_)
  refine wi_if_eq hX (tgt := p + 27) D12 (by omega) q2 (fun _ => fin) (fun q3 => ?_)
  exact absurd (q1.mpr (hz (by omega))) q3
end B9
