/-! String constants: rows; String.indexOf on them; the reference's count, setAt, broken. Own text. -/
def StrZ (S0 : State) (own : String) (k : Nat) (tx : String) (a v n : Nat) (bs : Nat → Int) : Prop := vk_R own k tx a S0 ∧ va_O "java/lang/String" a (frA S0) S0 S0.heap ∧ va_OF "java/lang/String" "coder" "B" (I 0) a (frA S0) S0 S0.heap ∧ va_OF "java/lang/String" "value" "[B" (.ref v) a (frA S0) S0 S0.heap ∧ va_T .byte v n (fun j => I (bs j)) (frA S0) S0 S0.heap
def strT (own : String) (k : Nat) : Term := .field (.string own k) "java/lang/String" "value" "[B"
def strW (own : String) (k : Nat) (tx : String) (l : List Int) : Bool := decide (Cond.stringRef own k tx ∈ lw_tbl) && decide (Cond.exactly (Term.string own k) "java/lang/String" ∈ flatC (Jvm.Cond.and given_1 narrow_1)) && decide (Cond.eq (.field (.string own k) "java/lang/String" "coder" "B") (.int 0) ∈ flatC (Jvm.Cond.and given_1 narrow_1)) && decide (Cond.arrayOf (strT own k) .byte ∈ flatC (Jvm.Cond.and given_1 narrow_1)) && decide (Cond.eq (.length (strT own k)) (.int (Int32.ofNat l.length)) ∈ flatC (Jvm.Cond.and given_1 narrow_1)) && (List.range l.length).all (fun j => decide (Cond.eq (.elem (strT own k) (.int (Int32.ofNat j))) (.int (Int32.ofInt (l.getD j 0))) ∈ flatC (Jvm.Cond.and given_1 narrow_1)))
theorem StrZ_of {l : Launch} {D : va_G} {S0 : State} (hW : WOK l D S0) (own : String) (k : Nat) (tx : String) (L : List Int) (hL : L.length < 2 ^ 31) (hw : strW own k tx L = true) : ∃ a v : Nat, StrZ S0 own k tx a v L.length (fun j => L.getD j 0) := by
  obtain ⟨A0, -, hT, hg, -⟩ := hW
  have hf := flat_of_before _ hg
  have hA : ∀ a : Nat, a < S0.heap.size → ¬ frA S0 a := fun a h q => absurd q (Nat.not_le.mpr h)
  unfold strW at hw
  simp only [Bool.and_eq_true, decide_eq_true_eq] at hw
  obtain ⟨⟨⟨⟨⟨w1, w2⟩, w3⟩, w4⟩, w5⟩, w6⟩ := hw
  obtain ⟨a, c, cA, kA, q1, q2, q3, q4, q5, q6, -⟩ := Cond.exactly_spec (args := A0) (first := S0) (o := none) (s := S0) (idx := []) (t := Term.string own k) (cls := "java/lang/String") (hf _ w2)
  obtain ⟨t, ht, hT2⟩ := va_Tof (args := A0) (s := S0) (f := fun j => I (L.getD j 0)) (A := frA S0) (N := L.length) (tm := strT own k) (ty := .byte) hL (hf _ w4) (va_eqt (hf _ w5)) (fun j hj => va_eqt (hf _ (of_decide_eq_true (List.all_eq_true.mp w6 j (List.mem_range.mpr hj))))) hA
  exact ⟨a, t, vk_R.of (A := A0) (hT _ w1) q1, ⟨cA, q3, q5, by rw [q6]; exact q2, hA a (Array.getElem?_eq_some_iff.mp q3).1⟩, vk_OFof (args := A0) q1 (va_eqt (hf _ w3)) hA, vk_OFof (args := A0) q1 ht hA, hT2⟩
theorem cpS_of {l : Launch} {D : va_G} {S0 : State} (hW : WOK l D S0) : va_Z "java/lang/String" "COMPACT_STRINGS" "Z" (I 1) (frA S0) S0 S0.heap := by
  obtain ⟨A0, -, hT, hg, -⟩ := hW
  have hf := flat_of_before _ hg
  have hA : ∀ a : Nat, a < S0.heap.size → ¬ frA S0 a := fun a h q => absurd q (Nat.not_le.mpr h)
  exact va_Zof (args := A0) (hT _ (by decide +kernel)) (hT _ (by decide +kernel)) (va_eqi (z := 1) (hf _ (by decide +kernel))) hA
section LY9i
variable {X : Cx} {own : String} {cc : ByteArray} {nL : Nat} {ret : Option FieldType} {nm : String} {d : Nat} {post : Option Value → AH → Prop} {px : String → AH → Prop} {h : AH} {k sl pc : Nat} {ls : List Slot} {rest : List Value}
theorem wa_getsV (hX : Ok X own cc nL ret nm d post px) {idx : Nat} {C n dd : String} {v : Value} (hz : va_Z C n dd v (frA (cxS X)) (cxS X) (cxS X).heap) (hw : decide (Cond.fieldLink own idx C n dd ∈ lw_tbl) = true) (dg : decode cc pc = .ok (.getstatic idx, 3)) (k' : WA X h k sl (pc + 3) ls (v :: rest)) : WA X h k sl pc ls rest := by
  obtain ⟨p, l, e, s, m, args, below, meth, c, D, S0, d0, mc, ms, po, pp⟩ := X
  intro H locs cells slots h1 h2 hR hL
  have hX' := hX
  obtain ⟨hx, hb, hml, hr9, hlk, hown, hW, hWO, hnx, hnm, rfl, rfl, rfl, hz1, hz2⟩ := hX'
  have hkp : ∀ a : Nat, a < S0.heap.size → ¬ frA S0 a → s.heap[a]? = S0.heap[a]? := fun a h _ => hz2 a h
  have hZ : va_Z C n dd v (frA S0) s s.heap := va_Z.moved hW.alike (va_Z.kept hz hkp)
  intro T hTh X0
  have hzT : s.heap.size ≤ H.size := by
    have h9 := (vx_frame X0.same).1
    rw [← hTh]; exact h9
  exact va_gets hx hb hZ ⟨hzT, fun q hq hn => by
    have hq2 : q < S0.heap.size := Nat.not_le.mp hn
    rw [hR.2.1 q hq2, hz2 q hq2], hL⟩ hown (hX.word (of_decide_eq_true hw) rfl) (fun x q => q) dg (k' H locs cells slots h1 h2 hR hL) T hTh X0
theorem wa_ldcZ (hX : Ok X own cc nL ret nm d post px) {idx a : Nat} {tx : String} (hz : vk_R own idx tx a (cxS X)) (dg : decode cc pc = .ok (.ldc idx, 2)) (k' : WA X h k sl (pc + 2) ls (.ref a :: rest)) : WA X h k sl pc ls rest := by
  obtain ⟨p, l, e, s, m, args, below, meth, c, D, S0, d0, mc, ms, po, pp⟩ := X
  intro H locs cells slots h1 h2 hR hL
  have hX' := hX
  obtain ⟨hx, hb, hml, hr9, hlk, hown, hW, -⟩ := hX'
  exact va_ldcS hx hb hown (vk_R.warm hW hz) dg (k' H locs cells slots h1 h2 hR hL)
theorem wa_getZ (hX : Ok X own cc nL ret nm d post px) {idx a : Nat} {o n dd : String} {v : Value} (hz : va_OF o n dd v a (frA (cxS X)) (cxS X) (cxS X).heap) (hw : decide (Cond.fieldLink own idx o n dd ∈ lw_tbl) = true) (dg : decode cc pc = .ok (.getfield idx, 3)) (k' : WA X h k sl (pc + 3) ls (v :: rest)) : WA X h k sl pc ls (.ref a :: rest) := by
  obtain ⟨p, l, e, s, m, args, below, meth, c, D, S0, d0, mc, ms, po, pp⟩ := X
  intro H locs cells slots h1 h2 hR hL
  have hX' := hX
  obtain ⟨hx, hb, hml, hr9, hlk, hown, hW, hWO, hnx, hnm, rfl, rfl, rfl, hz1, hz2⟩ := hX'
  have hkp : ∀ a : Nat, a < S0.heap.size → ¬ frA S0 a → s.heap[a]? = S0.heap[a]? := fun a h _ => hz2 a h
  have hZ : va_OF o n dd v a (frA S0) s s.heap := va_OF.moved hW.alike (va_OF.kept hz hkp)
  intro T hTh X0
  have hzT : s.heap.size ≤ H.size := by
    have h9 := (vx_frame X0.same).1
    rw [← hTh]; exact h9
  exact vk_getf hx hb hZ ⟨hzT, fun q hq hn => by
    have hq2 : q < S0.heap.size := Nat.not_le.mp hn
    rw [hR.2.1 q hq2, hz2 q hq2], hL⟩ hown (hX.word (of_decide_eq_true hw) rfl) (fun x q => q) dg (k' H locs cells slots h1 h2 hR hL) T hTh X0
theorem wa_lenT (hX : Ok X own cc nL ret nm d post px) {a n : Nat} {ty : FieldType} {f : Nat → Value} (hz : va_T ty a n f (frA (cxS X)) (cxS X) (cxS X).heap) (dg : decode cc pc = .ok (.arraylength, 1)) (k' : WA X h k sl (pc + 1) ls (I (n : Int) :: rest)) : WA X h k sl pc ls (.ref a :: rest) := by
  obtain ⟨p, l, e, s, m, args, below, meth, c, D, S0, d0, mc, ms, po, pp⟩ := X
  intro H locs cells slots h1 h2 hR hL
  have hX' := hX
  obtain ⟨hx, hb, hml, hr9, hlk, hown, hW, hWO, hnx, hnm, rfl, rfl, rfl, hz1, hz2⟩ := hX'
  have hkp : ∀ a : Nat, a < S0.heap.size → ¬ frA S0 a → s.heap[a]? = S0.heap[a]? := fun a h _ => hz2 a h
  have hT2 : va_T ty a n f (frA S0) s s.heap := va_T.moved hW.alike (va_T.kept hz hkp)
  intro T hTh X0
  have hzT : s.heap.size ≤ H.size := by
    have h9 := (vx_frame X0.same).1
    rw [← hTh]; exact h9
  exact va_tlen hx hb hT2 ⟨hzT, fun q hq hn => by
    have hq2 : q < S0.heap.size := Nat.not_le.mp hn
    rw [hR.2.1 q hq2, hz2 q hq2], hL⟩ (v := Int32.ofInt (n : Int)) rfl dg (k' H locs cells slots h1 h2 hR hL) T hTh X0
theorem wa_baldT (hX : Ok X own cc nL ret nm d post px) {a n : Nat} {f : Nat → Int} {i : Int} (hz : va_T .byte a n (fun j => I (f j)) (frA (cxS X)) (cxS X) (cxS X).heap) (hr : inR i) (h0 : 0 ≤ i) (hi : i < n) (dg : decode cc pc = .ok (.baload, 1)) (k' : WA X h k sl (pc + 1) ls (I (f i.toNat) :: rest)) : WA X h k sl pc ls (I i :: .ref a :: rest) := by
  obtain ⟨p, l, e, s, m, args, below, meth, c, D, S0, d0, mc, ms, po, pp⟩ := X
  intro H locs cells slots h1 h2 hR hL
  have hX' := hX
  obtain ⟨hx, hb, hml, hr9, hlk, hown, hW, hWO, hnx, hnm, rfl, rfl, rfl, hz1, hz2⟩ := hX'
  have hkp : ∀ a : Nat, a < S0.heap.size → ¬ frA S0 a → s.heap[a]? = S0.heap[a]? := fun a h _ => hz2 a h
  have hT2 : va_T .byte a n (fun j => I (f j)) (frA S0) s s.heap := va_T.moved hW.alike (va_T.kept hz hkp)
  intro T hTh X0
  have hzT : s.heap.size ≤ H.size := by
    have h9 := (vx_frame X0.same).1
    rw [← hTh]; exact h9
  exact va_tb hx hb hT2 ⟨hzT, fun q hq hn => by
    have hq2 : q < S0.heap.size := Nat.not_le.mp hn
    rw [hR.2.1 q hq2, hz2 q hq2], hL⟩ (vpI hr h0 hi) (v := I (f i.toNat)) (by rw [nn_tI hr]) dg (k' H locs cells slots h1 h2 hR hL) T hTh X0
/-- a method of a String constant -/
theorem wa_callVZ (hX : Ok X own cc nL ret nm d post px) {st As : List Value} {b idx : Nat} {y : MethodName} {cc1 : ByteArray} {maxL1 : Nat} {ret1 : Option FieldType} {d1 mc1 ms1 nA : Nat} {post1 : Option Value → AH → Prop} {px1 : String → AH → Prop}
    (hM : MA (cxL X) (cxD X) (cxS X) y cc1 maxL1 ret1 d1 (.ref b :: As) h mc1 ms1 post1 px1) (hc : va_O y.cls b (frA (cxS X)) (cxS X) (cxS X).heap) (hst : st = As.reverse ++ .ref b :: rest) (hd : d1 < d) (hA : As.length = nA) (hw : callW 1 own idx y cc1 maxL1 ret1 nA = true) (hsz : ls.length = nL) (hrest : (rest.map fun v => v.category).sum ≤ 8) (dg : decode cc pc = .ok (.invokevirtual idx, 3))
    (kk : ∀ (r : Option Value) (h' : AH), post1 r h' → WA X h' k sl (pc + 3) ls (r.toList ++ rest)) (kx : ∀ (E : String) (h' : AH), px1 E h' → px E h') : WA X h (k + mc1) (sl + ms1) pc ls st := by
  subst hA
  obtain ⟨p, l, e, s, m, args, below, meth, c, D, S0, d0, mc, ms, po, pp⟩ := X
  intro H locs cells slots h1 h2 hR hL
  have cb := callB_S (mc1 := mc1) (ms1 := ms1) hX hw hd
  unfold callW at hw
  simp only [Bool.and_eq_true, decide_eq_true_eq] at hw
  have hX' := hX
  obtain ⟨hx, hb, hml, -, -, hown, hW, -, -, -, -, -, -, hz1, hz2⟩ := hX'
  have hkp : ∀ a : Nat, a < S0.heap.size → ¬ frA S0 a → H[a]? = S0.heap[a]? := fun a h _ => hR.2.1 a h
  have hrec : ∃ cell : Cell, H[b]? = some cell ∧ cell.vm.isStatics = false ∧ s.vm.findClass y.cls = some cell.cls := by
    obtain ⟨cell, g1, g2, g3, -⟩ := va_O.moved hW.alike (va_O.kept hc hkp)
    exact ⟨cell, g1, g2, g3⟩
  refine wa_behind (a := (Value.ref b :: As).toArray) hX h1 h2 hL ?_ kk kx
  exact vx_runV (Ts := []) ⟨hx, hb, hml, hown, fun w hw => by cases hw⟩ hM ⟨cb, hX.word hw.2.1 rfl, hX.word hw.2.2 rfl⟩ ⟨fun a U g mk q => ⟨q.1, q.2.calling⟩, hrec, fun U hU hWU => ⟨rfl, srelU hX hR U hU hWU⟩⟩ rfl rfl (by simpa using hsz) hst (lv_room hrest) dg ⟨show cells + mc1 ≤ mc by omega, show slots + ms1 ≤ ms by omega⟩
end LY9i
theorem i2b_all : ∀ c : Nat, c < 256 → (Int32.ofInt (c : Int)).toInt8.toInt32 = Int32.ofInt (if c < 128 then (c : Int) else (c : Int) - 256) := by decide +kernel
def ixP (bs : Nat → Int) (n : Nat) (c r : Int) : Prop := (∃ i : Nat, i < n ∧ bs i = c ∧ (∀ j, j < i → bs j ≠ c) ∧ r = (i : Int)) ∨ ((∀ i, i < n → bs i ≠ c) ∧ r = -1)
section C9i
variable {l : Launch} {D : va_G} {S0 : State}
set_option maxRecDepth 100000 in
theorem c_J0_isLatin1 (hW : WOK l D S0) (d : Nat) {h : AH} {own tx : String} {k a v n : Nat} {bs : Nat → Int} (hz : StrZ S0 own k tx a v n bs) : MA l D S0 yJ0_isLatin1_aae02 cJ0_isLatin1_aae02 1 (some .boolean) d [.ref a] h 0 0 (fun r h' => r = some (I 1) ∧ h' = h) (fun _ _ => False) := by
  have hcp := cpS_of hW
  refine MA.startF hW (by decide +kernel) [.val (.ref a)] rfl ?_
  rintro X rfl rfl rfl hX
  refine wa_getsV hX hcp (by decide +kernel) dJ0_isLatin1_aae02_0 ?_
  refine wi_if_eq hX (tgt := 17) dJ0_isLatin1_aae02_3 (by decide) (by omega) (fun c3 => ?_) (fun c3 => ?_)
  · skip
    exfalso; omega
  · skip
    refine wa_aload_n hX (i := 0) dJ0_isLatin1_aae02_6 rfl rfl ?_
    refine wa_getZ hX hz.2.2.1 (by decide +kernel) dJ0_isLatin1_aae02_7 ?_
    refine wi_if_ne hX (tgt := 17) dJ0_isLatin1_aae02_10 (by decide) (by omega) (fun c10 => ?_) (fun c10 => ?_)
    · skip
      exfalso; omega
    · skip
      refine wi_iconst hX dJ0_isLatin1_aae02_13 ?_
      refine wa_goto hX (tgt := 18) dJ0_isLatin1_aae02_14 (by decide) ?_
      refine wa_zret hX dJ0_isLatin1_aae02_18 (by rfl) ?_
      exact ⟨rfl, rfl⟩
set_option maxRecDepth 100000 in
theorem c_J0_coder (hW : WOK l D S0) (d : Nat) {h : AH} {own tx : String} {k a v n : Nat} {bs : Nat → Int} (hz : StrZ S0 own k tx a v n bs) : MA l D S0 yJ0_coder_7d493 cJ0_coder_7d493 1 (some .byte) d [.ref a] h 0 0 (fun r h' => r = some (I 0) ∧ h' = h) (fun _ _ => False) := by
  have hcp := cpS_of hW
  refine MA.startF hW (by decide +kernel) [.val (.ref a)] rfl ?_
  rintro X rfl rfl rfl hX
  refine wa_getsV hX hcp (by decide +kernel) dJ0_coder_7d493_0 ?_
  refine wi_if_eq hX (tgt := 13) dJ0_coder_7d493_3 (by decide) (by omega) (fun c3 => ?_) (fun c3 => ?_)
  · skip
    exfalso; omega
  · skip
    refine wa_aload_n hX (i := 0) dJ0_coder_7d493_6 rfl rfl ?_
    refine wa_getZ hX hz.2.2.1 (by decide +kernel) dJ0_coder_7d493_7 ?_
    refine wa_goto hX (tgt := 14) dJ0_coder_7d493_10 (by decide) ?_
    refine wa_zret hX dJ0_coder_7d493_14 (by rfl) ?_
    exact ⟨rfl, rfl⟩
set_option maxRecDepth 100000 in
theorem c_J0_length (hW : WOK l D S0) (d : Nat) {h : AH} {own tx : String} {k a v n : Nat} {bs : Nat → Int} (hz : StrZ S0 own k tx a v n bs) (hn : n ≤ 1000) : MA l D S0 yJ0_length_8abf5 cJ0_length_8abf5 1 (some .int) (d + 1) [.ref a] h 0 0 (fun r h' => r = some (I (n : Int)) ∧ h' = h) (fun _ _ => False) := by
  refine MA.startF hW (by decide +kernel) [.val (.ref a)] rfl ?_
  rintro X rfl rfl rfl hX
  refine wa_aload_n hX (i := 0) dJ0_length_8abf5_0 rfl rfl ?_
  refine wa_getZ hX hz.2.2.2.1 (by decide +kernel) dJ0_length_8abf5_1 ?_
  refine wa_lenT hX hz.2.2.2.2 dJ0_length_8abf5_4 ?_
  refine wa_aload_n hX (i := 0) dJ0_length_8abf5_5 rfl rfl ?_
  refine wa_callVZ hX (c_J0_coder hW d hz) hz.2.1 (by rfl) (by omega) (nA := 0) (by rfl) (by decide +kernel) rfl (by exact Nat.le_of_ble_eq_true rfl) dJ0_length_8abf5_6 (fun r6 h6 p6 => ?_) (fun _ _ q => q.elim)
  obtain ⟨rfl, qq6⟩ := p6
  subst h6
  dsimp only [Option.toList, List.cons_append, List.nil_append]
  refine wn_ishr hX (a := n) (b := 0) dJ0_length_8abf5_9 rfl rfl (by omega) (by omega) ?_
  refine wa_iret hX dJ0_length_8abf5_10 ?_
  exact ⟨rfl, rfl⟩
set_option maxRecDepth 100000 in
theorem c_J1_canEncode (hW : WOK l D S0) (d : Nat) {h : AH} {c : Int} (hc : inR c) : MA l D S0 yJ1_canEncode_9a6ad cJ1_canEncode_9a6ad 1 (some .boolean) d [I c] h 0 0 (fun r h' => r = some (I ((b2n (decide (0 ≤ c ∧ c ≤ 255)) : Nat) : Int)) ∧ h' = h) (fun _ _ => False) := by
  refine MA.startF hW (by decide +kernel) [.val (I c)] rfl ?_
  rintro X rfl rfl rfl hX
  refine wa_iload_n hX (i := 0) dJ1_canEncode_9a6ad_0 rfl rfl ?_
  refine wi_if_lt hX (tgt := 15) dJ1_canEncode_9a6ad_1 (by decide) (by omega) (fun c1 => ?_) (fun c1 => ?_)
  · skip
    refine wi_iconst hX dJ1_canEncode_9a6ad_15 ?_
    refine wa_zret hX dJ1_canEncode_9a6ad_16 (by rfl) ?_
    first
      | (rw [decide_eq_true (⟨by omega, by omega⟩ : 0 ≤ c ∧ c ≤ 255)]; exact ⟨rfl, rfl⟩)
      | (rw [decide_eq_false (show ¬ (0 ≤ c ∧ c ≤ 255) by omega)]; exact ⟨rfl, rfl⟩)
  · skip
    refine wa_iload_n hX (i := 0) dJ1_canEncode_9a6ad_4 rfl rfl ?_
    refine wi_sipush hX dJ1_canEncode_9a6ad_5 (by decide) ?_
    refine wi_icmp_gt hX (tgt := 15) dJ1_canEncode_9a6ad_8 (by decide) (by omega) (by omega) (fun c8 => ?_) (fun c8 => ?_)
    · skip
      refine wi_iconst hX dJ1_canEncode_9a6ad_15 ?_
      refine wa_zret hX dJ1_canEncode_9a6ad_16 (by rfl) ?_
      first
        | (rw [decide_eq_true (⟨by omega, by omega⟩ : 0 ≤ c ∧ c ≤ 255)]; exact ⟨rfl, rfl⟩)
        | (rw [decide_eq_false (show ¬ (0 ≤ c ∧ c ≤ 255) by omega)]; exact ⟨rfl, rfl⟩)
    · skip
      refine wi_iconst hX dJ1_canEncode_9a6ad_11 ?_
      refine wa_goto hX (tgt := 16) dJ1_canEncode_9a6ad_12 (by decide) ?_
      refine wa_zret hX dJ1_canEncode_9a6ad_16 (by rfl) ?_
      first
        | (rw [decide_eq_true (⟨by omega, by omega⟩ : 0 ≤ c ∧ c ≤ 255)]; exact ⟨rfl, rfl⟩)
        | (rw [decide_eq_false (show ¬ (0 ≤ c ∧ c ≤ 255) by omega)]; exact ⟨rfl, rfl⟩)
set_option maxRecDepth 100000 in
theorem c_J1_indexOfChar (hW : WOK l D S0) (d : Nat) {h : AH} {v n c : Nat} {bs : Nat → Int} (hz : va_T .byte v n (fun j => I (bs j)) (frA S0) S0 S0.heap) (hn : n ≤ 1000) (hc : c < 256) (hb : ∀ j, j < n → 0 ≤ bs j ∧ bs j < 128) : MA l D S0 yJ1_indexOfChar_4cfef cJ1_indexOfChar_4cfef 6 (some .int) d [.ref v, I (c : Int), I 0, I (n : Int)] h 0 0 (fun r h' => (∃ z, r = some (I z) ∧ ixP bs n (c : Int) z ∧ -1 ≤ z ∧ z < 1000) ∧ h' = h) (fun _ _ => False) := by
  refine MA.startF hW (by decide +kernel) [.val (.ref v), .val (I (c : Int)), .val (I 0), .val (I (n : Int)), .unset, .unset] rfl ?_
  rintro X rfl rfl rfl hX
  refine wa_iload_n hX (i := 1) dJ1_indexOfChar_4cfef_0 rfl rfl ?_
  refine wa_i2b hX dJ1_indexOfChar_4cfef_1 ?_
  rw [i2b_all c hc]
  generalize hcb : (if c < 128 then (c : Int) else (c : Int) - 256) = cb
  have hcb1 : -128 ≤ cb ∧ cb < 128 := by split at hcb <;> omega
  have hcb2 : ∀ x : Int, 0 ≤ x → x < 128 → (x = cb ↔ x = (c : Int)) := fun x h1 h2 => by split at hcb <;> omega
  clear hcb
  refine wa_istore hX dJ1_indexOfChar_4cfef_2 rfl ?_
  dsimp only [List.set]
  refine wa_iload_n hX (i := 2) dJ1_indexOfChar_4cfef_4 rfl rfl ?_
  refine wa_istore hX dJ1_indexOfChar_4cfef_5 rfl ?_
  dsimp only [List.set]
  refine WA.loop (σ := Nat) (fun z => n - z) (fun z => z ≤ n ∧ ∀ j, j < z → bs j ≠ (c : Int)) (fun _ => h) (fun z => [.val (.ref v), .val (I (c : Int)), .val (I 0), .val (I (n : Int)), .val (I cb), .val (I (z : Nat))]) ?_ 0 ⟨Nat.zero_le _, fun j hj => absurd hj (Nat.not_lt_zero j)⟩
  rintro z ⟨hzn, hF⟩ ih
  refine wa_iload hX dJ1_indexOfChar_4cfef_7 rfl ?_
  refine wa_iload_n hX (i := 3) dJ1_indexOfChar_4cfef_9 rfl rfl ?_
  refine wi_icmp_ge hX (tgt := 31) dJ1_indexOfChar_4cfef_10 (by decide) (by omega) (by omega) (fun c10 => ?_) (fun c10 => ?_)
  · skip
    refine wi_iconst hX dJ1_indexOfChar_4cfef_31 ?_
    refine wa_iret hX dJ1_indexOfChar_4cfef_32 ?_
    exact ⟨⟨-1, rfl, Or.inr ⟨fun i hi => hF i (by omega), rfl⟩, by omega, by omega⟩, rfl⟩
  · skip
    refine wa_aload_n hX (i := 0) dJ1_indexOfChar_4cfef_13 rfl rfl ?_
    refine wa_iload hX dJ1_indexOfChar_4cfef_14 rfl ?_
    refine wa_baldT hX hz (by omega) (by omega) (by omega) dJ1_indexOfChar_4cfef_16 ?_
    rw [Int.toNat_natCast]
    obtain ⟨y1, y2⟩ := hb z (by omega)
    have y3 := hcb2 _ y1 y2
    refine wa_iload hX dJ1_indexOfChar_4cfef_17 rfl ?_
    refine wi_icmp_ne hX (tgt := 25) dJ1_indexOfChar_4cfef_19 (by decide) (by omega) (by omega) (fun c19 => ?_) (fun c19 => ?_)
    · skip
      refine wi_iinc hX dJ1_indexOfChar_4cfef_25 rfl ?_
      dsimp only [List.set]
      refine wa_goto hX (tgt := 7) dJ1_indexOfChar_4cfef_28 (by decide) ?_
      exact ih (z + 1) ⟨by omega, fun j hj => by
        by_cases g : j = z
        · subst g; exact fun q => c19 (y3.mpr q)
        · exact hF j (by omega)⟩ (by omega)
    · skip
      refine wa_iload hX dJ1_indexOfChar_4cfef_22 rfl ?_
      refine wa_iret hX dJ1_indexOfChar_4cfef_24 ?_
      exact ⟨⟨_, rfl, Or.inl ⟨z, by omega, y3.mp c19, hF, rfl⟩, by omega, by omega⟩, rfl⟩
set_option maxRecDepth 100000 in
theorem c_J1_indexOf (hW : WOK l D S0) (d : Nat) {h : AH} {v n : Nat} {c : Int} {bs : Nat → Int} (hz : va_T .byte v n (fun j => I (bs j)) (frA S0) S0 S0.heap) (hn : n ≤ 1000) (hn0 : 0 < n) (hc : inR c) (hb : ∀ j, j < n → 0 ≤ bs j ∧ bs j < 128) : MA l D S0 yJ1_indexOf_4cfef cJ1_indexOf_4cfef 4 (some .int) (d + 1) [.ref v, I c, I 0, I (n : Int)] h 0 0 (fun r h' => (∃ z, r = some (I z) ∧ ixP bs n c z ∧ -1 ≤ z ∧ z < 1000) ∧ h' = h) (fun _ _ => False) := by
  refine MA.startF hW (by decide +kernel) [.val (.ref v), .val (I c), .val (I 0), .val (I (n : Int))] rfl ?_
  rintro X rfl rfl rfl hX
  refine wa_iload_n hX (i := 1) dJ1_indexOf_4cfef_0 rfl rfl ?_
  refine wa_callS hX (c_J1_canEncode hW d hc) (by rfl) (by omega) (nA := 1) (by rfl) (by decide +kernel) rfl (by exact Nat.le_of_ble_eq_true rfl) dJ1_indexOf_4cfef_1 (fun r1 h1 p1 => ?_) (fun _ _ q => q.elim)
  obtain ⟨rfl, qq1⟩ := p1; subst h1
  dsimp only [Option.toList, List.cons_append, List.nil_append]
  refine wi_if_ne hX (tgt := 9) dJ1_indexOf_4cfef_4 (by decide) (by exact b2n_inR _) (fun c4 => ?_) (fun c4 => ?_)
  · skip
    have q := b2n_t c4
    rw [decide_eq_true_eq] at q
    obtain ⟨cn, rfl⟩ := Int.eq_ofNat_of_zero_le q.1
    refine wa_iload_n hX (i := 2) dJ1_indexOf_4cfef_9 rfl rfl ?_
    refine wi_iconst hX dJ1_indexOf_4cfef_10 ?_
    refine wi_max hX (by decide +kernel) rfl (by exact Nat.le_of_ble_eq_true rfl) (by omega) (by omega) dJ1_indexOf_4cfef_11 ?_
    refine wa_istore_n hX (i := 2) dJ1_indexOf_4cfef_14 rfl rfl ?_
    dsimp only [List.set]
    refine wa_iload_n hX (i := 3) dJ1_indexOf_4cfef_15 rfl rfl ?_
    refine wa_aload_n hX (i := 0) dJ1_indexOf_4cfef_16 rfl rfl ?_
    refine wa_lenT hX hz dJ1_indexOf_4cfef_17 ?_
    refine wi_min hX (by decide +kernel) rfl (by exact Nat.le_of_ble_eq_true rfl) (by omega) (by omega) dJ1_indexOf_4cfef_18 ?_
    refine wa_istore_n hX (i := 3) dJ1_indexOf_4cfef_21 rfl rfl ?_
    dsimp only [List.set]
    rw [show max (0 : Int) 0 = 0 by decide, show min (n : Int) (n : Int) = (n : Int) by omega]
    refine wa_iload_n hX (i := 2) dJ1_indexOf_4cfef_22 rfl rfl ?_
    refine wa_iload_n hX (i := 3) dJ1_indexOf_4cfef_23 rfl rfl ?_
    refine wi_icmp_lt hX (tgt := 29) dJ1_indexOf_4cfef_24 (by decide) (by omega) (by omega) (fun c24 => ?_) (fun c24 => ?_)
    · skip
      refine wa_aload_n hX (i := 0) dJ1_indexOf_4cfef_29 rfl rfl ?_
      refine wa_iload_n hX (i := 1) dJ1_indexOf_4cfef_30 rfl rfl ?_
      refine wa_iload_n hX (i := 2) dJ1_indexOf_4cfef_31 rfl rfl ?_
      refine wa_iload_n hX (i := 3) dJ1_indexOf_4cfef_32 rfl rfl ?_
      refine wa_callS hX (c_J1_indexOfChar hW d hz hn (c := cn) (by omega) hb) (by rfl) (by omega) (nA := 4) (by rfl) (by decide +kernel) rfl (by exact Nat.le_of_ble_eq_true rfl) dJ1_indexOf_4cfef_33 (fun r33 h33 p33 => ?_) (fun _ _ q => q.elim)
      obtain ⟨⟨z, rfl, hz1, hz2⟩, rfl⟩ := p33
      dsimp only [Option.toList, List.cons_append, List.nil_append]
      refine wa_iret hX dJ1_indexOf_4cfef_36 ?_
      exact ⟨⟨z, rfl, hz1, hz2⟩, rfl⟩
    · skip
      exfalso; omega
  · skip
    refine wi_iconst hX dJ1_indexOf_4cfef_7 ?_
    refine wa_iret hX dJ1_indexOf_4cfef_8 ?_
    have q := b2n_f c4
    rw [decide_eq_false_iff_not] at q
    exact ⟨⟨-1, rfl, Or.inr ⟨fun i hi e => by have := hb i hi; omega, rfl⟩, by omega, by omega⟩, rfl⟩
set_option maxRecDepth 100000 in
theorem c_J0_indexOf2 (hW : WOK l D S0) (d : Nat) {h : AH} {own tx : String} {k a v n : Nat} {c : Int} {bs : Nat → Int} (hz : StrZ S0 own k tx a v n bs) (hn : n ≤ 1000) (hn0 : 0 < n) (hc : inR c) (hb : ∀ j, j < n → 0 ≤ bs j ∧ bs j < 128) : MA l D S0 yJ0_indexOf_7cf53 cJ0_indexOf_7cf53 3 (some .int) (d + 2) [.ref a, I c, I 0] h 0 0 (fun r h' => (∃ z, r = some (I z) ∧ ixP bs n c z ∧ -1 ≤ z ∧ z < 1000) ∧ h' = h) (fun _ _ => False) := by
  refine MA.startF hW (by decide +kernel) [.val (.ref a), .val (I c), .val (I 0)] rfl ?_
  rintro X rfl rfl rfl hX
  refine wa_aload_n hX (i := 0) dJ0_indexOf_7cf53_0 rfl rfl ?_
  refine wa_callVZ hX (c_J0_isLatin1 hW d hz) hz.2.1 (by rfl) (by omega) (nA := 0) (by rfl) (by decide +kernel) rfl (by exact Nat.le_of_ble_eq_true rfl) dJ0_indexOf_7cf53_1 (fun r1 h1 p1 => ?_) (fun _ _ q => q.elim)
  obtain ⟨rfl, qq1⟩ := p1
  subst h1
  dsimp only [Option.toList, List.cons_append, List.nil_append]
  refine wi_if_eq hX (tgt := 23) dJ0_indexOf_7cf53_4 (by decide) (by omega) (fun c4 => ?_) (fun c4 => ?_)
  · skip
    exfalso; omega
  · skip
    refine wa_aload_n hX (i := 0) dJ0_indexOf_7cf53_7 rfl rfl ?_
    refine wa_getZ hX hz.2.2.2.1 (by decide +kernel) dJ0_indexOf_7cf53_8 ?_
    refine wa_iload_n hX (i := 1) dJ0_indexOf_7cf53_11 rfl rfl ?_
    refine wa_iload_n hX (i := 2) dJ0_indexOf_7cf53_12 rfl rfl ?_
    refine wa_aload_n hX (i := 0) dJ0_indexOf_7cf53_13 rfl rfl ?_
    refine wa_callVZ hX (c_J0_length hW d hz hn) hz.2.1 (by rfl) (by omega) (nA := 0) (by rfl) (by decide +kernel) rfl (by exact Nat.le_of_ble_eq_true rfl) dJ0_indexOf_7cf53_14 (fun r14 h14 p14 => ?_) (fun _ _ q => q.elim)
    obtain ⟨rfl, qq14⟩ := p14
    subst h14
    dsimp only [Option.toList, List.cons_append, List.nil_append]
    refine wa_callS hX (c_J1_indexOf hW d hz.2.2.2.2 hn hn0 hc hb) (by rfl) (by omega) (nA := 4) (by rfl) (by decide +kernel) rfl (by exact Nat.le_of_ble_eq_true rfl) dJ0_indexOf_7cf53_17 (fun r17 h17 p17 => ?_) (fun _ _ q => q.elim)
    obtain ⟨⟨z, rfl, hz1, hz2⟩, rfl⟩ := p17
    dsimp only [Option.toList, List.cons_append, List.nil_append]
    refine wa_goto hX (tgt := 36) dJ0_indexOf_7cf53_20 (by decide) ?_
    refine wa_iret hX dJ0_indexOf_7cf53_36 ?_
    exact ⟨⟨z, rfl, hz1, hz2⟩, rfl⟩
set_option maxRecDepth 100000 in
theorem c_J0_indexOf (hW : WOK l D S0) (d : Nat) {h : AH} {own tx : String} {k a v n : Nat} {c : Int} {bs : Nat → Int} (hz : StrZ S0 own k tx a v n bs) (hn : n ≤ 1000) (hn0 : 0 < n) (hc : inR c) (hb : ∀ j, j < n → 0 ≤ bs j ∧ bs j < 128) : MA l D S0 yJ0_indexOf_0f7a4 cJ0_indexOf_0f7a4 2 (some .int) (d + 3) [.ref a, I c] h 0 0 (fun r h' => (∃ z, r = some (I z) ∧ ixP bs n c z ∧ -1 ≤ z ∧ z < 1000) ∧ h' = h) (fun _ _ => False) := by
  refine MA.startF hW (by decide +kernel) [.val (.ref a), .val (I c)] rfl ?_
  rintro X rfl rfl rfl hX
  refine wa_aload_n hX (i := 0) dJ0_indexOf_0f7a4_0 rfl rfl ?_
  refine wa_iload_n hX (i := 1) dJ0_indexOf_0f7a4_1 rfl rfl ?_
  refine wi_iconst hX dJ0_indexOf_0f7a4_2 ?_
  refine wa_callVZ hX (c_J0_indexOf2 hW d hz hn hn0 hc hb) hz.2.1 (by rfl) (by omega) (nA := 2) (by rfl) (by decide +kernel) rfl (by exact Nat.le_of_ble_eq_true rfl) dJ0_indexOf_0f7a4_3 (fun r3 h3 p3 => ?_) (fun _ _ q => q.elim)
  obtain ⟨⟨z, rfl, hz1, hz2⟩, rfl⟩ := p3
  dsimp only [Option.toList, List.cons_append, List.nil_append]
  refine wa_iret hX dJ0_indexOf_0f7a4_6 ?_
  exact ⟨⟨z, rfl, hz1, hz2⟩, rfl⟩
end C9i
