/-! ROWS of the layer: one an instruction; wa_: over 32-bit words, wi_: over whole numbers (I z is the int of z). Written by wip/tools/rows.py. -/
abbrev I (z : Int) : Value := .int (Int32.ofInt z)
abbrev inR (z : Int) : Prop := -2147483648 ≤ z ∧ z < 2147483648
theorem tI {z : Int} (h : inR z) : (Int32.ofInt z).toInt = z := by
  have h' := h
  obtain ⟨h1, h2⟩ := h'
  first
    | exact Int32.toInt_ofInt_of_le (by omega) (by omega)
    | (rw [Int32.toInt_ofInt, Int.bmod_eq_of_le] <;> omega)
theorem eqI {a b : Int} (ha : inR a) (hb : inR b) : Int32.ofInt a = Int32.ofInt b ↔ a = b := by
  rw [← Int32.toInt_inj, tI ha, tI hb]
theorem ltI {a b : Int} (ha : inR a) (hb : inR b) : Int32.ofInt a < Int32.ofInt b ↔ a < b := by
  rw [Int32.lt_iff_toInt_lt, tI ha, tI hb]
theorem leI {a b : Int} (ha : inR a) (hb : inR b) : Int32.ofInt a ≤ Int32.ofInt b ↔ a ≤ b := by
  rw [Int32.le_iff_toInt_le, tI ha, tI hb]
theorem zI : (0 : Int32) = Int32.ofInt 0 := rfl
section LY2
variable {X : Cx} {own : String} {cc : ByteArray} {nL : Nat} {ret : Option FieldType} {nm : String} {d : Nat} {post : Option Value → AH → Prop} {px : String → AH → Prop} {h : AH} {k sl pc : Nat} {ls : List Slot} {rest : List Value}
theorem WA.eq {pc2 : Nat} {ls2 : List Slot} {st st2 : List Value} (e1 : pc = pc2) (e2 : ls = ls2) (e3 : st = st2) (w : WA X h k sl pc2 ls2 st2) : WA X h k sl pc ls st := by
  subst e1; subst e2; subst e3; exact w
theorem WA.room {k2 sl2 : Nat} {st : List Value} (e1 : k2 ≤ k) (e2 : sl2 ≤ sl) (w : WA X h k2 sl2 pc ls st) : WA X h k sl pc ls st := by
  obtain ⟨p, l, e, s, m, args, below, meth, c, D, S0, d0, mc, ms, po, pp⟩ := X
  intro H locs cells slots h1 h2 hR hL
  exact w H locs cells slots (by omega) (by omega) hR hL
theorem WA.heap {h2 : AH} {st : List Value} (e : h = h2) (w : WA X h2 k sl pc ls st) : WA X h k sl pc ls st := by
  subst e; exact w
theorem WA.lab {a l0 : Nat} {ob : Ob} {st : List Value} (l1 : Nat) (ha : h a = some (l0, ob)) (w : WA X (hset h a (l1, ob)) k sl pc ls st) : WA X h k sl pc ls st := by
  obtain ⟨p, l, e, s, m, args, below, meth, c, D, S0, d0, mc, ms, po, pp⟩ := X
  intro H locs cells slots h1 h2 hR hL
  exact w H locs cells slots h1 h2 (hR.lab ha) hL
theorem WA.less {h2 : AH} {st : List Value} (hh : ∀ a x, h2 a = some x → h a = some x) (w : WA X h2 k sl pc ls st) : WA X h k sl pc ls st := by
  obtain ⟨p, l, e, s, m, args, below, meth, c, D, S0, d0, mc, ms, po, pp⟩ := X
  intro H locs cells slots h1 h2 hR hL
  exact w H locs cells slots h1 h2 (hR.less hh) hL
theorem wi_iconst (hX : Ok X own cc nL ret nm d post px) {n : Int} (dg : decode cc pc = .ok (.iconst n, 1))  (k' : WA X h k sl (pc + 1) ls (I n :: rest)) : WA X h k sl pc ls (rest) := by
  obtain ⟨p, l, e, s, m, args, below, meth, c, D, S0, d0, mc, ms, po, pp⟩ := X
  intro H locs cells slots h1 h2 hR hL
  exact lv_iconst (v := Int32.ofInt n) hX.1 hX.2.1 dg rfl (k' H locs cells slots h1 h2 hR hL)
theorem wi_bipush (hX : Ok X own cc nL ret nm d post px) {n : Int} (dg : decode cc pc = .ok (.bipush n, 2)) (hv : (Int8.ofInt n).toInt32 = Int32.ofInt n) (k' : WA X h k sl (pc + 2) ls (I n :: rest)) : WA X h k sl pc ls (rest) := by
  obtain ⟨p, l, e, s, m, args, below, meth, c, D, S0, d0, mc, ms, po, pp⟩ := X
  intro H locs cells slots h1 h2 hR hL
  exact lv_bipush (v := Int32.ofInt n) hX.1 hX.2.1 dg hv (k' H locs cells slots h1 h2 hR hL)
theorem wi_sipush (hX : Ok X own cc nL ret nm d post px) {n : Int} (dg : decode cc pc = .ok (.sipush n, 3)) (hv : (Int16.ofInt n).toInt32 = Int32.ofInt n) (k' : WA X h k sl (pc + 3) ls (I n :: rest)) : WA X h k sl pc ls (rest) := by
  obtain ⟨p, l, e, s, m, args, below, meth, c, D, S0, d0, mc, ms, po, pp⟩ := X
  intro H locs cells slots h1 h2 hR hL
  exact lv_sipush (v := Int32.ofInt n) hX.1 hX.2.1 dg hv (k' H locs cells slots h1 h2 hR hL)
theorem wa_lconst (hX : Ok X own cc nL ret nm d post px) {n : Fin 2} (dg : decode cc pc = .ok (.lconst n, 1))  (k' : WA X h k sl (pc + 1) ls (.long (Int64.ofNat (n : Nat)) :: rest)) : WA X h k sl pc ls (rest) := by
  obtain ⟨p, l, e, s, m, args, below, meth, c, D, S0, d0, mc, ms, po, pp⟩ := X
  intro H locs cells slots h1 h2 hR hL
  exact lv_lconst (v := Int64.ofNat (n : Nat)) hX.1 hX.2.1 dg rfl (k' H locs cells slots h1 h2 hR hL)
theorem wa_null (hX : Ok X own cc nL ret nm d post px)  (dg : decode cc pc = .ok (.aconst_null, 1))  (k' : WA X h k sl (pc + 1) ls (.null :: rest)) : WA X h k sl pc ls (rest) := by
  obtain ⟨p, l, e, s, m, args, below, meth, c, D, S0, d0, mc, ms, po, pp⟩ := X
  intro H locs cells slots h1 h2 hR hL
  exact lv_null hX.1 hX.2.1 dg  (k' H locs cells slots h1 h2 hR hL)
theorem wa_iload_n (hX : Ok X own cc nL ret nm d post px) {q : Fin 4} {i : Nat} {x : Int32} (dg : decode cc pc = .ok (.iload_n q, 1)) (hi : (q : Nat) = i) (hl : ls[i]? = some (.val (.int x))) (k' : WA X h k sl (pc + 1) ls (.int x :: rest)) : WA X h k sl pc ls (rest) := by
  obtain ⟨p, l, e, s, m, args, below, meth, c, D, S0, d0, mc, ms, po, pp⟩ := X
  intro H locs cells slots h1 h2 hR hL
  exact lv_iload_n hX.1 hX.2.1 dg hi (by rw [List.getElem?_toArray]; exact hl) (k' H locs cells slots h1 h2 hR hL)
theorem wa_iload (hX : Ok X own cc nL ret nm d post px) {i : Nat} {x : Int32} (dg : decode cc pc = .ok (.iload i, 2)) (hl : ls[i]? = some (.val (.int x))) (k' : WA X h k sl (pc + 2) ls (.int x :: rest)) : WA X h k sl pc ls (rest) := by
  obtain ⟨p, l, e, s, m, args, below, meth, c, D, S0, d0, mc, ms, po, pp⟩ := X
  intro H locs cells slots h1 h2 hR hL
  exact lv_iload hX.1 hX.2.1 dg (by rw [List.getElem?_toArray]; exact hl) (k' H locs cells slots h1 h2 hR hL)
theorem wa_lload_n (hX : Ok X own cc nL ret nm d post px) {q : Fin 4} {i : Nat} {x : Int64} (dg : decode cc pc = .ok (.lload_n q, 1)) (hi : (q : Nat) = i) (hl : ls[i]? = some (.val (.long x))) (k' : WA X h k sl (pc + 1) ls (.long x :: rest)) : WA X h k sl pc ls (rest) := by
  obtain ⟨p, l, e, s, m, args, below, meth, c, D, S0, d0, mc, ms, po, pp⟩ := X
  intro H locs cells slots h1 h2 hR hL
  exact lv_lload_n hX.1 hX.2.1 dg hi (by rw [List.getElem?_toArray]; exact hl) (k' H locs cells slots h1 h2 hR hL)
theorem wa_lload (hX : Ok X own cc nL ret nm d post px) {i : Nat} {x : Int64} (dg : decode cc pc = .ok (.lload i, 2)) (hl : ls[i]? = some (.val (.long x))) (k' : WA X h k sl (pc + 2) ls (.long x :: rest)) : WA X h k sl pc ls (rest) := by
  obtain ⟨p, l, e, s, m, args, below, meth, c, D, S0, d0, mc, ms, po, pp⟩ := X
  intro H locs cells slots h1 h2 hR hL
  exact lv_lload hX.1 hX.2.1 dg (by rw [List.getElem?_toArray]; exact hl) (k' H locs cells slots h1 h2 hR hL)
theorem wa_fload_n (hX : Ok X own cc nL ret nm d post px) {q : Fin 4} {i : Nat} {x : UInt32} (dg : decode cc pc = .ok (.fload_n q, 1)) (hi : (q : Nat) = i) (hl : ls[i]? = some (.val (.float x))) (k' : WA X h k sl (pc + 1) ls (.float x :: rest)) : WA X h k sl pc ls (rest) := by
  obtain ⟨p, l, e, s, m, args, below, meth, c, D, S0, d0, mc, ms, po, pp⟩ := X
  intro H locs cells slots h1 h2 hR hL
  exact lv_fload_n hX.1 hX.2.1 dg hi (by rw [List.getElem?_toArray]; exact hl) (k' H locs cells slots h1 h2 hR hL)
theorem wa_fload (hX : Ok X own cc nL ret nm d post px) {i : Nat} {x : UInt32} (dg : decode cc pc = .ok (.fload i, 2)) (hl : ls[i]? = some (.val (.float x))) (k' : WA X h k sl (pc + 2) ls (.float x :: rest)) : WA X h k sl pc ls (rest) := by
  obtain ⟨p, l, e, s, m, args, below, meth, c, D, S0, d0, mc, ms, po, pp⟩ := X
  intro H locs cells slots h1 h2 hR hL
  exact lv_fload hX.1 hX.2.1 dg (by rw [List.getElem?_toArray]; exact hl) (k' H locs cells slots h1 h2 hR hL)
theorem wa_dload_n (hX : Ok X own cc nL ret nm d post px) {q : Fin 4} {i : Nat} {x : UInt64} (dg : decode cc pc = .ok (.dload_n q, 1)) (hi : (q : Nat) = i) (hl : ls[i]? = some (.val (.double x))) (k' : WA X h k sl (pc + 1) ls (.double x :: rest)) : WA X h k sl pc ls (rest) := by
  obtain ⟨p, l, e, s, m, args, below, meth, c, D, S0, d0, mc, ms, po, pp⟩ := X
  intro H locs cells slots h1 h2 hR hL
  exact lv_dload_n hX.1 hX.2.1 dg hi (by rw [List.getElem?_toArray]; exact hl) (k' H locs cells slots h1 h2 hR hL)
theorem wa_dload (hX : Ok X own cc nL ret nm d post px) {i : Nat} {x : UInt64} (dg : decode cc pc = .ok (.dload i, 2)) (hl : ls[i]? = some (.val (.double x))) (k' : WA X h k sl (pc + 2) ls (.double x :: rest)) : WA X h k sl pc ls (rest) := by
  obtain ⟨p, l, e, s, m, args, below, meth, c, D, S0, d0, mc, ms, po, pp⟩ := X
  intro H locs cells slots h1 h2 hR hL
  exact lv_dload hX.1 hX.2.1 dg (by rw [List.getElem?_toArray]; exact hl) (k' H locs cells slots h1 h2 hR hL)
theorem wa_aload_n (hX : Ok X own cc nL ret nm d post px) {q : Fin 4} {i : Nat} {x : Nat} (dg : decode cc pc = .ok (.aload_n q, 1)) (hi : (q : Nat) = i) (hl : ls[i]? = some (.val (.ref x))) (k' : WA X h k sl (pc + 1) ls (.ref x :: rest)) : WA X h k sl pc ls (rest) := by
  obtain ⟨p, l, e, s, m, args, below, meth, c, D, S0, d0, mc, ms, po, pp⟩ := X
  intro H locs cells slots h1 h2 hR hL
  exact lv_aload_n hX.1 hX.2.1 dg hi (by rw [List.getElem?_toArray]; exact hl) (k' H locs cells slots h1 h2 hR hL)
theorem wa_aload (hX : Ok X own cc nL ret nm d post px) {i : Nat} {x : Nat} (dg : decode cc pc = .ok (.aload i, 2)) (hl : ls[i]? = some (.val (.ref x))) (k' : WA X h k sl (pc + 2) ls (.ref x :: rest)) : WA X h k sl pc ls (rest) := by
  obtain ⟨p, l, e, s, m, args, below, meth, c, D, S0, d0, mc, ms, po, pp⟩ := X
  intro H locs cells slots h1 h2 hR hL
  exact lv_aload hX.1 hX.2.1 dg (by rw [List.getElem?_toArray]; exact hl) (k' H locs cells slots h1 h2 hR hL)
theorem wa_aloadN_n (hX : Ok X own cc nL ret nm d post px) {q : Fin 4} {i : Nat} (dg : decode cc pc = .ok (.aload_n q, 1)) (hi : (q : Nat) = i) (hl : ls[i]? = some (.val .null)) (k' : WA X h k sl (pc + 1) ls (.null :: rest)) : WA X h k sl pc ls rest := by
  subst hi
  obtain ⟨p, l, e, s, m, args, below, meth, c, D, S0, d0, mc, ms, po, pp⟩ := X
  intro H locs cells slots h1 h2 hR hL
  have hl' : ls.toArray[(q : Nat)]? = some (.val .null) := by rw [List.getElem?_toArray]; exact hl
  intro T hT X0
  obtain ⟨t, a, b⟩ := k' H locs cells slots h1 h2 hR hL T hT X0
  refine ⟨t, ?_, b⟩
  have hexec := hX.1
  have hb := hX.2.1
  jvm_step X0.here [X0.here.top, hexec, hb, dg, hl', Value.isRef]
  exact a
theorem wa_aloadN (hX : Ok X own cc nL ret nm d post px) {i : Nat} (dg : decode cc pc = .ok (.aload i, 2)) (hl : ls[i]? = some (.val .null)) (k' : WA X h k sl (pc + 2) ls (.null :: rest)) : WA X h k sl pc ls rest := by
  obtain ⟨p, l, e, s, m, args, below, meth, c, D, S0, d0, mc, ms, po, pp⟩ := X
  intro H locs cells slots h1 h2 hR hL
  have hl' : ls.toArray[i]? = some (.val .null) := by rw [List.getElem?_toArray]; exact hl
  intro T hT X0
  obtain ⟨t, a, b⟩ := k' H locs cells slots h1 h2 hR hL T hT X0
  refine ⟨t, ?_, b⟩
  have hexec := hX.1
  have hb := hX.2.1
  jvm_step X0.here [X0.here.top, hexec, hb, dg, hl', Value.isRef]
  exact a
def okS (ls : List Slot) (i : Nat) : Bool := match ls[i]? with
  | some (.val old) => old.category == 1
  | some .unset => true
  | _ => false
theorem okS_1 {ls : List Slot} {i : Nat} {v : Value} (hs : okS ls i = true) (hc : v.category = 1) : storeLocals ls.toArray i v = some (ls.set i (.val v)).toArray := by
  unfold okS at hs
  have hc2 : ¬ v.category = 2 := by omega
  cases e : ls[i]? with
  | none => rw [e] at hs; cases hs
  | some x =>
    have hi : i < ls.length := (List.getElem?_eq_some_iff.mp e).1
    rw [e] at hs
    have es : storeSelf ls.toArray i v = some (ls.set i (.val v)).toArray := by
      simp [storeSelf, setAt, hi, hc2]
    have e2 : ls.toArray[i]? = some x := by rw [List.getElem?_toArray]; exact e
    cases x with
    | unset => simp only [storeLocals, e2]; exact es
    | second => cases hs
    | val old =>
      have ho : old.category = 1 := by simpa using hs
      have ho2 : ¬ old.category = 2 := by omega
      simp only [storeLocals, e2, Option.bind_eq_bind, Option.bind_some, ho2, if_false]
      exact es
def okS2 (ls : List Slot) (i : Nat) : Bool := match ls[i]?, ls[i + 1]? with
  | some (.val old), some (.val old2) => old.category == 1 && old2.category == 1
  | some .unset, some (.val old2) => old2.category == 1
  | some (.val old), some .unset => old.category == 1
  | some .unset, some .unset => true
  | some (.val _), some .second => true
  | _, _ => false
theorem okS_2 {ls : List Slot} {i : Nat} {v : Value} (hs : okS2 ls i = true) (hc : v.category = 2) : storeLocals ls.toArray i v = some ((ls.set i (.val v)).set (i + 1) .second).toArray := by
  unfold okS2 at hs
  cases e : ls[i]? with
  | none => rw [e] at hs; cases hs
  | some x =>
    cases f : ls[i + 1]? with
    | none => rw [e, f] at hs; cases x <;> cases hs
    | some y =>
      have hi : i < ls.length := (List.getElem?_eq_some_iff.mp e).1
      have hi1 : i + 1 < ls.length := (List.getElem?_eq_some_iff.mp f).1
      have e2 : ls.toArray[i]? = some x := by rw [List.getElem?_toArray]; exact e
      have f2 : ls.toArray[i + 1]? = some y := by rw [List.getElem?_toArray]; exact f
      have f3 : ls[i + 1] = y := (List.getElem?_eq_some_iff.mp f).2
      rw [e, f] at hs
      have ne : ¬ i = i + 1 := by omega
      have self1 : (∀ o, y = .val o → o.category = 1) → storeSelf ls.toArray i v = some ((ls.set i (.val v)).set (i + 1) .second).toArray := by
        intro hy
        cases y with
        | unset => simp [storeSelf, setAt, hi, hi1, hc, f3, f, f2, ne]
        | second => simp [storeSelf, setAt, hi, hi1, hc, f3, f, f2, ne]
        | val o =>
          have h9 := hy o rfl
          simp [storeSelf, setAt, hi, hi1, hc, f3, f, f2, ne, h9]
      cases x with
      | second => cases hs
      | unset =>
        simp only [storeLocals, e2, Option.bind_eq_bind, Option.bind_some]
        refine self1 fun o ho => ?_
        subst ho
        simpa using hs
      | val old =>
        cases y with
        | unset =>
          have ho : old.category = 1 := by simpa using hs
          have ho2 : ¬ old.category = 2 := by omega
          simp only [storeLocals, e2, Option.bind_eq_bind, Option.bind_some, ho2, if_false]
          exact self1 fun o ho => by cases ho
        | val o2 =>
          have ho : old.category = 1 ∧ o2.category = 1 := by simpa using hs
          have ho2 : ¬ old.category = 2 := by omega
          simp only [storeLocals, e2, Option.bind_eq_bind, Option.bind_some, ho2, if_false]
          exact self1 fun o hq => by cases hq; exact ho.2
        | second =>
          by_cases ho2 : old.category = 2
          · simp only [storeLocals, e2, Option.bind_eq_bind, Option.bind_some, ho2, if_true]
            simp [storeSelf, setAt, hi, hi1, hc, ne, List.set_comm, List.set_set]
          · simp only [storeLocals, e2, Option.bind_eq_bind, Option.bind_some, ho2, if_false]
            exact self1 fun o ho => by cases ho
theorem wa_istore_n (hX : Ok X own cc nL ret nm d post px) {q : Fin 4} {i : Nat} {x : Int32} (dg : decode cc pc = .ok (.istore_n q, 1)) (hi : (q : Nat) = i) (hs : okS ls i = true) (k' : WA X h k sl (pc + 1) (ls.set i (.val (.int x))) rest) : WA X h k sl pc ls (.int x :: rest) := by
  subst hi
  obtain ⟨p, l, e, s, m, args, below, meth, c, D, S0, d0, mc, ms, po, pp⟩ := X
  intro H locs cells slots h1 h2 hR hL
  have e' := okS_1 (v := .int x) hs rfl
  intro T hT X0
  obtain ⟨t, a, b⟩ := k' H locs cells slots h1 h2 hR hL T hT X0
  refine ⟨t, ?_, b⟩
  have hexec := hX.1
  have hb := hX.2.1
  jvm_step X0.here [X0.here.top, ↓top_set X0.here.top, hexec, hb, dg, e', Value.isRef]
  exact a
theorem wa_istore (hX : Ok X own cc nL ret nm d post px) {i : Nat} {x : Int32} (dg : decode cc pc = .ok (.istore i, 2)) (hs : okS ls i = true) (k' : WA X h k sl (pc + 2) (ls.set i (.val (.int x))) rest) : WA X h k sl pc ls (.int x :: rest) := by
  obtain ⟨p, l, e, s, m, args, below, meth, c, D, S0, d0, mc, ms, po, pp⟩ := X
  intro H locs cells slots h1 h2 hR hL
  have e' := okS_1 (v := .int x) hs rfl
  intro T hT X0
  obtain ⟨t, a, b⟩ := k' H locs cells slots h1 h2 hR hL T hT X0
  refine ⟨t, ?_, b⟩
  have hexec := hX.1
  have hb := hX.2.1
  jvm_step X0.here [X0.here.top, ↓top_set X0.here.top, hexec, hb, dg, e', Value.isRef]
  exact a
theorem wa_lstore_n (hX : Ok X own cc nL ret nm d post px) {q : Fin 4} {i : Nat} {x : Int64} (dg : decode cc pc = .ok (.lstore_n q, 1)) (hi : (q : Nat) = i) (hs : okS2 ls i = true) (k' : WA X h k sl (pc + 1) ((ls.set i (.val (.long x))).set (i + 1) .second) rest) : WA X h k sl pc ls (.long x :: rest) := by
  subst hi
  obtain ⟨p, l, e, s, m, args, below, meth, c, D, S0, d0, mc, ms, po, pp⟩ := X
  intro H locs cells slots h1 h2 hR hL
  have e' := okS_2 (v := .long x) hs rfl
  intro T hT X0
  obtain ⟨t, a, b⟩ := k' H locs cells slots h1 h2 hR hL T hT X0
  refine ⟨t, ?_, b⟩
  have hexec := hX.1
  have hb := hX.2.1
  jvm_step X0.here [X0.here.top, ↓top_set X0.here.top, hexec, hb, dg, e', Value.isRef]
  exact a
theorem wa_lstore (hX : Ok X own cc nL ret nm d post px) {i : Nat} {x : Int64} (dg : decode cc pc = .ok (.lstore i, 2)) (hs : okS2 ls i = true) (k' : WA X h k sl (pc + 2) ((ls.set i (.val (.long x))).set (i + 1) .second) rest) : WA X h k sl pc ls (.long x :: rest) := by
  obtain ⟨p, l, e, s, m, args, below, meth, c, D, S0, d0, mc, ms, po, pp⟩ := X
  intro H locs cells slots h1 h2 hR hL
  have e' := okS_2 (v := .long x) hs rfl
  intro T hT X0
  obtain ⟨t, a, b⟩ := k' H locs cells slots h1 h2 hR hL T hT X0
  refine ⟨t, ?_, b⟩
  have hexec := hX.1
  have hb := hX.2.1
  jvm_step X0.here [X0.here.top, ↓top_set X0.here.top, hexec, hb, dg, e', Value.isRef]
  exact a
theorem wa_fstore_n (hX : Ok X own cc nL ret nm d post px) {q : Fin 4} {i : Nat} {x : UInt32} (dg : decode cc pc = .ok (.fstore_n q, 1)) (hi : (q : Nat) = i) (hs : okS ls i = true) (k' : WA X h k sl (pc + 1) (ls.set i (.val (.float x))) rest) : WA X h k sl pc ls (.float x :: rest) := by
  subst hi
  obtain ⟨p, l, e, s, m, args, below, meth, c, D, S0, d0, mc, ms, po, pp⟩ := X
  intro H locs cells slots h1 h2 hR hL
  have e' := okS_1 (v := .float x) hs rfl
  intro T hT X0
  obtain ⟨t, a, b⟩ := k' H locs cells slots h1 h2 hR hL T hT X0
  refine ⟨t, ?_, b⟩
  have hexec := hX.1
  have hb := hX.2.1
  jvm_step X0.here [X0.here.top, ↓top_set X0.here.top, hexec, hb, dg, e', Value.isRef]
  exact a
theorem wa_fstore (hX : Ok X own cc nL ret nm d post px) {i : Nat} {x : UInt32} (dg : decode cc pc = .ok (.fstore i, 2)) (hs : okS ls i = true) (k' : WA X h k sl (pc + 2) (ls.set i (.val (.float x))) rest) : WA X h k sl pc ls (.float x :: rest) := by
  obtain ⟨p, l, e, s, m, args, below, meth, c, D, S0, d0, mc, ms, po, pp⟩ := X
  intro H locs cells slots h1 h2 hR hL
  have e' := okS_1 (v := .float x) hs rfl
  intro T hT X0
  obtain ⟨t, a, b⟩ := k' H locs cells slots h1 h2 hR hL T hT X0
  refine ⟨t, ?_, b⟩
  have hexec := hX.1
  have hb := hX.2.1
  jvm_step X0.here [X0.here.top, ↓top_set X0.here.top, hexec, hb, dg, e', Value.isRef]
  exact a
theorem wa_dstore_n (hX : Ok X own cc nL ret nm d post px) {q : Fin 4} {i : Nat} {x : UInt64} (dg : decode cc pc = .ok (.dstore_n q, 1)) (hi : (q : Nat) = i) (hs : okS2 ls i = true) (k' : WA X h k sl (pc + 1) ((ls.set i (.val (.double x))).set (i + 1) .second) rest) : WA X h k sl pc ls (.double x :: rest) := by
  subst hi
  obtain ⟨p, l, e, s, m, args, below, meth, c, D, S0, d0, mc, ms, po, pp⟩ := X
  intro H locs cells slots h1 h2 hR hL
  have e' := okS_2 (v := .double x) hs rfl
  intro T hT X0
  obtain ⟨t, a, b⟩ := k' H locs cells slots h1 h2 hR hL T hT X0
  refine ⟨t, ?_, b⟩
  have hexec := hX.1
  have hb := hX.2.1
  jvm_step X0.here [X0.here.top, ↓top_set X0.here.top, hexec, hb, dg, e', Value.isRef]
  exact a
theorem wa_dstore (hX : Ok X own cc nL ret nm d post px) {i : Nat} {x : UInt64} (dg : decode cc pc = .ok (.dstore i, 2)) (hs : okS2 ls i = true) (k' : WA X h k sl (pc + 2) ((ls.set i (.val (.double x))).set (i + 1) .second) rest) : WA X h k sl pc ls (.double x :: rest) := by
  obtain ⟨p, l, e, s, m, args, below, meth, c, D, S0, d0, mc, ms, po, pp⟩ := X
  intro H locs cells slots h1 h2 hR hL
  have e' := okS_2 (v := .double x) hs rfl
  intro T hT X0
  obtain ⟨t, a, b⟩ := k' H locs cells slots h1 h2 hR hL T hT X0
  refine ⟨t, ?_, b⟩
  have hexec := hX.1
  have hb := hX.2.1
  jvm_step X0.here [X0.here.top, ↓top_set X0.here.top, hexec, hb, dg, e', Value.isRef]
  exact a
theorem wa_astore_n (hX : Ok X own cc nL ret nm d post px) {q : Fin 4} {i : Nat} {x : Nat} (dg : decode cc pc = .ok (.astore_n q, 1)) (hi : (q : Nat) = i) (hs : okS ls i = true) (k' : WA X h k sl (pc + 1) (ls.set i (.val (.ref x))) rest) : WA X h k sl pc ls (.ref x :: rest) := by
  subst hi
  obtain ⟨p, l, e, s, m, args, below, meth, c, D, S0, d0, mc, ms, po, pp⟩ := X
  intro H locs cells slots h1 h2 hR hL
  have e' := okS_1 (v := .ref x) hs rfl
  intro T hT X0
  obtain ⟨t, a, b⟩ := k' H locs cells slots h1 h2 hR hL T hT X0
  refine ⟨t, ?_, b⟩
  have hexec := hX.1
  have hb := hX.2.1
  jvm_step X0.here [X0.here.top, ↓top_set X0.here.top, hexec, hb, dg, e', Value.isRef]
  exact a
theorem wa_astore (hX : Ok X own cc nL ret nm d post px) {i : Nat} {x : Nat} (dg : decode cc pc = .ok (.astore i, 2)) (hs : okS ls i = true) (k' : WA X h k sl (pc + 2) (ls.set i (.val (.ref x))) rest) : WA X h k sl pc ls (.ref x :: rest) := by
  obtain ⟨p, l, e, s, m, args, below, meth, c, D, S0, d0, mc, ms, po, pp⟩ := X
  intro H locs cells slots h1 h2 hR hL
  have e' := okS_1 (v := .ref x) hs rfl
  intro T hT X0
  obtain ⟨t, a, b⟩ := k' H locs cells slots h1 h2 hR hL T hT X0
  refine ⟨t, ?_, b⟩
  have hexec := hX.1
  have hb := hX.2.1
  jvm_step X0.here [X0.here.top, ↓top_set X0.here.top, hexec, hb, dg, e', Value.isRef]
  exact a
theorem wa_astoreN_n (hX : Ok X own cc nL ret nm d post px) {q : Fin 4} {i : Nat} (dg : decode cc pc = .ok (.astore_n q, 1)) (hi : (q : Nat) = i) (hs : okS ls i = true) (k' : WA X h k sl (pc + 1) (ls.set i (.val (.null))) rest) : WA X h k sl pc ls (.null :: rest) := by
  subst hi
  obtain ⟨p, l, e, s, m, args, below, meth, c, D, S0, d0, mc, ms, po, pp⟩ := X
  intro H locs cells slots h1 h2 hR hL
  have e' := okS_1 (v := .null) hs rfl
  intro T hT X0
  obtain ⟨t, a, b⟩ := k' H locs cells slots h1 h2 hR hL T hT X0
  refine ⟨t, ?_, b⟩
  have hexec := hX.1
  have hb := hX.2.1
  jvm_step X0.here [X0.here.top, ↓top_set X0.here.top, hexec, hb, dg, e', Value.isRef]
  exact a
theorem wa_astoreN (hX : Ok X own cc nL ret nm d post px) {i : Nat} (dg : decode cc pc = .ok (.astore i, 2)) (hs : okS ls i = true) (k' : WA X h k sl (pc + 2) (ls.set i (.val (.null))) rest) : WA X h k sl pc ls (.null :: rest) := by
  obtain ⟨p, l, e, s, m, args, below, meth, c, D, S0, d0, mc, ms, po, pp⟩ := X
  intro H locs cells slots h1 h2 hR hL
  have e' := okS_1 (v := .null) hs rfl
  intro T hT X0
  obtain ⟨t, a, b⟩ := k' H locs cells slots h1 h2 hR hL T hT X0
  refine ⟨t, ?_, b⟩
  have hexec := hX.1
  have hb := hX.2.1
  jvm_step X0.here [X0.here.top, ↓top_set X0.here.top, hexec, hb, dg, e', Value.isRef]
  exact a
theorem wi_iinc (hX : Ok X own cc nL ret nm d post px) {i : Nat} {n : Int} {x : Int} (dg : decode cc pc = .ok (.iinc i n, 3)) (hl : ls[i]? = some (.val (I x))) (k' : WA X h k sl (pc + 3) (ls.set i (.val (I (x + n)))) rest) : WA X h k sl pc ls rest := by
  obtain ⟨p, l, e, s, m, args, below, meth, c, D, S0, d0, mc, ms, po, pp⟩ := X
  intro H locs cells slots h1 h2 hR hL
  have hs : okS ls i = true := by unfold okS; rw [hl]; rfl
  have e' := okS_1 (v := .int (Int32.ofInt x + Int32.ofInt n)) hs rfl
  have hl' : ls.toArray[i]? = some (.val (.int (Int32.ofInt x))) := by rw [List.getElem?_toArray]; exact hl
  have k2 := k' H locs cells slots h1 h2 hR hL
  rw [I, Int32.ofInt_add] at k2
  intro T hT X0
  obtain ⟨t, a, b⟩ := k2 T hT X0
  refine ⟨t, ?_, b⟩
  have hexec := hX.1
  have hb := hX.2.1
  jvm_step X0.here [X0.here.top, ↓top_set X0.here.top, hexec, hb, dg, hl', e']
  exact a
theorem wa_iadd (hX : Ok X own cc nL ret nm d post px) {x y : Int32} (dg : decode cc pc = .ok (.iadd, 1))  (k' : WA X h k sl (pc + 1) ls (.int (x + y) :: rest)) : WA X h k sl pc ls (.int y :: .int x :: rest) := by
  obtain ⟨p, l, e, s, m, args, below, meth, c, D, S0, d0, mc, ms, po, pp⟩ := X
  intro H locs cells slots h1 h2 hR hL
  exact lv_iadd hX.1 hX.2.1 dg  (k' H locs cells slots h1 h2 hR hL)
theorem wa_isub (hX : Ok X own cc nL ret nm d post px) {x y : Int32} (dg : decode cc pc = .ok (.isub, 1))  (k' : WA X h k sl (pc + 1) ls (.int (x - y) :: rest)) : WA X h k sl pc ls (.int y :: .int x :: rest) := by
  obtain ⟨p, l, e, s, m, args, below, meth, c, D, S0, d0, mc, ms, po, pp⟩ := X
  intro H locs cells slots h1 h2 hR hL
  exact lv_isub hX.1 hX.2.1 dg  (k' H locs cells slots h1 h2 hR hL)
theorem wa_imul (hX : Ok X own cc nL ret nm d post px) {x y : Int32} (dg : decode cc pc = .ok (.imul, 1))  (k' : WA X h k sl (pc + 1) ls (.int (x * y) :: rest)) : WA X h k sl pc ls (.int y :: .int x :: rest) := by
  obtain ⟨p, l, e, s, m, args, below, meth, c, D, S0, d0, mc, ms, po, pp⟩ := X
  intro H locs cells slots h1 h2 hR hL
  exact lv_imul hX.1 hX.2.1 dg  (k' H locs cells slots h1 h2 hR hL)
theorem wa_iand (hX : Ok X own cc nL ret nm d post px) {x y : Int32} (dg : decode cc pc = .ok (.iand, 1))  (k' : WA X h k sl (pc + 1) ls (.int (x &&& y) :: rest)) : WA X h k sl pc ls (.int y :: .int x :: rest) := by
  obtain ⟨p, l, e, s, m, args, below, meth, c, D, S0, d0, mc, ms, po, pp⟩ := X
  intro H locs cells slots h1 h2 hR hL
  exact lv_iand hX.1 hX.2.1 dg  (k' H locs cells slots h1 h2 hR hL)
theorem wa_ior (hX : Ok X own cc nL ret nm d post px) {x y : Int32} (dg : decode cc pc = .ok (.ior, 1))  (k' : WA X h k sl (pc + 1) ls (.int (x ||| y) :: rest)) : WA X h k sl pc ls (.int y :: .int x :: rest) := by
  obtain ⟨p, l, e, s, m, args, below, meth, c, D, S0, d0, mc, ms, po, pp⟩ := X
  intro H locs cells slots h1 h2 hR hL
  exact lv_ior hX.1 hX.2.1 dg  (k' H locs cells slots h1 h2 hR hL)
theorem wa_ixor (hX : Ok X own cc nL ret nm d post px) {x y : Int32} (dg : decode cc pc = .ok (.ixor, 1))  (k' : WA X h k sl (pc + 1) ls (.int (x ^^^ y) :: rest)) : WA X h k sl pc ls (.int y :: .int x :: rest) := by
  obtain ⟨p, l, e, s, m, args, below, meth, c, D, S0, d0, mc, ms, po, pp⟩ := X
  intro H locs cells slots h1 h2 hR hL
  exact lv_ixor hX.1 hX.2.1 dg  (k' H locs cells slots h1 h2 hR hL)
theorem wa_ishl (hX : Ok X own cc nL ret nm d post px) {x y : Int32} (dg : decode cc pc = .ok (.ishl, 1))  (k' : WA X h k sl (pc + 1) ls (.int (x <<< (y &&& 31)) :: rest)) : WA X h k sl pc ls (.int y :: .int x :: rest) := by
  obtain ⟨p, l, e, s, m, args, below, meth, c, D, S0, d0, mc, ms, po, pp⟩ := X
  intro H locs cells slots h1 h2 hR hL
  exact lv_ishl hX.1 hX.2.1 dg  (k' H locs cells slots h1 h2 hR hL)
theorem wa_ishr (hX : Ok X own cc nL ret nm d post px) {x y : Int32} (dg : decode cc pc = .ok (.ishr, 1))  (k' : WA X h k sl (pc + 1) ls (.int (x >>> (y &&& 31)) :: rest)) : WA X h k sl pc ls (.int y :: .int x :: rest) := by
  obtain ⟨p, l, e, s, m, args, below, meth, c, D, S0, d0, mc, ms, po, pp⟩ := X
  intro H locs cells slots h1 h2 hR hL
  exact lv_ishr hX.1 hX.2.1 dg  (k' H locs cells slots h1 h2 hR hL)
theorem wa_iushr (hX : Ok X own cc nL ret nm d post px) {x y : Int32} (dg : decode cc pc = .ok (.iushr, 1))  (k' : WA X h k sl (pc + 1) ls (.int ((x.toUInt32 >>> (y.toUInt32 &&& Int32.toUInt32 31)).toInt32) :: rest)) : WA X h k sl pc ls (.int y :: .int x :: rest) := by
  obtain ⟨p, l, e, s, m, args, below, meth, c, D, S0, d0, mc, ms, po, pp⟩ := X
  intro H locs cells slots h1 h2 hR hL
  exact lv_iushr hX.1 hX.2.1 dg rfl (k' H locs cells slots h1 h2 hR hL)
theorem wa_idiv (hX : Ok X own cc nL ret nm d post px) {x y : Int32} (dg : decode cc pc = .ok (.idiv, 1)) (hne : ¬ y = 0) (k' : WA X h k sl (pc + 1) ls (.int (x / y) :: rest)) : WA X h k sl pc ls (.int y :: .int x :: rest) := by
  obtain ⟨p, l, e, s, m, args, below, meth, c, D, S0, d0, mc, ms, po, pp⟩ := X
  intro H locs cells slots h1 h2 hR hL
  exact lv_idiv hX.1 hX.2.1 dg hne (k' H locs cells slots h1 h2 hR hL)
theorem wa_irem (hX : Ok X own cc nL ret nm d post px) {x y : Int32} (dg : decode cc pc = .ok (.irem, 1)) (hne : ¬ y = 0) (k' : WA X h k sl (pc + 1) ls (.int (x - x / y * y) :: rest)) : WA X h k sl pc ls (.int y :: .int x :: rest) := by
  obtain ⟨p, l, e, s, m, args, below, meth, c, D, S0, d0, mc, ms, po, pp⟩ := X
  intro H locs cells slots h1 h2 hR hL
  exact lv_irem hX.1 hX.2.1 dg hne (k' H locs cells slots h1 h2 hR hL)
theorem wa_ineg (hX : Ok X own cc nL ret nm d post px) {x : Int32} (dg : decode cc pc = .ok (.ineg, 1))  (k' : WA X h k sl (pc + 1) ls (.int (-x) :: rest)) : WA X h k sl pc ls (.int x :: rest) := by
  obtain ⟨p, l, e, s, m, args, below, meth, c, D, S0, d0, mc, ms, po, pp⟩ := X
  intro H locs cells slots h1 h2 hR hL
  exact lv_ineg hX.1 hX.2.1 dg  (k' H locs cells slots h1 h2 hR hL)
theorem wa_ladd (hX : Ok X own cc nL ret nm d post px) {x y : Int64} (dg : decode cc pc = .ok (.ladd, 1))  (k' : WA X h k sl (pc + 1) ls (.long (x + y) :: rest)) : WA X h k sl pc ls (.long y :: .long x :: rest) := by
  obtain ⟨p, l, e, s, m, args, below, meth, c, D, S0, d0, mc, ms, po, pp⟩ := X
  intro H locs cells slots h1 h2 hR hL
  exact lv_ladd hX.1 hX.2.1 dg  (k' H locs cells slots h1 h2 hR hL)
theorem wa_lsub (hX : Ok X own cc nL ret nm d post px) {x y : Int64} (dg : decode cc pc = .ok (.lsub, 1))  (k' : WA X h k sl (pc + 1) ls (.long (x - y) :: rest)) : WA X h k sl pc ls (.long y :: .long x :: rest) := by
  obtain ⟨p, l, e, s, m, args, below, meth, c, D, S0, d0, mc, ms, po, pp⟩ := X
  intro H locs cells slots h1 h2 hR hL
  exact lv_lsub hX.1 hX.2.1 dg  (k' H locs cells slots h1 h2 hR hL)
theorem wa_lmul (hX : Ok X own cc nL ret nm d post px) {x y : Int64} (dg : decode cc pc = .ok (.lmul, 1))  (k' : WA X h k sl (pc + 1) ls (.long (x * y) :: rest)) : WA X h k sl pc ls (.long y :: .long x :: rest) := by
  obtain ⟨p, l, e, s, m, args, below, meth, c, D, S0, d0, mc, ms, po, pp⟩ := X
  intro H locs cells slots h1 h2 hR hL
  exact lv_lmul hX.1 hX.2.1 dg  (k' H locs cells slots h1 h2 hR hL)
theorem wa_i2l (hX : Ok X own cc nL ret nm d post px) {x : Int32} (dg : decode cc pc = .ok (.i2l, 1))  (k' : WA X h k sl (pc + 1) ls (.long x.toInt64 :: rest)) : WA X h k sl pc ls (.int x :: rest) := by
  obtain ⟨p, l, e, s, m, args, below, meth, c, D, S0, d0, mc, ms, po, pp⟩ := X
  intro H locs cells slots h1 h2 hR hL
  exact lv_i2l hX.1 hX.2.1 dg rfl (k' H locs cells slots h1 h2 hR hL)
theorem wa_l2i (hX : Ok X own cc nL ret nm d post px) {x : Int64} (dg : decode cc pc = .ok (.l2i, 1))  (k' : WA X h k sl (pc + 1) ls (.int x.toInt32 :: rest)) : WA X h k sl pc ls (.long x :: rest) := by
  obtain ⟨p, l, e, s, m, args, below, meth, c, D, S0, d0, mc, ms, po, pp⟩ := X
  intro H locs cells slots h1 h2 hR hL
  exact lv_l2i hX.1 hX.2.1 dg rfl (k' H locs cells slots h1 h2 hR hL)
theorem wa_i2b (hX : Ok X own cc nL ret nm d post px) {x : Int32} (dg : decode cc pc = .ok (.i2b, 1))  (k' : WA X h k sl (pc + 1) ls (.int x.toInt8.toInt32 :: rest)) : WA X h k sl pc ls (.int x :: rest) := by
  obtain ⟨p, l, e, s, m, args, below, meth, c, D, S0, d0, mc, ms, po, pp⟩ := X
  intro H locs cells slots h1 h2 hR hL
  exact lv_i2b hX.1 hX.2.1 dg rfl (k' H locs cells slots h1 h2 hR hL)
theorem wa_i2c (hX : Ok X own cc nL ret nm d post px) {x : Int32} (dg : decode cc pc = .ok (.i2c, 1))  (k' : WA X h k sl (pc + 1) ls (.int (x.toUInt32 % 65536).toInt32 :: rest)) : WA X h k sl pc ls (.int x :: rest) := by
  obtain ⟨p, l, e, s, m, args, below, meth, c, D, S0, d0, mc, ms, po, pp⟩ := X
  intro H locs cells slots h1 h2 hR hL
  exact lv_i2c hX.1 hX.2.1 dg rfl (k' H locs cells slots h1 h2 hR hL)
theorem wa_i2f (hX : Ok X own cc nL ret nm d post px) {x : Int32} (dg : decode cc pc = .ok (.i2f, 1))  (k' : WA X h k sl (pc + 1) ls (.float (FP.i2f x) :: rest)) : WA X h k sl pc ls (.int x :: rest) := by
  obtain ⟨p, l, e, s, m, args, below, meth, c, D, S0, d0, mc, ms, po, pp⟩ := X
  intro H locs cells slots h1 h2 hR hL
  exact lv_i2f hX.1 hX.2.1 dg  (k' H locs cells slots h1 h2 hR hL)
theorem wa_i2d (hX : Ok X own cc nL ret nm d post px) {x : Int32} (dg : decode cc pc = .ok (.i2d, 1))  (k' : WA X h k sl (pc + 1) ls (.double (FP.i2d x) :: rest)) : WA X h k sl pc ls (.int x :: rest) := by
  obtain ⟨p, l, e, s, m, args, below, meth, c, D, S0, d0, mc, ms, po, pp⟩ := X
  intro H locs cells slots h1 h2 hR hL
  exact lv_i2d hX.1 hX.2.1 dg  (k' H locs cells slots h1 h2 hR hL)
theorem wa_fdiv (hX : Ok X own cc nL ret nm d post px) {x y : UInt32} (dg : decode cc pc = .ok (.fdiv, 1)) (hne : vf_n32 (FP.fdiv x y)) (k' : WA X h k sl (pc + 1) ls (.float (FP.fdiv x y) :: rest)) : WA X h k sl pc ls (.float y :: .float x :: rest) := by
  obtain ⟨p, l, e, s, m, args, below, meth, c, D, S0, d0, mc, ms, po, pp⟩ := X
  intro H locs cells slots h1 h2 hR hL
  exact lv_fdiv hX.1 hX.2.1 dg hne (k' H locs cells slots h1 h2 hR hL)
theorem wa_ddiv (hX : Ok X own cc nL ret nm d post px) {x y : UInt64} (dg : decode cc pc = .ok (.ddiv, 1)) (hne : vf_n64 (FP.ddiv x y)) (k' : WA X h k sl (pc + 1) ls (.double (FP.ddiv x y) :: rest)) : WA X h k sl pc ls (.double y :: .double x :: rest) := by
  obtain ⟨p, l, e, s, m, args, below, meth, c, D, S0, d0, mc, ms, po, pp⟩ := X
  intro H locs cells slots h1 h2 hR hL
  exact lv_ddiv hX.1 hX.2.1 dg hne (k' H locs cells slots h1 h2 hR hL)
theorem wa_f2d (hX : Ok X own cc nL ret nm d post px) {x : UInt32} (dg : decode cc pc = .ok (.f2d, 1)) (hne : vf_n64 (FP.f2d x)) (k' : WA X h k sl (pc + 1) ls (.double (FP.f2d x) :: rest)) : WA X h k sl pc ls (.float x :: rest) := by
  obtain ⟨p, l, e, s, m, args, below, meth, c, D, S0, d0, mc, ms, po, pp⟩ := X
  intro H locs cells slots h1 h2 hR hL
  exact lv_f2d hX.1 hX.2.1 dg hne (k' H locs cells slots h1 h2 hR hL)
theorem wa_dcmp (hX : Ok X own cc nL ret nm d post px) {x y : UInt64} {op : CmpOp} (dg : decode cc pc = .ok (.dcmp op, 1))  (k' : WA X h k sl (pc + 1) ls (.int (Op.cmpValue (FP.dcmp x y) op) :: rest)) : WA X h k sl pc ls (.double y :: .double x :: rest) := by
  obtain ⟨p, l, e, s, m, args, below, meth, c, D, S0, d0, mc, ms, po, pp⟩ := X
  intro H locs cells slots h1 h2 hR hL
  exact lv_dcmp hX.1 hX.2.1 dg  (k' H locs cells slots h1 h2 hR hL)
theorem wa_fcmp (hX : Ok X own cc nL ret nm d post px) {x y : UInt32} {op : CmpOp} (dg : decode cc pc = .ok (.fcmp op, 1))  (k' : WA X h k sl (pc + 1) ls (.int (Op.cmpValue (FP.fcmp x y) op) :: rest)) : WA X h k sl pc ls (.float y :: .float x :: rest) := by
  obtain ⟨p, l, e, s, m, args, below, meth, c, D, S0, d0, mc, ms, po, pp⟩ := X
  intro H locs cells slots h1 h2 hR hL
  exact lv_fcmp hX.1 hX.2.1 dg  (k' H locs cells slots h1 h2 hR hL)
theorem wa_fconst0 (hX : Ok X own cc nL ret nm d post px)  (dg : decode cc pc = .ok (.fconst 0, 1))  (k' : WA X h k sl (pc + 1) ls (.float 0 :: rest)) : WA X h k sl pc ls (rest) := by
  obtain ⟨p, l, e, s, m, args, below, meth, c, D, S0, d0, mc, ms, po, pp⟩ := X
  intro H locs cells slots h1 h2 hR hL
  exact lv_fconst0 hX.1 hX.2.1 dg  (k' H locs cells slots h1 h2 hR hL)
theorem wa_dconst0 (hX : Ok X own cc nL ret nm d post px)  (dg : decode cc pc = .ok (.dconst 0, 1))  (k' : WA X h k sl (pc + 1) ls (.double 0 :: rest)) : WA X h k sl pc ls (rest) := by
  obtain ⟨p, l, e, s, m, args, below, meth, c, D, S0, d0, mc, ms, po, pp⟩ := X
  intro H locs cells slots h1 h2 hR hL
  exact lv_dconst0 hX.1 hX.2.1 dg  (k' H locs cells slots h1 h2 hR hL)
theorem wa_dup (hX : Ok X own cc nL ret nm d post px) {va : Value} (dg : decode cc pc = .ok (.dup, 1)) (hc : va.category = 1) (k' : WA X h k sl (pc + 1) ls (va :: va :: rest)) : WA X h k sl pc ls (va :: rest) := by
  obtain ⟨p, l, e, s, m, args, below, meth, c, D, S0, d0, mc, ms, po, pp⟩ := X
  intro H locs cells slots h1 h2 hR hL
  exact lv_dup hX.1 hX.2.1 dg hc (k' H locs cells slots h1 h2 hR hL)
theorem wa_pop (hX : Ok X own cc nL ret nm d post px) {va : Value} (dg : decode cc pc = .ok (.pop, 1)) (hc : va.category = 1) (k' : WA X h k sl (pc + 1) ls (rest)) : WA X h k sl pc ls (va :: rest) := by
  obtain ⟨p, l, e, s, m, args, below, meth, c, D, S0, d0, mc, ms, po, pp⟩ := X
  intro H locs cells slots h1 h2 hR hL
  exact lv_pop hX.1 hX.2.1 dg hc (k' H locs cells slots h1 h2 hR hL)
theorem wa_dup2 (hX : Ok X own cc nL ret nm d post px) {va vb : Value} (dg : decode cc pc = .ok (.dup2, 1)) (hc : va.category = 1) (hd : vb.category = 1) (k' : WA X h k sl (pc + 1) ls (va :: vb :: va :: vb :: rest)) : WA X h k sl pc ls (va :: vb :: rest) := by
  obtain ⟨p, l, e, s, m, args, below, meth, c, D, S0, d0, mc, ms, po, pp⟩ := X
  intro H locs cells slots h1 h2 hR hL
  exact lv_dup2_11 hX.1 hX.2.1 dg hc hd (k' H locs cells slots h1 h2 hR hL)
theorem wi_iadd (hX : Ok X own cc nL ret nm d post px) {x y : Int} (dg : decode cc pc = .ok (.iadd, 1))  (k' : WA X h k sl (pc + 1) ls (I (x + y) :: rest)) : WA X h k sl pc ls (I y :: I x :: rest) :=
  wa_iadd hX dg  (by rw [← Int32.ofInt_add]; exact k')
theorem wi_isub (hX : Ok X own cc nL ret nm d post px) {x y : Int} (dg : decode cc pc = .ok (.isub, 1))  (k' : WA X h k sl (pc + 1) ls (I (x - y) :: rest)) : WA X h k sl pc ls (I y :: I x :: rest) :=
  wa_isub hX dg  (by rw [← Int32.ofInt_sub]; exact k')
theorem wi_imul (hX : Ok X own cc nL ret nm d post px) {x y : Int} (dg : decode cc pc = .ok (.imul, 1))  (k' : WA X h k sl (pc + 1) ls (I (x * y) :: rest)) : WA X h k sl pc ls (I y :: I x :: rest) :=
  wa_imul hX dg  (by rw [← Int32.ofInt_mul]; exact k')
theorem wi_ineg (hX : Ok X own cc nL ret nm d post px) {x : Int} (dg : decode cc pc = .ok (.ineg, 1))  (k' : WA X h k sl (pc + 1) ls (I (-x) :: rest)) : WA X h k sl pc ls (I x :: rest) :=
  wa_ineg hX dg  (by rw [← Int32.ofInt_neg]; exact k')
theorem wv_iand (hX : Ok X own cc nL ret nm d post px) {x y : Int32} {z : Int} (dg : decode cc pc = .ok (.iand, 1)) (hv : x &&& y = Int32.ofInt z) (k' : WA X h k sl (pc + 1) ls (I z :: rest)) : WA X h k sl pc ls (.int y :: .int x :: rest) :=
  wa_iand hX dg  (by rw [hv]; exact k')
theorem wv_ior (hX : Ok X own cc nL ret nm d post px) {x y : Int32} {z : Int} (dg : decode cc pc = .ok (.ior, 1)) (hv : x ||| y = Int32.ofInt z) (k' : WA X h k sl (pc + 1) ls (I z :: rest)) : WA X h k sl pc ls (.int y :: .int x :: rest) :=
  wa_ior hX dg  (by rw [hv]; exact k')
theorem wv_ixor (hX : Ok X own cc nL ret nm d post px) {x y : Int32} {z : Int} (dg : decode cc pc = .ok (.ixor, 1)) (hv : x ^^^ y = Int32.ofInt z) (k' : WA X h k sl (pc + 1) ls (I z :: rest)) : WA X h k sl pc ls (.int y :: .int x :: rest) :=
  wa_ixor hX dg  (by rw [hv]; exact k')
theorem wv_ishl (hX : Ok X own cc nL ret nm d post px) {x y : Int32} {z : Int} (dg : decode cc pc = .ok (.ishl, 1)) (hv : x <<< (y &&& 31) = Int32.ofInt z) (k' : WA X h k sl (pc + 1) ls (I z :: rest)) : WA X h k sl pc ls (.int y :: .int x :: rest) :=
  wa_ishl hX dg  (by rw [hv]; exact k')
theorem wv_ishr (hX : Ok X own cc nL ret nm d post px) {x y : Int32} {z : Int} (dg : decode cc pc = .ok (.ishr, 1)) (hv : x >>> (y &&& 31) = Int32.ofInt z) (k' : WA X h k sl (pc + 1) ls (I z :: rest)) : WA X h k sl pc ls (.int y :: .int x :: rest) :=
  wa_ishr hX dg  (by rw [hv]; exact k')
theorem wv_idiv (hX : Ok X own cc nL ret nm d post px) {x y : Int32} {z : Int} (dg : decode cc pc = .ok (.idiv, 1)) (hne : ¬ y = 0) (hv : x / y = Int32.ofInt z) (k' : WA X h k sl (pc + 1) ls (I z :: rest)) : WA X h k sl pc ls (.int y :: .int x :: rest) :=
  wa_idiv hX dg hne (by rw [hv]; exact k')
theorem wv_irem (hX : Ok X own cc nL ret nm d post px) {x y : Int32} {z : Int} (dg : decode cc pc = .ok (.irem, 1)) (hne : ¬ y = 0) (hv : x - x / y * y = Int32.ofInt z) (k' : WA X h k sl (pc + 1) ls (I z :: rest)) : WA X h k sl pc ls (.int y :: .int x :: rest) :=
  wa_irem hX dg hne (by rw [hv]; exact k')
theorem wv_i2b (hX : Ok X own cc nL ret nm d post px) {x : Int32} {z : Int} (dg : decode cc pc = .ok (.i2b, 1)) (hv : x.toInt8.toInt32 = Int32.ofInt z) (k' : WA X h k sl (pc + 1) ls (I z :: rest)) : WA X h k sl pc ls (.int x :: rest) :=
  wa_i2b hX dg  (by rw [hv]; exact k')
theorem wv_i2c (hX : Ok X own cc nL ret nm d post px) {x : Int32} {z : Int} (dg : decode cc pc = .ok (.i2c, 1)) (hv : (x.toUInt32 % 65536).toInt32 = Int32.ofInt z) (k' : WA X h k sl (pc + 1) ls (I z :: rest)) : WA X h k sl pc ls (.int x :: rest) :=
  wa_i2c hX dg  (by rw [hv]; exact k')
theorem ofI_nat (a : Nat) : Int32.ofInt (a : Int) = Int32.ofNat a := rfl
theorem nI_bv (a : Nat) : (Int32.ofNat a).toBitVec = BitVec.ofNat 32 a := rfl
theorem bv_inj {a b : Int32} (h : a.toBitVec = b.toBitVec) : a = b := by
  cases a with | ofUInt32 a => cases b with | ofUInt32 b => exact congrArg Int32.ofUInt32 (UInt32.eq_of_toBitVec_eq h)
theorem ofI_and (a b : Nat) : Int32.ofInt (a : Int) &&& Int32.ofInt (b : Int) = Int32.ofInt ((a &&& b : Nat) : Int) := by
  apply bv_inj
  rw [Int32.toBitVec_and]
  simp only [ofI_nat, nI_bv]
  apply BitVec.eq_of_toNat_eq
  simp [BitVec.toNat_and, Nat.and_mod_two_pow]
theorem ofI_or (a b : Nat) : Int32.ofInt (a : Int) ||| Int32.ofInt (b : Int) = Int32.ofInt ((a ||| b : Nat) : Int) := by
  apply bv_inj
  rw [Int32.toBitVec_or]
  simp only [ofI_nat, nI_bv]
  apply BitVec.eq_of_toNat_eq
  simp [BitVec.toNat_or, Nat.or_mod_two_pow]
theorem ofI_xor (a b : Nat) : Int32.ofInt (a : Int) ^^^ Int32.ofInt (b : Int) = Int32.ofInt ((a ^^^ b : Nat) : Int) := by
  apply bv_inj
  rw [Int32.toBitVec_xor]
  simp only [ofI_nat, nI_bv]
  apply BitVec.eq_of_toNat_eq
  simp [BitVec.toNat_xor, Nat.xor_mod_two_pow]
theorem smod31 : ∀ e : Nat, e < 32 → ((Int32.ofInt (e : Int) &&& 31).toBitVec.smod 32).toNat = e := by decide +kernel
theorem ofI_shl {a e : Nat} (he : e < 32) : Int32.ofInt (a : Int) <<< (Int32.ofInt (e : Int) &&& 31) = Int32.ofInt ((a <<< e : Nat) : Int) := by
  apply bv_inj
  apply BitVec.eq_of_toNat_eq
  rw [pk_shl _ _ e (smod31 e he)]
  simp only [ofI_nat, nI_bv, BitVec.toNat_ofNat, Nat.shiftLeft_eq]
  rw [Nat.mod_mul_mod]
theorem ofI_shr {a e : Nat} (he : e < 32) (ha : a < 2147483648) : Int32.ofInt (a : Int) >>> (Int32.ofInt (e : Int) &&& 31) = Int32.ofInt ((a >>> e : Nat) : Int) := by
  have h := pk_shrN (n := a) ha (Int32.ofInt (e : Int) &&& 31) e (smod31 e he)
  rw [Nat.shiftRight_eq_div_pow]
  exact h
theorem wn_iand (hX : Ok X own cc nL ret nm d post px) {x y : Int} {a b : Nat} (dg : decode cc pc = .ok (.iand, 1)) (hx : x = (a : Int)) (hy : y = (b : Int)) (k' : WA X h k sl (pc + 1) ls (I ((a &&& b : Nat) : Int) :: rest)) : WA X h k sl pc ls (I y :: I x :: rest) :=
  wa_iand hX dg  (by subst hx; subst hy; rw [ofI_and]; exact k')
theorem wn_ior (hX : Ok X own cc nL ret nm d post px) {x y : Int} {a b : Nat} (dg : decode cc pc = .ok (.ior, 1)) (hx : x = (a : Int)) (hy : y = (b : Int)) (k' : WA X h k sl (pc + 1) ls (I ((a ||| b : Nat) : Int) :: rest)) : WA X h k sl pc ls (I y :: I x :: rest) :=
  wa_ior hX dg  (by subst hx; subst hy; rw [ofI_or]; exact k')
theorem wn_ixor (hX : Ok X own cc nL ret nm d post px) {x y : Int} {a b : Nat} (dg : decode cc pc = .ok (.ixor, 1)) (hx : x = (a : Int)) (hy : y = (b : Int)) (k' : WA X h k sl (pc + 1) ls (I ((a ^^^ b : Nat) : Int) :: rest)) : WA X h k sl pc ls (I y :: I x :: rest) :=
  wa_ixor hX dg  (by subst hx; subst hy; rw [ofI_xor]; exact k')
theorem wn_ishl (hX : Ok X own cc nL ret nm d post px) {x y : Int} {a b : Nat} (dg : decode cc pc = .ok (.ishl, 1)) (hx : x = (a : Int)) (hy : y = (b : Int)) (hb : b < 32) (k' : WA X h k sl (pc + 1) ls (I ((a <<< b : Nat) : Int) :: rest)) : WA X h k sl pc ls (I y :: I x :: rest) :=
  wa_ishl hX dg  (by subst hx; subst hy; rw [ofI_shl hb]; exact k')
theorem wn_ishr (hX : Ok X own cc nL ret nm d post px) {x y : Int} {a b : Nat} (dg : decode cc pc = .ok (.ishr, 1)) (hx : x = (a : Int)) (hy : y = (b : Int)) (ha : a < 2147483648) (hb : b < 32) (k' : WA X h k sl (pc + 1) ls (I ((a >>> b : Nat) : Int) :: rest)) : WA X h k sl pc ls (I y :: I x :: rest) :=
  wa_ishr hX dg  (by subst hx; subst hy; rw [ofI_shr hb ha]; exact k')
theorem ofI_div {a b : Nat} (ha : a < 2147483648) (h0 : 0 < b) (hb : b < 2147483648) : Int32.ofInt (a : Int) / Int32.ofInt (b : Int) = Int32.ofInt ((a / b : Nat) : Int) := pk_div ha h0 hb
theorem ofI_rem {a b : Nat} (ha : a < 2147483648) (h0 : 0 < b) (hb : b < 2147483648) : Int32.ofInt (a : Int) - Int32.ofInt (a : Int) / Int32.ofInt (b : Int) * Int32.ofInt (b : Int) = Int32.ofInt ((a % b : Nat) : Int) := pk_rem ha h0 hb
theorem ofI_ne0 {b : Nat} (h0 : 0 < b) (hb : b < 2147483648) : ¬ Int32.ofInt (b : Int) = 0 := nI_ne0 h0 hb
theorem wn_idiv (hX : Ok X own cc nL ret nm d post px) {x y : Int} {a b : Nat} (dg : decode cc pc = .ok (.idiv, 1)) (hx : x = (a : Int)) (hy : y = (b : Int)) (ha : a < 2147483648) (h0 : 0 < b) (hb : b < 2147483648) (k' : WA X h k sl (pc + 1) ls (I ((a / b : Nat) : Int) :: rest)) : WA X h k sl pc ls (I y :: I x :: rest) :=
  wa_idiv hX dg (by subst hy; exact ofI_ne0 h0 hb) (by subst hx; subst hy; rw [ofI_div ha h0 hb]; exact k')
theorem wn_irem (hX : Ok X own cc nL ret nm d post px) {x y : Int} {a b : Nat} (dg : decode cc pc = .ok (.irem, 1)) (hx : x = (a : Int)) (hy : y = (b : Int)) (ha : a < 2147483648) (h0 : 0 < b) (hb : b < 2147483648) (k' : WA X h k sl (pc + 1) ls (I ((a % b : Nat) : Int) :: rest)) : WA X h k sl pc ls (I y :: I x :: rest) :=
  wa_irem hX dg (by subst hy; exact ofI_ne0 h0 hb) (by subst hx; subst hy; rw [ofI_rem ha h0 hb]; exact k')
theorem wa_top {va vb : Value} (e : va = vb) (k' : WA X h k sl pc ls (vb :: rest)) : WA X h k sl pc ls (va :: rest) := by
  subst e; exact k'
theorem wi_top {x y : Int} (e : x = y) (k' : WA X h k sl pc ls (I y :: rest)) : WA X h k sl pc ls (I x :: rest) := by
  subst e; exact k'
theorem wi_if_eq (hX : Ok X own cc nL ret nm d post px) {x : Int} {off : Int} {tgt : Nat} (dg : decode cc pc = .ok (.ifCond .eq off, 3)) (ht : (pc : Int) + off = (tgt : Int)) (hx : inR x) (kt : x = 0 → WA X h k sl tgt ls rest) (kf : x ≠ 0 → WA X h k sl (pc + 3) ls rest) : WA X h k sl pc ls (I x :: rest) := by
  obtain ⟨p, l, e, s, m, args, below, meth, c, D, S0, d0, mc, ms, po, pp⟩ := X
  intro H locs cells slots h1 h2 hR hL
  have h0 : inR 0 := by omega
  refine lv_if_eq hX.1 hX.2.1 dg ht (fun q => kt ?_ H locs cells slots h1 h2 hR hL) (fun q => kf ?_ H locs cells slots h1 h2 hR hL) <;> (simp only [zI, eqI hx h0, eqI h0 hx, ltI hx h0, ltI h0 hx, leI hx h0, leI h0 hx, ne_eq, Int.not_lt, Int.not_le, Decidable.not_not] at q ⊢; omega)
theorem wi_icmp_eq (hX : Ok X own cc nL ret nm d post px) {x y : Int} {off : Int} {tgt : Nat} (dg : decode cc pc = .ok (.if_icmp .eq off, 3)) (ht : (pc : Int) + off = (tgt : Int)) (hx : inR x) (hy : inR y) (kt : x = y → WA X h k sl tgt ls rest) (kf : x ≠ y → WA X h k sl (pc + 3) ls rest) : WA X h k sl pc ls (I y :: I x :: rest) := by
  obtain ⟨p, l, e, s, m, args, below, meth, c, D, S0, d0, mc, ms, po, pp⟩ := X
  intro H locs cells slots h1 h2 hR hL
  refine lv_icmp_eq hX.1 hX.2.1 dg ht (fun q => kt ?_ H locs cells slots h1 h2 hR hL) (fun q => kf ?_ H locs cells slots h1 h2 hR hL) <;> (simp only [eqI hx hy, eqI hy hx, ltI hx hy, ltI hy hx, leI hx hy, leI hy hx, ne_eq, Int.not_lt, Int.not_le, Decidable.not_not] at q ⊢; omega)
theorem wi_if_ne (hX : Ok X own cc nL ret nm d post px) {x : Int} {off : Int} {tgt : Nat} (dg : decode cc pc = .ok (.ifCond .ne off, 3)) (ht : (pc : Int) + off = (tgt : Int)) (hx : inR x) (kt : x ≠ 0 → WA X h k sl tgt ls rest) (kf : x = 0 → WA X h k sl (pc + 3) ls rest) : WA X h k sl pc ls (I x :: rest) := by
  obtain ⟨p, l, e, s, m, args, below, meth, c, D, S0, d0, mc, ms, po, pp⟩ := X
  intro H locs cells slots h1 h2 hR hL
  have h0 : inR 0 := by omega
  refine lv_if_ne hX.1 hX.2.1 dg ht (fun q => kt ?_ H locs cells slots h1 h2 hR hL) (fun q => kf ?_ H locs cells slots h1 h2 hR hL) <;> (simp only [zI, eqI hx h0, eqI h0 hx, ltI hx h0, ltI h0 hx, leI hx h0, leI h0 hx, ne_eq, Int.not_lt, Int.not_le, Decidable.not_not] at q ⊢; omega)
theorem wi_icmp_ne (hX : Ok X own cc nL ret nm d post px) {x y : Int} {off : Int} {tgt : Nat} (dg : decode cc pc = .ok (.if_icmp .ne off, 3)) (ht : (pc : Int) + off = (tgt : Int)) (hx : inR x) (hy : inR y) (kt : x ≠ y → WA X h k sl tgt ls rest) (kf : x = y → WA X h k sl (pc + 3) ls rest) : WA X h k sl pc ls (I y :: I x :: rest) := by
  obtain ⟨p, l, e, s, m, args, below, meth, c, D, S0, d0, mc, ms, po, pp⟩ := X
  intro H locs cells slots h1 h2 hR hL
  refine lv_icmp_ne hX.1 hX.2.1 dg ht (fun q => kt ?_ H locs cells slots h1 h2 hR hL) (fun q => kf ?_ H locs cells slots h1 h2 hR hL) <;> (simp only [eqI hx hy, eqI hy hx, ltI hx hy, ltI hy hx, leI hx hy, leI hy hx, ne_eq, Int.not_lt, Int.not_le, Decidable.not_not] at q ⊢; omega)
theorem wi_if_lt (hX : Ok X own cc nL ret nm d post px) {x : Int} {off : Int} {tgt : Nat} (dg : decode cc pc = .ok (.ifCond .lt off, 3)) (ht : (pc : Int) + off = (tgt : Int)) (hx : inR x) (kt : x < 0 → WA X h k sl tgt ls rest) (kf : 0 ≤ x → WA X h k sl (pc + 3) ls rest) : WA X h k sl pc ls (I x :: rest) := by
  obtain ⟨p, l, e, s, m, args, below, meth, c, D, S0, d0, mc, ms, po, pp⟩ := X
  intro H locs cells slots h1 h2 hR hL
  have h0 : inR 0 := by omega
  refine lv_if_lt hX.1 hX.2.1 dg ht (fun q => kt ?_ H locs cells slots h1 h2 hR hL) (fun q => kf ?_ H locs cells slots h1 h2 hR hL) <;> (simp only [zI, eqI hx h0, eqI h0 hx, ltI hx h0, ltI h0 hx, leI hx h0, leI h0 hx, ne_eq, Int.not_lt, Int.not_le, Decidable.not_not] at q ⊢; omega)
theorem wi_icmp_lt (hX : Ok X own cc nL ret nm d post px) {x y : Int} {off : Int} {tgt : Nat} (dg : decode cc pc = .ok (.if_icmp .lt off, 3)) (ht : (pc : Int) + off = (tgt : Int)) (hx : inR x) (hy : inR y) (kt : x < y → WA X h k sl tgt ls rest) (kf : y ≤ x → WA X h k sl (pc + 3) ls rest) : WA X h k sl pc ls (I y :: I x :: rest) := by
  obtain ⟨p, l, e, s, m, args, below, meth, c, D, S0, d0, mc, ms, po, pp⟩ := X
  intro H locs cells slots h1 h2 hR hL
  refine lv_icmp_lt hX.1 hX.2.1 dg ht (fun q => kt ?_ H locs cells slots h1 h2 hR hL) (fun q => kf ?_ H locs cells slots h1 h2 hR hL) <;> (simp only [eqI hx hy, eqI hy hx, ltI hx hy, ltI hy hx, leI hx hy, leI hy hx, ne_eq, Int.not_lt, Int.not_le, Decidable.not_not] at q ⊢; omega)
theorem wi_if_ge (hX : Ok X own cc nL ret nm d post px) {x : Int} {off : Int} {tgt : Nat} (dg : decode cc pc = .ok (.ifCond .ge off, 3)) (ht : (pc : Int) + off = (tgt : Int)) (hx : inR x) (kt : 0 ≤ x → WA X h k sl tgt ls rest) (kf : x < 0 → WA X h k sl (pc + 3) ls rest) : WA X h k sl pc ls (I x :: rest) := by
  obtain ⟨p, l, e, s, m, args, below, meth, c, D, S0, d0, mc, ms, po, pp⟩ := X
  intro H locs cells slots h1 h2 hR hL
  have h0 : inR 0 := by omega
  refine lv_if_ge hX.1 hX.2.1 dg ht (fun q => kt ?_ H locs cells slots h1 h2 hR hL) (fun q => kf ?_ H locs cells slots h1 h2 hR hL) <;> (simp only [zI, eqI hx h0, eqI h0 hx, ltI hx h0, ltI h0 hx, leI hx h0, leI h0 hx, ne_eq, Int.not_lt, Int.not_le, Decidable.not_not] at q ⊢; omega)
theorem wi_icmp_ge (hX : Ok X own cc nL ret nm d post px) {x y : Int} {off : Int} {tgt : Nat} (dg : decode cc pc = .ok (.if_icmp .ge off, 3)) (ht : (pc : Int) + off = (tgt : Int)) (hx : inR x) (hy : inR y) (kt : y ≤ x → WA X h k sl tgt ls rest) (kf : x < y → WA X h k sl (pc + 3) ls rest) : WA X h k sl pc ls (I y :: I x :: rest) := by
  obtain ⟨p, l, e, s, m, args, below, meth, c, D, S0, d0, mc, ms, po, pp⟩ := X
  intro H locs cells slots h1 h2 hR hL
  refine lv_icmp_ge hX.1 hX.2.1 dg ht (fun q => kt ?_ H locs cells slots h1 h2 hR hL) (fun q => kf ?_ H locs cells slots h1 h2 hR hL) <;> (simp only [eqI hx hy, eqI hy hx, ltI hx hy, ltI hy hx, leI hx hy, leI hy hx, ne_eq, Int.not_lt, Int.not_le, Decidable.not_not] at q ⊢; omega)
theorem wi_if_gt (hX : Ok X own cc nL ret nm d post px) {x : Int} {off : Int} {tgt : Nat} (dg : decode cc pc = .ok (.ifCond .gt off, 3)) (ht : (pc : Int) + off = (tgt : Int)) (hx : inR x) (kt : 0 < x → WA X h k sl tgt ls rest) (kf : x ≤ 0 → WA X h k sl (pc + 3) ls rest) : WA X h k sl pc ls (I x :: rest) := by
  obtain ⟨p, l, e, s, m, args, below, meth, c, D, S0, d0, mc, ms, po, pp⟩ := X
  intro H locs cells slots h1 h2 hR hL
  have h0 : inR 0 := by omega
  refine lv_if_gt hX.1 hX.2.1 dg ht (fun q => kt ?_ H locs cells slots h1 h2 hR hL) (fun q => kf ?_ H locs cells slots h1 h2 hR hL) <;> (simp only [zI, eqI hx h0, eqI h0 hx, ltI hx h0, ltI h0 hx, leI hx h0, leI h0 hx, ne_eq, Int.not_lt, Int.not_le, Decidable.not_not] at q ⊢; omega)
theorem wi_icmp_gt (hX : Ok X own cc nL ret nm d post px) {x y : Int} {off : Int} {tgt : Nat} (dg : decode cc pc = .ok (.if_icmp .gt off, 3)) (ht : (pc : Int) + off = (tgt : Int)) (hx : inR x) (hy : inR y) (kt : y < x → WA X h k sl tgt ls rest) (kf : x ≤ y → WA X h k sl (pc + 3) ls rest) : WA X h k sl pc ls (I y :: I x :: rest) := by
  obtain ⟨p, l, e, s, m, args, below, meth, c, D, S0, d0, mc, ms, po, pp⟩ := X
  intro H locs cells slots h1 h2 hR hL
  refine lv_icmp_gt hX.1 hX.2.1 dg ht (fun q => kt ?_ H locs cells slots h1 h2 hR hL) (fun q => kf ?_ H locs cells slots h1 h2 hR hL) <;> (simp only [eqI hx hy, eqI hy hx, ltI hx hy, ltI hy hx, leI hx hy, leI hy hx, ne_eq, Int.not_lt, Int.not_le, Decidable.not_not] at q ⊢; omega)
theorem wi_if_le (hX : Ok X own cc nL ret nm d post px) {x : Int} {off : Int} {tgt : Nat} (dg : decode cc pc = .ok (.ifCond .le off, 3)) (ht : (pc : Int) + off = (tgt : Int)) (hx : inR x) (kt : x ≤ 0 → WA X h k sl tgt ls rest) (kf : 0 < x → WA X h k sl (pc + 3) ls rest) : WA X h k sl pc ls (I x :: rest) := by
  obtain ⟨p, l, e, s, m, args, below, meth, c, D, S0, d0, mc, ms, po, pp⟩ := X
  intro H locs cells slots h1 h2 hR hL
  have h0 : inR 0 := by omega
  refine lv_if_le hX.1 hX.2.1 dg ht (fun q => kt ?_ H locs cells slots h1 h2 hR hL) (fun q => kf ?_ H locs cells slots h1 h2 hR hL) <;> (simp only [zI, eqI hx h0, eqI h0 hx, ltI hx h0, ltI h0 hx, leI hx h0, leI h0 hx, ne_eq, Int.not_lt, Int.not_le, Decidable.not_not] at q ⊢; omega)
theorem wi_icmp_le (hX : Ok X own cc nL ret nm d post px) {x y : Int} {off : Int} {tgt : Nat} (dg : decode cc pc = .ok (.if_icmp .le off, 3)) (ht : (pc : Int) + off = (tgt : Int)) (hx : inR x) (hy : inR y) (kt : x ≤ y → WA X h k sl tgt ls rest) (kf : y < x → WA X h k sl (pc + 3) ls rest) : WA X h k sl pc ls (I y :: I x :: rest) := by
  obtain ⟨p, l, e, s, m, args, below, meth, c, D, S0, d0, mc, ms, po, pp⟩ := X
  intro H locs cells slots h1 h2 hR hL
  refine lv_icmp_le hX.1 hX.2.1 dg ht (fun q => kt ?_ H locs cells slots h1 h2 hR hL) (fun q => kf ?_ H locs cells slots h1 h2 hR hL) <;> (simp only [eqI hx hy, eqI hy hx, ltI hx hy, ltI hy hx, leI hx hy, leI hy hx, ne_eq, Int.not_lt, Int.not_le, Decidable.not_not] at q ⊢; omega)
theorem wa_icmp_eq (hX : Ok X own cc nL ret nm d post px) {x y : Int32} {off : Int} {tgt : Nat} (dg : decode cc pc = .ok (.if_icmp .eq off, 3)) (ht : (pc : Int) + off = (tgt : Int)) (kt : x = y → WA X h k sl tgt ls rest) (kf : ¬ x = y → WA X h k sl (pc + 3) ls rest) : WA X h k sl pc ls (.int y :: .int x :: rest) := by
  obtain ⟨p, l, e, s, m, args, below, meth, c, D, S0, d0, mc, ms, po, pp⟩ := X
  intro H locs cells slots h1 h2 hR hL
  refine lv_icmp_eq hX.1 hX.2.1 dg ht (fun q => kt ?_ H locs cells slots h1 h2 hR hL) (fun q => kf ?_ H locs cells slots h1 h2 hR hL) <;> simpa using q
theorem wa_acmp_eq (hX : Ok X own cc nL ret nm d post px) {rx ry : Option Nat} {off : Int} {tgt : Nat} (dg : decode cc pc = .ok (.if_acmp .eq off, 3)) (ht : (pc : Int) + off = (tgt : Int)) (kt : rx = ry → WA X h k sl tgt ls rest) (kf : ¬ rx = ry → WA X h k sl (pc + 3) ls rest) : WA X h k sl pc ls (va_rf ry :: va_rf rx :: rest) := by
  obtain ⟨p, l, e, s, m, args, below, meth, c, D, S0, d0, mc, ms, po, pp⟩ := X
  intro H locs cells slots h1 h2 hR hL
  exact lv_acmp_eq hX.1 hX.2.1 dg ht (fun q => kt q H locs cells slots h1 h2 hR hL) (fun q => kf q H locs cells slots h1 h2 hR hL)
theorem wa_icmp_ne (hX : Ok X own cc nL ret nm d post px) {x y : Int32} {off : Int} {tgt : Nat} (dg : decode cc pc = .ok (.if_icmp .ne off, 3)) (ht : (pc : Int) + off = (tgt : Int)) (kt : ¬ x = y → WA X h k sl tgt ls rest) (kf : x = y → WA X h k sl (pc + 3) ls rest) : WA X h k sl pc ls (.int y :: .int x :: rest) := by
  obtain ⟨p, l, e, s, m, args, below, meth, c, D, S0, d0, mc, ms, po, pp⟩ := X
  intro H locs cells slots h1 h2 hR hL
  refine lv_icmp_ne hX.1 hX.2.1 dg ht (fun q => kt ?_ H locs cells slots h1 h2 hR hL) (fun q => kf ?_ H locs cells slots h1 h2 hR hL) <;> simpa using q
theorem wa_acmp_ne (hX : Ok X own cc nL ret nm d post px) {rx ry : Option Nat} {off : Int} {tgt : Nat} (dg : decode cc pc = .ok (.if_acmp .ne off, 3)) (ht : (pc : Int) + off = (tgt : Int)) (kt : ¬ rx = ry → WA X h k sl tgt ls rest) (kf : rx = ry → WA X h k sl (pc + 3) ls rest) : WA X h k sl pc ls (va_rf ry :: va_rf rx :: rest) := by
  obtain ⟨p, l, e, s, m, args, below, meth, c, D, S0, d0, mc, ms, po, pp⟩ := X
  intro H locs cells slots h1 h2 hR hL
  exact lv_acmp_ne hX.1 hX.2.1 dg ht (fun q => kt q H locs cells slots h1 h2 hR hL) (fun q => kf q H locs cells slots h1 h2 hR hL)
theorem wa_goto (hX : Ok X own cc nL ret nm d post px) {off : Int} {tgt : Nat} (dg : decode cc pc = .ok (.goto off, 3)) (ht : (pc : Int) + off = (tgt : Int)) (k' : WA X h k sl tgt ls rest) : WA X h k sl pc ls rest := by
  obtain ⟨p, l, e, s, m, args, below, meth, c, D, S0, d0, mc, ms, po, pp⟩ := X
  intro H locs cells slots h1 h2 hR hL
  exact lv_goto hX.1 hX.2.1 dg ht (k' H locs cells slots h1 h2 hR hL)
theorem wa_ifnonnull (hX : Ok X own cc nL ret nm d post px) {x : Nat} {off : Int} {tgt : Nat} (dg : decode cc pc = .ok (.ifnonnull off, 3)) (ht : (pc : Int) + off = (tgt : Int)) (k' : WA X h k sl tgt ls rest) : WA X h k sl pc ls (.ref x :: rest) := by
  obtain ⟨p, l, e, s, m, args, below, meth, c, D, S0, d0, mc, ms, po, pp⟩ := X
  intro H locs cells slots h1 h2 hR hL
  exact lv_ifnonnull hX.1 hX.2.1 dg ht (k' H locs cells slots h1 h2 hR hL)
theorem wa_ifnonnullN (hX : Ok X own cc nL ret nm d post px)  {off : Int} (dg : decode cc pc = .ok (.ifnonnull off, 3)) (k' : WA X h k sl (pc + 3) ls rest) : WA X h k sl pc ls (.null :: rest) := by
  obtain ⟨p, l, e, s, m, args, below, meth, c, D, S0, d0, mc, ms, po, pp⟩ := X
  intro H locs cells slots h1 h2 hR hL
  exact lv_ifnonnullN hX.1 hX.2.1 dg (k' H locs cells slots h1 h2 hR hL)
theorem wa_ifnull (hX : Ok X own cc nL ret nm d post px) {x : Nat} {off : Int} (dg : decode cc pc = .ok (.ifnull off, 3)) (k' : WA X h k sl (pc + 3) ls rest) : WA X h k sl pc ls (.ref x :: rest) := by
  obtain ⟨p, l, e, s, m, args, below, meth, c, D, S0, d0, mc, ms, po, pp⟩ := X
  intro H locs cells slots h1 h2 hR hL
  exact lv_ifnull hX.1 hX.2.1 dg (k' H locs cells slots h1 h2 hR hL)
theorem wa_ifnullN (hX : Ok X own cc nL ret nm d post px)  {off : Int} {tgt : Nat} (dg : decode cc pc = .ok (.ifnull off, 3)) (ht : (pc : Int) + off = (tgt : Int)) (k' : WA X h k sl tgt ls rest) : WA X h k sl pc ls (.null :: rest) := by
  obtain ⟨p, l, e, s, m, args, below, meth, c, D, S0, d0, mc, ms, po, pp⟩ := X
  intro H locs cells slots h1 h2 hR hL
  exact lv_ifnullN hX.1 hX.2.1 dg ht (k' H locs cells slots h1 h2 hR hL)
theorem wa_iret {v : Int32} (hX : Ok X own cc nL (some .int) nm d post px) (dg : decode cc pc = .ok (.ireturn, 1))  (hq : post (some (.int v)) h) : WA X h k sl pc ls [.int v] := by
  obtain ⟨p, l, e, s, m, args, below, meth, c, D, S0, d0, mc, ms, po, pp⟩ := X
  intro H locs cells slots h1 h2 hR hL
  obtain ⟨hx, hb, hml, hr, hlk, hown, hW, hWO, hnx, hnm, rfl, rfl, rfl, -⟩ := hX
  refine W.widen (k := mc) (n := ms) (by omega) (by omega) ?_
  refine vx_ret ?_
  exact W.iret hx hb hr  (fun t ht hWt => ⟨_, h, rfl, hq, by rw [ht]; exact hR.moved hWt.alike⟩) hL dg hlk
theorem wa_zret {v : Int32} {ty : FieldType} (hX : Ok X own cc nL (some ty) nm d post px) (dg : decode cc pc = .ok (.ireturn, 1)) (hn : narrow ty (.int v) = .int v) (hq : post (some (.int v)) h) : WA X h k sl pc ls [.int v] := by
  obtain ⟨p, l, e, s, m, args, below, meth, c, D, S0, d0, mc, ms, po, pp⟩ := X
  intro H locs cells slots h1 h2 hR hL
  obtain ⟨hx, hb, hml, hr, hlk, hown, hW, hWO, hnx, hnm, rfl, rfl, rfl, -⟩ := hX
  refine W.widen (k := mc) (n := ms) (by omega) (by omega) ?_
  refine vx_ret ?_
  exact W.zret hx hb hr hn (fun t ht hWt => ⟨_, h, rfl, hq, by rw [ht]; exact hR.moved hWt.alike⟩) hL dg hlk
theorem wa_lret {v : Int64} (hX : Ok X own cc nL (some .long) nm d post px) (dg : decode cc pc = .ok (.lreturn, 1))  (hq : post (some (.long v)) h) : WA X h k sl pc ls [.long v] := by
  obtain ⟨p, l, e, s, m, args, below, meth, c, D, S0, d0, mc, ms, po, pp⟩ := X
  intro H locs cells slots h1 h2 hR hL
  obtain ⟨hx, hb, hml, hr, hlk, hown, hW, hWO, hnx, hnm, rfl, rfl, rfl, -⟩ := hX
  refine W.widen (k := mc) (n := ms) (by omega) (by omega) ?_
  refine vx_ret ?_
  exact W.lret hx hb hr  (fun t ht hWt => ⟨_, h, rfl, hq, by rw [ht]; exact hR.moved hWt.alike⟩) hL dg hlk
theorem wa_fret {v : UInt32} (hX : Ok X own cc nL (some .float) nm d post px) (dg : decode cc pc = .ok (.freturn, 1))  (hq : post (some (.float v)) h) : WA X h k sl pc ls [.float v] := by
  obtain ⟨p, l, e, s, m, args, below, meth, c, D, S0, d0, mc, ms, po, pp⟩ := X
  intro H locs cells slots h1 h2 hR hL
  obtain ⟨hx, hb, hml, hr, hlk, hown, hW, hWO, hnx, hnm, rfl, rfl, rfl, -⟩ := hX
  refine W.widen (k := mc) (n := ms) (by omega) (by omega) ?_
  refine vx_ret ?_
  exact W.fret hx hb hr  (fun t ht hWt => ⟨_, h, rfl, hq, by rw [ht]; exact hR.moved hWt.alike⟩) hL dg hlk
theorem wa_dret {v : UInt64} (hX : Ok X own cc nL (some .double) nm d post px) (dg : decode cc pc = .ok (.dreturn, 1))  (hq : post (some (.double v)) h) : WA X h k sl pc ls [.double v] := by
  obtain ⟨p, l, e, s, m, args, below, meth, c, D, S0, d0, mc, ms, po, pp⟩ := X
  intro H locs cells slots h1 h2 hR hL
  obtain ⟨hx, hb, hml, hr, hlk, hown, hW, hWO, hnx, hnm, rfl, rfl, rfl, -⟩ := hX
  refine W.widen (k := mc) (n := ms) (by omega) (by omega) ?_
  refine vx_ret ?_
  exact W.dret hx hb hr  (fun t ht hWt => ⟨_, h, rfl, hq, by rw [ht]; exact hR.moved hWt.alike⟩) hL dg hlk
theorem wa_vret  (hX : Ok X own cc nL none nm d post px) (dg : decode cc pc = .ok (.return_, 1))  (hq : post (none) h) : WA X h k sl pc ls [] := by
  obtain ⟨p, l, e, s, m, args, below, meth, c, D, S0, d0, mc, ms, po, pp⟩ := X
  intro H locs cells slots h1 h2 hR hL
  obtain ⟨hx, hb, hml, hr, hlk, hown, hW, hWO, hnx, hnm, rfl, rfl, rfl, -⟩ := hX
  refine W.widen (k := mc) (n := ms) (by omega) (by omega) ?_
  refine vx_ret ?_
  exact W.vret hx hb hr  (fun t ht hWt => ⟨_, h, rfl, hq, by rw [ht]; exact hR.moved hWt.alike⟩) hL dg hlk
theorem wa_aret {v : Option Nat} {rt : FieldType} (hX : Ok X own cc nL (some rt) nm d post px) (dg : decode cc pc = .ok (.areturn, 1)) (hrt : (∃ n, rt = .object n) ∨ ∃ t, rt = .array t) (hq : post (some (va_rf v)) h) : WA X h k sl pc ls [va_rf v] := by
  obtain ⟨p, l, e, s, m, args, below, meth, c, D, S0, d0, mc, ms, po, pp⟩ := X
  intro H locs cells slots h1 h2 hR hL
  obtain ⟨hx, hb, hml, hr, hlk, hown, hW, hWO, hnx, hnm, rfl, rfl, rfl, -⟩ := hX
  refine W.widen (k := mc) (n := ms) (by omega) (by omega) ?_
  refine vx_ret ?_
  exact W.aret hx hb hr hrt (by cases v with | none => exact Or.inl rfl | some a => exact Or.inr ⟨a, rfl⟩) (fun t ht hWt => ⟨_, h, rfl, hq, by rw [ht]; exact hR.moved hWt.alike⟩) hL dg hlk
end LY2
