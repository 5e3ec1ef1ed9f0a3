/-! ROWS: equality of references; Circuitfold$Minors (X7): isMinor -/
section LYB
variable {X : Cx} {own : String} {cc : ByteArray} {nL : Nat} {ret : Option FieldType} {nm : String} {d : Nat} {post : Option Value → AH → Prop} {px : String → AH → Prop} {h : AH} {k sl pc : Nat} {ls : List Slot} {rest : List Value}
theorem wa_acmp_ne (hX : Ok X own cc nL ret nm d post px) {rx : Option Nat} {y : Nat} {off : Int} {tgt : Nat} (dg : decode cc pc = .ok (.if_acmp .ne off, 3)) (ht : (pc : Int) + off = (tgt : Int)) (kt : rx ≠ some y → WA X h k sl tgt ls rest) (kf : rx = some y → WA X h k sl (pc + 3) ls rest) : WA X h k sl pc ls (.ref y :: va_rf rx :: rest) := by
  obtain ⟨p, l, e, s, m, args, below, meth, c, D, S0, d0, mc, ms, po, pp⟩ := X
  intro H locs cells slots h1 h2 hR hL T hT X0
  have hexec := hX.1
  have hb := hX.2.1
  cases rx with
  | none =>
    obtain ⟨t, a, b⟩ := kt (fun q => by cases q) H locs cells slots h1 h2 hR hL T hT X0
    refine ⟨t, ?_, b⟩
    jvm_step X0.here [X0.here.top, hexec, hb, dg, va_rf, Value.asRef?, Op.if_acmp.holds, ht]
    exact a
  | some x =>
    by_cases q : x = y
    · subst q
      obtain ⟨t, a, b⟩ := kf rfl H locs cells slots h1 h2 hR hL T hT X0
      refine ⟨t, ?_, b⟩
      jvm_step X0.here [X0.here.top, hexec, hb, dg, va_rf, Value.asRef?, Op.if_acmp.holds, ht]
      exact a
    · obtain ⟨t, a, b⟩ := kt (fun z => q (Option.some.inj z)) H locs cells slots h1 h2 hR hL T hT X0
      refine ⟨t, ?_, b⟩
      jvm_step X0.here [X0.here.top, hexec, hb, dg, va_rf, Value.asRef?, Op.if_acmp.holds, ht, q]
      exact a
theorem wa_acmp_eq (hX : Ok X own cc nL ret nm d post px) {rx : Option Nat} {y : Nat} {off : Int} {tgt : Nat} (dg : decode cc pc = .ok (.if_acmp .eq off, 3)) (ht : (pc : Int) + off = (tgt : Int)) (kt : rx = some y → WA X h k sl tgt ls rest) (kf : rx ≠ some y → WA X h k sl (pc + 3) ls rest) : WA X h k sl pc ls (.ref y :: va_rf rx :: rest) := by
  obtain ⟨p, l, e, s, m, args, below, meth, c, D, S0, d0, mc, ms, po, pp⟩ := X
  intro H locs cells slots h1 h2 hR hL T hT X0
  have hexec := hX.1
  have hb := hX.2.1
  cases rx with
  | none =>
    obtain ⟨t, a, b⟩ := kf (fun q => by cases q) H locs cells slots h1 h2 hR hL T hT X0
    refine ⟨t, ?_, b⟩
    jvm_step X0.here [X0.here.top, hexec, hb, dg, va_rf, Value.asRef?, Op.if_acmp.holds, ht]
    exact a
  | some x =>
    by_cases q : x = y
    · subst q
      obtain ⟨t, a, b⟩ := kt rfl H locs cells slots h1 h2 hR hL T hT X0
      refine ⟨t, ?_, b⟩
      jvm_step X0.here [X0.here.top, hexec, hb, dg, va_rf, Value.asRef?, Op.if_acmp.holds, ht]
      exact a
    · obtain ⟨t, a, b⟩ := kf (fun z => q (Option.some.inj z)) H locs cells slots h1 h2 hR hL T hT X0
      refine ⟨t, ?_, b⟩
      jvm_step X0.here [X0.here.top, hexec, hb, dg, va_rf, Value.asRef?, Op.if_acmp.holds, ht, q]
      exact a
end LYB
