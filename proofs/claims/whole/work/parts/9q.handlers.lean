/-! Methods with a table of handlers: their start, a call that is caught, a call of such a method. Own text. -/
def cxT (X : Cx) : List ExceptionTableEntry := match X with
  | (_, _, _, _, _, _, _, _, c, _) => c.exceptionTable.toList
def MH (l : Launch) (D : va_G) (S0 : State) (y : MethodName) (cc : ByteArray) (maxL : Nat) (ret : Option FieldType) (hh : List (Nat × Nat × Nat × Nat)) (d : Nat) (av : List Value) (h : AH) (mc ms : Nat) (post : Option Value → AH → Prop) : Prop :=
  vx_Met l y [Cond.codeWith y cc maxL ret hh] (rmA d mc ms) (fun v U => v = av.toArray ∧ SRel D S0 h U) (QcA D S0 post) (XcA D S0 (fun _ _ => False)) mc ms (frA S0)
theorem MH.start {l : Launch} {D : va_G} {S0 : State} {y : MethodName} {cc : ByteArray} {maxL : Nat} {ret : Option FieldType} {hh : List (Nat × Nat × Nat × Nat)} {d : Nat} {av : List Value} {h : AH} {mc ms : Nat} {post : Option Value → AH → Prop}
    (hW : WOK l D S0) (hpl : plainName y.cls = true) (ls : List Slot) (hls : lg_sl av ++ List.replicate (maxL - (lg_sl av).length) Slot.unset = ls)
    (body : ∀ X : Cx, cxL X = l → cxD X = D → cxS X = S0 → cxT X = tableOf hh → Ok X y.cls cc maxL ret y.name d post (fun _ _ => False) → WA X h mc ms 0 ls []) : MH l D S0 y cc maxL ret hh d av h mc ms post := by
  refine vx_ofWH (ws' := []) hpl rfl ?_
  intro p e s m args below meth c s₁ B hml hP
  obtain ⟨rfl, hS⟩ := hP
  have ht := vx_table (x := y) B (atoms_spec (ws := [Cond.codeWith y cc maxL ret hh]) B.pre _ List.mem_cons_self)
  have hown : s.vm.findClass y.cls = some m.cls := findClass_of_methodNamed B.named
  have hnm : meth.name = y.name := (name_of_methodNamed B.named B.method).1
  have K := body (p, l, e, s, m, av.toArray, below, meth, c, D, S0, d, mc, ms, post, fun _ _ => False) rfl rfl rfl ht ⟨B.exec, B.bytes, hml, B.returns, B.notSynchronized, hown, hS.1, hW, (fun _ _ q => q.elim), hnm, rfl, rfl, rfl, hS.2.1, hS.2.2.1⟩
  have K2 := K s.heap [] 0 0 (by omega) (by omega) hS.2 (fun _ h => by cases h)
  rw [lg_entry_eq, hls]
  exact K2
/-- the row of a table that takes E at pc: where it goes on -/
def catW (own : String) (pc : Nat) (E : String) : List (Nat × Nat × Nat × Nat) → List String → Option Nat
  | (a, b, hp, ct) :: hh, nm :: nms => if (decide (a ≤ pc) && decide (pc < b) && decide (ct ≠ 0) && decide (Cond.classLink own ct nm ∈ lw_tbl)) = true then (if decide (Cond.castable E nm ∈ lw_tbl) = true then some hp else if decide (Cond.not (.castable E nm) ∈ flatC (Jvm.Cond.and given_1 narrow_1)) = true then catW own pc E hh nms else none) else none
  | _, _ => none
theorem catW_ok {own : String} {pc : Nat} {E : String} : ∀ (hh : List (Nat × Nat × Nat × Nat)) (nms : List String) (hp : Nat), catW own pc E hh nms = some hp → ∃ (pre : List ExceptionTableEntry) (x : ExceptionTableEntry) (suf : List ExceptionTableEntry) (nm : String), tableOf hh = pre ++ x :: suf ∧ (∀ z ∈ pre, z.catchType ≠ 0 ∧ ∃ nm9 : String, Cond.classLink own z.catchType nm9 ∈ lw_tbl ∧ Cond.not (.castable E nm9) ∈ flatC (Jvm.Cond.and given_1 narrow_1)) ∧ covers x pc = true ∧ x.catchType ≠ 0 ∧ x.handlerPc = hp ∧ Cond.classLink own x.catchType nm ∈ lw_tbl ∧ Cond.castable E nm ∈ lw_tbl := by
  intro hh
  induction hh with
  | nil => intro nms hp h; unfold catW at h; cases h
  | cons q hh ih =>
    intro nms hp h
    obtain ⟨a, b, h9, ct⟩ := q
    cases nms with
    | nil => unfold catW at h; cases h
    | cons nm nms =>
      unfold catW at h
      by_cases g1 : (decide (a ≤ pc) && decide (pc < b) && decide (ct ≠ 0) && decide (Cond.classLink own ct nm ∈ lw_tbl)) = true
      · rw [if_pos g1] at h
        rw [Bool.and_eq_true, Bool.and_eq_true, Bool.and_eq_true, decide_eq_true_eq, decide_eq_true_eq, decide_eq_true_eq, decide_eq_true_eq] at g1
        obtain ⟨⟨⟨g2, g3⟩, g4⟩, g5⟩ := g1
        by_cases g6 : decide (Cond.castable E nm ∈ lw_tbl) = true
        · rw [if_pos g6] at h
          refine ⟨[], ⟨a, b, h9, ct⟩, tableOf hh, nm, rfl, (fun z hz => by cases hz), ?_, g4, Option.some.inj h, g5, of_decide_eq_true g6⟩
          show (decide (a ≤ pc) && decide (pc < b)) = true
          rw [decide_eq_true g2, decide_eq_true g3]
          rfl
        · rw [if_neg g6] at h
          by_cases g7 : decide (Cond.not (.castable E nm) ∈ flatC (Jvm.Cond.and given_1 narrow_1)) = true
          · rw [if_pos g7] at h
            obtain ⟨pre, x, suf, nm2, z1, z2, z3, z4, z5, z6, z7⟩ := ih nms hp h
            refine ⟨⟨a, b, h9, ct⟩ :: pre, x, suf, nm2, ?_, fun z hz => ?_, z3, z4, z5, z6, z7⟩
            · show (⟨a, b, h9, ct⟩ : ExceptionTableEntry) :: tableOf hh = _
              rw [z1]
              rfl
            · rcases List.mem_cons.mp hz with rfl | hz
              · exact ⟨g4, nm, g5, of_decide_eq_true g7⟩
              · exact z2 z hz
          · rw [if_neg g7] at h; cases h
      · rw [if_neg g1] at h; cases h
def callHW (own : String) (idx : Nat) (y : MethodName) (cc1 : ByteArray) (maxL1 : Nat) (ret1 : Option FieldType) (hh : List (Nat × Nat × Nat × Nat)) (n : Nat) : Bool :=
  decide (Cond.methodLink own idx y ∈ lw_tbl) && decide (Cond.initialized y.cls ∈ lw_tbl) && decide (Cond.codeWith y cc1 maxL1 ret1 hh ∈ lw_tbl) && decide (y.cls ≠ "java/lang/invoke/MethodHandle") && decide (y.cls ≠ "java/lang/invoke/VarHandle") && decide ((parseMethodDescriptor y.desc).map (fun d => d.parameters.length) = some n) && decide (maxL1 ≤ 21) && decide (Cond.static y ∈ lw_tbl)
section LY9q
variable {X : Cx} {own : String} {cc : ByteArray} {nL : Nat} {ret : Option FieldType} {nm : String} {d : Nat} {post : Option Value → AH → Prop} {px : String → AH → Prop} {h : AH} {k sl pc : Nat} {ls : List Slot} {rest : List Value}
theorem cast_mv {a b : String} {u U : State} {A A' : Array Value} (hvm : u.vm.Alike U.vm) (h : (Cond.castable a b).before A u = true) : (Cond.castable a b).before A' U = true := by
  have e := Cond.onTables_vm (A := A) (A' := A') (U := u) (U' := U) U.vm (Cond.castable a b) rfl
  have hU : U.setVm U.vm = U := rfl
  rw [hU] at e
  rw [← e, Cond.castable_setVm hvm]
  exact h
theorem wa_behindH {p : Program} {l : Launch} {e : Env} {s : State} {m : MethodId} {args : Array Value} {below : List Frame} {meth : Method} {c : Code} {D : va_G} {S0 : State} {d0 mc ms : Nat} {po : Option Value → AH → Prop} {pp : String → AH → Prop} {H : Heap} {locs : List Loc} {cells slots mc1 ms1 : Nat} {st : List Value} {a : Array Value} {post1 : Option Value → AH → Prop} {px1 : String → AH → Prop} {hh : List (Nat × Nat × Nat × Nat)} (nms : List String)
    (hX : Ok (p, l, e, s, m, args, below, meth, c, D, S0, d0, mc, ms, po, pp) own cc nL ret nm d post px) (hT : c.exceptionTable.toList = tableOf hh) (h1 : cells + (k + mc1) ≤ mc) (h2 : slots + (sl + ms1) ≤ ms) (hL : ∀ q ∈ locs, frA S0 q.base)
    (hr : vx_Run p l e (rmA d0 mc ms) s m args below meth c H locs cells slots mc1 ms1 (F0 m pc ls.toArray st) rest (QcA D S0 post1 a) (XcA D S0 px1) (frA S0))
    (kk : ∀ (r : Option Value) (h' : AH), post1 r h' → WA (p, l, e, s, m, args, below, meth, c, D, S0, d0, mc, ms, po, pp) h' k sl (pc + 3) ls (r.toList ++ rest)) (kx : ∀ (E : String) (h' : AH), px1 E h' → ∃ hp, catW own pc E hh nms = some hp ∧ ∀ q : Nat, WA (p, l, e, s, m, args, below, meth, c, D, S0, d0, mc, ms, po, pp) h' k sl hp ls [.ref q]) :
    W p l e (rmA d0 mc ms) s m args below meth c H locs cells slots (vx_MQ below (QcA D S0 po) (XcA D S0 pp) args s mc ms (frA S0)) (F0 m pc ls.toArray st) := by
  intro T hT9 X0
  rcases hr T hT9 X0 with ⟨v, st₀, t, T', L, e0, X', hL', e1, e2, ⟨r, h', ho, hp, hS⟩, go⟩ | ⟨q, st₀, t, T', L, E, ce, e0, X', hL', e1, e2, ⟨h', hp, hS⟩, hce, hcv, hcl, st9⟩
  · cases ho
    have hW1 : s.vm.Alike t.vm := by rw [← e2]; exact X'.warmed.alike
    have hR' : HRel D S0 s h' T'.heap := by rw [e1]; exact hS.moved hW1.symm
    obtain ⟨t2, a1, b1⟩ := kk v h' hp T'.heap (locs ++ L) (cells + mc1) (slots + ms1) (by omega) (by omega) hR' (t_lL hL hL') T' rfl X'
    exact ⟨t2, go t2 a1, b1⟩
  · obtain ⟨hp9, hcat, kq⟩ := kx E h' hp
    obtain ⟨pre, x, suf, nm9, z1, z2, z3, z4, rfl, z6, z7⟩ := catW_ok hh nms hp9 hcat
    have hX' := hX
    obtain ⟨hx, hb, hml, hr9, hlk, hown, hW, ⟨A0, -, hT0, hg, -⟩, -⟩ := hX'
    have hf := flat_of_before _ hg
    have hcE : T'.heap[q]? = some ce := by rw [e1]; exact hce
    have hW1 : s.vm.Alike t.vm := by rw [← e2]; exact X'.warmed.alike
    have hR' : HRel D S0 s h' T'.heap := by rw [e1]; exact hS.moved hW1.symm
    obtain ⟨t2, a1, b1⟩ := vx_catch (p := p) (l := l) (e := e) (R := rmA d0 mc ms) (below := below) (meth := meth) (Q := vx_MQ below (QcA D S0 po) (XcA D S0 pp) args s mc ms (frA S0)) (args := args) (H := T'.heap) (locs := locs ++ L) (cells := cells + mc1) (slots := slots + ms1) (pc := pc) (ls := ls.toArray) (rest := rest) (name := nm9) (E := E) hown pre x suf (hT.trans z1) (fun z hz => by
      obtain ⟨y1, nm8, y2, y3⟩ := z2 z hz
      exact Or.inr ⟨y1, nm8, hX.word y2 rfl, (va_Nc.of (hf _ y3)).moved hW.alike⟩) z3 z4 (hX.word z6 rfl) (cast_mv hW.alike (hT0 _ z7)) hcE hcv hcl (kq q T'.heap (locs ++ L) (cells + mc1) (slots + ms1) (by omega) (by omega) hR' (t_lL hL hL')) T' rfl X'
    exact ⟨t2, st9.trans a1, b1⟩
set_option maxHeartbeats 1000000 in
theorem wa_callVH (hX : Ok X own cc nL ret nm d post px) {st As : List Value} {b lb ci idx : Nat} {fs : List Value} {y : MethodName} {cc1 : ByteArray} {maxL1 : Nat} {ret1 : Option FieldType} {d1 mc1 ms1 nA : Nat} {post1 : Option Value → AH → Prop} {px1 : String → AH → Prop} {hh : List (Nat × Nat × Nat × Nat)} (nms : List String) (hT : cxT X = tableOf hh)
    (hM : MA (cxL X) (cxD X) (cxS X) y cc1 maxL1 ret1 d1 (.ref b :: As) h mc1 ms1 post1 px1) (hc : h b = some (lb, oF ci fs)) (hcl : (vwCl[ci]?).map (fun q => q.1) = some y.cls) (hst : st = As.reverse ++ .ref b :: rest) (hd : d1 < d) (hA : As.length = nA) (hw : callW 1 own idx y cc1 maxL1 ret1 nA = true) (hsz : ls.length = nL) (hrest : (rest.map fun v => v.category).sum ≤ 8) (dg : decode cc pc = .ok (.invokevirtual idx, 3))
    (kk : ∀ (r : Option Value) (h' : AH), post1 r h' → WA X h' k sl (pc + 3) ls (r.toList ++ rest)) (kx : ∀ (E : String) (h' : AH), px1 E h' → ∃ hp, catW own pc E hh nms = some hp ∧ ∀ q : Nat, WA X h' k sl hp ls [.ref q]) : WA X h (k + mc1) (sl + ms1) pc ls st := by
  subst hA
  obtain ⟨p, l, e, s, m, args, below, meth, c, D, S0, d0, mc, ms, po, pp⟩ := X
  intro H locs cells slots h1 h2 hR hL
  have cb := callB_S (mc1 := mc1) (ms1 := ms1) hX hw hd
  unfold callW at hw
  simp only [Bool.and_eq_true, decide_eq_true_eq] at hw
  have hX' := hX
  obtain ⟨hx, hb, hml, -, -, hown, -⟩ := hX'
  obtain ⟨q9, hq9, hn9⟩ := Option.map_eq_some_iff.mp hcl
  have hrec := va_recv (D := D) (ws := [(b, .inr (ci, fs))]) hX.vaK (P1 (hR.2.2 b lb _ hc).2) hq9 (q0 := 0) rfl
  rw [hn9] at hrec
  refine wa_behindH (a := (Value.ref b :: As).toArray) nms hX hT h1 h2 hL ?_ kk kx
  exact vx_runV (Ts := []) ⟨hx, hb, hml, hown, fun w hw => by cases hw⟩ hM ⟨cb, hX.word hw.2.1 rfl, hX.word hw.2.2 rfl⟩ ⟨fun a U g mk q => ⟨q.1, q.2.calling⟩, hrec, fun U hU hWU => ⟨rfl, srelU hX hR U hU hWU⟩⟩ rfl rfl (by simpa using hsz) hst (lv_room hrest) dg ⟨show cells + mc1 ≤ mc by omega, show slots + ms1 ≤ ms by omega⟩
set_option maxHeartbeats 1000000 in
theorem wa_callSH (hX : Ok X own cc nL ret nm d post px) {st As : List Value} {idx : Nat} {y : MethodName} {cc1 : ByteArray} {maxL1 : Nat} {ret1 : Option FieldType} {hh : List (Nat × Nat × Nat × Nat)} {d1 mc1 ms1 nA : Nat} {post1 : Option Value → AH → Prop}
    (hM : MH (cxL X) (cxD X) (cxS X) y cc1 maxL1 ret1 hh d1 As h mc1 ms1 post1) (hst : st = As.reverse ++ rest) (hd : d1 < d) (hA : As.length = nA) (hw : callHW own idx y cc1 maxL1 ret1 hh nA = true) (hsz : ls.length = nL) (hrest : (rest.map fun v => v.category).sum ≤ 8) (dg : decode cc pc = .ok (.invokestatic idx, 3))
    (kk : ∀ (r : Option Value) (h' : AH), post1 r h' → WA X h' k sl (pc + 3) ls (r.toList ++ rest)) : WA X h (k + mc1) (sl + ms1) pc ls st := by
  subst hA
  obtain ⟨p, l, e, s, m, args, below, meth, c, D, S0, d0, mc, ms, po, pp⟩ := X
  intro H locs cells slots h1 h2 hR hL
  unfold callHW at hw
  simp only [Bool.and_eq_true, decide_eq_true_eq] at hw
  obtain ⟨⟨⟨⟨⟨⟨⟨w1, w2⟩, w3⟩, w4⟩, w5⟩, w6⟩, w7⟩, w8⟩ := hw
  have hX' := hX
  obtain ⟨hx, hb, hml, -, -, hown, -⟩ := hX'
  have hdd : d0 = d := hX.2.2.2.2.2.2.2.2.2.2.1
  subst hdd
  have cw : vx_CSW (rmA d0 mc ms) s args own idx y cc1 maxL1 ret1 hh [Cond.codeWith y cc1 maxL1 ret1 hh] (rmA d1 mc1 ms1) mc1 ms1 As.length := by
    refine ⟨⟨rfl, rfl, ?_, ?_, fun w hw a' U hU => ?_, List.mem_singleton.mpr rfl⟩, hX.word w3 rfl, hX.word w2 rfl, ⟨w4, w5⟩, fun sig hsig => ?_, hX.word w1 rfl, hX.word w8 rfl⟩
    · show d1 + 6 + 1 ≤ d0 + 6
      omega
    · show 8 + (maxL1 + 11) + (40 * d1 + 100) ≤ 40 * d0 + 100
      omega
    · rw [List.mem_singleton.mp hw]
      exact hX.wordU w3 rfl a' U hU
    · rw [hsig] at w6
      exact (Option.some.inj w6).symm
  refine wa_behind (px1 := fun _ _ => False) (a := As.toArray) hX h1 h2 hL ?_ kk (fun _ _ q => q.elim)
  exact vx_runSX (Ts := []) ⟨hx, hb, hml, hown, fun w hw => by cases hw⟩ hM cw ⟨fun a U g mk q => ⟨q.1, q.2.calling⟩, fun U hU hWU => ⟨rfl, srelU hX hR U hU hWU⟩⟩ rfl rfl (by simpa using hsz) hst (lv_room hrest) dg ⟨show cells + mc1 ≤ mc by omega, show slots + ms1 ≤ ms by omega⟩
end LY9q
