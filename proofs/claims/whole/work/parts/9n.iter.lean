/-! A call through an interface of a receiver whose class is known (follows the kit's laws of such calls); ArrayList.iterator, its Itr. Own text. -/
def rf_Run (p : Program) (l : Launch) (e : Env) (R : Room) (s : State) (m : MethodId) (args : Array Value) (below : List Frame) (meth : Method) (c : Code) (H : Heap) (locs : List Loc) (cells slots mc ms : Nat) (g : JFrame) (rest : List Value) (Qa : State → Outcome → State → Prop) (XC : String → State → State → Prop) (free : Addr → Prop) : Prop :=
  ∀ T : State, T.heap = H → Stand p l e R s m args below meth c T locs cells slots →
    (∃ (v : Option Value) (st₀ t T' : State) (L : List Loc), st₀.heap = H ∧ Stand p l e R s m args below meth c T' (locs ++ L) (cells + mc) (slots + ms) ∧ (∀ q ∈ L, free q.base) ∧ T'.heap = t.heap ∧ T'.vm = t.vm ∧ Qa st₀ (.returned v) t ∧
      Goes p e below T g T' { g with pc := g.pc + 5, stack := v.toList ++ rest }) ∨
    (∃ (q : Addr) (st₀ t T' : State) (L : List Loc) (E : String) (ce : Cell), st₀.heap = H ∧ Stand p l e R s m args below meth c T' (locs ++ L) (cells + mc) (slots + ms) ∧ (∀ z ∈ L, free z.base) ∧ T'.heap = t.heap ∧ T'.vm = t.vm ∧ XC E st₀ t ∧ t.heap[q]? = some ce ∧ ce.vm = .none ∧ s.vm.findClass E = some ce.cls ∧
      Steps p.tables e below (T.setTop g) ((T'.setTop { g with stack := rest }).pushFrame (.throwing q)))
section RF
variable {p : Program} {l : Launch} {e : Env} {R : Room} {s : State} {m : MethodId} {args : Array Value} {below : List Frame} {meth : Method} {c : Code} {H : Heap} {locs : List Loc} {cells slots : Nat}
theorem rf_run {x y : MethodName} {bytes cc : ByteArray} {maxL nL mc ms n index count : Nat} {ret : Option FieldType} {ws : List Cond} {rm : Room} {Pc : Array Value → State → Prop} {Qc : Array Value → State → Outcome → State → Prop} {XC : String → State → State → Prop} {free : Addr → Prop} {Ts : List Cond} {own C : String} {cC : ClassId} {kB : Class} {b : Addr} {As rest : List Value} {g : JFrame}
    (hat : s.vm.findClass C = some cC) (hkB : s.vm.classes[cC]? = some kB) (S : CallFix p m c cc nL s args Ts own) (hM : vx_Met l y ws rm Pc Qc XC mc ms free) (cw : va_CI R s args own C index x y bytes maxL ret ws rm mc ms n) (hp : PreV s H C b Pc As)
    (hg : g.method = m) (hn : As.length = n) (hsize : g.locals.size = nL) (hstack : g.stack = As.reverse ++ .ref b :: rest) (hW : 2 * g.monitorRoom + (rest.map fun v => v.category).sum ≤ 8) (hdg : decode cc g.pc = .ok (.invokeinterface index count, 5)) (hf : cells + mc ≤ R.cells ∧ slots + ms ≤ R.slots) :
    rf_Run p l e R s m args below meth c H locs cells slots mc ms g rest (Qc (Value.ref b :: As).toArray) XC free := by
  obtain ⟨hrc, hrs, hfr, hlo, hws, hcw⟩ := cw.back
  have hini := cw.init
  have hK : vx_Back l R p e below s args y 5 8 (PreOf R mc ms Pc) (PostOf Qc mc ms free) (vx_Post XC mc ms free) := vx_back (bytes := bytes) (maxL := maxL) (ret := ret) hM hp.1 hrc hrs hfr hlo hws hcw (fun a' U hW => word_at hW (Or.inl (by first | rfl | simp [Cond.onTables, Cond.keeps, Cond.steady])) hini)
  obtain ⟨hx, hb, hml, ho, -⟩ := S
  obtain ⟨-, ⟨cellB, hcB, hoB, hclB⟩, hPc⟩ := hp
  cases hat.symm.trans hclB
  obtain ⟨r0, r, hn0, hrm, hstR, hsigR⟩ := Cond.declares_spec cw.decl
  obtain ⟨cL, kL, r1, hcL, hkL, hiL, hfL, hn1⟩ := Cond.interfaceMethod_spec cw.face
  cases hn0.symm.trans hn1
  have hr0 : r0.cls = cL := Option.some.inj ((findClass_of_methodNamed hn0).symm.trans hcL)
  obtain ⟨hnameR, hdescR⟩ := name_of_methodNamed hn0 hrm
  obtain ⟨mk, methM, hnamed, hmethM, -, habM⟩ := Cond.instanceMethod_spec cw.inst
  obtain ⟨c2, r2, m2, q1, q2, q3, q4, -⟩ := Cond.selects_spec cw.sel
  cases hat.symm.trans q1
  cases hfL.symm.trans q2
  cases hnamed.symm.trans q3
  have hway : ((cellB.cls :: s.vm.superclasses cellB.cls).any fun k => (declaredIn s.vm r.name r.desc k).any fun (_, z) => z.isPrivate || z.isStatic) = false := by
    rw [hnameR, hdescR]; exact Cond.unhidden_spec hat cw.unh
  obtain ⟨c3, t3, w1, w2, w3⟩ := Cond.castable_spec cw.cast
  cases hat.symm.trans w1
  cases hcL.symm.trans w2
  intro T hT X
  have hselP : selectMethod e.platform s.vm cellB.cls r0 = .method mk := by rw [Launch.admits_selectMethod X.admits]; exact q4
  obtain ⟨vm₁, X₁, hstep₁⟩ := X.invokeinterface hx ho cw.link hn0 hrm hstR (by rw [hr0]; exact hkL) hiL cw.notMH (a := b) (cell := cellB) (kcell := kB) (by rw [hT]; exact hcB)
    (fun z h => by rw [h] at hoB; cases hoB) hkB (by rw [hr0]; exact w3) hselP hmethM hway (Cond.publicMethod_spec hnamed hmethM cw.pub) habM (g := g) hg (argsL := As) (rest := rest) (hn.trans (cw.len _ hsigR)) hstack (by rw [hb]; exact hdg)
  rcases hK m meth c ⟨T.setVm vm₁, locs, cells, slots⟩ { g with stack := rest } (.invokeinterface index count) mk (Value.ref b :: As).toArray X₁ hg (hsize.trans hml.symm) (by rw [hb]; exact hdg) hW (X₁.named hnamed) ⟨hf.1, hf.2, hPc (T.setVm vm₁) hT X₁.warmed⟩ with ⟨v, ⟨U', l2, c2, s2⟩, X', ⟨g', mk2, t, L, e1, e2, hq, h1, hL, h2, h3⟩, st⟩ | ⟨q, ⟨U', l2, c2, s2⟩, X', ⟨g', mk2, t, L, E, ce, e1, e2, hq, hce, hcv, hcl, h1, hL, h2, h3⟩, st⟩
  · dsimp only [Pt.U, Pt.locs, Pt.cells, Pt.slots] at X' e1 e2 h1 h2 h3 st
    subst h1; subst h2; subst h3
    exact Or.inl ⟨v, (T.setVm vm₁).calling g' mk2 (Value.ref b :: As).toArray, t, U', L, hT, X', hL, e1, e2, hq, fun target h => hstep₁ _ fun acts => by rw [doInvoke_state]; exact st.trans h⟩
  · dsimp only [Pt.U, Pt.locs, Pt.cells, Pt.slots] at X' e1 e2 h1 h2 h3 st hcl
    subst h1; subst h2; subst h3
    exact Or.inr ⟨q, (T.setVm vm₁).calling g' mk2 (Value.ref b :: As).toArray, t, U', L, E, ce, hT, X', hL, e1, e2, hq, hce, hcv, vx_cls X₁.warmed hcl, hstep₁ _ fun acts => by rw [doInvoke_state]; exact st⟩
end RF
def callFW (own : String) (idx : Nat) (x y : MethodName) (cc1 : ByteArray) (maxL1 : Nat) (ret1 : Option FieldType) (n : Nat) : Bool :=
  decide (Cond.methodLink own idx x ∈ lw_tbl) && decide (Cond.declares x ∈ lw_tbl) && decide (Cond.interfaceMethod x.cls x.cls x.name x.desc ∈ lw_tbl) && decide (Cond.selects y.cls x y ∈ lw_tbl) && decide (Cond.instanceMethod y ∈ lw_tbl) && decide (Cond.publicMethod y ∈ lw_tbl) && decide (Cond.unhidden y.cls x.name x.desc ∈ lw_tbl) && decide (Cond.castable y.cls x.cls ∈ lw_tbl) && decide (Cond.initialized y.cls ∈ lw_tbl) && decide (Cond.code y cc1 maxL1 ret1 ∈ lw_tbl) && decide (x.cls ≠ "java/lang/invoke/MethodHandle") && decide (x.cls ≠ "java/lang/invoke/VarHandle") && decide ((parseMethodDescriptor x.desc).map (fun d => d.parameters.length) = some n) && decide (maxL1 ≤ 21)
def fieldWN (own host : String) (idx ci kf : Nat) : Bool := match vwCl[ci]? with
  | some q => decide (kf < q.2.2) && decide (Cond.fieldLinkNest own idx (q.2.1 kf).1 (q.2.1 kf).2.1 (q.2.1 kf).2.2.1 host ∈ lw_tbl)
  | none => false
theorem fieldWN_ok {own host : String} {idx ci kf : Nat} (h : fieldWN own host idx ci kf = true) : ∃ q : vw_C, vwCl[ci]? = some q ∧ kf < q.2.2 ∧ Cond.fieldLinkNest own idx (q.2.1 kf).1 (q.2.1 kf).2.1 (q.2.1 kf).2.2.1 host ∈ lw_tbl := by
  unfold fieldWN at h
  cases e : vwCl[ci]? with
  | none => rw [e] at h; cases h
  | some q =>
    rw [e] at h
    simp only [Bool.and_eq_true, decide_eq_true_eq] at h
    exact ⟨q, rfl, h.1, h.2⟩
section LY9n
variable {X : Cx} {own : String} {cc : ByteArray} {nL : Nat} {ret : Option FieldType} {nm : String} {d : Nat} {post : Option Value → AH → Prop} {px : String → AH → Prop} {h : AH} {k sl pc : Nat} {ls : List Slot} {rest : List Value}
theorem wa_behind5 {p : Program} {l : Launch} {e : Env} {s : State} {m : MethodId} {args : Array Value} {below : List Frame} {meth : Method} {c : Code} {D : va_G} {S0 : State} {d0 mc ms : Nat} {po : Option Value → AH → Prop} {pp : String → AH → Prop} {H : Heap} {locs : List Loc} {cells slots mc1 ms1 : Nat} {st : List Value} {a : Array Value} {post1 : Option Value → AH → Prop} {px1 : String → AH → Prop}
    (hX : Ok (p, l, e, s, m, args, below, meth, c, D, S0, d0, mc, ms, po, pp) own cc nL ret nm d post px) (h1 : cells + (k + mc1) ≤ mc) (h2 : slots + (sl + ms1) ≤ ms) (hL : ∀ q ∈ locs, frA S0 q.base)
    (hr : rf_Run p l e (rmA d0 mc ms) s m args below meth c H locs cells slots mc1 ms1 (F0 m pc ls.toArray st) rest (QcA D S0 post1 a) (XcA D S0 px1) (frA S0))
    (kk : ∀ (r : Option Value) (h' : AH), post1 r h' → WA (p, l, e, s, m, args, below, meth, c, D, S0, d0, mc, ms, po, pp) h' k sl (pc + 5) ls (r.toList ++ rest)) (kx : ∀ (E : String) (h' : AH), px1 E h' → px E h') :
    W p l e (rmA d0 mc ms) s m args below meth c H locs cells slots (vx_MQ below (QcA D S0 po) (XcA D S0 pp) args s mc ms (frA S0)) (F0 m pc ls.toArray st) := by
  intro T hT X0
  rcases hr T hT X0 with ⟨v, st₀, t, T', L, e0, X', hL', e1, e2, ⟨r, h', ho, hp, hS⟩, go⟩ | ⟨q, st₀, t, T', L, E, ce, e0, X', hL', e1, e2, ⟨h', hp, hS⟩, hce, hcv, hcl, st9⟩
  · cases ho
    have hW1 : s.vm.Alike t.vm := by rw [← e2]; exact X'.warmed.alike
    have hR' : HRel D S0 s h' T'.heap := by rw [e1]; exact hS.moved hW1.symm
    obtain ⟨t2, a1, b1⟩ := kk v h' hp T'.heap (locs ++ L) (cells + mc1) (slots + ms1) (by omega) (by omega) hR' (t_lL hL hL') T' rfl X'
    exact ⟨t2, go t2 a1, b1⟩
  · have hX' := hX
    obtain ⟨hx, hb, hml, hr9, hlk, hown, hW, hWO, hnx, hnm, rfl, rfl, rfl, -⟩ := hX'
    have hcE : T'.heap[q]? = some ce := by rw [e1]; exact hce
    obtain ⟨t2, a1, b1⟩ := vx_out (Qc := QcA D S0 po) (XC := XcA D S0 pp) (mc := mc) (ms := ms) (free := frA S0) (H := T'.heap) (locs := locs ++ L) (cells := cells + mc1) (slots := slots + ms1) (pc := pc) (ls := ls.toArray) (rest := rest) (q := q) (E := E) (fun x hx => (hnx E h' (kx E h' hp) x hx).elim) hlk hcE hcv hcl (fun t9 ht9 hal => ⟨h', kx E h' hp, by rw [ht9, e1]; exact (hS.moved (by rw [← e2]; exact X'.warmed.alike.symm)).moved hal⟩) (t_lL hL hL') (by omega) (by omega) T' rfl X'
    exact ⟨t2, st9.trans a1, b1⟩
set_option maxHeartbeats 1000000 in
theorem wa_callF (hX : Ok X own cc nL ret nm d post px) {st As : List Value} {b lb ci idx count : Nat} {fs : List Value} (x : MethodName) {y : MethodName} {cc1 : ByteArray} {maxL1 : Nat} {ret1 : Option FieldType} {d1 mc1 ms1 nA : Nat} {post1 : Option Value → AH → Prop} {px1 : String → AH → Prop}
    (hM : MA (cxL X) (cxD X) (cxS X) y cc1 maxL1 ret1 d1 (.ref b :: As) h mc1 ms1 post1 px1) (hc : h b = some (lb, oF ci fs)) (hcl : (vwCl[ci]?).map (fun q => q.1) = some y.cls) (hst : st = As.reverse ++ .ref b :: rest) (hd : d1 < d) (hA : As.length = nA) (hw : callFW own idx x y cc1 maxL1 ret1 nA = true) (hsz : ls.length = nL) (hrest : (rest.map fun v => v.category).sum ≤ 8) (dg : decode cc pc = .ok (.invokeinterface idx count, 5))
    (kk : ∀ (r : Option Value) (h' : AH), post1 r h' → WA X h' k sl (pc + 5) ls (r.toList ++ rest)) (kx : ∀ (E : String) (h' : AH), px1 E h' → px E h') : WA X h (k + mc1) (sl + ms1) pc ls st := by
  subst hA
  obtain ⟨p, l, e, s, m, args, below, meth, c, D, S0, d0, mc, ms, po, pp⟩ := X
  intro H locs cells slots h1 h2 hR hL
  unfold callFW at hw
  simp only [Bool.and_eq_true, decide_eq_true_eq] at hw
  obtain ⟨⟨⟨⟨⟨⟨⟨⟨⟨⟨⟨⟨⟨w1, w2⟩, w3⟩, w4⟩, w5⟩, w6⟩, w7⟩, w8⟩, w9⟩, w10⟩, w11⟩, w12⟩, w13⟩, w14⟩ := hw
  have hX' := hX
  obtain ⟨hx, hb, hml, -, -, hown, hWm, ⟨A0, -, hT9, -, -⟩, -⟩ := hX'
  have hF : va_Fw y.cls x y s := (va_Fw.of (hT9 _ w2) (hT9 _ w3) (hT9 _ w6) (hT9 _ w7) (hT9 _ w8)).moved ⟨w11, w12⟩ hWm.alike
  obtain ⟨f1, f2, f3, f4, f5⟩ := hF
  have hdd : d0 = d := hX.2.2.2.2.2.2.2.2.2.2.1
  subst hdd
  have cw : va_CI (rmA d0 mc ms) s args own y.cls idx x y cc1 maxL1 ret1 [Cond.code y cc1 maxL1 ret1] (rmA d1 mc1 ms1) mc1 ms1 As.length := by
    refine ⟨⟨rfl, rfl, ?_, ?_, fun w hw a' U hU => ?_, List.mem_singleton.mpr rfl⟩, hX.word w1 rfl, va_any rfl f1, va_any rfl f2, hX.word w4 rfl, hX.word w5 rfl, va_any rfl f3, va_any rfl f4, va_any rfl f5, hX.word w9 rfl, hX.word w10 rfl, ⟨w11, w12⟩, fun sig hsig => ?_⟩
    · show d1 + 6 + 1 ≤ d0 + 6
      omega
    · show 8 + (maxL1 + 11) + (40 * d1 + 100) ≤ 40 * d0 + 100
      omega
    · rw [List.mem_singleton.mp hw]
      exact hX.wordU w10 rfl a' U hU
    · rw [hsig] at w13
      exact (Option.some.inj w13).symm
  obtain ⟨q9, hq9, hn9⟩ := Option.map_eq_some_iff.mp hcl
  have hrec := va_recv (D := D) (ws := [(b, .inr (ci, fs))]) hX.vaK (P1 (hR.2.2 b lb _ hc).2) hq9 (q0 := 0) rfl
  obtain ⟨hS, hfc, kC, hkC, hkind⟩ := hX.vaK.1 ci _ hq9
  rw [hn9] at hrec hfc
  refine wa_behind5 (a := (Value.ref b :: As).toArray) hX h1 h2 hL ?_ kk kx
  exact rf_run (Ts := []) hfc hkC ⟨hx, hb, hml, hown, fun w hw => by cases hw⟩ hM cw ⟨fun a U g mk q => ⟨q.1, q.2.calling⟩, hrec, fun U hU hWU => ⟨rfl, srelU hX hR U hU hWU⟩⟩ rfl rfl (by simpa using hsz) hst (lv_room hrest) dg ⟨show cells + mc1 ≤ mc by omega, show slots + ms1 ≤ ms by omega⟩
theorem wa_getN (hX : Ok X own cc nL ret nm d post px) {a lb ci : Nat} {fs : List Value} {v : Value} {idx : Nat} (host : String) (kf : Nat) (hc : h a = some (lb, oF ci fs)) (hv : fs[kf]? = some v) (hw : fieldWN own host idx ci kf = true) (dg : decode cc pc = .ok (.getfield idx, 3)) (k' : WA X h k sl (pc + 3) ls (v :: rest)) : WA X h k sl pc ls (.ref a :: rest) := by
  obtain ⟨p, l, e, s, m, args, below, meth, c, D, S0, d0, mc, ms, po, pp⟩ := X
  intro H locs cells slots h1 h2 hR hL
  obtain ⟨q, hq, hk, hm⟩ := fieldWN_ok hw
  have hts : ∀ w ∈ u_ws q.1 q.2.1 q.2.2, w.before args s = true := fun w hw => hX.word ((cl_ok ci q hq).1 w hw) (uws_good w hw)
  have hX' := hX
  obtain ⟨hx, hb, -, -, -, hown, hWm, ⟨A0, -, hT9, -, -⟩, -⟩ := hX'
  have hnest := va_Nw.warmF hWm (va_Nw.of rfl (hT9 _ hm))
  exact va_getN (D := D) (ws := [(a, .inr (ci, fs))]) hx hb hts (fun w hw => hw) hown hX.vaK (P1 (hR.2.2 a lb _ hc).2) 0 rfl hq kf hk (va_Nw.use rfl hnest) (fun x z => z) hv dg (k' H locs cells slots h1 h2 hR hL)
end LY9n
abbrev oItr (cu lr mc : Int) (al : Nat) : Ob := oF 2 [I cu, I lr, I mc, .ref al]
section C9n
variable {l : Launch} {D : va_G} {S0 : State}
set_option maxRecDepth 100000 in
theorem c_It_init (hW : WOK l D S0) (d : Nat) {h : AH} {it al la lb ed : Nat} {mc n : Int} (h1 : h it = some (la, oF 2 [I 0, I 0, I 0, .null])) (h2 : h al = some (lb, oAL mc ed n)) (hl : lb ≠ la) : MA l D S0 yJx35411_init_45d68 cJx35411_init_45d68 2 none d [.ref it, .ref al] h 0 0 (fun r h' => r = none ∧ h' = hset h it (la, oItr 0 (-1) mc al)) (fun _ _ => False) := by
  refine MA.start hW (by decide) [.val (.ref it), .val (.ref al)] rfl ?_
  rintro X rfl rfl rfl hX
  refine wa_aload_n hX (i := 0) dJx35411_init_45d68_0 rfl rfl ?_
  refine wa_aload_n hX (i := 1) dJx35411_init_45d68_1 rfl rfl ?_
  refine wa_putF hX 3 h1 (Nat.le_of_ble_eq_true rfl) (by decide +kernel) (by rfl) rfl (by rfl) (by rfl) (by rfl) dJx35411_init_45d68_2 ?_
  refine WA.heap (h2 := hset h it (la, oF 2 [I 0, I 0, I 0, .ref al])) rfl ?_
  have g1 : hset h it (la, oF 2 [I 0, I 0, I 0, .ref al]) it = some (la, oF 2 [I 0, I 0, I 0, .ref al]) := hset_eq
  have g2 : hset h it (la, oF 2 [I 0, I 0, I 0, .ref al]) al = some (lb, oAL mc ed n) := hset_lab h1 h2 hl
  refine wa_aload_n hX (i := 0) dJx35411_init_45d68_5 rfl rfl ?_
  refine wa_obj hX (by decide +kernel) rfl (by exact Nat.le_of_ble_eq_true rfl) dJx35411_init_45d68_6 ?_
  refine wa_aload_n hX (i := 0) dJx35411_init_45d68_9 rfl rfl ?_
  refine wi_iconst hX dJx35411_init_45d68_10 ?_
  refine wa_put hX 1 g1 (Nat.le_of_ble_eq_true rfl) (by decide +kernel) (by rfl) (by rfl) (by rfl) dJx35411_init_45d68_11 ?_
  rw [hset_hset]
  refine WA.heap (h2 := hset h it (la, oF 2 [I 0, I (-1), I 0, .ref al])) rfl ?_
  have g3 : hset h it (la, oF 2 [I 0, I (-1), I 0, .ref al]) it = some (la, oF 2 [I 0, I (-1), I 0, .ref al]) := hset_eq
  have g4 : hset h it (la, oF 2 [I 0, I (-1), I 0, .ref al]) al = some (lb, oAL mc ed n) := hset_lab h1 h2 hl
  refine wa_aload_n hX (i := 0) dJx35411_init_45d68_14 rfl rfl ?_
  refine wa_aload_n hX (i := 0) dJx35411_init_45d68_15 rfl rfl ?_
  refine wa_get hX 3 g3 (by rfl) (by decide +kernel) dJx35411_init_45d68_16 ?_
  refine wa_getS hX "java/util/ArrayList" 0 g4 (by rfl) (by decide +kernel) dJx35411_init_45d68_19 ?_
  refine wa_put hX 2 g3 (Nat.le_of_ble_eq_true rfl) (by decide +kernel) (by rfl) (by rfl) (by rfl) dJx35411_init_45d68_22 ?_
  rw [hset_hset]
  refine WA.heap (h2 := hset h it (la, oItr 0 (-1) mc al)) rfl ?_
  refine wa_vret hX dJx35411_init_45d68_25 ?_
  exact ⟨rfl, rfl⟩
set_option maxRecDepth 100000 in
theorem c_AL_iterator (hW : WOK l D S0) (d : Nat) {h : AH} {al lb ed : Nat} {mc n : Int} (h2 : h al = some (lb, oAL mc ed n)) (hl : lb ≠ 136) : MA l D S0 yJx4a65c_iterator_32c93 cJx4a65c_iterator_32c93 1 (some (.object "java/util/Iterator")) (d + 1) [.ref al] h 1 4 (fun r h' => ∃ it, r = some (.ref it) ∧ Fr (fun _ => False) h h' ∧ h' it = some (136, oItr 0 (-1) mc al)) (fun _ _ => False) := by
  refine MA.start hW (by decide) [.val (.ref al)] rfl ?_
  rintro X rfl rfl rfl hX
  refine WA.room (k2 := 0 + 1) (sl2 := 0 + 4) (by omega) (by omega) ?_
  refine wa_new hX 2 136 4 [I 0, I 0, I 0, .null] (by decide +kernel) (by decide +kernel) rfl dJx4a65c_iterator_32c93_0 (fun it pn => ?_)
  refine WA.hgq (fun hA hhA => ?_)
  have f1 : Fr (fun _ => False) h hA := by rw [hhA]; exact fun b lb ob z _ => hset_new pn z
  have p1 : hA it = some (136, oF 2 [I 0, I 0, I 0, .null]) := by rw [hhA]; exact hset_eq
  have p2 := f1 _ _ _ h2 id
  clear hhA
  refine wa_dup hX dJx4a65c_iterator_32c93_3 rfl ?_
  refine wa_aload_n hX (i := 0) dJx4a65c_iterator_32c93_4 rfl rfl ?_
  refine wa_callI hX (c_It_init hW d p1 p2 hl) (by rfl) (by omega) (nA := 1) (by rfl) (by decide +kernel) rfl (by exact Nat.le_of_ble_eq_true rfl) dJx4a65c_iterator_32c93_5 (fun r5 h5 p5 => ?_) (fun _ _ q => q.elim)
  obtain ⟨rfl, hh5⟩ := p5
  dsimp only [Option.toList, List.cons_append, List.nil_append]
  refine wa_aretR hX dJx4a65c_iterator_32c93_8 (by first | exact Or.inl ⟨_, rfl⟩ | exact Or.inr ⟨_, rfl⟩) ?_
  exact ⟨it, rfl, fun b lb ob z _ => by
    have hbp : b ≠ it := fun e9 => by
      subst e9
      rw [pn] at z
      cases z
    rw [hh5, hset_ne hbp]
    exact f1 _ _ _ z id, by rw [hh5]; exact hset_eq⟩
set_option maxRecDepth 100000 in
theorem c_It_hasNext (hW : WOK l D S0) (d : Nat) {h : AH} {it al la lb ed cu m : Nat} {lr mc mc2 : Int} (h1 : h it = some (la, oItr (cu : Int) lr mc al)) (h2 : h al = some (lb, oAL mc2 ed (m : Int))) (hc : cu ≤ m) (hm : m ≤ 1000) : MA l D S0 yJx35411_hasNext_aae02 cJx35411_hasNext_aae02 1 (some .boolean) d [.ref it] h 0 0 (fun r h' => r = some (I ((b2n (decide (cu < m)) : Nat) : Int)) ∧ h' = h) (fun _ _ => False) := by
  refine MA.start hW (by decide) [.val (.ref it)] rfl ?_
  rintro X rfl rfl rfl hX
  refine wa_aload_n hX (i := 0) dJx35411_hasNext_aae02_0 rfl rfl ?_
  refine wa_get hX 0 (by assumption) (by rfl) (by decide +kernel) dJx35411_hasNext_aae02_1 ?_
  refine wa_aload_n hX (i := 0) dJx35411_hasNext_aae02_4 rfl rfl ?_
  refine wa_get hX 3 h1 (by rfl) (by decide +kernel) dJx35411_hasNext_aae02_5 ?_
  refine wa_getN hX "java/util/ArrayList" 2 h2 (by rfl) (by decide +kernel) dJx35411_hasNext_aae02_8 ?_
  refine wi_icmp_eq hX (tgt := 18) dJx35411_hasNext_aae02_11 (by decide) (by omega) (by omega) (fun c11 => ?_) (fun c11 => ?_)
  · skip
    refine wi_iconst hX dJx35411_hasNext_aae02_18 ?_
    refine wa_zret hX dJx35411_hasNext_aae02_19 (by rfl) ?_
    first
      | exact ⟨by rw [decide_eq_false (show ¬ cu < m by omega)]; rfl, rfl⟩
      | exact ⟨by rw [decide_eq_true (show cu < m by omega)]; rfl, rfl⟩
  · skip
    refine wi_iconst hX dJx35411_hasNext_aae02_14 ?_
    refine wa_goto hX (tgt := 19) dJx35411_hasNext_aae02_15 (by decide) ?_
    refine wa_zret hX dJx35411_hasNext_aae02_19 (by rfl) ?_
    first
      | exact ⟨by rw [decide_eq_false (show ¬ cu < m by omega)]; rfl, rfl⟩
      | exact ⟨by rw [decide_eq_true (show cu < m by omega)]; rfl, rfl⟩
set_option maxRecDepth 100000 in
theorem c_It_check (hW : WOK l D S0) (d : Nat) {h : AH} {it al la lb ed : Nat} {cu lr mc n : Int} (h1 : h it = some (la, oItr cu lr mc al)) (h2 : h al = some (lb, oAL mc ed n)) (hm : inR mc) : MA l D S0 yJx35411_checkForComodification_da8c8 cJx35411_checkForComodification_da8c8 1 none d [.ref it] h 0 0 (fun r h' => r = none ∧ h' = h) (fun _ _ => False) := by
  refine MA.start hW (by decide) [.val (.ref it)] rfl ?_
  rintro X rfl rfl rfl hX
  refine wa_aload_n hX (i := 0) dJx35411_checkForComodification_da8c8_0 rfl rfl ?_
  refine wa_get hX 3 h1 (by rfl) (by decide +kernel) dJx35411_checkForComodification_da8c8_1 ?_
  refine wa_getS hX "java/util/ArrayList" 0 h2 (by rfl) (by decide +kernel) dJx35411_checkForComodification_da8c8_4 ?_
  refine wa_aload_n hX (i := 0) dJx35411_checkForComodification_da8c8_7 rfl rfl ?_
  refine wa_get hX 2 (by assumption) (by rfl) (by decide +kernel) dJx35411_checkForComodification_da8c8_8 ?_
  refine wi_icmp_eq hX (tgt := 22) dJx35411_checkForComodification_da8c8_11 (by decide) hm hm (fun c11 => ?_) (fun c11 => ?_)
  · skip
    refine wa_vret hX dJx35411_checkForComodification_da8c8_22 ?_
    exact ⟨rfl, rfl⟩
  · skip
    exfalso; omega
set_option maxRecDepth 100000 in
theorem c_It_next (hW : WOK l D S0) (d : Nat) {h : AH} {it al la lb ed le cu m N q : Nat} {lr mc : Int} {f : Nat → Option Nat} (h1 : h it = some (la, oItr (cu : Int) lr mc al)) (h2 : h al = some (lb, oAL mc ed (m : Int))) (h3 : h ed = some (le, aR (.object "java/lang/Object") N f)) (hl : lb ≠ la ∧ le ≠ la) (hc : cu < m) (hN : m ≤ N ∧ N ≤ 1000) (hm : inR mc) (hf : f cu = some q) : MA l D S0 yJx35411_next_0502b cJx35411_next_0502b 3 (some (.object "java/lang/Object")) (d + 1) [.ref it] h 0 0 (fun r h' => r = some (.ref q) ∧ h' = hset h it (la, oItr ((cu + 1 : Nat) : Int) (cu : Int) mc al)) (fun _ _ => False) := by
  obtain ⟨hN1, hN2⟩ := hN
  refine MA.start hW (by decide) [.val (.ref it), .unset, .unset] rfl ?_
  rintro X rfl rfl rfl hX
  refine wa_aload_n hX (i := 0) dJx35411_next_0502b_0 rfl rfl ?_
  refine wa_callV hX (c_It_check hW d h1 h2 hm) (by assumption) (by rfl) (by rfl) (by omega) (nA := 0) (by rfl) (by decide +kernel) rfl (by exact Nat.le_of_ble_eq_true rfl) dJx35411_next_0502b_1 (fun r1 h1 p1 => ?_) (fun _ _ q => q.elim)
  obtain ⟨rfl, qq1⟩ := p1; subst h1
  dsimp only [Option.toList, List.cons_append, List.nil_append]
  refine wa_aload_n hX (i := 0) dJx35411_next_0502b_4 rfl rfl ?_
  refine wa_get hX 0 h1 (by rfl) (by decide +kernel) dJx35411_next_0502b_5 ?_
  refine wa_istore_n hX (i := 1) dJx35411_next_0502b_8 rfl rfl ?_
  dsimp only [List.set]
  refine wa_iload_n hX (i := 1) dJx35411_next_0502b_9 rfl rfl ?_
  refine wa_aload_n hX (i := 0) dJx35411_next_0502b_10 rfl rfl ?_
  refine wa_get hX 3 h1 (by rfl) (by decide +kernel) dJx35411_next_0502b_11 ?_
  refine wa_getN hX "java/util/ArrayList" 2 h2 (by rfl) (by decide +kernel) dJx35411_next_0502b_14 ?_
  refine wi_icmp_lt hX (tgt := 28) dJx35411_next_0502b_17 (by decide) (by omega) (by omega) (fun c17 => ?_) (fun c17 => ?_)
  · skip
    refine wa_aload_n hX (i := 0) dJx35411_next_0502b_28 rfl rfl ?_
    refine wa_get hX 3 h1 (by rfl) (by decide +kernel) dJx35411_next_0502b_29 ?_
    refine wa_get hX 1 h2 (by rfl) (by decide +kernel) dJx35411_next_0502b_32 ?_
    refine wa_astore_n hX (i := 2) dJx35411_next_0502b_35 rfl rfl ?_
    dsimp only [List.set]
    refine wa_iload_n hX (i := 1) dJx35411_next_0502b_36 rfl rfl ?_
    refine wa_aload_n hX (i := 2) dJx35411_next_0502b_37 rfl rfl ?_
    refine wa_len hX h3 dJx35411_next_0502b_38 ?_
    refine wi_icmp_lt hX (tgt := 50) dJx35411_next_0502b_39 (by decide) (by omega) (by omega) (fun c39 => ?_) (fun c39 => ?_)
    · skip
      refine wa_aload_n hX (i := 0) dJx35411_next_0502b_50 rfl rfl ?_
      refine wa_iload_n hX (i := 1) dJx35411_next_0502b_51 rfl rfl ?_
      refine wi_iconst hX dJx35411_next_0502b_52 ?_
      refine wi_iadd hX dJx35411_next_0502b_53 ?_
      refine wa_put hX 0 h1 (Nat.le_of_ble_eq_true rfl) (by decide +kernel) (by rfl) (by rfl) (by rfl) dJx35411_next_0502b_54 ?_
      refine WA.heap (h2 := hset h it (la, oItr ((cu + 1 : Nat) : Int) lr mc al)) (by rw [Int.natCast_succ]; rfl) ?_
      have g1 : hset h it (la, oItr ((cu + 1 : Nat) : Int) lr mc al) it = some (la, oItr ((cu + 1 : Nat) : Int) lr mc al) := hset_eq
      refine wa_aload_n hX (i := 2) dJx35411_next_0502b_57 rfl rfl ?_
      refine wa_aload_n hX (i := 0) dJx35411_next_0502b_58 rfl rfl ?_
      refine wa_iload_n hX (i := 1) dJx35411_next_0502b_59 rfl rfl ?_
      refine wa_dup_x1 hX dJx35411_next_0502b_60 rfl rfl ?_
      refine wa_put hX 1 g1 (Nat.le_of_ble_eq_true rfl) (by decide +kernel) (by rfl) (by rfl) (by rfl) dJx35411_next_0502b_61 ?_
      rw [hset_hset]
      refine WA.heap (h2 := hset h it (la, oItr ((cu + 1 : Nat) : Int) (cu : Int) mc al)) rfl ?_
      have g3 : hset h it (la, oItr ((cu + 1 : Nat) : Int) (cu : Int) mc al) ed = some (le, aR (.object "java/lang/Object") N f) := hset_lab h1 h3 hl.2
      refine wi_aaload hX g3 (by omega) (by omega) (by omega) dJx35411_next_0502b_64 ?_
      rw [Int.toNat_natCast, hf]
      dsimp only [va_rf]
      refine wa_aretR hX dJx35411_next_0502b_65 (by first | exact Or.inl ⟨_, rfl⟩ | exact Or.inr ⟨_, rfl⟩) ?_
      exact ⟨rfl, rfl⟩
    · skip
      exfalso; omega
  · skip
    exfalso; omega
end C9n
