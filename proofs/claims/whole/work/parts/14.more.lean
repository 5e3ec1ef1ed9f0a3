/-! MORE ROWS: raw branches, constants, copies, renamed contents. Own text; written by wip/tools/more.py -/
section LY5
variable {X : Cx} {own : String} {cc : ByteArray} {nL : Nat} {ret : Option FieldType} {nm : String} {d : Nat} {post : Option Value → AH → Prop} {px : String → AH → Prop} {h : AH} {k sl pc : Nat} {ls : List Slot} {rest : List Value}
theorem wr_if_eq (hX : Ok X own cc nL ret nm d post px) {x : Int32} {off : Int} {tgt : Nat} (dg : decode cc pc = .ok (.ifCond .eq off, 3)) (ht : (pc : Int) + off = (tgt : Int)) (kt : x = 0 → WA X h k sl tgt ls rest) (kf : ¬ x = 0 → WA X h k sl (pc + 3) ls rest) : WA X h k sl pc ls (.int x :: rest) := by
  obtain ⟨p, l, e, s, m, args, below, meth, c, D, S0, d0, mc, ms, po, pp⟩ := X
  intro H locs cells slots h1 h2 hR hL
  exact lv_if_eq hX.1 hX.2.1 dg ht (fun q => kt q H locs cells slots h1 h2 hR hL) (fun q => kf q H locs cells slots h1 h2 hR hL)
theorem wr_icmp_eq (hX : Ok X own cc nL ret nm d post px) {x y : Int32} {off : Int} {tgt : Nat} (dg : decode cc pc = .ok (.if_icmp .eq off, 3)) (ht : (pc : Int) + off = (tgt : Int)) (kt : x = y → WA X h k sl tgt ls rest) (kf : ¬ x = y → WA X h k sl (pc + 3) ls rest) : WA X h k sl pc ls (.int y :: .int x :: rest) := by
  obtain ⟨p, l, e, s, m, args, below, meth, c, D, S0, d0, mc, ms, po, pp⟩ := X
  intro H locs cells slots h1 h2 hR hL
  exact lv_icmp_eq hX.1 hX.2.1 dg ht (fun q => kt q H locs cells slots h1 h2 hR hL) (fun q => kf q H locs cells slots h1 h2 hR hL)
theorem wr_if_ne (hX : Ok X own cc nL ret nm d post px) {x : Int32} {off : Int} {tgt : Nat} (dg : decode cc pc = .ok (.ifCond .ne off, 3)) (ht : (pc : Int) + off = (tgt : Int)) (kt : ¬ x = 0 → WA X h k sl tgt ls rest) (kf : x = 0 → WA X h k sl (pc + 3) ls rest) : WA X h k sl pc ls (.int x :: rest) := by
  obtain ⟨p, l, e, s, m, args, below, meth, c, D, S0, d0, mc, ms, po, pp⟩ := X
  intro H locs cells slots h1 h2 hR hL
  exact lv_if_ne hX.1 hX.2.1 dg ht (fun q => kt q H locs cells slots h1 h2 hR hL) (fun q => kf q H locs cells slots h1 h2 hR hL)
theorem wr_icmp_ne (hX : Ok X own cc nL ret nm d post px) {x y : Int32} {off : Int} {tgt : Nat} (dg : decode cc pc = .ok (.if_icmp .ne off, 3)) (ht : (pc : Int) + off = (tgt : Int)) (kt : ¬ x = y → WA X h k sl tgt ls rest) (kf : x = y → WA X h k sl (pc + 3) ls rest) : WA X h k sl pc ls (.int y :: .int x :: rest) := by
  obtain ⟨p, l, e, s, m, args, below, meth, c, D, S0, d0, mc, ms, po, pp⟩ := X
  intro H locs cells slots h1 h2 hR hL
  exact lv_icmp_ne hX.1 hX.2.1 dg ht (fun q => kt q H locs cells slots h1 h2 hR hL) (fun q => kf q H locs cells slots h1 h2 hR hL)
theorem wr_if_lt (hX : Ok X own cc nL ret nm d post px) {x : Int32} {off : Int} {tgt : Nat} (dg : decode cc pc = .ok (.ifCond .lt off, 3)) (ht : (pc : Int) + off = (tgt : Int)) (kt : x < 0 → WA X h k sl tgt ls rest) (kf : ¬ x < 0 → WA X h k sl (pc + 3) ls rest) : WA X h k sl pc ls (.int x :: rest) := by
  obtain ⟨p, l, e, s, m, args, below, meth, c, D, S0, d0, mc, ms, po, pp⟩ := X
  intro H locs cells slots h1 h2 hR hL
  exact lv_if_lt hX.1 hX.2.1 dg ht (fun q => kt q H locs cells slots h1 h2 hR hL) (fun q => kf q H locs cells slots h1 h2 hR hL)
theorem wr_icmp_lt (hX : Ok X own cc nL ret nm d post px) {x y : Int32} {off : Int} {tgt : Nat} (dg : decode cc pc = .ok (.if_icmp .lt off, 3)) (ht : (pc : Int) + off = (tgt : Int)) (kt : x < y → WA X h k sl tgt ls rest) (kf : ¬ x < y → WA X h k sl (pc + 3) ls rest) : WA X h k sl pc ls (.int y :: .int x :: rest) := by
  obtain ⟨p, l, e, s, m, args, below, meth, c, D, S0, d0, mc, ms, po, pp⟩ := X
  intro H locs cells slots h1 h2 hR hL
  exact lv_icmp_lt hX.1 hX.2.1 dg ht (fun q => kt q H locs cells slots h1 h2 hR hL) (fun q => kf q H locs cells slots h1 h2 hR hL)
theorem wr_if_ge (hX : Ok X own cc nL ret nm d post px) {x : Int32} {off : Int} {tgt : Nat} (dg : decode cc pc = .ok (.ifCond .ge off, 3)) (ht : (pc : Int) + off = (tgt : Int)) (kt : 0 ≤ x → WA X h k sl tgt ls rest) (kf : ¬ 0 ≤ x → WA X h k sl (pc + 3) ls rest) : WA X h k sl pc ls (.int x :: rest) := by
  obtain ⟨p, l, e, s, m, args, below, meth, c, D, S0, d0, mc, ms, po, pp⟩ := X
  intro H locs cells slots h1 h2 hR hL
  exact lv_if_ge hX.1 hX.2.1 dg ht (fun q => kt q H locs cells slots h1 h2 hR hL) (fun q => kf q H locs cells slots h1 h2 hR hL)
theorem wr_icmp_ge (hX : Ok X own cc nL ret nm d post px) {x y : Int32} {off : Int} {tgt : Nat} (dg : decode cc pc = .ok (.if_icmp .ge off, 3)) (ht : (pc : Int) + off = (tgt : Int)) (kt : y ≤ x → WA X h k sl tgt ls rest) (kf : ¬ y ≤ x → WA X h k sl (pc + 3) ls rest) : WA X h k sl pc ls (.int y :: .int x :: rest) := by
  obtain ⟨p, l, e, s, m, args, below, meth, c, D, S0, d0, mc, ms, po, pp⟩ := X
  intro H locs cells slots h1 h2 hR hL
  exact lv_icmp_ge hX.1 hX.2.1 dg ht (fun q => kt q H locs cells slots h1 h2 hR hL) (fun q => kf q H locs cells slots h1 h2 hR hL)
theorem wr_if_gt (hX : Ok X own cc nL ret nm d post px) {x : Int32} {off : Int} {tgt : Nat} (dg : decode cc pc = .ok (.ifCond .gt off, 3)) (ht : (pc : Int) + off = (tgt : Int)) (kt : 0 < x → WA X h k sl tgt ls rest) (kf : ¬ 0 < x → WA X h k sl (pc + 3) ls rest) : WA X h k sl pc ls (.int x :: rest) := by
  obtain ⟨p, l, e, s, m, args, below, meth, c, D, S0, d0, mc, ms, po, pp⟩ := X
  intro H locs cells slots h1 h2 hR hL
  exact lv_if_gt hX.1 hX.2.1 dg ht (fun q => kt q H locs cells slots h1 h2 hR hL) (fun q => kf q H locs cells slots h1 h2 hR hL)
theorem wr_icmp_gt (hX : Ok X own cc nL ret nm d post px) {x y : Int32} {off : Int} {tgt : Nat} (dg : decode cc pc = .ok (.if_icmp .gt off, 3)) (ht : (pc : Int) + off = (tgt : Int)) (kt : y < x → WA X h k sl tgt ls rest) (kf : ¬ y < x → WA X h k sl (pc + 3) ls rest) : WA X h k sl pc ls (.int y :: .int x :: rest) := by
  obtain ⟨p, l, e, s, m, args, below, meth, c, D, S0, d0, mc, ms, po, pp⟩ := X
  intro H locs cells slots h1 h2 hR hL
  exact lv_icmp_gt hX.1 hX.2.1 dg ht (fun q => kt q H locs cells slots h1 h2 hR hL) (fun q => kf q H locs cells slots h1 h2 hR hL)
theorem wr_if_le (hX : Ok X own cc nL ret nm d post px) {x : Int32} {off : Int} {tgt : Nat} (dg : decode cc pc = .ok (.ifCond .le off, 3)) (ht : (pc : Int) + off = (tgt : Int)) (kt : x ≤ 0 → WA X h k sl tgt ls rest) (kf : ¬ x ≤ 0 → WA X h k sl (pc + 3) ls rest) : WA X h k sl pc ls (.int x :: rest) := by
  obtain ⟨p, l, e, s, m, args, below, meth, c, D, S0, d0, mc, ms, po, pp⟩ := X
  intro H locs cells slots h1 h2 hR hL
  exact lv_if_le hX.1 hX.2.1 dg ht (fun q => kt q H locs cells slots h1 h2 hR hL) (fun q => kf q H locs cells slots h1 h2 hR hL)
theorem wr_icmp_le (hX : Ok X own cc nL ret nm d post px) {x y : Int32} {off : Int} {tgt : Nat} (dg : decode cc pc = .ok (.if_icmp .le off, 3)) (ht : (pc : Int) + off = (tgt : Int)) (kt : x ≤ y → WA X h k sl tgt ls rest) (kf : ¬ x ≤ y → WA X h k sl (pc + 3) ls rest) : WA X h k sl pc ls (.int y :: .int x :: rest) := by
  obtain ⟨p, l, e, s, m, args, below, meth, c, D, S0, d0, mc, ms, po, pp⟩ := X
  intro H locs cells slots h1 h2 hR hL
  exact lv_icmp_le hX.1 hX.2.1 dg ht (fun q => kt q H locs cells slots h1 h2 hR hL) (fun q => kf q H locs cells slots h1 h2 hR hL)
theorem wr_iinc (hX : Ok X own cc nL ret nm d post px) {i : Nat} {n : Int} {x : Int32} (dg : decode cc pc = .ok (.iinc i n, 3)) (hl : ls[i]? = some (.val (.int x))) (k' : WA X h k sl (pc + 3) (ls.set i (.val (.int (x + Int32.ofInt n)))) rest) : WA X h k sl pc ls rest := by
  obtain ⟨p, l, e, s, m, args, below, meth, c, D, S0, d0, mc, ms, po, pp⟩ := X
  intro H locs cells slots h1 h2 hR hL
  have hs : okS ls i = true := by unfold okS; rw [hl]; rfl
  have e' := okS_1 (v := .int (x + Int32.ofInt n)) hs rfl
  have hl' : ls.toArray[i]? = some (.val (.int x)) := by rw [List.getElem?_toArray]; exact hl
  intro T hT X0
  obtain ⟨t, a, b⟩ := k' H locs cells slots h1 h2 hR hL T hT X0
  refine ⟨t, ?_, b⟩
  have hexec := hX.1
  have hb := hX.2.1
  jvm_step X0.here [X0.here.top, ↓top_set X0.here.top, hexec, hb, dg, hl', e']
  exact a
def constW (own : String) (idx : Nat) (v : Int32) : Bool := decide (Cond.constant own idx v ∈ lw_tbl)
theorem wa_ldc (hX : Ok X own cc nL ret nm d post px) {idx : Nat} (v : Int32) (hw : constW own idx v = true) (dg : decode cc pc = .ok (.ldc idx, 2)) (k' : WA X h k sl (pc + 2) ls (.int v :: rest)) : WA X h k sl pc ls rest := by
  obtain ⟨p, l, e, s, m, args, below, meth, c, D, S0, d0, mc, ms, po, pp⟩ := X
  intro H locs cells slots h1 h2 hR hL
  exact lv_ldc hX.1 hX.2.1 hX.2.2.2.2.2.1 (hX.word (of_decide_eq_true hw) rfl) dg (k' H locs cells slots h1 h2 hR hL)
theorem wa_ldc_w (hX : Ok X own cc nL ret nm d post px) {idx : Nat} (v : Int32) (hw : constW own idx v = true) (dg : decode cc pc = .ok (.ldc_w idx, 3)) (k' : WA X h k sl (pc + 3) ls (.int v :: rest)) : WA X h k sl pc ls rest := by
  obtain ⟨p, l, e, s, m, args, below, meth, c, D, S0, d0, mc, ms, po, pp⟩ := X
  intro H locs cells slots h1 h2 hR hL
  exact lv_ldcw hX.1 hX.2.1 hX.2.2.2.2.2.1 (hX.word (of_decide_eq_true hw) rfl) dg (k' H locs cells slots h1 h2 hR hL)
/-- an array's contents matter within its length alone -/
theorem vp_cell_ext {cA : ClassId} {n : Nat} {f g : Nat → Int32} (e : ∀ j, j < n → f j = g j) : vp_cell cA (n, .inl f) = vp_cell cA (n, .inl g) := by
  rw [vp_cell_i, vp_cell_i]
  unfold arrV
  congr 1
  apply Array.ext
  · simp
  · intro i h1 h2
    simp only [Array.getElem_ofFn]
    rw [e i (by simpa using h1)]
theorem WA.ext {a lb n : Nat} {ty : FieldType} {f : Nat → Int32} {st : List Value} (g : Nat → Int32) (ha : h a = some (lb, aW ty n f)) (e77 : ∀ j, j < n → f j = g j) (w : WA X (hset h a (lb, aW ty n g)) k sl pc ls st) : WA X h k sl pc ls st := by
  obtain ⟨p, l, e, s, m, args, below, meth, c, D, S0, d0, mc, ms, po, pp⟩ := X
  intro H locs cells slots h1 h2 hR hL
  refine w H locs cells slots h1 h2 (hR.set ha ?_ rfl (fun _ _ => rfl)) hL
  obtain ⟨-, cA, e1, e2, e3⟩ := hR.2.2 a lb _ ha
  exact ⟨cA, by rw [e1]; exact congrArg some (vp_cell_ext e77), e2, e3⟩
/-- .. as whole numbers; the heap goes on under a new name -/
theorem WA.ext9 {a lb n : Nat} {ty : FieldType} {f : Nat → Int} {st : List Value} (g : Nat → Int) (ha : h a = some (lb, aI ty n f)) (e : ∀ j, j < n → f j = g j) (w : WA X (hset h a (lb, aI ty n g)) k sl pc ls st) : WA X h k sl pc ls st :=
  WA.ext (fun j => Int32.ofInt (g j)) ha (fun j hj => by rw [e j hj]) w
end LY5
theorem vx_ofWF {l : Launch} {y : MethodName} {ws ws' : List Cond} {rm : Room} {Pc : Array Value → State → Prop} {Qc : Array Value → State → Outcome → State → Prop} {XC : String → State → State → Prop} {mc ms : Nat} {free : Addr → Prop} {cc : ByteArray} {maxL : Nat} {ret : Option FieldType}
    (hy : plainFor y = true) (hw : ws = Cond.code y cc maxL ret :: ws')
    (body : ∀ p e s m args below meth c s₁, BodyLoose p l y (headSpec ws rm) cc maxL ret e s m args below meth c s₁ → c.maxLocals = maxL → (∀ x ∈ c.exceptionTable.toList, False) → Pc args s →
      W p l e (headSpec ws rm).room s m args below meth c s.heap [] 0 0 (vx_MQ below Qc XC args s mc ms free) (entryFrame m args maxL)) : vx_Met l y ws rm Pc Qc XC mc ms free := by
  refine MetFree.of_bodySF (code := cc) (maxLocals := maxL) (ret := ret) hy ?_ ?_
  · intro args s m h hn
    obtain ⟨meth, c, h1, h2, h3, h4, h5, h6, -, -⟩ := Cond.code_spec hn (atoms_spec (ws := ws) h _ (by rw [hw]; exact List.mem_cons_self))
    exact ⟨meth, c, h1, h2, h3, h4, h5, h6⟩
  · intro p e s m args below meth c s₁ B hml hP _
    have hh0 : s₁.heap = s.heap := by rw [B.state]; rfl
    have ht : ∀ x ∈ c.exceptionTable.toList, False := by
      obtain ⟨meth9, c9, h1, h2, -, -, -, -, h7, -⟩ := Cond.code_spec B.named (atoms_spec (ws := ws) B.pre _ (by rw [hw]; exact List.mem_cons_self))
      cases Option.some.inj (h1.symm.trans B.method)
      cases Option.some.inj (h2.symm.trans (Stand.of_body B).code)
      intro x hx
      rw [Array.isEmpty_iff.mp h7] at hx
      cases hx
    obtain ⟨t, a1, o, b1, b2, b3⟩ := body p e s m args below meth c s₁ B hml ht hP s₁ hh0 (Stand.of_body B)
    exact ⟨t, o, a1, b1, b2, b3⟩
set_option maxHeartbeats 1000000 in
theorem MA.startF {l : Launch} {D : va_G} {S0 : State} {y : MethodName} {cc : ByteArray} {maxL : Nat} {ret : Option FieldType} {d : Nat} {av : List Value} {h : AH} {mc ms : Nat} {post : Option Value → AH → Prop} {px : String → AH → Prop}
    (hW : WOK l D S0) (hpl : plainFor y = true) (ls : List Slot) (hls : lg_sl av ++ List.replicate (maxL - (lg_sl av).length) Slot.unset = ls)
    (body : ∀ X : Cx, cxL X = l → cxD X = D → cxS X = S0 → Ok X y.cls cc maxL ret y.name d post px → WA X h mc ms 0 ls []) : MA l D S0 y cc maxL ret d av h mc ms post px := by
  refine vx_ofWF (ws' := []) hpl rfl ?_
  intro p e s m args below meth c s₁ B hml ht hP
  obtain ⟨rfl, hS⟩ := hP
  have hown : s.vm.findClass y.cls = some m.cls := findClass_of_methodNamed B.named
  have hnm : meth.name = y.name := (name_of_methodNamed B.named B.method).1
  have K := body (p, l, e, s, m, av.toArray, below, meth, c, D, S0, d, mc, ms, post, px) rfl rfl rfl ⟨B.exec, B.bytes, hml, B.returns, B.notSynchronized, hown, hS.1, hW, (fun _ _ _ => ht), hnm, rfl, rfl, rfl, hS.2.1, hS.2.2.1⟩
  have K2 := K s.heap [] 0 0 (by omega) (by omega) hS.2 (fun _ h => by cases h)
  rw [lg_entry_eq, hls]
  exact K2
section LY6
variable {X : Cx} {own : String} {cc : ByteArray} {nL : Nat} {rt : FieldType} {nm : String} {d : Nat} {post : Option Value → AH → Prop} {px : String → AH → Prop} {h : AH} {k sl pc : Nat} {ls : List Slot}
theorem wa_aretR (hX : Ok X own cc nL (some rt) nm d post px) {a : Nat} (dg : decode cc pc = .ok (.areturn, 1)) (hrt : (∃ n, rt = .object n) ∨ ∃ t, rt = .array t) (hq : post (some (.ref a)) h) : WA X h k sl pc ls [.ref a] := wa_aret (v := some a) hX dg hrt hq
theorem wa_aretN (hX : Ok X own cc nL (some rt) nm d post px) (dg : decode cc pc = .ok (.areturn, 1)) (hrt : (∃ n, rt = .object n) ∨ ∃ t, rt = .array t) (hq : post (some .null) h) : WA X h k sl pc ls [.null] := wa_aret (v := none) hX dg hrt hq
end LY6
/-- a new cell, the rest as it was -/
def postNew (h : AH) (lb : Nat) (ob : Ob) : Option Value → AH → Prop := fun r h' => ∃ a : Nat, r = some (.ref a) ∧ h a = none ∧ h' = hset h a (lb, ob)
theorem fill_step {f spec : Nat → Int} {i : Nat} (hf : ∀ j, j < i → f j = spec j) : ∀ j, j < i + 1 → up f i (spec i) j = spec j := fun j hj => by
  by_cases e : j = i
  · subst e; exact up_s
  · rw [up_n e]; exact hf j (by omega)
theorem fill_0 {f spec : Nat → Int} : ∀ j, j < 0 → f j = spec j := fun j hj => absurd hj (Nat.not_lt_zero j)
theorem p2_le {e : Nat} (h : e ≤ 10) : 2 ^ e ≤ 1024 := Nat.pow_le_pow_right (by omega) h
theorem p2_pos (e : Nat) : 0 < 2 ^ e := Nat.pow_pos (by omega)
def atv (n : Nat) (g : Nat → Int) (i : Int) : Int := if 0 ≤ i ∧ i < n then g i.toNat else 0
theorem atv_in {n : Nat} {g : Nat → Int} {s : Nat} (h : s < n) : atv n g (s : Int) = g s := by
  unfold atv
  rw [if_pos ⟨by omega, by omega⟩, Int.toNat_natCast]
theorem atv_out {n : Nat} {g : Nat → Int} {i : Int} (h : i < 0 ∨ (n : Int) ≤ i) : atv n g i = 0 := by
  unfold atv
  rw [if_neg (by omega)]
