/-! THE LAYER: an abstract heap (labelled objects by address), the judgement WA over it, one context X for all that a walk carries. Own text. -/
section LY1
abbrev Ob : Type := (FieldType × vp_A) ⊕ (Nat × List Value)
abbrev AH : Type := Nat → Option (Nat × Ob)
def obAt (D : va_G) (U : State) (a : Nat) (o : Ob) (H : Heap) : Prop := match o with
  | .inl q => ∃ cA : ClassId, H[a]? = some (vp_cell cA q.2) ∧ ArrOfT U cA q.1 ∧ va_RA U cA q.1
  | .inr q => va_at D vwCl (a, .inr q) H
theorem obAt.moved {D : va_G} {u U : State} {a : Nat} {o : Ob} {H : Heap} (hvm : u.vm.Alike U.vm) (h : obAt D u a o H) : obAt D U a o H := by
  cases o with
  | inl q =>
    obtain ⟨cA, h1, h2, h3⟩ := h
    exact ⟨cA, h1, arrOfT_moved hvm h2, h3.moved hvm⟩
  | inr q => exact h
theorem obAt.kept {D : va_G} {U : State} {a : Nat} {o : Ob} {H H1 : Heap} (hq : H1[a]? = H[a]?) (h : obAt D U a o H) : obAt D U a o H1 := by
  cases o with
  | inl q =>
    obtain ⟨cA, h1, h2, h3⟩ := h
    exact ⟨cA, hq.trans h1, h2, h3⟩
  | inr q => exact va_at.kept (q := (a, .inr q)) h hq
theorem obAt.lt {D : va_G} {U : State} {a : Nat} {o : Ob} {H : Heap} (h : obAt D U a o H) : a < H.size := by
  cases o with
  | inl q =>
    obtain ⟨cA, h1, -, -⟩ := h
    exact (Array.getElem?_eq_some_iff.mp h1).1
  | inr q => exact va_at.lt (q := (a, .inr q)) h
/-- the abstract heap h is held by H, all of it above the start's heap, which stands -/
def HRel (D : va_G) (S0 U : State) (h : AH) (H : Heap) : Prop := S0.heap.size ≤ H.size ∧ (∀ q : Nat, q < S0.heap.size → H[q]? = S0.heap[q]?) ∧ ∀ (a lb : Nat) (o : Ob), h a = some (lb, o) → S0.heap.size ≤ a ∧ obAt D U a o H
def hset (h : AH) (a : Nat) (x : Nat × Ob) : AH := fun b => if b = a then some x else h b
theorem hset_eq {h : AH} {a : Nat} {x : Nat × Ob} : hset h a x a = some x := if_pos rfl
theorem hset_ne {h : AH} {a b : Nat} {x : Nat × Ob} (e : b ≠ a) : hset h a x b = h b := if_neg e
/-- two cells of different labels are apart -/
theorem lab_ne {h : AH} {a b la lb : Nat} {oa ob : Ob} (ha : h a = some (la, oa)) (hb : h b = some (lb, ob)) (e : lb ≠ la) : b ≠ a := by
  intro q
  subst q
  rw [hb] at ha
  exact e (congrArg Prod.fst (Option.some.inj ha))
theorem hset_lab {h : AH} {a b la lb : Nat} {oa ob : Ob} {x : Nat × Ob} (ha : h a = some (la, oa)) (hb : h b = some (lb, ob)) (e : lb ≠ la) : hset h a x b = some (lb, ob) := (hset_ne (lab_ne ha hb e)).trans hb
theorem hset_new {h : AH} {a b lb : Nat} {ob : Ob} {x : Nat × Ob} (ha : h a = none) (hb : h b = some (lb, ob)) : hset h a x b = some (lb, ob) := by
  refine (hset_ne ?_).trans hb
  intro q
  subst q
  rw [ha] at hb
  cases hb
theorem HRel.moved {D : va_G} {S0 u U : State} {h : AH} {H : Heap} (hvm : u.vm.Alike U.vm) (r : HRel D S0 u h H) : HRel D S0 U h H := ⟨r.1, r.2.1, fun a lb o q => ⟨(r.2.2 a lb o q).1, (r.2.2 a lb o q).2.moved hvm⟩⟩
theorem HRel.set {D : va_G} {S0 U : State} {h : AH} {H H1 : Heap} {a l0 l1 : Nat} {o0 o1 : Ob} (r : HRel D S0 U h H) (ha : h a = some (l0, o0)) (h1 : obAt D U a o1 H1) (hz : H1.size = H.size) (hq : ∀ q : Nat, q ≠ a → H1[q]? = H[q]?) : HRel D S0 U (hset h a (l1, o1)) H1 := by
  have hb := (r.2.2 a l0 o0 ha).1
  refine ⟨by rw [hz]; exact r.1, fun q h9 => ?_, fun b lb o hbo => ?_⟩
  · rw [hq q (by omega)]
    exact r.2.1 q h9
  · by_cases e : b = a
    · subst e
      rw [hset_eq] at hbo
      cases hbo
      exact ⟨hb, h1⟩
    · rw [hset_ne e] at hbo
      exact ⟨(r.2.2 b lb o hbo).1, (r.2.2 b lb o hbo).2.kept (hq b e)⟩
theorem HRel.fresh {D : va_G} {S0 U : State} {h : AH} {H : Heap} (r : HRel D S0 U h H) : h H.size = none := by
  cases e : h H.size with
  | none => rfl
  | some x => exact absurd (r.2.2 _ x.1 x.2 e).2.lt (Nat.lt_irrefl _)
theorem HRel.push {D : va_G} {S0 U : State} {h : AH} {H H1 : Heap} {l1 : Nat} {o1 : Ob} (r : HRel D S0 U h H) (h1 : obAt D U H.size o1 H1) (hz : H1.size = H.size + 1) (hq : ∀ q : Nat, q < H.size → H1[q]? = H[q]?) : HRel D S0 U (hset h H.size (l1, o1)) H1 := by
  refine ⟨by rw [hz]; exact Nat.le_succ_of_le r.1, fun q h9 => ?_, fun b lb o hbo => ?_⟩
  · rw [hq q (Nat.lt_of_lt_of_le h9 r.1)]
    exact r.2.1 q h9
  · by_cases e : b = H.size
    · subst e
      rw [hset_eq] at hbo
      cases hbo
      exact ⟨r.1, h1⟩
    · rw [hset_ne e] at hbo
      have h5 := r.2.2 b lb o hbo
      exact ⟨h5.1, h5.2.kept (hq b h5.2.lt)⟩
/-- a label may be changed: it is nobody's but ours -/
theorem HRel.lab {D : va_G} {S0 U : State} {h : AH} {H : Heap} {a l0 l1 : Nat} {o : Ob} (r : HRel D S0 U h H) (ha : h a = some (l0, o)) : HRel D S0 U (hset h a (l1, o)) H := r.set ha (r.2.2 a l0 o ha).2 rfl (fun _ _ => rfl)
/-- less may be said -/
theorem HRel.less {D : va_G} {S0 U : State} {h h' : AH} {H : Heap} (r : HRel D S0 U h H) (hh : ∀ a x, h' a = some x → h a = some x) : HRel D S0 U h' H := ⟨r.1, r.2.1, fun a lb o q => r.2.2 a lb o (hh a _ q)⟩
def SRel (D : va_G) (S0 : State) (h : AH) (U : State) : Prop := S0.WarmedH U.vm ∧ HRel D S0 U h U.heap
/-- what the Statement gives of the start S0 -/
def WOK (l : Launch) (D : va_G) (S0 : State) : Prop := ∃ A0 : Array Value, l.flags = flags0 ∧ (∀ w ∈ lw_tbl, w.before A0 S0 = true) ∧ (Jvm.Cond.and given_1 narrow_1).before A0 S0 = true ∧ va_K D vwCl [] S0
abbrev Cx : Type := Program × Launch × Env × State × MethodId × Array Value × List Frame × Method × Code × va_G × State × Nat × Nat × Nat × (Option Value → AH → Prop) × (String → AH → Prop)
def QcA (D : va_G) (S0 : State) (post : Option Value → AH → Prop) : Array Value → State → Outcome → State → Prop := fun _ _ o t => ∃ (r : Option Value) (h' : AH), o = .returned r ∧ post r h' ∧ HRel D S0 t h' t.heap
def XcA (D : va_G) (S0 : State) (px : String → AH → Prop) : String → State → State → Prop := fun E _ t => ∃ h' : AH, px E h' ∧ HRel D S0 t h' t.heap
def rmA (d mc ms : Nat) : Room := { frames := d + 6, cells := mc, slots := ms, locals := 40 * d + 100 }
def frA (S0 : State) : Addr → Prop := fun q => S0.heap.size ≤ q
def MA (l : Launch) (D : va_G) (S0 : State) (y : MethodName) (cc : ByteArray) (maxL : Nat) (ret : Option FieldType) (d : Nat) (av : List Value) (h : AH) (mc ms : Nat) (post : Option Value → AH → Prop) (px : String → AH → Prop) : Prop :=
  vx_Met l y [Cond.code y cc maxL ret] (rmA d mc ms) (fun v U => v = av.toArray ∧ SRel D S0 h U) (QcA D S0 post) (XcA D S0 px) mc ms (frA S0)
def Ok (X : Cx) (own : String) (cc : ByteArray) (nL : Nat) (ret : Option FieldType) (nm : String) (d : Nat) (post : Option Value → AH → Prop) (px : String → AH → Prop) : Prop := match X with
  | (p, l, _, s, m, _, _, meth, c, D, S0, d0, _, _, po, pp) => p.tables.exec = Jvm.exec ∧ c.code = cc ∧ c.maxLocals = nL ∧ meth.sig.returnType = ret ∧ meth.locks = false ∧ s.vm.findClass own = some m.cls ∧ S0.WarmedH s.vm ∧ WOK l D S0 ∧ (∀ (E9 : String) (h9 : AH), px E9 h9 → ∀ x ∈ c.exceptionTable.toList, False) ∧ meth.name = nm ∧ d0 = d ∧ po = post ∧ pp = px ∧ S0.heap.size ≤ s.heap.size ∧ ∀ q : Nat, q < S0.heap.size → s.heap[q]? = S0.heap[q]?
def cxL (X : Cx) : Launch := X.2.1
def cxD (X : Cx) : va_G := X.2.2.2.2.2.2.2.2.2.1
def cxS (X : Cx) : State := X.2.2.2.2.2.2.2.2.2.2.1
def WA (X : Cx) (h : AH) (k sl : Nat) (pc : Nat) (ls : List Slot) (st : List Value) : Prop := match X with
  | (p, l, e, s, m, args, below, meth, c, D, S0, d, mc, ms, po, pp) => ∀ (H : Heap) (locs : List Loc) (cells slots : Nat), cells + k ≤ mc → slots + sl ≤ ms → HRel D S0 s h H → (∀ q ∈ locs, frA S0 q.base) → W p l e (rmA d mc ms) s m args below meth c H locs cells slots (vx_MQ below (QcA D S0 po) (XcA D S0 pp) args s mc ms (frA S0)) (F0 m pc ls.toArray st)
theorem Ok.word {p : Program} {l : Launch} {e : Env} {s : State} {m : MethodId} {args : Array Value} {below : List Frame} {meth : Method} {c : Code} {D : va_G} {S0 : State} {d0 mc ms : Nat} {po : Option Value → AH → Prop} {pp : String → AH → Prop} {own : String} {cc : ByteArray} {nL : Nat} {ret : Option FieldType} {nm : String} {d : Nat} {post : Option Value → AH → Prop} {px : String → AH → Prop}
    (hX : Ok (p, l, e, s, m, args, below, meth, c, D, S0, d0, mc, ms, po, pp) own cc nL ret nm d post px) {w : Cond} (hw : w ∈ lw_tbl) (hg : goodWord w = true) : w.before args s = true := by
  obtain ⟨-, -, -, -, -, -, hW, ⟨A0, -, hT, -, -⟩, -⟩ := hX
  exact word_at hW (good_of_word hg) (hT w hw)
theorem Ok.wordU {p : Program} {l : Launch} {e : Env} {s : State} {m : MethodId} {args : Array Value} {below : List Frame} {meth : Method} {c : Code} {D : va_G} {S0 : State} {d0 mc ms : Nat} {po : Option Value → AH → Prop} {pp : String → AH → Prop} {own : String} {cc : ByteArray} {nL : Nat} {ret : Option FieldType} {nm : String} {d : Nat} {post : Option Value → AH → Prop} {px : String → AH → Prop}
    (hX : Ok (p, l, e, s, m, args, below, meth, c, D, S0, d0, mc, ms, po, pp) own cc nL ret nm d post px) {w : Cond} (hw : w ∈ lw_tbl) (hg : goodWord w = true) (a' : Array Value) (U : State) (hU : s.WarmedH U.vm) : w.before a' U = true := by
  obtain ⟨-, -, -, -, -, -, hW, ⟨A0, -, hT, -, -⟩, -⟩ := hX
  exact word_at (State.WarmedH.trans hW hU) (good_of_word hg) (hT w hw)
theorem Ok.vaK {p : Program} {l : Launch} {e : Env} {s : State} {m : MethodId} {args : Array Value} {below : List Frame} {meth : Method} {c : Code} {D : va_G} {S0 : State} {d0 mc ms : Nat} {po : Option Value → AH → Prop} {pp : String → AH → Prop} {own : String} {cc : ByteArray} {nL : Nat} {ret : Option FieldType} {nm : String} {d : Nat} {post : Option Value → AH → Prop} {px : String → AH → Prop}
    (hX : Ok (p, l, e, s, m, args, below, meth, c, D, S0, d0, mc, ms, po, pp) own cc nL ret nm d post px) : va_K D vwCl [] s := by
  obtain ⟨-, -, -, -, -, -, hW, ⟨A0, -, -, -, hK⟩, -⟩ := hX
  exact va_K.moved hW.alike hK
set_option maxHeartbeats 1000000 in
theorem MA.start {l : Launch} {D : va_G} {S0 : State} {y : MethodName} {cc : ByteArray} {maxL : Nat} {ret : Option FieldType} {d : Nat} {av : List Value} {h : AH} {mc ms : Nat} {post : Option Value → AH → Prop} {px : String → AH → Prop}
    (hW : WOK l D S0) (hpl : plainName y.cls = true) (ls : List Slot) (hls : lg_sl av ++ List.replicate (maxL - (lg_sl av).length) Slot.unset = ls)
    (body : ∀ X : Cx, cxL X = l → cxD X = D → cxS X = S0 → Ok X y.cls cc maxL ret y.name d post px → WA X h mc ms 0 ls []) : MA l D S0 y cc maxL ret d av h mc ms post px := by
  refine vx_ofW (ws' := []) hpl rfl ?_
  intro p e s m args below meth c s₁ B hml ht hP
  obtain ⟨rfl, hS⟩ := hP
  have hown : s.vm.findClass y.cls = some m.cls := findClass_of_methodNamed B.named
  have hnm : meth.name = y.name := (name_of_methodNamed B.named B.method).1
  have K := body (p, l, e, s, m, av.toArray, below, meth, c, D, S0, d, mc, ms, post, px) rfl rfl rfl ⟨B.exec, B.bytes, hml, B.returns, B.notSynchronized, hown, hS.1, hW, (fun _ _ _ => ht), hnm, rfl, rfl, rfl, hS.2.1, hS.2.2.1⟩
  have K2 := K s.heap [] 0 0 (by omega) (by omega) hS.2 (fun _ h => by cases h)
  rw [lg_entry_eq, hls]
  exact K2
end LY1
