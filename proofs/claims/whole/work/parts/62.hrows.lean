/-! Rows of the house: anewarray, throw with a wide ldc, tableswitch, lcmp, loops that use room. Own text. -/
section LYH1
variable {p : Program} {l : Launch} {e : Env} {R : Room} {s : State} {m : MethodId} {args : Array Value} {below : List Frame} {meth : Method} {c : Code} {H : Heap} {locs : List Loc} {cells slots : Nat} {Q : State → Prop}
variable {cc : ByteArray} {pc : Nat} {ls : Array Slot} {rest : List Value}
theorem lv_lcmpG (hexec : p.tables.exec = Jvm.exec) (hb : c.code = cc) {x y : Int64} (hdg : decode cc pc = .ok (.lcmp, 1)) (h : x > y)
    (k : W p l e R s m args below meth c H locs cells slots Q (F0 m (pc + 1) ls (.int 1 :: rest))) : W p l e R s m args below meth c H locs cells slots Q (F0 m pc ls (.long y :: .long x :: rest)) := by
  intro T hT X
  obtain ⟨t, a, b⟩ := k T hT X
  refine ⟨t, ?_, b⟩
  jvm_step X.here [X.here.top, hexec, hb, hdg, Op.lcmp.sem, h]
  exact a
theorem lv_lcmpE (hexec : p.tables.exec = Jvm.exec) (hb : c.code = cc) {x y : Int64} (hdg : decode cc pc = .ok (.lcmp, 1)) (h : ¬ x > y) (h2 : (x == y) = true)
    (k : W p l e R s m args below meth c H locs cells slots Q (F0 m (pc + 1) ls (.int 0 :: rest))) : W p l e R s m args below meth c H locs cells slots Q (F0 m pc ls (.long y :: .long x :: rest)) := by
  intro T hT X
  obtain ⟨t, a, b⟩ := k T hT X
  refine ⟨t, ?_, b⟩
  jvm_step X.here [X.here.top, hexec, hb, hdg, Op.lcmp.sem, h, h2]
  rw [if_pos (eq_of_beq h2)]
  exact a
theorem lv_lcmpL (hexec : p.tables.exec = Jvm.exec) (hb : c.code = cc) {x y : Int64} (hdg : decode cc pc = .ok (.lcmp, 1)) (h : ¬ x > y) (h2 : ¬ (x == y) = true)
    (k : W p l e R s m args below meth c H locs cells slots Q (F0 m (pc + 1) ls (.int (Int32.ofInt (-1)) :: rest))) : W p l e R s m args below meth c H locs cells slots Q (F0 m pc ls (.long y :: .long x :: rest)) := by
  intro T hT X
  obtain ⟨t, a, b⟩ := k T hT X
  refine ⟨t, ?_, b⟩
  jvm_step X.here [X.here.top, hexec, hb, hdg, Op.lcmp.sem, h, h2]
  rw [if_neg (fun q => h2 (by rw [q]; exact beq_self_eq_true y))]
  have e9 : (-1 : Int32) = Int32.ofInt (-1) := by decide
  rw [e9]
  exact a
end LYH1
def anaW (own : String) (idx : Nat) (C : String) : Bool := decide (Cond.classLink own idx C ∈ lw_tbl) && decide (Cond.arrayOver (.object C) ∈ lw_tbl)
def wordsX2 (own : String) (ic : Nat) (cls : String) (names : List String) : Bool := (vx_atS own ic cls names).all (fun w => decide (w ∈ lw_tbl) && (goodWord w || (w.onTables && w.keepsFace)))
def throwW2 (own : String) (ik is ic : Nat) (cls text : String) (names : List String) : Bool :=
  Bundle.fit cls && names.all Bundle.fit && decide (names.length ≤ 2) && decide (Cond.classLink own ik cls ∈ lw_tbl) && decide (Cond.initialized cls ∈ lw_tbl) && decide (Cond.stringRef own is text ∈ lw_tbl) && decide (Cond.exactly (Term.string own is) "java/lang/String" ∈ flatC (Jvm.Cond.and given_1 narrow_1)) && wordsX2 own ic cls names
def throwA (own : String) (ik is : Nat) (cls text : String) (names : List String) : Bool :=
  Bundle.fit cls && names.all Bundle.fit && decide (names.length ≤ 2) && decide (Cond.classLink own ik cls ∈ lw_tbl) && decide (Cond.initialized cls ∈ lw_tbl) && decide (Cond.stringRef own is text ∈ lw_tbl) && decide (Cond.exactly (Term.string own is) "java/lang/String" ∈ flatC (Jvm.Cond.and given_1 narrow_1))
theorem thr_ok {own cls text : String} {ik is ic : Nat} {names : List String} (h1 : throwA own ik is cls text names = true) (h2 : wordsX2 own ic cls names = true) : throwW2 own ik is ic cls text names = true := by
  unfold throwA at h1
  unfold throwW2
  rw [h1, h2]
  rfl
theorem wx_ARI : wordsX2 "Circuitfold" 387 "java/lang/ArithmeticException" ["java/lang/RuntimeException", "java/lang/Exception"] = true := by decide +kernel
theorem wx_IAE : wordsX2 "Circuitfold" 62 "java/lang/IllegalArgumentException" ["java/lang/RuntimeException", "java/lang/Exception"] = true := by decide +kernel
theorem wx_ISE : wordsX2 "Circuitfold" 73 "java/lang/IllegalStateException" ["java/lang/RuntimeException", "java/lang/Exception"] = true := by decide +kernel
theorem wx_IOO : wordsX2 "Circuitfold" 405 "java/lang/IndexOutOfBoundsException" ["java/lang/RuntimeException", "java/lang/Exception"] = true := by decide +kernel
theorem wx_UOE : wordsX2 "Circuitfold" 107 "java/lang/UnsupportedOperationException" ["java/lang/RuntimeException", "java/lang/Exception"] = true := by decide +kernel
/-- NoSuchElementException's constructor with a message -/
def nseB : ByteArray := ⟨#[0x2a, 0x2b, 0xb7, 0x00, 0x0d, 0xb1]⟩
def wordsX3 (own : String) (ic : Nat) (cls : String) (names : List String) : Bool := (vy_atX own ic cls 13 nseB names).all (fun w => decide (w ∈ lw_tbl) && (goodWord w || (w.onTables && w.keepsFace)))
def throwW3 (own : String) (ik is ic : Nat) (cls text : String) (names : List String) : Bool :=
  Bundle.fit cls && names.all Bundle.fit && decide (names.length ≤ 2) && decide (Cond.classLink own ik cls ∈ lw_tbl) && decide (Cond.initialized cls ∈ lw_tbl) && decide (Cond.stringRef own is text ∈ lw_tbl) && decide (Cond.exactly (Term.string own is) "java/lang/String" ∈ flatC (Jvm.Cond.and given_1 narrow_1)) && wordsX3 own ic cls names
theorem thr_ok3 {own cls text : String} {ik is ic : Nat} {names : List String} (h1 : throwA own ik is cls text names = true) (h2 : wordsX3 own ic cls names = true) : throwW3 own ik is ic cls text names = true := by
  unfold throwA at h1
  unfold throwW3
  rw [h1, h2]
  rfl
theorem wx_NSE : wordsX3 "Circuitfold" 161 "java/util/NoSuchElementException" ["java/lang/RuntimeException", "java/lang/Exception"] = true := by decide +kernel
section LYH
variable {X : Cx} {own : String} {cc : ByteArray} {nL : Nat} {ret : Option FieldType} {nm : String} {d : Nat} {post : Option Value → AH → Prop} {px : String → AH → Prop} {h : AH} {k sl pc : Nat} {ls : List Slot} {rest : List Value}
theorem wa_lcmp (hX : Ok X own cc nL ret nm d post px) {x y : Int64} (dg : decode cc pc = .ok (.lcmp, 1)) (k' : ∀ z : Int, (z = 0 ↔ x = y) → inR z → WA X h k sl (pc + 1) ls (I z :: rest)) : WA X h k sl pc ls (.long y :: .long x :: rest) := by
  obtain ⟨p, l, e, s, m, args, below, meth, c, D, S0, d0, mc, ms, po, pp⟩ := X
  intro H locs cells slots h1 h2 hR hL
  by_cases q1 : x > y
  · refine lv_lcmpG hX.1 hX.2.1 dg q1 (k' 1 ⟨fun z => by omega, fun z => ?_⟩ (by decide) H locs cells slots h1 h2 hR hL)
    subst z
    exact absurd q1 (Int64.lt_irrefl)
  · by_cases q2 : (x == y) = true
    · exact lv_lcmpE hX.1 hX.2.1 dg q1 q2 (k' 0 ⟨fun _ => eq_of_beq q2, fun _ => rfl⟩ (by decide) H locs cells slots h1 h2 hR hL)
    · exact lv_lcmpL hX.1 hX.2.1 dg q1 q2 (k' (-1) ⟨fun z => by omega, fun z => absurd (by rw [z]; exact beq_self_eq_true y) q2⟩ (by decide) H locs cells slots h1 h2 hR hL)
theorem wa_tableIn (hX : Ok X own cc nL ret nm d post px) {dflt lo hi : Int} {offs : Array Int} {len : Nat} {x : Int} {off : Int} {tgt : Nat} (dg : decode cc pc = .ok (.tableswitch dflt lo hi offs, len)) (hx : inR x) (h1 : lo ≤ x) (h2 : x ≤ hi) (ho : offs[(x - lo).toNat]? = some off) (ht : (pc : Int) + off = (tgt : Int)) (k' : WA X h k sl tgt ls rest) : WA X h k sl pc ls (I x :: rest) := by
  obtain ⟨p, l, e, s, m, args, below, meth, c, D, S0, d0, mc, ms, po, pp⟩ := X
  intro H locs cells slots q1 q2 hR hL
  exact lv_tableIn hX.1 hX.2.1 dg (by rw [tI hx]; omega) (by rw [tI hx]; omega) (by rw [tI hx]; exact ho) ht (k' H locs cells slots q1 q2 hR hL)
theorem wa_tableOut (hX : Ok X own cc nL ret nm d post px) {dflt lo hi : Int} {offs : Array Int} {len : Nat} {x : Int} {tgt : Nat} (dg : decode cc pc = .ok (.tableswitch dflt lo hi offs, len)) (hx : inR x) (h1 : x < lo ∨ hi < x) (ht : (pc : Int) + dflt = (tgt : Int)) (k' : WA X h k sl tgt ls rest) : WA X h k sl pc ls (I x :: rest) := by
  obtain ⟨p, l, e, s, m, args, below, meth, c, D, S0, d0, mc, ms, po, pp⟩ := X
  intro H locs cells slots q1 q2 hR hL
  exact lv_tableOut hX.1 hX.2.1 dg (by rw [tI hx]; exact h1) ht (k' H locs cells slots q1 q2 hR hL)
theorem WA.loopR {σ : Type} {st : List Value} (μ : σ → Nat) (Inv : σ → Prop) (hh : σ → AH) (kk ss : σ → Nat) (lo : σ → List Slot) (step : ∀ s, Inv s → (∀ s', Inv s' → μ s' < μ s → WA X (hh s') (kk s') (ss s') pc (lo s') st) → WA X (hh s) (kk s) (ss s) pc (lo s) st) (s : σ) (h0 : Inv s) : WA X (hh s) (kk s) (ss s) pc (lo s) st := by
  have key : ∀ (n : Nat) (s : σ), μ s < n → Inv s → WA X (hh s) (kk s) (ss s) pc (lo s) st := by
    intro n
    induction n with
    | zero => intro s hs _; omega
    | succ n ih => intro s hs hi; exact step s hi (fun s' hi' hlt => ih s' (by omega) hi')
  exact key (μ s + 1) s (Nat.lt_succ_self _) h0
set_option maxHeartbeats 1000000 in
theorem wa_ana (hX : Ok X own cc nL ret nm d post px) {idx N : Nat} (C : String) (lb : Nat) (hN : N ≤ 1000) (hw : anaW own idx C = true) (dg : decode cc pc = .ok (.anewarray idx, 3)) (k' : ∀ a : Nat, h a = none → WA X (hset h a (lb, aR (.object C) N (fun _ => none))) k sl (pc + 3) ls (.ref a :: rest)) : WA X h (k + 1) (sl + N) pc ls (I (N : Int) :: rest) := by
  obtain ⟨p, l, e, s, m, args, below, meth, c, D, S0, d0, mc, ms, po, pp⟩ := X
  intro H locs cells slots q1 q2 hR hL
  unfold anaW at hw
  simp only [Bool.and_eq_true, decide_eq_true_eq] at hw
  obtain ⟨w1, w2⟩ := hw
  have hX' := hX
  obtain ⟨hxx, hb, hml, -, -, hown, hWH, ⟨A0, -, hT0, -, -⟩, -⟩ := hX'
  have hover : (Cond.arrayOver (.object C)).before args s = true := Cond.arrayOver_alike hWH.alike (hT0 _ w2)
  intro T hT X0
  have hnN : (Int32.ofInt (N : Int)).toNatClampNeg = N := by rw [nn_tI (inR_nat (by omega))]; exact Int.toNat_natCast N
  have hlt : ¬ Int32.ofInt (N : Int) < 0 := by
    rw [zI, ltI (inR_nat (by omega)) (by constructor <;> omega)]; omega
  obtain ⟨vm₁, cA, kA, comp, hW1, fA, hkA, hkind, fC, X', step⟩ := X0.anewarrayRefK hxx hown (hX.word w1 rfl) hover (g := F0 m pc ls.toArray (I (N : Int) :: rest)) rfl (by rw [hb]; exact dg) (rest := rest) rfl hlt (by rw [hnN]; omega) (show cells + 1 ≤ mc by omega) (by rw [hnN]; show slots + N ≤ ms; omega)
  rw [hnN] at X' step
  have hTh : (T.setVm vm₁).heap = H := hT
  have hcell : ({ cls := cA, slots := Array.replicate N .null, vm := .none } : Cell) = vp_cell cA (N, .inr (.inr (.inr (.inr (fun _ => none))))) := by
    rw [vp_cell_q]
    exact arrV_new cA N .null
  rw [hcell] at X' step
  have hsz : ((T.setVm vm₁).pushCell (vp_cell cA (N, .inr (.inr (.inr (.inr (fun _ => none))))))).heap.size = H.size + 1 := by
    rw [← hTh]; exact Array.size_push _
  have hat : ((T.setVm vm₁).pushCell (vp_cell cA (N, .inr (.inr (.inr (.inr (fun _ => none))))))).heap[H.size]? = some (vp_cell cA (N, .inr (.inr (.inr (.inr (fun _ => none)))))) := by
    rw [← hTh]; exact State.heap_pushCell_size _ _
  have hold : ∀ q : Nat, q < H.size → ((T.setVm vm₁).pushCell (vp_cell cA (N, .inr (.inr (.inr (.inr (fun _ => none))))))).heap[q]? = H[q]? := fun q hq => by
    rw [← hTh] at hq ⊢
    exact Array.getElem?_push_lt hq |>.trans (Array.getElem?_eq_getElem hq).symm
  have K9 := k' H.size hR.fresh _ locs (cells + 1) (slots + N) (by omega) (by omega) (hR.push (o1 := aR (.object C) N (fun _ => none)) ⟨cA, hat, fun n z => ⟨(fun q hq => by cases hq), kA, hkA, comp, hkind⟩, ⟨kA, comp, hkA, hkind, fC, fA⟩⟩ hsz hold) hL
  obtain ⟨t, a1, b1⟩ := K9 _ rfl X'
  exact ⟨t, step _ (by rw [hT]; exact a1), b1⟩
set_option maxHeartbeats 1000000 in
theorem wa_throwS2 (hX : Ok X own cc nL ret nm d post px) {ik is ic : Nat} (cls text : String) (names : List String) (hw : throwW2 own ik is ic cls text names = true) (hsz : ls.length = nL) (hrest : (rest.map fun v => v.category).sum ≤ 8)
    (d0 : decode cc pc = .ok (.new ik, 3)) (d3 : decode cc (pc + 3) = .ok (.dup, 1)) (d4 : decode cc (pc + 4) = .ok (.ldc is, 2)) (d6 : decode cc (pc + 6) = .ok (.invokespecial ic, 3)) (d9 : decode cc (pc + 9) = .ok (.athrow, 1)) (hq : px cls h) : WA X h (k + 1) (sl + 6) pc ls rest := by
  obtain ⟨p, l, e, s, m, args, below, meth, c, D, S0, d00, mc, ms, po, pp⟩ := X
  intro H locs cells slots h1 h2 hR hL
  unfold throwW2 at hw
  simp only [Bool.and_eq_true, decide_eq_true_eq] at hw
  obtain ⟨⟨⟨⟨⟨⟨⟨w1, w2⟩, w3⟩, w4⟩, w5⟩, w6⟩, w7⟩, w8⟩ := hw
  have hX' := hX
  obtain ⟨hx, hb, hml, hr9, hlk, hown, hW, hWO, hnx, hnm, rfl, rfl, rfl, hz1, hz2⟩ := hX'
  obtain ⟨hzU, hzN⟩ := zqU hWO
  have hkp : ∀ a : Nat, a < S0.heap.size → ¬ frA S0 a → s.heap[a]? = S0.heap[a]? := fun a h _ => hz2 a h
  have hU' := vx_Zq.moved hW.alike (hzU.kept hkp)
  have hN' := vx_Zq.moved hW.alike (hzN.kept hkp)
  obtain ⟨A0, hfl, hT, hg, -⟩ := hWO
  have hl : l.stackTraces = false := by
    unfold Launch.stackTraces
    rw [hfl]
    decide
  have hex := flat_of_before _ hg _ w7
  obtain ⟨sa, cS, cA, kA, q1, -⟩ := Cond.exactly_spec (args := A0) (first := S0) (o := none) (s := S0) (idx := []) (t := Term.string own is) (cls := "java/lang/String") hex
  have hstr0 : vk_R own is text sa S0 := vk_R.of (A := A0) (hT _ w6) q1
  have hstr := vk_R.warm hW hstr0
  have hall := List.all_eq_true.mp w8
  have hat : ∀ w ∈ vx_atS own ic cls names, w.before args s = true := fun w hw => by
    have h9 := hall w hw
    simp only [Bool.and_eq_true, Bool.or_eq_true, decide_eq_true_eq] at h9
    rcases h9.2 with g | g
    · exact hX.word h9.1 g
    · exact va_tabs (u := S0.setVm s.vm) g.1 rfl (Cond.rides hW.wide g.2 (hT _ h9.1))
  have hgood : ∀ w ∈ Cond.classLink own ik cls :: Cond.initialized cls :: vx_atS own ic cls names, vx_ot w = true := fun w hw => by
    rcases List.mem_cons.mp hw with rfl | hw
    · rfl
    · rcases List.mem_cons.mp hw with rfl | hw
      · rfl
      · have h9 := hall w hw
        simp only [Bool.and_eq_true, Bool.or_eq_true] at h9
        unfold vx_ot
        rcases h9.2 with g | g
        · rw [g, Bool.or_true]
        · rw [g.1, Bool.true_or]
  intro T hTh X0
  have hzT : s.heap.size ≤ H.size := by
    have h9 := (vx_frame X0.same).1
    rw [← hTh]; exact h9
  refine vx_throwS (A := frA S0) (text := text) hx hb hl hown w1 (fun n hn => List.all_eq_true.mp w2 n hn) (hX.word w4 rfl) (hX.word w5 rfl) hstr hat hgood hU' hN' ⟨hzT, fun q hq hn => ?_, hL⟩ (by rw [hml]; simpa using hsz) d0 d3 d4 d6 d9 (fun x hx => (hnx _ _ hq x hx).elim) (show names.length + 3 < d00 + 6 by omega) (show _ + (13 * (names.length + 1) + 43) ≤ 40 * d00 + 100 by omega) (show cells + 1 ≤ mc by omega) (show slots + 6 ≤ ms by omega) hlk (fun t hal hsz2 hk2 => ⟨h, hq, ?_⟩) hL (by omega) (by omega) T hTh X0
  · have hq2 : q < S0.heap.size := Nat.not_le.mp hn
    rw [hR.2.1 q hq2, hz2 q hq2]
  · refine HRel.moved hal ⟨Nat.le_trans hR.1 hsz2, fun q h9 => ?_, fun a lb o h9 => ?_⟩
    · rw [hk2 q (Nat.lt_of_lt_of_le h9 hR.1)]; exact hR.2.1 q h9
    · have h8 := hR.2.2 a lb o h9
      exact ⟨h8.1, h8.2.kept (hk2 a h8.2.lt)⟩
set_option maxHeartbeats 1000000 in
theorem wa_throwSW2 (hX : Ok X own cc nL ret nm d post px) {ik is ic : Nat} (cls text : String) (names : List String) (hw : throwW2 own ik is ic cls text names = true) (hsz : ls.length = nL) (hrest : (rest.map fun v => v.category).sum ≤ 8)
    (d0 : decode cc pc = .ok (.new ik, 3)) (d3 : decode cc (pc + 3) = .ok (.dup, 1)) (d4 : decode cc (pc + 4) = .ok (.ldc_w is, 3)) (d6 : decode cc (pc + 7) = .ok (.invokespecial ic, 3)) (d9 : decode cc (pc + 10) = .ok (.athrow, 1)) (hq : px cls h) : WA X h (k + 1) (sl + 6) pc ls rest := by
  obtain ⟨p, l, e, s, m, args, below, meth, c, D, S0, d00, mc, ms, po, pp⟩ := X
  intro H locs cells slots h1 h2 hR hL
  unfold throwW2 at hw
  simp only [Bool.and_eq_true, decide_eq_true_eq] at hw
  obtain ⟨⟨⟨⟨⟨⟨⟨w1, w2⟩, w3⟩, w4⟩, w5⟩, w6⟩, w7⟩, w8⟩ := hw
  have hX' := hX
  obtain ⟨hx, hb, hml, hr9, hlk, hown, hW, hWO, hnx, hnm, rfl, rfl, rfl, hz1, hz2⟩ := hX'
  obtain ⟨hzU, hzN⟩ := zqU hWO
  have hkp : ∀ a : Nat, a < S0.heap.size → ¬ frA S0 a → s.heap[a]? = S0.heap[a]? := fun a h _ => hz2 a h
  have hU' := vx_Zq.moved hW.alike (hzU.kept hkp)
  have hN' := vx_Zq.moved hW.alike (hzN.kept hkp)
  obtain ⟨A0, hfl, hT, hg, -⟩ := hWO
  have hl : l.stackTraces = false := by
    unfold Launch.stackTraces
    rw [hfl]
    decide
  have hex := flat_of_before _ hg _ w7
  obtain ⟨sa, cS, cA, kA, q1, -⟩ := Cond.exactly_spec (args := A0) (first := S0) (o := none) (s := S0) (idx := []) (t := Term.string own is) (cls := "java/lang/String") hex
  have hstr0 : vk_R own is text sa S0 := vk_R.of (A := A0) (hT _ w6) q1
  have hstr := vk_R.warm hW hstr0
  have hall := List.all_eq_true.mp w8
  have hat : ∀ w ∈ vx_atS own ic cls names, w.before args s = true := fun w hw => by
    have h9 := hall w hw
    simp only [Bool.and_eq_true, Bool.or_eq_true, decide_eq_true_eq] at h9
    rcases h9.2 with g | g
    · exact hX.word h9.1 g
    · exact va_tabs (u := S0.setVm s.vm) g.1 rfl (Cond.rides hW.wide g.2 (hT _ h9.1))
  have hgood : ∀ w ∈ Cond.classLink own ik cls :: Cond.initialized cls :: vx_atS own ic cls names, vx_ot w = true := fun w hw => by
    rcases List.mem_cons.mp hw with rfl | hw
    · rfl
    · rcases List.mem_cons.mp hw with rfl | hw
      · rfl
      · have h9 := hall w hw
        simp only [Bool.and_eq_true, Bool.or_eq_true] at h9
        unfold vx_ot
        rcases h9.2 with g | g
        · rw [g, Bool.or_true]
        · rw [g.1, Bool.true_or]
  intro T hTh X0
  have hzT : s.heap.size ≤ H.size := by
    have h9 := (vx_frame X0.same).1
    rw [← hTh]; exact h9
  refine vx_throwSW (A := frA S0) (text := text) hx hb hl hown w1 (fun n hn => List.all_eq_true.mp w2 n hn) (hX.word w4 rfl) (hX.word w5 rfl) hstr hat hgood hU' hN' ⟨hzT, fun q hq hn => ?_, hL⟩ (by rw [hml]; simpa using hsz) d0 d3 d4 d6 d9 (fun x hx => (hnx _ _ hq x hx).elim) (show names.length + 3 < d00 + 6 by omega) (show _ + (13 * (names.length + 1) + 43) ≤ 40 * d00 + 100 by omega) (show cells + 1 ≤ mc by omega) (show slots + 6 ≤ ms by omega) hlk (fun t hal hsz2 hk2 => ⟨h, hq, ?_⟩) hL (by omega) (by omega) T hTh X0
  · have hq2 : q < S0.heap.size := Nat.not_le.mp hn
    rw [hR.2.1 q hq2, hz2 q hq2]
  · refine HRel.moved hal ⟨Nat.le_trans hR.1 hsz2, fun q h9 => ?_, fun a lb o h9 => ?_⟩
    · rw [hk2 q (Nat.lt_of_lt_of_le h9 hR.1)]; exact hR.2.1 q h9
    · have h8 := hR.2.2 a lb o h9
      exact ⟨h8.1, h8.2.kept (hk2 a h8.2.lt)⟩
set_option maxHeartbeats 1000000 in
theorem wa_throwS3 (hX : Ok X own cc nL ret nm d post px) {ik is ic : Nat} (cls text : String) (names : List String) (hw : throwW3 own ik is ic cls text names = true) (hsz : ls.length = nL) (hrest : (rest.map fun v => v.category).sum ≤ 8)
    (d0 : decode cc pc = .ok (.new ik, 3)) (d3 : decode cc (pc + 3) = .ok (.dup, 1)) (d4 : decode cc (pc + 4) = .ok (.ldc is, 2)) (d6 : decode cc (pc + 6) = .ok (.invokespecial ic, 3)) (d9 : decode cc (pc + 9) = .ok (.athrow, 1)) (hq : px cls h) : WA X h (k + 1) (sl + 6) pc ls rest := by
  obtain ⟨p, l, e, s, m, args, below, meth, c, D, S0, d00, mc, ms, po, pp⟩ := X
  intro H locs cells slots h1 h2 hR hL
  unfold throwW3 at hw
  simp only [Bool.and_eq_true, decide_eq_true_eq] at hw
  obtain ⟨⟨⟨⟨⟨⟨⟨w1, w2⟩, w3⟩, w4⟩, w5⟩, w6⟩, w7⟩, w8⟩ := hw
  have hX' := hX
  obtain ⟨hx, hb, hml, hr9, hlk, hown, hW, hWO, hnx, hnm, rfl, rfl, rfl, hz1, hz2⟩ := hX'
  obtain ⟨hzU, hzN⟩ := zqU hWO
  have hkp : ∀ a : Nat, a < S0.heap.size → ¬ frA S0 a → s.heap[a]? = S0.heap[a]? := fun a h _ => hz2 a h
  have hU' := vx_Zq.moved hW.alike (hzU.kept hkp)
  have hN' := vx_Zq.moved hW.alike (hzN.kept hkp)
  obtain ⟨A0, hfl, hT, hg, -⟩ := hWO
  have hl : l.stackTraces = false := by
    unfold Launch.stackTraces
    rw [hfl]
    decide
  have hex := flat_of_before _ hg _ w7
  obtain ⟨sa, cS, cA, kA, q1, -⟩ := Cond.exactly_spec (args := A0) (first := S0) (o := none) (s := S0) (idx := []) (t := Term.string own is) (cls := "java/lang/String") hex
  have hstr0 : vk_R own is text sa S0 := vk_R.of (A := A0) (hT _ w6) q1
  have hstr := vk_R.warm hW hstr0
  have hall := List.all_eq_true.mp w8
  have hat : ∀ w ∈ vy_atX own ic cls 13 nseB names, w.before args s = true := fun w hw => by
    have h9 := hall w hw
    simp only [Bool.and_eq_true, Bool.or_eq_true, decide_eq_true_eq] at h9
    rcases h9.2 with g | g
    · exact hX.word h9.1 g
    · exact va_tabs (u := S0.setVm s.vm) g.1 rfl (Cond.rides hW.wide g.2 (hT _ h9.1))
  have hgood : ∀ w ∈ Cond.classLink own ik cls :: Cond.initialized cls :: vy_atX own ic cls 13 nseB names, vx_ot w = true := fun w hw => by
    rcases List.mem_cons.mp hw with rfl | hw
    · rfl
    · rcases List.mem_cons.mp hw with rfl | hw
      · rfl
      · have h9 := hall w hw
        simp only [Bool.and_eq_true, Bool.or_eq_true] at h9
        unfold vx_ot
        rcases h9.2 with g | g
        · rw [g, Bool.or_true]
        · rw [g.1, Bool.true_or]
  intro T hTh X0
  have hzT : s.heap.size ≤ H.size := by
    have h9 := (vx_frame X0.same).1
    rw [← hTh]; exact h9
  refine vy_throwS (A := frA S0) (text := text) hx hb hl (ix := 13) (rx := nseB) (by decide +kernel) (by decide +kernel) (by decide +kernel) (by decide +kernel) hown w1 (fun n hn => List.all_eq_true.mp w2 n hn) (hX.word w4 rfl) (hX.word w5 rfl) hstr hat hgood hU' hN' ⟨hzT, fun q hq hn => ?_, hL⟩ (by rw [hml]; simpa using hsz) d0 d3 d4 d6 d9 (fun x hx => (hnx _ _ hq x hx).elim) (show names.length + 3 < d00 + 6 by omega) (show _ + (13 * (names.length + 1) + 43) ≤ 40 * d00 + 100 by omega) (show cells + 1 ≤ mc by omega) (show slots + 6 ≤ ms by omega) hlk (fun t hal hsz2 hk2 => ⟨h, hq, ?_⟩) hL (by omega) (by omega) T hTh X0
  · have hq2 : q < S0.heap.size := Nat.not_le.mp hn
    rw [hR.2.1 q hq2, hz2 q hq2]
  · refine HRel.moved hal ⟨Nat.le_trans hR.1 hsz2, fun q h9 => ?_, fun a lb o h9 => ?_⟩
    · rw [hk2 q (Nat.lt_of_lt_of_le h9 hR.1)]; exact hR.2.1 q h9
    · have h8 := hR.2.2 a lb o h9
      exact ⟨h8.1, h8.2.kept (hk2 a h8.2.lt)⟩
set_option maxHeartbeats 1000000 in
theorem wa_throwSW3 (hX : Ok X own cc nL ret nm d post px) {ik is ic : Nat} (cls text : String) (names : List String) (hw : throwW3 own ik is ic cls text names = true) (hsz : ls.length = nL) (hrest : (rest.map fun v => v.category).sum ≤ 8)
    (d0 : decode cc pc = .ok (.new ik, 3)) (d3 : decode cc (pc + 3) = .ok (.dup, 1)) (d4 : decode cc (pc + 4) = .ok (.ldc_w is, 3)) (d6 : decode cc (pc + 7) = .ok (.invokespecial ic, 3)) (d9 : decode cc (pc + 10) = .ok (.athrow, 1)) (hq : px cls h) : WA X h (k + 1) (sl + 6) pc ls rest := by
  obtain ⟨p, l, e, s, m, args, below, meth, c, D, S0, d00, mc, ms, po, pp⟩ := X
  intro H locs cells slots h1 h2 hR hL
  unfold throwW3 at hw
  simp only [Bool.and_eq_true, decide_eq_true_eq] at hw
  obtain ⟨⟨⟨⟨⟨⟨⟨w1, w2⟩, w3⟩, w4⟩, w5⟩, w6⟩, w7⟩, w8⟩ := hw
  have hX' := hX
  obtain ⟨hx, hb, hml, hr9, hlk, hown, hW, hWO, hnx, hnm, rfl, rfl, rfl, hz1, hz2⟩ := hX'
  obtain ⟨hzU, hzN⟩ := zqU hWO
  have hkp : ∀ a : Nat, a < S0.heap.size → ¬ frA S0 a → s.heap[a]? = S0.heap[a]? := fun a h _ => hz2 a h
  have hU' := vx_Zq.moved hW.alike (hzU.kept hkp)
  have hN' := vx_Zq.moved hW.alike (hzN.kept hkp)
  obtain ⟨A0, hfl, hT, hg, -⟩ := hWO
  have hl : l.stackTraces = false := by
    unfold Launch.stackTraces
    rw [hfl]
    decide
  have hex := flat_of_before _ hg _ w7
  obtain ⟨sa, cS, cA, kA, q1, -⟩ := Cond.exactly_spec (args := A0) (first := S0) (o := none) (s := S0) (idx := []) (t := Term.string own is) (cls := "java/lang/String") hex
  have hstr0 : vk_R own is text sa S0 := vk_R.of (A := A0) (hT _ w6) q1
  have hstr := vk_R.warm hW hstr0
  have hall := List.all_eq_true.mp w8
  have hat : ∀ w ∈ vy_atX own ic cls 13 nseB names, w.before args s = true := fun w hw => by
    have h9 := hall w hw
    simp only [Bool.and_eq_true, Bool.or_eq_true, decide_eq_true_eq] at h9
    rcases h9.2 with g | g
    · exact hX.word h9.1 g
    · exact va_tabs (u := S0.setVm s.vm) g.1 rfl (Cond.rides hW.wide g.2 (hT _ h9.1))
  have hgood : ∀ w ∈ Cond.classLink own ik cls :: Cond.initialized cls :: vy_atX own ic cls 13 nseB names, vx_ot w = true := fun w hw => by
    rcases List.mem_cons.mp hw with rfl | hw
    · rfl
    · rcases List.mem_cons.mp hw with rfl | hw
      · rfl
      · have h9 := hall w hw
        simp only [Bool.and_eq_true, Bool.or_eq_true] at h9
        unfold vx_ot
        rcases h9.2 with g | g
        · rw [g, Bool.or_true]
        · rw [g.1, Bool.true_or]
  intro T hTh X0
  have hzT : s.heap.size ≤ H.size := by
    have h9 := (vx_frame X0.same).1
    rw [← hTh]; exact h9
  refine vy_throwSW (A := frA S0) (text := text) hx hb hl (ix := 13) (rx := nseB) (by decide +kernel) (by decide +kernel) (by decide +kernel) (by decide +kernel) hown w1 (fun n hn => List.all_eq_true.mp w2 n hn) (hX.word w4 rfl) (hX.word w5 rfl) hstr hat hgood hU' hN' ⟨hzT, fun q hq hn => ?_, hL⟩ (by rw [hml]; simpa using hsz) d0 d3 d4 d6 d9 (fun x hx => (hnx _ _ hq x hx).elim) (show names.length + 3 < d00 + 6 by omega) (show _ + (13 * (names.length + 1) + 43) ≤ 40 * d00 + 100 by omega) (show cells + 1 ≤ mc by omega) (show slots + 6 ≤ ms by omega) hlk (fun t hal hsz2 hk2 => ⟨h, hq, ?_⟩) hL (by omega) (by omega) T hTh X0
  · have hq2 : q < S0.heap.size := Nat.not_le.mp hn
    rw [hR.2.1 q hq2, hz2 q hq2]
  · refine HRel.moved hal ⟨Nat.le_trans hR.1 hsz2, fun q h9 => ?_, fun a lb o h9 => ?_⟩
    · rw [hk2 q (Nat.lt_of_lt_of_le h9 hR.1)]; exact hR.2.1 q h9
    · have h8 := hR.2.2 a lb o h9
      exact ⟨h8.1, h8.2.kept (hk2 a h8.2.lt)⟩
end LYH
