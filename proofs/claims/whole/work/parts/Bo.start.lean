/-! The law: its start; the claim (the last rows began as the kit's SKELETON) -/
section Bo
theorem fr_nw {S : Nat → Prop} {h : AH} {a : Nat} {x : Nat × Ob} (ha : h a = none) : Fr S h (hset h a x) := fun b l ob q _ => by
  have hne : b ≠ a := fun z => by
    subst z
    rw [ha] at q
    cases q
  rw [hset_ne hne]
  exact q
set_option maxHeartbeats 1000000 in
set_option maxRecDepth 100000 in
theorem lw_begin {X : Cx} {d : Nat} {post : Option Value → AH → Prop} {px : String → AH → Prop} {h : AH} {sc n : Nat} {f : Nat → Int} (hW : WOK (cxL X) (cxD X) (cxS X)) (hX : Ok X yL_law.cls cL_law 9 (some .boolean) yL_law.name (d + 20) post px) (hf : ∀ j, inR (f j)) (hn : n ≤ 2560) (hq : ∀ h', post (some (I 1)) h') (hsc : ScT (cxS X) sc n f) : WA X h 40000 4000000 0 [.val (.ref sc), .unset, .unset, .unset, .unset, .unset, .unset, .unset, .unset] [] := by
  have e1 : pC 0 (fun _ => false) = 840 := by decide +kernel
  have e2 : pS 0 (fun _ => false) = 100032 := by decide +kernel
  refine WA.room (k2 := 39999 + 1) (sl2 := 3999988 + 12) (by omega) (by omega) ?_
  refine wa_new hX 11 10 12 [.null, .null, I 0, .null, .null, .null, .null, .null, I 0, I 0, I 0, I 0] (by decide +kernel) (by decide +kernel) rfl dL_law_0 (fun x xn => ?_)
  refine wa_dup hX dL_law_3 rfl ?_
  refine WA.room (k2 := 39959 + 40) (sl2 := 3979988 + 20000) (by omega) (by omega) ?_
  refine wa_callI hX (c_X10_init hW 0 (fun _ => 0) (fun _ _ => 0) hset_eq) (by rfl) (by omega) (nA := 0) (by rfl) (by decide +kernel) rfl (by exact Nat.le_of_ble_eq_true rfl) dL_law_4 (fun r1 h1 p1 => ?_) (fun _ _ q => q.elim)
  obtain ⟨rfl, hI1, fr1⟩ := p1
  dsimp only [Option.toList, List.cons_append, List.nil_append]
  refine wa_astore_n hX (i := 1) dL_law_7 rfl (by rfl) ?_
  dsimp only [List.set]
  refine WA.room (k2 := 39958 + 1) (sl2 := 3979979 + 9) (by omega) (by omega) ?_
  refine wa_new hX 13 120 9 [I 0, I 0, .null, .null, .null, .null, .null, .null, .null] (by decide +kernel) (by decide +kernel) rfl dL_law_8 (fun mo mon => ?_)
  have frA1 : Fr (fun _ => False) h1 (hset h1 mo (120, oF 13 [I 0, I 0, .null, .null, .null, .null, .null, .null, .null])) := fr_nw mon
  refine wa_dup hX dL_law_11 rfl ?_
  refine WA.room (k2 := 39950 + 8) (sl2 := 3978763 + 1216) (by omega) (by omega) ?_
  refine wa_callI hX (c_X12_init hW 0 DRp (fun _ => 0) (fun _ _ => 0) hset_eq) (by rfl) (by omega) (nA := 0) (by rfl) (by decide +kernel) rfl (by exact Nat.le_of_ble_eq_true rfl) dL_law_12 (fun r2 h2 p2 => ?_) (fun _ _ q => q.elim)
  obtain ⟨rfl, hR2, fr2⟩ := p2
  have hI2 := (hI1.fr frA1 (fun y hy => hy.elim)).fr fr2 (fun y hy => by omega)
  dsimp only [Option.toList, List.cons_append, List.nil_append]
  refine wa_astore_n hX (i := 2) dL_law_15 rfl (by rfl) ?_
  dsimp only [List.set]
  refine wi_iconst hX dL_law_16 ?_
  refine WA.room (k2 := 39949 + 1) (sl2 := 3978762 + 1) (by omega) (by omega) ?_
  refine wa_newa hX (atype := .long) 1 200 .long (.inr (.inl (fun _ => 0))) rfl (by rfl) (by decide) (fun cA => by rfl) (by decide +kernel) dL_law_17 (fun out outn => ?_)
  refine WA.hgq (fun h3 eh3 => ?_)
  have frO : Fr (fun _ => False) h2 h3 := by rw [eh3]; exact fr_nw outn
  have ho3 : h3 out = some (200, aL 1 (fun _ => 0)) := by rw [eh3]; exact hset_eq
  refine wa_astore_n hX (i := 3) dL_law_19 rfl (by rfl) ?_
  dsimp only [List.set]
  refine wi_iconst hX dL_law_20 ?_
  refine WA.room (k2 := 39948 + 1) (sl2 := 3978761 + 1) (by omega) (by omega) ?_
  refine wa_newa hX (atype := .double) 1 201 .double (.inr (.inr (.inr (.inl (fun _ => 0))))) rfl (by rfl) (by decide) (fun cA => by rfl) (by decide +kernel) dL_law_21 (fun oD oDn => ?_)
  refine WA.hgq (fun h4 eh4 => ?_)
  have frD : Fr (fun _ => False) h3 h4 := by rw [eh4]; exact fr_nw oDn
  have hoD4 : h4 oD = some (201, aD 1 (fun _ => 0)) := by rw [eh4]; exact hset_eq
  have ho4 := frD _ _ _ ho3 (fun z => z)
  have fr4 := frO.trans frD
  have hI4 := hI2.fr fr4 (fun y hy => hy.elim)
  have hR4 := hR2.fr fr4 (fun y hy => hy.elim)
  refine wa_astore hX dL_law_23 (by rfl) ?_
  dsimp only [List.set]
  refine wi_iconst hX dL_law_25 ?_
  refine wa_istore hX dL_law_26 (by rfl) ?_
  dsimp only [List.set]
  have hS : LST (cxS X) h4 sc n f x mo out oD 0 (fun _ => 0) (fun _ => 0) (pC 0 (fun _ => false)) (pS 0 (fun _ => false)) := ⟨⟨_, _, _, _, _, _, _, _, _, _, _, _, _, _, _, hI4, hR4, Or.inl ⟨rfl, rfl, rfl, rfl⟩, rfl, rfl⟩, ho4, hoD4, hsc⟩
  refine WA.room (k2 := 0 + 65 * 512 + pC 0 (fun _ => false)) (sl2 := 0 + 7400 * 512 + pS 0 (fun _ => false)) (by omega) (by omega) ?_
  exact lw_loop hW hX hf hn hq 512 h4 0 0 0 0 _ _ _ _ .unset .unset .unset (by omega) (by omega) hS (Or.inl rfl) (Or.inl ⟨Or.inl rfl, Or.inl rfl⟩)
end Bo
section Bo2
theorem room_less {s : State} {pl : Platform} {R R' : Room} (h : s.hasRoom pl R = true) (h1 : R'.frames ≤ R.frames) (h2 : R'.locals ≤ R.locals) (h3 : R'.cells ≤ R.cells) (h4 : R'.slots ≤ R.slots) : s.hasRoom pl R' = true := by
  simp only [State.hasRoom, Bool.and_eq_true, decide_eq_true_eq] at h ⊢
  obtain ⟨⟨⟨⟨a, b1, b2, b3, b4, b5⟩, c⟩, d⟩, e⟩ := h
  exact ⟨⟨⟨⟨by omega, by omega, by omega, by omega, by omega, b5⟩, by omega⟩, by omega⟩, e⟩
theorem stand_less {p : Program} {l : Launch} {e : Env} {R R' : Room} {s : State} {m : MethodId} {args : Array Value} {below : List Frame} {meth : Method} {c : Code} {T : State} {locs : List Loc} {cells slots : Nat} (X : Stand p l e R s m args below meth c T locs cells slots) (h1 : R'.frames ≤ R.frames) (h2 : R'.locals ≤ R.locals) (h3 : R'.cells ≤ R.cells) (h4 : R'.slots ≤ R.slots) : Stand p l e R' s m args below meth c T locs cells slots := ⟨X.admits, X.cas, X.clock, X.frames, room_less X.room h1 h2 h3 h4, X.hears, X.method, X.code, X.here, X.tail, X.warmed, X.limits, X.bytes, X.same⟩
theorem cl_inst : ∀ (ci : Nat) (q : vw_C), vwCl[ci]? = some q → ∃ n, Cond.instantiable q.1 n ∈ lw_tbl
  | 0, q, h => by cases h; exact ⟨4, by decide +kernel⟩
  | 1, q, h => by cases h; exact ⟨6, by decide +kernel⟩
  | 2, q, h => by cases h; exact ⟨4, by decide +kernel⟩
  | 3, q, h => by cases h; exact ⟨3, by decide +kernel⟩
  | 4, q, h => by cases h; exact ⟨8, by decide +kernel⟩
  | 5, q, h => by cases h; exact ⟨6, by decide +kernel⟩
  | 6, q, h => by cases h; exact ⟨8, by decide +kernel⟩
  | 7, q, h => by cases h; exact ⟨8, by decide +kernel⟩
  | 8, q, h => by cases h; exact ⟨9, by decide +kernel⟩
  | 9, q, h => by cases h; exact ⟨8, by decide +kernel⟩
  | 10, q, h => by cases h; exact ⟨2, by decide +kernel⟩
  | 11, q, h => by cases h; exact ⟨12, by decide +kernel⟩
  | 12, q, h => by cases h; exact ⟨6, by decide +kernel⟩
  | 13, q, h => by cases h; exact ⟨9, by decide +kernel⟩
  | n + 14, q, h => by simp [vwCl] at h
theorem known_all {s : State} {args : Array Value} (hts : ∀ w ∈ lw_tbl, w.before args s = true) : ∃ D : va_G, va_K D vwCl [] s := by
  have h1 : ∀ ci : Nat, ∃ p : ClassId × (Nat → Nat), ∀ q, vwCl[ci]? = some q → u_Kn s q.1 q.2.1 q.2.2 p.1 p.2 := by
    intro ci
    cases hq : vwCl[ci]? with
    | none => exact ⟨(0, fun _ => 0), fun q z => by cases z⟩
    | some q =>
      obtain ⟨n, hn⟩ := cl_inst ci q hq
      obtain ⟨cC, iS, hK⟩ := u_known (ws := lw_tbl) hts (cl_ok ci q hq).1 (hts _ hn)
      exact ⟨(cC, iS), fun q' z => by cases z; exact hK⟩
  obtain ⟨F, hF⟩ := Classical.axiomOfChoice h1
  exact ⟨(fun k => (F k).1, fun k => (F k).2), fun c q hq => hF c q hq, fun k q z => by simp at z⟩
end Bo2
def R_law : String := "CircuitfoldLaw"
def lw_P (b : Addr) (xs : List Int32) (args : Array Value) (s : State) : Prop := args = #[.ref b] ∧ s.IntsAt b xs ∧ xs.length ≤ 2560 ∧ (Jvm.Cond.and given_1 narrow_1).before args s = true
/-- what a walk over the start with the record d0 says of its end, said of the start itself -/
theorem lw_closed {s t : State} {o : Outcome} {d0 : Drawn} {L : List Loc} {k n : Nat} (hd0 : s.drawn.sameBut d0 lw_cs) (hv : ∃ v, o = .returned v) (hW : (s.setDrawn d0).WarmedH t.vm) (hs : (s.setDrawn d0).sameButNew ({ t with vm := s.vm } : State) L k n) : State.butDraws s t lw_cs (fun t1 => Framed s o t1 L k n) := by
  have h2 : t.drawn = d0 := congrArg State.drawn hs.1
  refine ⟨⟨hv, hW, State.sameButNew.setDrawn hs s.drawn⟩, ?_, by decide⟩
  rw [h2]
  exact hd0
def lw_Q (_ : Array Value) (s : State) (o : Outcome) (t : State) : Prop := o = .returned (some (.int 1)) ∧ State.butDraws s t lw_cs (fun t1 => Framed s o t1 [] room_1.cells room_1.slots)
def lw_Z (below : List Frame) (a : Array Value) (s : State) : State → Prop := fun t => ∃ o, t.status = .running ∧ Ended t below o ∧ lw_Q a s o t
/-- what holds at the law's entry: the machine, the code, the tables' words (any of lw_tbl by 'hts w (by decide +kernel)'), the script of L ints xs at the cell b, what the Statement gives of the start (any of its parts by flat_of_before) -/
def lw_At (p : Program) (s : State) (m : MethodId) (meth : Method) (c : Code) (b L : Nat) (xs : Nat → Int32) : Prop :=
  p.tables.exec = Jvm.exec ∧ c.code = code ∧ meth.sig.returnType = ret ∧ c.maxLocals = 9 ∧ s.vm.findClass R_law = some m.cls ∧ (∀ w ∈ lw_tbl, w.before #[Value.ref b] s = true) ∧ va_X b L xs s s.heap ∧ b < s.heap.size ∧ meth.locks = false ∧ (Jvm.Cond.and given_1 narrow_1).before #[Value.ref b] s = true ∧ meth.name = x.name
set_option maxHeartbeats 1000000 in
set_option maxRecDepth 100000 in
theorem whole_start {p : Program} {e : Env} {s : State} {m : MethodId} {below : List Frame} {meth : Method} {c : Code} (l : Launch) (hflags : l.flags = flags0) {b L : Nat} {xs : Nat → Int32} (hL : L ≤ 2560) (C0 : lw_At p s m meth c b L xs) : W p l e room_1 s m #[Value.ref b] below meth c s.heap [] 0 0 (lw_Z below #[Value.ref b] s) (entryFrame m ([Value.ref b] : List Value).toArray 9) := by
  obtain ⟨hx, hb, hr, hml, hown, hts, hXs, hbl, hlocks, hgv, hnm⟩ := id C0
  obtain ⟨D, hK⟩ := known_all hts
  have hW : WOK l D s := ⟨#[Value.ref b], hflags, hts, hgv, hK⟩
  have hsc : ScT s b L (fun j => (xs j).toInt) := by
    obtain ⟨scr, q1, q2, q3, q4, q5⟩ := hXs
    refine ⟨scr, q1, q2, q3, Nat.le_of_eq q4.symm, by rw [q4], fun j hj => ?_, Nat.not_le.mpr hbl⟩
    rw [q5 j hj]
    show some (Value.int (xs j)) = some (Value.int (Int32.ofInt (xs j).toInt))
    rw [Int32.ofInt_toInt]
  have hXo : Ok (p, l, e, s, m, #[Value.ref b], below, meth, c, D, s, 0 + 20, 40000, 4000000, (fun r _ => r = some (I 1)), (fun _ _ => False)) yL_law.cls cL_law 9 (some .boolean) yL_law.name (0 + 20) (fun r _ => r = some (I 1)) (fun _ _ => False) := ⟨hx, hb, hml, hr, hlocks, hown, State.WarmedH.refl s, hW, (fun _ _ q => q.elim), hnm, rfl, rfl, rfl, Nat.le_refl _, fun _ _ => rfl⟩
  have K := lw_begin (X := (p, l, e, s, m, #[Value.ref b], below, meth, c, D, s, 0 + 20, 40000, 4000000, (fun r _ => r = some (I 1)), (fun _ _ => False))) (h := fun _ => none) (d := 0) hW hXo (fun j => ⟨Int32.le_toInt _, Int32.toInt_lt _⟩) hL (fun _ => rfl) hsc
  have K2 := K s.heap [] 0 0 (by decide) (by decide) ⟨Nat.le_refl _, fun _ _ => rfl, fun a lb o q => by cases q⟩ (fun _ h => by cases h)
  intro T hT X
  have X2 : Stand p l e (rmA (0 + 20) 40000 4000000) s m #[Value.ref b] below meth c T [] 0 0 := stand_less X (by decide) (by decide) (by decide) (by decide)
  rw [lg_entry_eq]
  obtain ⟨t, a1, o, b1, b2, b3⟩ := K2 T hT X2
  refine ⟨t, a1, o, b1, b2, ?_⟩
  rcases b3 with ⟨⟨r, h', rfl, rfl, -⟩, LL, ⟨hv, hWm, hsame⟩, hfree⟩ | ⟨q, -, E, ce, LL, ⟨h', hp, -⟩, -⟩
  · refine ⟨rfl, lw_closed (d0 := s.drawn) (Drawn.sameBut.refl s.drawn lw_cs) hv hWm ?_⟩
    exact hsame.weaken (fun y hy hlt => absurd hlt (Nat.not_lt.mpr (hfree y hy))) (by decide) (by decide)
  · exact hp.elim
set_option maxHeartbeats 4000000 in
theorem lw_walk (l : Launch) (hflags : l.flags = flags0) (b : Addr) (xs : List Int32) : MetFree l x (headSpec (Jvm.Cond.code x code maxLocals ret :: tables_1) room_1) (lw_P b xs) (fun _ _ _ _ _ => True) lw_Q := by
  refine MetFree.of_bodyS (code := code) (maxLocals := maxLocals) (ret := ret) (by decide) ?_ ?_
  · intro args s m h hn
    obtain ⟨meth, c, h1, h2, h3, h4, h5, h6, -, -⟩ := Cond.code_spec hn (atoms_spec (ws := Jvm.Cond.code x code maxLocals ret :: tables_1) h _ List.mem_cons_self)
    exact ⟨meth, c, h1, h2, h3, h4, h5, h6⟩
  · intro p e s m args below meth c s₁ B hml0 hP _
    obtain ⟨rfl, hx, hbd, hgv⟩ := hP
    obtain ⟨scr, harrAt, hlist, hof, hsmall⟩ := hx
    obtain ⟨hcb, hkn, -, -⟩ := State.arrayAt?_spec harrAt
    have hown : s.vm.findClass R_law = some m.cls := findClass_of_methodNamed B.named
    have hts0 : ∀ c ∈ (Jvm.Cond.code x code maxLocals ret :: tables_1), c.before #[Value.ref b] s = true := atoms_spec (ws := Jvm.Cond.code x code maxLocals ret :: tables_1) B.pre
    have hts : ∀ w ∈ lw_tbl, w.before #[Value.ref b] s = true := k2_hts_sels lw_privs (fun w hw => hts0 w (List.mem_cons_of_mem _ hw)) lw_privs_ok
    have hml : c.maxLocals = 9 := B.maxLocals_eq (hts0 _ List.mem_cons_self)
    have X₀ : Stand p l e room_1 s m #[Value.ref b] below meth c s₁ [] 0 0 := Stand.of_body B
    have hh0 : s₁.heap = s.heap := by rw [B.state]; rfl
    have hsz : scr.slots.size = xs.length := by rw [← Array.length_toList, hlist, List.length_map]
    have hval : ∀ j : Nat, j < xs.length → scr.slots[j]? = some (.int (xs.getD j 0)) := fun j hj => by
      rw [← Array.getElem?_toList, hlist]
      simp [hj]
    have hbl : b < s.heap.size := (Array.getElem?_eq_some_iff.mp hcb).1
    have hX : va_X b xs.length (fun j => xs.getD j 0) s s.heap := ⟨scr, hcb, hof, hkn, hsz, hval⟩
    have K : W p l e room_1 s m #[Value.ref b] below meth c s₁.heap [] 0 0 (lw_Z below #[Value.ref b] s) (entryFrame m ([Value.ref b] : List Value).toArray 9) := by
      rw [hh0]
      exact whole_start l hflags hbd ⟨B.exec, B.bytes, B.returns, hml, hown, hts, hX, hbl, B.notSynchronized, hgv, (name_of_methodNamed B.named B.method).1⟩
    obtain ⟨t, a1, o, b1, b2, b3⟩ := K s₁ rfl X₀
    exact ⟨t, o, a1, b1, b2, b3⟩
theorem lw_pre_spec {args : Array Value} {s : State} (h : (Jvm.Cond.and given_1 narrow_1).before args s = true) (hr : rest_1_c.before args s = true) : ∃ (b : Addr) (xs : List Int32), lw_P b xs args s := by
  have hs := flat_of_before _ h
  have hq := flat_of_before _ hr
  have hc : (Cond.count 1).before args s = true := hs _ (by decide +kernel)
  have harr : (Cond.arrayOf (.arg 0) .int).before args s = true := hs _ (by decide +kernel)
  have hle : (Cond.le (.length (.arg 0)) (.int 2560)).before args s = true := hs _ (by decide +kernel)
  have hlen : (Cond.isInt (.length (.arg 0))).before args s = true := hq _ (by decide +kernel)
  have hall : (Cond.all (.arg 0) (.isInt (.elem (.arg 0) (.index 0)))).before args s = true := hq _ (by decide +kernel)
  obtain ⟨b, xs, hb, hx⟩ := State.ints_of_pre rfl harr hlen hall
  have hsm : xs.length < 2 ^ 31 := hx.choose_spec.2.2.2
  have hev : (Term.length (.arg 0)).eval args s none [] s = some (.int xs.length.toInt32) := hx.length_eval hb
  have hv := Cond.le_ints hev (show (Term.int 2560).eval args s none [] s = some (.int 2560) from rfl)
  have hd : xs.length.toInt32 ≤ 2560 := by
    simpa [Cond.before, Cond.holds, hv] using hle
  have hN : xs.length ≤ 2560 := (Int32.ofNat_le_ofNat hsm (by decide)).mp (show Int32.ofNat xs.length ≤ Int32.ofNat 2560 from hd)
  exact ⟨b, xs, Cond.one_arg hc (show args[0]? = some (.ref b) from hb), hx, hN, h⟩
theorem lw_comes (l : Launch) (hflags : l.flags = flags0) : Comes l x (Jvm.Cond.code x code maxLocals ret :: tables_1) room_1 (fun tb e args s => Calls_1 tb e args s ∧ rest_1 tb e args s ∧ Pre_1 tb e args s)
    (fun _ _ args s o t => lw_Q args s o t) := by
  intro p e ha hc hk s m args below hf hfit hheap happ hpre
  obtain ⟨b, xs, hP⟩ := lw_pre_spec hpre.2.2 hpre.2.1
  obtain ⟨k, o, h1, h2, h3, hQ⟩ := lw_walk l hflags b xs p e ha hc hk s m args below hf ((Spec.applies_iff_loose hf).mp happ).1 hP trivial
  exact ⟨k, o, h1, h2, h3, hQ⟩
theorem lw_frame {s t : State} {o : Outcome} {args : Array Value} (h : State.butDraws s t lw_cs (fun t1 => Framed s o t1 [] room_1.cells room_1.slots)) :
    State.butDraws s t [Jvm.Choice.named "NaN.bits"] (fun t1 => Framed s o t1 (fieldLocs frame_1_writes args s ++ arrayLocs frame_1_arrays args s ++ staticLocs frame_1_statics s) room_1.cells room_1.slots) := h
theorem lw_limb (L : Cond) (hL : ∀ (args : Array Value) (s t : State), L.after args s (.returned (some (.int 1))) t = true) :
    ArmFor flags0 classFile x code maxLocals ret World_1 tables_1 room_1 Calls_1 rest_1 Pre_1
      (fun tb e a s o t => postC L tb e a s o t ∧ State.butDraws s t [Jvm.Choice.named "NaN.bits"] (fun t1 => Framed s o t1 (fieldLocs frame_1_writes a s ++ arrayLocs frame_1_arrays a s ++ staticLocs frame_1_statics s) room_1.cells room_1.slots)) := by
  intro l hflags _ _ p e ha hc hk s m args below hf hfit hheap happ hpre
  obtain ⟨k, o, h1, h2, h3, rfl, hF⟩ := lw_comes l hflags p e ha hc hk s m args below hf hfit hheap happ hpre
  exact ⟨k, _, h1, h2, h3, hL args s _, lw_frame hF⟩
theorem i_vc : Claimed_1_1 ∧ Claimed_1_2 := ⟨lw_limb limb_1_1 (fun args s t => by simp [limb_1_1, Cond.after, Cond.holds, Cond.value]), lw_limb limb_1_2 (fun args s t => Cond.after_iff.mpr (by
  first | (rw [show limb_1_2 = Cond.eq .result (.int 1) from rfl, Cond.eq_ints (x := 1) (y := 1) rfl rfl]; simp; done) | (simp [limb_1_2, Cond.value, Term.eval]; done)))⟩
