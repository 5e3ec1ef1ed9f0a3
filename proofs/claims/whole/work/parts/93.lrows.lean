/-! Rows of ArrayList's growth: its empty array, getClass, a class constant, references stored and copied. Own text. -/
def gcJ : MethodName := ⟨"java/lang/Object", "getClass", "()Ljava/lang/Class;"⟩
/-- where ArrayList's empty array lies -/
def zA (S0 : State) (z : Nat) : Prop := va_Z "java/util/ArrayList" "DEFAULTCAPACITY_EMPTY_ELEMENTDATA" "[Ljava/lang/Object;" (.ref z) (frA S0) S0 S0.heap ∧ va_T (.object "java/lang/Object") z 0 (fun _ => Value.null) (frA S0) S0 S0.heap
theorem zA_of {l : Launch} {D : va_G} {S0 : State} (hW : WOK l D S0) : ∃ z : Nat, zA S0 z := by
  obtain ⟨A0, -, hT, hg, -⟩ := hW
  have hf := flat_of_before _ hg
  have hA : ∀ a : Nat, a < S0.heap.size → ¬ frA S0 a := fun a h q => absurd q (Nat.not_le.mpr h)
  obtain ⟨z, hz, hT2⟩ := va_Tof (args := A0) (s := S0) (N := 0) (f := fun _ => Value.null) (A := frA S0) (tm := .static "java/util/ArrayList" "DEFAULTCAPACITY_EMPTY_ELEMENTDATA" "[Ljava/lang/Object;") (ty := .object "java/lang/Object") (by decide) (hf _ (by decide +kernel)) (va_eqt (hf _ (by decide +kernel))) (fun j hj => absurd hj (Nat.not_lt_zero j)) hA
  exact ⟨z, va_Zref (args := A0) (hT _ (by decide +kernel)) (hT _ (by decide +kernel)) hz hA, hT2⟩
theorem miO_of {l : Launch} {D : va_G} {S0 : State} (hW : WOK l D S0) : ∃ mi : Nat, va_Mi "[Ljava/lang/Object;" mi S0 := by
  obtain ⟨A0, -, hT, hg, -⟩ := hW
  exact va_Mi.of (args := A0) (flat_of_before _ hg _ (by decide +kernel))
def gcW (own : String) (idx : Nat) : Bool := decide (Cond.methodLink own idx gcJ ∈ lw_tbl) && decide (Cond.declares gcJ ∈ lw_tbl) && decide (Cond.selects "[Ljava/lang/Object;" gcJ gcJ ∈ lw_tbl) && decide (Cond.instanceMethod gcJ ∈ lw_tbl) && decide (Cond.native gcJ ∈ lw_tbl)
def castW (ci : Nat) (C : String) : Bool := match vwCl[ci]? with
  | some q => decide (Cond.castable q.1 C ∈ lw_tbl)
  | none => false
def fieldWS (own ref : String) (idx ci kf : Nat) : Bool := match vwCl[ci]? with
  | some q => decide (kf < q.2.2) && decide (Cond.fieldLink own idx ref (q.2.1 kf).2.1 (q.2.1 kf).2.2.1 ∈ lw_tbl) && decide (Cond.sameField ref (q.2.1 kf).1 (q.2.1 kf).2.1 (q.2.1 kf).2.2.1 ∈ lw_tbl)
  | none => false
theorem fieldWS_ok {own ref : String} {idx ci kf : Nat} (h : fieldWS own ref idx ci kf = true) : ∃ q : vw_C, vwCl[ci]? = some q ∧ kf < q.2.2 ∧ Cond.fieldLink own idx ref (q.2.1 kf).2.1 (q.2.1 kf).2.2.1 ∈ lw_tbl ∧ Cond.sameField ref (q.2.1 kf).1 (q.2.1 kf).2.1 (q.2.1 kf).2.2.1 ∈ lw_tbl := by
  unfold fieldWS at h
  cases e : vwCl[ci]? with
  | none => rw [e] at h; cases h
  | some q =>
    rw [e] at h
    simp only [Bool.and_eq_true, decide_eq_true_eq] at h
    exact ⟨q, rfl, h.1.1, h.1.2, h.2⟩
section LY93
variable {X : Cx} {own : String} {cc : ByteArray} {nL : Nat} {ret : Option FieldType} {nm : String} {d : Nat} {post : Option Value → AH → Prop} {px : String → AH → Prop} {h : AH} {k sl pc : Nat} {ls : List Slot} {rest : List Value}
theorem wa_getsZ (hX : Ok X own cc nL ret nm d post px) {idx z : Nat} (hz : zA (cxS X) z) (hw : decide (Cond.fieldLink own idx "java/util/ArrayList" "DEFAULTCAPACITY_EMPTY_ELEMENTDATA" "[Ljava/lang/Object;" ∈ lw_tbl) = true) (dg : decode cc pc = .ok (.getstatic idx, 3)) (k' : WA X h k sl (pc + 3) ls (.ref z :: rest)) : WA X h k sl pc ls rest := by
  obtain ⟨p, l, e, s, m, args, below, meth, c, D, S0, d0, mc, ms, po, pp⟩ := X
  intro H locs cells slots h1 h2 hR hL
  have hX' := hX
  obtain ⟨hx, hb, hml, hr9, hlk, hown, hW, hWO, hnx, hnm, rfl, rfl, rfl, hz1, hz2⟩ := hX'
  have hkp : ∀ a : Nat, a < S0.heap.size → ¬ frA S0 a → s.heap[a]? = S0.heap[a]? := fun a h _ => hz2 a h
  have hZ : va_Z "java/util/ArrayList" "DEFAULTCAPACITY_EMPTY_ELEMENTDATA" "[Ljava/lang/Object;" (.ref z) (frA S0) s s.heap := va_Z.moved hW.alike (va_Z.kept hz.1 hkp)
  intro T hTh X0
  have hzT : s.heap.size ≤ H.size := by
    have h9 := (vx_frame X0.same).1
    rw [← hTh]; exact h9
  exact va_gets hx hb hZ ⟨hzT, fun q hq hn => by
    have hq2 : q < S0.heap.size := Nat.not_le.mp hn
    rw [hR.2.1 q hq2, hz2 q hq2], hL⟩ hown (hX.word (of_decide_eq_true hw) rfl) (fun x q => q) dg (k' H locs cells slots h1 h2 hR hL) T hTh X0
theorem wa_lenZ (hX : Ok X own cc nL ret nm d post px) {z : Nat} (hz : zA (cxS X) z) (dg : decode cc pc = .ok (.arraylength, 1)) (k' : WA X h k sl (pc + 1) ls (I 0 :: rest)) : WA X h k sl pc ls (.ref z :: rest) := by
  obtain ⟨p, l, e, s, m, args, below, meth, c, D, S0, d0, mc, ms, po, pp⟩ := X
  intro H locs cells slots h1 h2 hR hL
  have hX' := hX
  obtain ⟨hx, hb, hml, hr9, hlk, hown, hW, hWO, hnx, hnm, rfl, rfl, rfl, hz1, hz2⟩ := hX'
  have hkp : ∀ a : Nat, a < S0.heap.size → ¬ frA S0 a → s.heap[a]? = S0.heap[a]? := fun a h _ => hz2 a h
  have hT2 : va_T (.object "java/lang/Object") z 0 (fun _ => Value.null) (frA S0) s s.heap := va_T.moved hW.alike (va_T.kept hz.2 hkp)
  intro T hTh X0
  have hzT : s.heap.size ≤ H.size := by
    have h9 := (vx_frame X0.same).1
    rw [← hTh]; exact h9
  exact va_tlen hx hb hT2 ⟨hzT, fun q hq hn => by
    have hq2 : q < S0.heap.size := Nat.not_le.mp hn
    rw [hR.2.1 q hq2, hz2 q hq2], hL⟩ (v := Int32.ofInt 0) rfl dg (k' H locs cells slots h1 h2 hR hL) T hTh X0
theorem wa_dup_x1 (hX : Ok X own cc nL ret nm d post px) {va vb : Value} (dg : decode cc pc = .ok (.dup_x1, 1)) (hc : va.category = 1) (hd : vb.category = 1) (k' : WA X h k sl (pc + 1) ls (va :: vb :: va :: rest)) : WA X h k sl pc ls (va :: vb :: rest) := by
  obtain ⟨p, l, e, s, m, args, below, meth, c, D, S0, d0, mc, ms, po, pp⟩ := X
  intro H locs cells slots h1 h2 hR hL
  exact lv_dup_x1 hX.1 hX.2.1 dg hc hd (k' H locs cells slots h1 h2 hR hL)
theorem wa_ldcM (hX : Ok X own cc nL ret nm d post px) {idx mi : Nat} (C : String) (hm : va_Mi C mi (cxS X)) (hw : decide (Cond.classLink own idx C ∈ lw_tbl) = true) (dg : decode cc pc = .ok (.ldc idx, 2)) (k' : WA X h k sl (pc + 2) ls (.ref mi :: rest)) : WA X h k sl pc ls rest := by
  obtain ⟨p, l, e, s, m, args, below, meth, c, D, S0, d0, mc, ms, po, pp⟩ := X
  intro H locs cells slots h1 h2 hR hL
  have hX' := hX
  obtain ⟨hx, hb, hml, -, -, hown, hW, -⟩ := hX'
  have hM : va_Mi C mi s := va_Mi.moved hW.alike hm
  exact va_ldcM hx hb hown (hX.word (of_decide_eq_true hw) rfl) hM dg (k' H locs cells slots h1 h2 hR hL)
theorem wa_getC (hX : Ok X own cc nL ret nm d post px) {a lb n idx mi : Nat} {f : Nat → Option Nat} (hm : va_Mi "[Ljava/lang/Object;" mi (cxS X)) (hc : h a = some (lb, aR (.object "java/lang/Object") n f)) (hw : gcW own idx = true) (hsz : ls.length = nL) (hrest : (rest.map fun v => v.category).sum ≤ 8) (dg : decode cc pc = .ok (.invokevirtual idx, 3)) (k' : WA X h k sl (pc + 3) ls (.ref mi :: rest)) : WA X h k sl pc ls (.ref a :: rest) := by
  obtain ⟨p, l, e, s, m, args, below, meth, c, D, S0, d0, mc, ms, po, pp⟩ := X
  intro H locs cells slots h1 h2 hR hL
  unfold gcW at hw
  simp only [Bool.and_eq_true, decide_eq_true_eq] at hw
  obtain ⟨⟨⟨⟨w1, w2⟩, w3⟩, w4⟩, w5⟩ := hw
  have hX' := hX
  obtain ⟨hx, hb, hml, -, -, hown, hW, ⟨A0, -, hT0, -, -⟩, -⟩ := hX'
  have hDc : va_Dc s := va_Dc.moved hW.alike (va_Dc.of (hT0 _ w2))
  have hM : va_Mi "[Ljava/lang/Object;" mi s := va_Mi.moved hW.alike hm
  obtain ⟨hba, cA, e1, e2, e3⟩ := hR.2.2 a lb _ hc
  exact va_getC hx hb (by rw [hml]; simpa using hsz.symm) hown (hX.word w1 rfl) hDc.use (hX.word w3 rfl) (hX.word w4 rfl) (hX.word w5 rfl) hM ⟨_, e1, rfl, va_nmO e3 (by decide)⟩ (show 1 ≤ d0 + 6 by omega) (show _ ≤ 40 * d0 + 100 by omega) dg (k' H locs cells slots h1 h2 hR hL)
theorem wa_anyO (hX : Ok X own cc nL ret nm d post px) {v lv ci : Nat} {vs : List Value} {C : String} {H : Heap} (hv : h v = some (lv, oF ci vs)) (hw : castW ci C = true) : match X with | (p, l, e, s, m, args, below, meth, c, D, S0, d0, mc, ms, po, pp) => HRel D S0 s h H → va_Any C s H v := by
  obtain ⟨p, l, e, s, m, args, below, meth, c, D, S0, d0, mc, ms, po, pp⟩ := X
  intro hR
  have hX' := hX
  obtain ⟨hx, hb, hml, -, -, hown, hWH, ⟨A0, -, hT0, -, -⟩, -⟩ := hX'
  unfold castW at hw
  cases hq9 : vwCl[ci]? with
  | none => rw [hq9] at hw; cases hw
  | some q9 =>
    rw [hq9] at hw
    have w1 : Cond.castable q9.1 C ∈ lw_tbl := of_decide_eq_true hw
    have hcls := (hX.vaK.1 ci q9 hq9).2
    obtain ⟨-, r', hr', cellV, g1, g2, g3, -⟩ := hR.2.2 v lv _ hv
    obtain ⟨kC, hkC, -⟩ := hcls.2
    have hca : va_Nw (.castable q9.1 C) s := va_Nw.warmC hWH (va_Nw.of rfl (hT0 _ w1))
    refine ⟨cellV, g1, by rw [g3]; rfl, ⟨kC, by rw [g2]; exact hkC⟩, fun comp hcomp => ?_⟩
    rw [g2]
    exact vb_asgC hca comp _ hcomp hcls.1
theorem wi_aastoreC (hX : Ok X own cc nL ret nm d post px) {a lb n v lv ci : Nat} {C : String} {f : Nat → Option Nat} {vs : List Value} {i : Int} (hc : h a = some (lb, aR (.object C) n f)) (hv : h v = some (lv, oF ci vs)) (hC : castW ci C = true) (hr : inR i) (h0 : 0 ≤ i) (hi : i < n) (dg : decode cc pc = .ok (.aastore, 1)) (k' : WA X (hset h a (lb, aR (.object C) n (up f i.toNat (some v)))) k sl (pc + 1) ls rest) : WA X h k sl pc ls (.ref v :: I i :: .ref a :: rest) := by
  have hany := fun H => wa_anyO (H := H) hX hv hC
  obtain ⟨p, l, e, s, m, args, below, meth, c, D, S0, d0, mc, ms, po, pp⟩ := X
  intro H locs cells slots h1 h2 hR hL
  obtain ⟨hba, cA, e1, e2, e3⟩ := hR.2.2 a lb _ hc
  have hX' := hX
  obtain ⟨hx, hb, -⟩ := hX'
  have hin := vpI hr h0 hi
  have hlt : i.toNat < n := by omega
  have h0' : ¬ Int32.ofInt i < 0 := fun q => hin (Or.inl q)
  obtain ⟨cellV, g1, g3, ⟨kC, hkC⟩, hasg⟩ := hany H hR
  obtain ⟨kA, comp, k1, k2, k3, k4⟩ := e3
  obtain ⟨kE, hkE, -⟩ := Vm.findClass_spec k3
  refine W.aast hx hb e1 (fun q h => by cases h) (fun h => by cases h) k1 k2 rfl hkE ⟨h0', by show _ < (arrV _ _ _).slots.size; rw [arrV_size, nn_tI hr]; exact hlt⟩ g1 (fun q h => by rw [h] at g3; cases g3) hkC (hasg _ k3) rfl rfl dg fun H1 e z1 oq => ?_
  refine k' H1 _ cells slots h1 h2 (hR.set hc ⟨cA, ?_, e2, ⟨kA, _, k1, k2, k3, k4⟩⟩ z1 oq) (inL hL hba)
  rw [e, nn_tI hr]
  dsimp only
  rw [vp_cell_q, vp_cell_q, arrV_store]
  congr 2
  funext q
  by_cases hq : q = i.toNat
  · subst hq
    simp [updV, up, va_rf]
  · simp [updV, up, hq]
theorem copiedR {c0 c1 : ClassId} {n0 n1 n : Nat} {f g : Nat → Option Nat} (h0 : n ≤ n0) (h1 : n ≤ n1) : (vp_cell c1 (n1, .inr (.inr (.inr (.inr g))))).storeRun 0 ((vp_cell c0 (n0, .inr (.inr (.inr (.inr f))))).stretch 0 n) = vp_cell c1 (n1, .inr (.inr (.inr (.inr (fun j => if j < n then f j else g j))))) := by
  rw [vp_cell_q, vp_cell_q, vp_cell_q]
  have hl : ((arrV c0 n0 (fun j => va_rf (f j))).stretch 0 n).length = n := Cell.stretch_length _ _ _
  have hf := Cell.storeRun_facts (arrV c1 n1 (fun j => va_rf (g j))) 0 ((arrV c0 n0 (fun j => va_rf (f j))).stretch 0 n)
  refine cell_ext9 hf.1 ?_ hf.2.1 hf.2.2.2.1 hf.2.2.2.2
  apply Array.ext_getElem?
  intro j
  have hg := Cell.storePairs_get (arrV c1 n1 (fun j => va_rf (g j))) 0 ((arrV c0 n0 (fun j => va_rf (f j))).stretch 0 n) 0 j (by rw [hl, arrV_size]; omega)
  refine Eq.trans hg ?_
  rw [hl]
  simp only [Nat.zero_add, Nat.sub_zero, Nat.zero_le, true_and]
  by_cases hj : j < n
  · rw [if_pos hj]
    have h3 : ((arrV c0 n0 (fun j => va_rf (f j))).stretch 0 n)[j]? = some (va_rf (f j)) := by
      have h4 : j < ((arrV c0 n0 (fun j => va_rf (f j))).stretch 0 n).length := by omega
      rw [List.getElem?_eq_getElem h4]
      have h5 := (Cell.stretch_get (List.getElem?_eq_getElem h4)).2
      rw [h5, Nat.zero_add, Array.getD_eq_getD_getElem?, arrV_read _ _ (by omega)]
      rfl
    rw [h3, arrV_read _ _ (by omega), if_pos hj]
  · rw [if_neg hj]
    by_cases h2 : j < n1
    · rw [arrV_read _ _ h2, arrV_read _ _ h2, if_neg hj]
    · rw [Array.getElem?_eq_none (by rw [arrV_size]; omega), Array.getElem?_eq_none (by rw [arrV_size]; omega)]
theorem wa_copyR (hX : Ok X own cc nL ret nm d post px) {a b la lb n0 n1 idx : Nat} {C : String} {f g : Nat → Option Nat} (n : Nat) (ha : h a = some (la, aR (.object C) n0 f)) (hb9 : h b = some (lb, aR (.object C) n1 g)) (hel : ∀ i, i < n → ∀ y, f i = some y → ∃ ly ci vs, h y = some (ly, oF ci vs) ∧ castW ci C = true) (h0 : n ≤ n0) (h1 : n ≤ n1) (hn : n < 2147483648) (hw : copyW own idx = true) (hsz : ls.length = nL) (hrest : (rest.map fun v => v.category).sum ≤ 8) (dg : decode cc pc = .ok (.invokestatic idx, 3)) (k' : WA X (hset h b (lb, aR (.object C) n1 (fun j => if j < n then f j else g j))) k sl (pc + 3) ls rest) : WA X h k sl pc ls (I (n : Int) :: I 0 :: .ref b :: I 0 :: .ref a :: rest) := by
  have hany : ∀ (H : Heap) (y ly ci : Nat) (vs : List Value), h y = some (ly, oF ci vs) → castW ci C = true → _ := fun H y ly ci vs q1 q2 => wa_anyO (H := H) hX q1 q2
  obtain ⟨p, l, e, s, m, args, below, meth, c, D, S0, d0, mc, ms, po, pp⟩ := X
  intro H locs cells slots q1 q2 hR hL
  unfold copyW at hw
  simp only [Bool.and_eq_true, decide_eq_true_eq] at hw
  obtain ⟨⟨⟨w1, w2⟩, w3⟩, w4⟩ := hw
  have hX' := hX
  obtain ⟨hxx, hb, hml, -, -, hown, -⟩ := hX'
  obtain ⟨hba, cA, e1, e2, e3⟩ := hR.2.2 a la _ ha
  obtain ⟨hbb, cB, e4, e5, e6⟩ := hR.2.2 b lb _ hb9
  intro T hT X0
  obtain ⟨-, k0, hk0, cm0, hkk0⟩ := e2 n0 (fun j => va_rf (f j))
  obtain ⟨-, k1, hk1, cm1, hkk1⟩ := e5 n1 (fun j => va_rf (g j))
  have hz : (Int32.ofInt (0 : Int)).toNatClampNeg = 0 := by decide
  have hnn : (Int32.ofInt (n : Int)).toNatClampNeg = n := by rw [nn_tI (inR_nat hn)]; exact Int.toNat_natCast n
  have hz2 : (Int32.ofInt (0 : Int)).toInt = 0 := by decide
  have hn2 : (Int32.ofInt (n : Int)).toInt = n := tI (inR_nat hn)
  have hnlt : ¬ Int32.ofInt (n : Int) < 0 := by
    rw [zI, ltI (inR_nat hn) (by constructor <;> omega)]; omega
  obtain ⟨vm', X', step⟩ := X0.arraycopy hxx hown (hX.word w1 rfl) (hX.word w2 rfl) (hX.word w3 rfl) (hX.word w4 rfl) (src := a) (dst := b) (cs := vp_cell cA (n0, .inr (.inr (.inr (.inr f))))) (cd := vp_cell cB (n1, .inr (.inr (.inr (.inr g))))) (srcPos := Int32.ofInt 0) (destPos := Int32.ofInt 0) (n := Int32.ofInt n) (by rw [hT]; exact e1) (by rw [hT]; exact e4)
    (fun _ h => by cases h) (fun _ h => by cases h) (fun h => by cases h) (fun h => by cases h) hk0 hk1 hkk0 hkk1 (by rfl) (by decide) (by decide) hnlt
    (by rw [hz2, hn2]; show ¬ _ > ((arrV cA n0 (fun j => va_rf (f j))).slots.size : Int); rw [arrV_size]; omega)
    (by rw [hz2, hn2]; show ¬ _ > ((arrV cB n1 (fun j => va_rf (g j))).slots.size : Int); rw [arrV_size]; omega)
    (fun vm₁ hal i hi => by
      rw [hnn] at hi
      have e : (vp_cell cA (n0, .inr (.inr (.inr (.inr f))))).slots.getD ((Int32.ofInt 0).toNatClampNeg + i) .null = va_rf (f i) := by
        show (arrV cA n0 (fun j => va_rf (f j))).slots.getD _ _ = _
        rw [hz, Nat.zero_add, Array.getD_eq_getD_getElem?, arrV_read _ _ (by omega)]
        rfl
      rw [e]
      cases hy : f i with
      | none => exact ⟨rfl, trivial⟩
      | some y =>
        obtain ⟨ly, ci, vs, hy1, hy2⟩ := hel i hi y hy
        obtain ⟨cellV, g1, g2, ⟨kC, hkC⟩, hasg⟩ := hany H y ly ci vs hy1 hy2 hR
        obtain ⟨kA, comp, r1, r2, r3, -⟩ := e6
        cases hk1.symm.trans r1
        cases hkk1.symm.trans r2
        obtain ⟨kE, hkE, -⟩ := Vm.findClass_spec r3
        obtain ⟨kC', hkC', -⟩ := hal.2.2 _ _ hkC
        obtain ⟨kE', hkE', -⟩ := hal.2.2 _ _ hkE
        refine ⟨rfl, cellV, (show T.heap[y]? = some cellV by rw [hT]; exact g1), (fun q h => by rw [h] at g2; cases g2), ⟨kC', hkC'⟩, ?_, ?_⟩
        · exact ⟨kE', hkE'⟩
        · show vm₁.assignable _ _ = true
          rw [hal.assignable]
          exact hasg _ r3)
    (g := F0 m pc ls.toArray (I (n : Int) :: I 0 :: .ref b :: I 0 :: .ref a :: rest)) rfl (by rw [hml]; simpa using hsz) (rest := rest) rfl (by rw [hb]; exact dg) (show 1 ≤ d0 + 6 by omega) (by
      have hw9 : nativeFrameWords "java/lang/System" "arraycopy" 5 + 11 ≤ 60 := by decide +kernel
      show 2 * 0 + _ + _ ≤ 40 * d0 + 100
      omega)
  have ec : copied (vp_cell cA (n0, .inr (.inr (.inr (.inr f))))) (vp_cell cB (n1, .inr (.inr (.inr (.inr g))))) (Int32.ofInt 0) (Int32.ofInt 0) (Int32.ofInt n) = vp_cell cB (n1, .inr (.inr (.inr (.inr (fun j => if j < n then f j else g j))))) := by
    unfold copied
    rw [hz, hnn]
    exact copiedR h0 h1
  rw [ec] at X' step
  have hl : b < H.size := (Array.getElem?_eq_some_iff.mp e4).1
  have hheap : ((T.setVm vm').setCell b (vp_cell cB (n1, .inr (.inr (.inr (.inr (fun j => if j < n then f j else g j))))))).heap = H.setIfInBounds b (vp_cell cB (n1, .inr (.inr (.inr (.inr (fun j => if j < n then f j else g j)))))) := by rw [← hT]; rfl
  have oq : ∀ q : Nat, q ≠ b → (H.setIfInBounds b (vp_cell cB (n1, .inr (.inr (.inr (.inr (fun j => if j < n then f j else g j)))))))[q]? = H[q]? := fun q hq => by simp [Array.getElem?_setIfInBounds, Ne.symm hq]
  obtain ⟨t, a1, b1⟩ := k' (H.setIfInBounds b (vp_cell cB (n1, .inr (.inr (.inr (.inr (fun j => if j < n then f j else g j))))))) _ cells slots q1 q2 (hR.set hb9 ⟨cB, by simp [Array.getElem?_setIfInBounds, hl], e5, e6⟩ (by simp) oq) (fun q hq => by
      rcases List.mem_append.mp hq with h | h
      · exact hL q h
      · obtain ⟨z, -, hz⟩ := List.mem_map.mp h
        rw [← hz]
        exact hbb) _ hheap X'
  exact ⟨t, step _ a1, b1⟩
theorem wa_getS (hX : Ok X own cc nL ret nm d post px) {a lb ci : Nat} {fs : List Value} {v : Value} {idx : Nat} (ref : String) (kf : Nat) (hc : h a = some (lb, oF ci fs)) (hv : fs[kf]? = some v) (hw : fieldWS own ref idx ci kf = true) (dg : decode cc pc = .ok (.getfield idx, 3)) (k' : WA X h k sl (pc + 3) ls (v :: rest)) : WA X h k sl pc ls (.ref a :: rest) := by
  obtain ⟨p, l, e, s, m, args, below, meth, c, D, S0, d0, mc, ms, po, pp⟩ := X
  intro H locs cells slots h1 h2 hR hL
  obtain ⟨q, hq, hk, hm, hm2⟩ := fieldWS_ok hw
  have hts : ∀ w ∈ u_ws q.1 q.2.1 q.2.2, w.before args s = true := fun w hw => hX.word ((cl_ok ci q hq).1 w hw) (uws_good w hw)
  have hX' := hX
  obtain ⟨hx, hb, -, -, -, hown, -⟩ := hX'
  exact va_get (D := D) (ws := [(a, .inr (ci, fs))]) hx hb hts (fun w hw => hw) hown hX.vaK (P1 (hR.2.2 a lb _ hc).2) 0 rfl hq kf hk (hX.word hm rfl) (fun x z => u_same (hX.word hm2 rfl) x z) hv dg (k' H locs cells slots h1 h2 hR hL)
set_option maxHeartbeats 1000000 in
theorem wa_putS (hX : Ok X own cc nL ret nm d post px) {a lb ci : Nat} {fs : List Value} {v : Value} {idx : Nat} {ty : FieldType} (ref : String) (kf : Nat) (hc : h a = some (lb, oF ci fs)) (hl : kf < fs.length) (hw : fieldWS own ref idx ci kf = true) (hty : fieldTy ci kf = some (ty, false)) (hn : narrow ty v = v) (hfit : fits ty v = true) (dg : decode cc pc = .ok (.putfield idx, 3)) (k' : WA X (hset h a (lb, oF ci (fs.set kf v))) k sl (pc + 3) ls rest) : WA X h k sl pc ls (v :: .ref a :: rest) := by
  obtain ⟨p, l, e, s, m, args, below, meth, c, D, S0, d0, mc, ms, po, pp⟩ := X
  intro H locs cells slots h1 h2 hR hL
  obtain ⟨q, hq, hk, hm, hm2⟩ := fieldWS_ok hw
  have hts : ∀ w ∈ u_ws q.1 q.2.1 q.2.2, w.before args s = true := fun w hw => hX.word ((cl_ok ci q hq).1 w hw) (uws_good w hw)
  obtain ⟨-, ⟨ty0, hty0⟩, hnm⟩ := cl_ok ci q hq
  have hK := hX.vaK
  have hap := va_apart (own := own) hts (fun w hw => hw) ty0 hty0 hnm hK hq
  obtain ⟨hba, r, e1, cell, q1, q2, q3, q4⟩ := hR.2.2 a lb _ hc
  have hr : r = q := Option.some.inj (e1.symm.trans hq)
  subst hr
  obtain ⟨hS, hfc, kC, hkC, hkind⟩ := hK.1 ci _ hq
  obtain ⟨cf, kf9, fi, f, hi, hsl⟩ := hS kf hk
  unfold fieldTy at hty
  rw [hq] at hty
  obtain ⟨t9, ht9, he9⟩ := Option.map_eq_some_iff.mp hty
  obtain ⟨rfl, hfin⟩ := Prod.mk.inj he9
  have hlay := hts _ (u_in_lay hk)
  unfold u_lay at hlay
  rw [if_neg (by rw [hfin]; decide)] at hlay
  have hst := (u_facts hfc hkC (u_lays hts (fun w hw => hw) hk) hi).1
  have h6 := u_store hfc hkC hkind hlay hi ht9 hn hfit
  have hX' := hX
  obtain ⟨hx, hb, -, -, -, hown, -⟩ := hX'
  have hi2 := u_same (hX.word hm2 rfl) _ hi
  refine W.putK hx hb (f := f) ⟨hown, hX.word hm rfl, ⟨_, _, _, hi2⟩, hst⟩ (by rw [q2]; exact h6) q1 q3 (by rw [hsl]; exact k2_hasslot (q4 kf hk)) rfl rfl dg fun H' e1 e2 e3 => ?_
  rw [hsl] at e1 ⊢
  exact k' H' _ cells slots h1 h2 (hR.set hc ⟨_, hq, t_OB.to (V := updV (vp_V fs) kf v) ⟨_, e1, q2, q3, t_set q4 hap hk v⟩ (fun j _ => vp_updV_set hl v j)⟩ e2 e3) (inL hL hba)
theorem WA.neZ (hX : Ok X own cc nL ret nm d post px) {z a : Nat} {x : Nat × Ob} {st : List Value} (hz : zA (cxS X) z) (ha : h a = some x) (w : a ≠ z → WA X h k sl pc ls st) : WA X h k sl pc ls st := by
  obtain ⟨p, l, e, s, m, args, below, meth, c, D, S0, d0, mc, ms, po, pp⟩ := X
  intro H locs cells slots h1 h2 hR hL
  obtain ⟨-, cell, g1, -⟩ := hz
  have hlt : z < S0.heap.size := (Array.getElem?_eq_some_iff.mp g1).1
  have hge := (hR.2.2 a x.1 x.2 ha).1
  exact w (by omega) H locs cells slots h1 h2 hR hL
end LY93
