/-! HEAP ROWS of the layer. Own text, over the kit's rows. -/
def fieldW (own : String) (idx ci kf : Nat) : Bool := match vwCl[ci]? with
  | some q => decide (kf < q.2.2) && decide (Cond.fieldLink own idx (q.2.1 kf).1 (q.2.1 kf).2.1 (q.2.1 kf).2.2.1 ∈ lw_tbl)
  | none => false
theorem fieldW_ok {own : String} {idx ci kf : Nat} (h : fieldW own idx ci kf = true) : ∃ q : vw_C, vwCl[ci]? = some q ∧ kf < q.2.2 ∧ Cond.fieldLink own idx (q.2.1 kf).1 (q.2.1 kf).2.1 (q.2.1 kf).2.2.1 ∈ lw_tbl := by
  unfold fieldW at h
  cases e : vwCl[ci]? with
  | none => rw [e] at h; cases h
  | some q =>
    rw [e] at h
    simp only [Bool.and_eq_true, decide_eq_true_eq] at h
    exact ⟨q, rfl, h.1, h.2⟩
theorem cl_ok : ∀ (ci : Nat) (q : vw_C), vwCl[ci]? = some q → (∀ w ∈ u_ws q.1 q.2.1 q.2.2, w ∈ lw_tbl) ∧ (∃ ty : Nat → FieldType, ∀ k, k < q.2.2 → parseFieldDescriptor (q.2.1 k).2.2.1 = some (ty k)) ∧ (∀ a, a < q.2.2 → ∀ b, b < q.2.2 → a ≠ b → (q.2.1 a).2.1 ≠ (q.2.1 b).2.1)
  | 0, q, h => by cases h; exact ⟨inJ0, ⟨tyJ0, tyJ0_ok⟩, nmJ0⟩
  | 1, q, h => by cases h; exact ⟨inJx00060, ⟨tyJx00060, tyJx00060_ok⟩, nmJx00060⟩
  | 2, q, h => by cases h; exact ⟨inJx35411, ⟨tyJx35411, tyJx35411_ok⟩, nmJx35411⟩
  | 3, q, h => by cases h; exact ⟨inJx4a65c, ⟨tyJx4a65c, tyJx4a65c_ok⟩, nmJx4a65c⟩
  | 4, q, h => by cases h; exact ⟨inX2, ⟨tyX2, tyX2_ok⟩, nmX2⟩
  | 5, q, h => by cases h; exact ⟨inX3, ⟨tyX3, tyX3_ok⟩, nmX3⟩
  | 6, q, h => by cases h; exact ⟨inX4, ⟨tyX4, tyX4_ok⟩, nmX4⟩
  | 7, q, h => by cases h; exact ⟨inX5, ⟨tyX5, tyX5_ok⟩, nmX5⟩
  | 8, q, h => by cases h; exact ⟨inX6, ⟨tyX6, tyX6_ok⟩, nmX6⟩
  | 9, q, h => by cases h; exact ⟨inX7, ⟨tyX7, tyX7_ok⟩, nmX7⟩
  | 10, q, h => by cases h; exact ⟨inX8, ⟨tyX8, tyX8_ok⟩, nmX8⟩
  | 11, q, h => by cases h; exact ⟨inX10, ⟨tyX10, tyX10_ok⟩, nmX10⟩
  | 12, q, h => by cases h; exact ⟨inX11, ⟨tyX11, tyX11_ok⟩, nmX11⟩
  | 13, q, h => by cases h; exact ⟨inX12, ⟨tyX12, tyX12_ok⟩, nmX12⟩
  | n + 14, q, h => by simp [vwCl] at h
theorem lay_good (C : String) (T : u_T) (k : Nat) : goodWord (u_lay C T k) = true := by
  unfold u_lay
  split <;> rfl
theorem uws_good {C : String} {T : u_T} {N : Nat} : ∀ w ∈ u_ws C T N, goodWord w = true := by
  intro w hw
  obtain ⟨k, -, rfl⟩ := List.mem_map.mp hw
  exact lay_good C T k
theorem P1 {D : va_G} {cl : List vw_C} {q : Nat × va_E} {H : Heap} (h : va_at D cl q H) : va_P D cl [q] H := fun k x hk => by
  cases k with
  | zero => cases hk; exact h
  | succ n => simp at hk
theorem K1 {D : va_G} {s : State} {cA : ClassId} {ty : FieldType} (hK : va_K D vwCl [] s) (h1 : ArrOfT s cA ty) (h2 : va_RA s cA ty) : va_K D vwCl [(cA, ty)] s := ⟨hK.1, fun k x hk => by
  cases k with
  | zero => cases hk; exact ⟨h1, h2⟩
  | succ n => simp at hk⟩
theorem inL {S0 : State} {locs : List Loc} {a i : Nat} (h : ∀ q ∈ locs, frA S0 q.base) (ha : S0.heap.size ≤ a) : ∀ q ∈ locs ++ [⟨a, i⟩], frA S0 q.base := by
  intro q hq
  rcases List.mem_append.mp hq with h1 | h1
  · exact h q h1
  · rw [List.mem_singleton] at h1
    subst h1
    exact ha
theorem nn_tI {i : Int} (h : inR i) : (Int32.ofInt i).toNatClampNeg = i.toNat := by
  show (Int32.ofInt i).toInt.toNat = i.toNat
  rw [tI h]
theorem vpI {i : Int} {n : Nat} (h : inR i) (h0 : 0 ≤ i) (h1 : i < n) : vp_in (Int32.ofInt i) n := by
  rw [vp_in_iff, tI h]; exact ⟨h0, h1⟩
/-- an array of whole numbers / of references / of longs / of doubles -/
abbrev aI (ty : FieldType) (n : Nat) (g : Nat → Int) : Ob := .inl (ty, n, .inl (fun j => Int32.ofInt (g j)))
abbrev aW (ty : FieldType) (n : Nat) (f : Nat → Int32) : Ob := .inl (ty, n, .inl f)
abbrev aL (n : Nat) (f : Nat → Int64) : Ob := .inl (.long, n, .inr (.inl f))
abbrev aD (n : Nat) (f : Nat → UInt64) : Ob := .inl (.double, n, .inr (.inr (.inr (.inl f))))
abbrev aR (ty : FieldType) (n : Nat) (f : Nat → Option Nat) : Ob := .inl (ty, n, .inr (.inr (.inr (.inr f))))
abbrev oF (ci : Nat) (fs : List Value) : Ob := .inr (ci, fs)
def up {α : Type} (f : Nat → α) (k : Nat) (x : α) : Nat → α := fun j => if j = k then x else f j
theorem up_s {α : Type} {f : Nat → α} {k : Nat} {x : α} : up f k x k = x := if_pos rfl
theorem up_n {α : Type} {f : Nat → α} {k j : Nat} {x : α} (h : j ≠ k) : up f k x j = f j := if_neg h
section LY3
variable {X : Cx} {own : String} {cc : ByteArray} {nL : Nat} {ret : Option FieldType} {nm : String} {d : Nat} {post : Option Value → AH → Prop} {px : String → AH → Prop} {h : AH} {k sl pc : Nat} {ls : List Slot} {rest : List Value}
theorem wa_get (hX : Ok X own cc nL ret nm d post px) {a lb ci : Nat} {fs : List Value} {v : Value} {idx : Nat} (kf : Nat) (hc : h a = some (lb, oF ci fs)) (hv : fs[kf]? = some v) (hw : fieldW own idx ci kf = true) (dg : decode cc pc = .ok (.getfield idx, 3)) (k' : WA X h k sl (pc + 3) ls (v :: rest)) : WA X h k sl pc ls (.ref a :: rest) := by
  obtain ⟨p, l, e, s, m, args, below, meth, c, D, S0, d0, mc, ms, po, pp⟩ := X
  intro H locs cells slots h1 h2 hR hL
  obtain ⟨q, hq, hk, hm⟩ := fieldW_ok hw
  have hts : ∀ w ∈ u_ws q.1 q.2.1 q.2.2, w.before args s = true := fun w hw => hX.word ((cl_ok ci q hq).1 w hw) (uws_good w hw)
  have hX' := hX
  obtain ⟨hx, hb, -, -, -, hown, -⟩ := hX'
  exact va_get (D := D) (ws := [(a, .inr (ci, fs))]) hx hb hts (fun w hw => hw) hown hX.vaK (P1 (hR.2.2 a lb _ hc).2) 0 rfl hq kf hk (hX.word hm rfl) (fun _ z => z) hv dg (k' H locs cells slots h1 h2 hR hL)
def fieldTy (ci kf : Nat) : Option (FieldType × Bool) := match vwCl[ci]? with
  | some q => (parseFieldDescriptor (q.2.1 kf).2.2.1).map fun t => (t, (q.2.1 kf).2.2.2)
  | none => none
set_option maxHeartbeats 1000000 in
theorem wa_put (hX : Ok X own cc nL ret nm d post px) {a lb ci : Nat} {fs : List Value} {v : Value} {idx : Nat} {ty : FieldType} (kf : Nat) (hc : h a = some (lb, oF ci fs)) (hl : kf < fs.length) (hw : fieldW own idx ci kf = true) (hty : fieldTy ci kf = some (ty, false)) (hn : narrow ty v = v) (hfit : fits ty v = true) (dg : decode cc pc = .ok (.putfield idx, 3)) (k' : WA X (hset h a (lb, oF ci (fs.set kf v))) k sl (pc + 3) ls rest) : WA X h k sl pc ls (v :: .ref a :: rest) := by
  obtain ⟨p, l, e, s, m, args, below, meth, c, D, S0, d0, mc, ms, po, pp⟩ := X
  intro H locs cells slots h1 h2 hR hL
  obtain ⟨q, hq, hk, hm⟩ := fieldW_ok hw
  have hts : ∀ w ∈ u_ws q.1 q.2.1 q.2.2, w.before args s = true := fun w hw => hX.word ((cl_ok ci q hq).1 w hw) (uws_good w hw)
  obtain ⟨-, ⟨ty0, hty0⟩, hnm⟩ := cl_ok ci q hq
  have hK := hX.vaK
  have hap := va_apart (own := own) hts (fun w hw => hw) ty0 hty0 hnm hK hq
  obtain ⟨hba, r, e1, cell, q1, q2, q3, q4⟩ := hR.2.2 a lb _ hc
  have hr : r = q := Option.some.inj (e1.symm.trans hq)
  subst hr
  obtain ⟨hS, hfc, kC, hkC, hkind⟩ := hK.1 ci _ hq
  obtain ⟨cf, kf9, fi, f, hi, hsl⟩ := hS kf hk
  unfold fieldTy at hty
  rw [hq] at hty
  obtain ⟨t9, ht9, he9⟩ := Option.map_eq_some_iff.mp hty
  obtain ⟨rfl, hfin⟩ := Prod.mk.inj he9
  have hlay := hts _ (u_in_lay hk)
  unfold u_lay at hlay
  rw [if_neg (by rw [hfin]; decide)] at hlay
  have hst := (u_facts hfc hkC (u_lays hts (fun w hw => hw) hk) hi).1
  have h6 := u_store hfc hkC hkind hlay hi ht9 hn hfit
  have hX' := hX
  obtain ⟨hx, hb, -, -, -, hown, -⟩ := hX'
  refine W.putK hx hb (f := f) ⟨hown, hX.word hm rfl, ⟨_, _, _, hi⟩, hst⟩ (by rw [q2]; exact h6) q1 q3 (by rw [hsl]; exact k2_hasslot (q4 kf hk)) rfl rfl dg fun H' e1 e2 e3 => ?_
  rw [hsl] at e1 ⊢
  exact k' H' _ cells slots h1 h2 (hR.set hc ⟨_, hq, t_OB.to (V := updV (vp_V fs) kf v) ⟨_, e1, q2, q3, t_set q4 hap hk v⟩ (fun j _ => vp_updV_set hl v j)⟩ e2 e3) (inL hL hba)
set_option maxHeartbeats 1000000 in
theorem wa_putF (hX : Ok X own cc nL ret nm d post px) {a lb ci : Nat} {fs : List Value} {v : Value} {idx : Nat} {ty : FieldType} (kf : Nat) (hc : h a = some (lb, oF ci fs)) (hl : kf < fs.length) (hw : fieldW own idx ci kf = true) (hty : fieldTy ci kf = some (ty, true)) (hin2 : nm = "<init>") (hdecl : (vwCl[ci]?).map (fun q => (q.2.1 kf).1) = some own) (hn : narrow ty v = v) (hfit : fits ty v = true) (dg : decode cc pc = .ok (.putfield idx, 3)) (k' : WA X (hset h a (lb, oF ci (fs.set kf v))) k sl (pc + 3) ls rest) : WA X h k sl pc ls (v :: .ref a :: rest) := by
  obtain ⟨p, l, e, s, m, args, below, meth, c, D, S0, d0, mc, ms, po, pp⟩ := X
  intro H locs cells slots h1 h2 hR hL
  obtain ⟨q, hq, hk, hm⟩ := fieldW_ok hw
  have hts : ∀ w ∈ u_ws q.1 q.2.1 q.2.2, w.before args s = true := fun w hw => hX.word ((cl_ok ci q hq).1 w hw) (uws_good w hw)
  obtain ⟨-, ⟨ty0, hty0⟩, hnm⟩ := cl_ok ci q hq
  have hK := hX.vaK
  have hap := va_apart (own := own) hts (fun w hw => hw) ty0 hty0 hnm hK hq
  obtain ⟨hba, r, e1, cell, q1, q2, q3, q4⟩ := hR.2.2 a lb _ hc
  have hr : r = q := Option.some.inj (e1.symm.trans hq)
  subst hr
  obtain ⟨hS, hfc, kC, hkC, hkind⟩ := hK.1 ci _ hq
  obtain ⟨cf, kf9, fi, f, hi, hsl⟩ := hS kf hk
  unfold fieldTy at hty
  rw [hq] at hty
  obtain ⟨t9, ht9, he9⟩ := Option.map_eq_some_iff.mp hty
  obtain ⟨rfl, hfin⟩ := Prod.mk.inj he9
  rw [hq] at hdecl
  have hdecl := Option.some.inj hdecl
  have hlay := hts _ (u_in_lay hk)
  unfold u_lay at hlay
  rw [if_pos hfin] at hlay
  have hst := (u_facts hfc hkC (u_lays hts (fun w hw => hw) hk) hi).1
  have hX' := hX
  obtain ⟨hx, hb, -, -, -, hown, -, -, -, hmn, -⟩ := hX'
  have hcf : m.cls = cf := by
    obtain ⟨_, _, c', _, _, _, -, -, hf', -, -, -, hown2, -⟩ := Cond.laysFinal_spec hlay
    have e1 : c' = cf := by have := hi.symm.trans hf'; simp at this; exact this.1.symm
    dsimp only at hdecl
    rw [hdecl] at hown2
    rw [← e1]; exact Option.some.inj (hown.symm.trans hown2)
  have h6 := u_fits hfc hkC hkind (Or.inr hlay) hi ht9 hn hfit
  refine W.putFinK hx hb hown (hX.word hm rfl) hi hst hcf (hmn.trans hin2) (by rw [q2]; exact h6) q1 q3 (by rw [hsl]; exact k2_hasslot (q4 kf hk)) rfl rfl dg fun H' e1 e2 e3 => ?_
  rw [hsl] at e1 ⊢
  exact k' H' _ cells slots h1 h2 (hR.set hc ⟨_, hq, t_OB.to (V := updV (vp_V fs) kf v) ⟨_, e1, q2, q3, t_set q4 hap hk v⟩ (fun j _ => vp_updV_set hl v j)⟩ e2 e3) (inL hL hba)
theorem wa_len (hX : Ok X own cc nL ret nm d post px) {a lb n : Nat} {ty : FieldType} {x : (Nat → Int32) ⊕ (Nat → Int64) ⊕ (Nat → UInt32) ⊕ (Nat → UInt64) ⊕ (Nat → Option Nat)} (hc : h a = some (lb, .inl (ty, n, x))) (dg : decode cc pc = .ok (.arraylength, 1)) (k' : WA X h k sl (pc + 1) ls (I (n : Nat) :: rest)) : WA X h k sl pc ls (.ref a :: rest) := by
  obtain ⟨p, l, e, s, m, args, below, meth, c, D, S0, d0, mc, ms, po, pp⟩ := X
  intro H locs cells slots h1 h2 hR hL
  obtain ⟨hba, cA, e1, e2, e3⟩ := hR.2.2 a lb _ hc
  have hX' := hX
  obtain ⟨hx, hb, -⟩ := hX'
  have e4 : Int32.ofNat n = Int32.ofInt (n : Int) := rfl
  exact va_alen (D := D) (cl := vwCl) (ws := [(a, .inl (cA, n, x))]) hx hb (K1 hX.vaK e2 e3) (P1 e1) 0 0 rfl rfl e4 dg (k' H locs cells slots h1 h2 hR hL)
-- GENERATED FROM HERE
theorem wi_iaload (hX : Ok X own cc nL ret nm d post px) {a lb n : Nat} {g : Nat → Int} {i : Int} (hc : h a = some (lb, aI .int n g)) (hr : inR i) (h0 : 0 ≤ i) (hi : i < n) (dg : decode cc pc = .ok (.iaload, 1)) (k' : WA X h k sl (pc + 1) ls (I (g i.toNat) :: rest)) : WA X h k sl pc ls (I i :: .ref a :: rest) := by
  obtain ⟨p, l, e, s, m, args, below, meth, c, D, S0, d0, mc, ms, po, pp⟩ := X
  intro H locs cells slots h1 h2 hR hL
  obtain ⟨hba, cA, e1, e2, e3⟩ := hR.2.2 a lb _ hc
  have hX' := hX
  obtain ⟨hx, hb, -⟩ := hX'
  refine va_iald (D := D) (cl := vwCl) (ws := [(a, .inl (cA, n, .inl (fun j => Int32.ofInt (g j))))]) hx hb (K1 hX.vaK e2 e3) (P1 e1) 0 0 rfl rfl (vpI hr h0 hi) dg ?_
  rw [nn_tI hr]
  exact k' H locs cells slots h1 h2 hR hL
theorem wi_baload (hX : Ok X own cc nL ret nm d post px) {a lb n : Nat} {g : Nat → Int} {i : Int} (hc : h a = some (lb, aI .byte n g)) (hr : inR i) (h0 : 0 ≤ i) (hi : i < n) (dg : decode cc pc = .ok (.baload, 1)) (k' : WA X h k sl (pc + 1) ls (I (g i.toNat) :: rest)) : WA X h k sl pc ls (I i :: .ref a :: rest) := by
  obtain ⟨p, l, e, s, m, args, below, meth, c, D, S0, d0, mc, ms, po, pp⟩ := X
  intro H locs cells slots h1 h2 hR hL
  obtain ⟨hba, cA, e1, e2, e3⟩ := hR.2.2 a lb _ hc
  have hX' := hX
  obtain ⟨hx, hb, -⟩ := hX'
  refine va_bald (D := D) (cl := vwCl) (ws := [(a, .inl (cA, n, .inl (fun j => Int32.ofInt (g j))))]) hx hb (K1 hX.vaK e2 e3) (P1 e1) 0 0 rfl rfl (vpI hr h0 hi) dg ?_
  rw [nn_tI hr]
  exact k' H locs cells slots h1 h2 hR hL
theorem wi_zaload (hX : Ok X own cc nL ret nm d post px) {a lb n : Nat} {g : Nat → Int} {i : Int} (hc : h a = some (lb, aI .boolean n g)) (hr : inR i) (h0 : 0 ≤ i) (hi : i < n) (dg : decode cc pc = .ok (.baload, 1)) (k' : WA X h k sl (pc + 1) ls (I (g i.toNat) :: rest)) : WA X h k sl pc ls (I i :: .ref a :: rest) := by
  obtain ⟨p, l, e, s, m, args, below, meth, c, D, S0, d0, mc, ms, po, pp⟩ := X
  intro H locs cells slots h1 h2 hR hL
  obtain ⟨hba, cA, e1, e2, e3⟩ := hR.2.2 a lb _ hc
  have hX' := hX
  obtain ⟨hx, hb, -⟩ := hX'
  refine va_zald (D := D) (cl := vwCl) (ws := [(a, .inl (cA, n, .inl (fun j => Int32.ofInt (g j))))]) hx hb (K1 hX.vaK e2 e3) (P1 e1) 0 0 rfl rfl (vpI hr h0 hi) dg ?_
  rw [nn_tI hr]
  exact k' H locs cells slots h1 h2 hR hL
theorem wa_iaload (hX : Ok X own cc nL ret nm d post px) {a lb n : Nat} {f : Nat → Int32} {i : Int} (hc : h a = some (lb, aW .int n f)) (hr : inR i) (h0 : 0 ≤ i) (hi : i < n) (dg : decode cc pc = .ok (.iaload, 1)) (k' : WA X h k sl (pc + 1) ls (.int (f i.toNat) :: rest)) : WA X h k sl pc ls (I i :: .ref a :: rest) := by
  obtain ⟨p, l, e, s, m, args, below, meth, c, D, S0, d0, mc, ms, po, pp⟩ := X
  intro H locs cells slots h1 h2 hR hL
  obtain ⟨hba, cA, e1, e2, e3⟩ := hR.2.2 a lb _ hc
  have hX' := hX
  obtain ⟨hx, hb, -⟩ := hX'
  refine va_iald (D := D) (cl := vwCl) (ws := [(a, .inl (cA, n, .inl f))]) hx hb (K1 hX.vaK e2 e3) (P1 e1) 0 0 rfl rfl (vpI hr h0 hi) dg ?_
  rw [nn_tI hr]
  exact k' H locs cells slots h1 h2 hR hL
theorem wi_laload (hX : Ok X own cc nL ret nm d post px) {a lb n : Nat} {f : Nat → Int64} {i : Int} (hc : h a = some (lb, aL n f)) (hr : inR i) (h0 : 0 ≤ i) (hi : i < n) (dg : decode cc pc = .ok (.laload, 1)) (k' : WA X h k sl (pc + 1) ls (.long (f i.toNat) :: rest)) : WA X h k sl pc ls (I i :: .ref a :: rest) := by
  obtain ⟨p, l, e, s, m, args, below, meth, c, D, S0, d0, mc, ms, po, pp⟩ := X
  intro H locs cells slots h1 h2 hR hL
  obtain ⟨hba, cA, e1, e2, e3⟩ := hR.2.2 a lb _ hc
  have hX' := hX
  obtain ⟨hx, hb, -⟩ := hX'
  refine va_lald (D := D) (cl := vwCl) (ws := [(a, .inl (cA, n, .inr (.inl f)))]) hx hb (K1 hX.vaK e2 e3) (P1 e1) 0 0 rfl rfl (vpI hr h0 hi) dg ?_
  rw [nn_tI hr]
  exact k' H locs cells slots h1 h2 hR hL
theorem wi_daload (hX : Ok X own cc nL ret nm d post px) {a lb n : Nat} {f : Nat → UInt64} {i : Int} (hc : h a = some (lb, aD n f)) (hr : inR i) (h0 : 0 ≤ i) (hi : i < n) (dg : decode cc pc = .ok (.daload, 1)) (k' : WA X h k sl (pc + 1) ls (.double (f i.toNat) :: rest)) : WA X h k sl pc ls (I i :: .ref a :: rest) := by
  obtain ⟨p, l, e, s, m, args, below, meth, c, D, S0, d0, mc, ms, po, pp⟩ := X
  intro H locs cells slots h1 h2 hR hL
  obtain ⟨hba, cA, e1, e2, e3⟩ := hR.2.2 a lb _ hc
  have hX' := hX
  obtain ⟨hx, hb, -⟩ := hX'
  refine va_dald (D := D) (cl := vwCl) (ws := [(a, .inl (cA, n, .inr (.inr (.inr (.inl f)))))]) hx hb (K1 hX.vaK e2 e3) (P1 e1) 0 0 rfl rfl (vpI hr h0 hi) dg ?_
  rw [nn_tI hr]
  exact k' H locs cells slots h1 h2 hR hL
theorem wi_aaload (hX : Ok X own cc nL ret nm d post px) {a lb n : Nat} {C : String} {f : Nat → Option Nat} {i : Int} (hc : h a = some (lb, aR (.object C) n f)) (hr : inR i) (h0 : 0 ≤ i) (hi : i < n) (dg : decode cc pc = .ok (.aaload, 1)) (k' : WA X h k sl (pc + 1) ls (va_rf (f i.toNat) :: rest)) : WA X h k sl pc ls (I i :: .ref a :: rest) := by
  obtain ⟨p, l, e, s, m, args, below, meth, c, D, S0, d0, mc, ms, po, pp⟩ := X
  intro H locs cells slots h1 h2 hR hL
  obtain ⟨hba, cA, e1, e2, e3⟩ := hR.2.2 a lb _ hc
  have hX' := hX
  obtain ⟨hx, hb, -⟩ := hX'
  refine va_aldq (D := D) (cl := vwCl) (ws := [(a, .inl (cA, n, .inr (.inr (.inr (.inr f)))))]) hx hb (K1 hX.vaK e2 e3) (P1 e1) 0 0 rfl rfl (vpI hr h0 hi) dg ?_
  rw [nn_tI hr]
  exact k' H locs cells slots h1 h2 hR hL
theorem wi_aaloadA (hX : Ok X own cc nL ret nm d post px) {a lb n : Nat} {t0 : FieldType} {f : Nat → Option Nat} {i : Int} (hc : h a = some (lb, aR (.array t0) n f)) (hr : inR i) (h0 : 0 ≤ i) (hi : i < n) (dg : decode cc pc = .ok (.aaload, 1)) (k' : WA X h k sl (pc + 1) ls (va_rf (f i.toNat) :: rest)) : WA X h k sl pc ls (I i :: .ref a :: rest) := by
  obtain ⟨p, l, e, s, m, args, below, meth, c, D, S0, d0, mc, ms, po, pp⟩ := X
  intro H locs cells slots h1 h2 hR hL
  obtain ⟨hba, cA, e1, e2, e3⟩ := hR.2.2 a lb _ hc
  have hX' := hX
  obtain ⟨hx, hb, -⟩ := hX'
  have hin := vpI hr h0 hi
  have hlt : i.toNat < n := by omega
  refine W.aald (v := va_rf (f i.toNat)) (ty := .array t0) hx hb e1 (e2 n (fun j => va_rf (f j))) rfl (fun q => by cases q) (by show ¬ (Int32.ofInt i < 0 ∨ (arrV _ _ _).slots.size ≤ _); rw [arrV_size]; exact hin) (by show (arrV _ _ _).slots[_]? = _; rw [nn_tI hr, arrV_read _ _ hlt]) rfl rfl dg ?_
  exact k' H locs cells slots h1 h2 hR hL
theorem wi_iastore (hX : Ok X own cc nL ret nm d post px) {a lb n : Nat} {g : Nat → Int} {i z : Int} (hc : h a = some (lb, aI .int n g)) (hr : inR i) (h0 : 0 ≤ i) (hi : i < n) (dg : decode cc pc = .ok (.iastore, 1)) (k' : WA X (hset h a (lb, aI .int n (up g i.toNat z))) k sl (pc + 1) ls rest) : WA X h k sl pc ls (I z :: I i :: .ref a :: rest) := by
  obtain ⟨p, l, e, s, m, args, below, meth, c, D, S0, d0, mc, ms, po, pp⟩ := X
  intro H locs cells slots h1 h2 hR hL
  obtain ⟨hba, cA, e1, e2, e3⟩ := hR.2.2 a lb _ hc
  have hX' := hX
  obtain ⟨hx, hb, -⟩ := hX'
  have hin := vpI hr h0 hi
  refine W.iast hx hb e1 (e2 n (fun j => .int (Int32.ofInt (g j)))) (fun q => by cases q) (by show ¬ (Int32.ofInt i < 0 ∨ (arrV _ _ _).slots.size ≤ _); rw [arrV_size]; exact hin) rfl rfl dg fun H1 e z1 oq => ?_
  refine k' H1 _ cells slots h1 h2 (hR.set hc ⟨cA, ?_, e2, e3⟩ z1 oq) (inL hL hba)
  rw [e, nn_tI hr]
  dsimp only
  rw [vp_cell_i, vp_cell_i, arrV_store]
  congr 2
  funext q
  by_cases hq : q = i.toNat
  · subst hq
    simp [updV, up]
  · simp [updV, up, hq]
theorem wi_bastore (hX : Ok X own cc nL ret nm d post px) {a lb n : Nat} {g : Nat → Int} {i z : Int} (hc : h a = some (lb, aI .byte n g)) (hr : inR i) (h0 : 0 ≤ i) (hi : i < n) (hb2 : narrow .byte (.int (Int32.ofInt z)) = .int (Int32.ofInt z)) (dg : decode cc pc = .ok (.bastore, 1)) (k' : WA X (hset h a (lb, aI .byte n (up g i.toNat z))) k sl (pc + 1) ls rest) : WA X h k sl pc ls (I z :: I i :: .ref a :: rest) := by
  obtain ⟨p, l, e, s, m, args, below, meth, c, D, S0, d0, mc, ms, po, pp⟩ := X
  intro H locs cells slots h1 h2 hR hL
  obtain ⟨hba, cA, e1, e2, e3⟩ := hR.2.2 a lb _ hc
  have hX' := hX
  obtain ⟨hx, hb, -⟩ := hX'
  have hin := vpI hr h0 hi
  refine W.bast hx hb e1 (e2 n (fun j => .int (Int32.ofInt (g j)))) (fun q => by cases q) (by show ¬ (Int32.ofInt i < 0 ∨ (arrV _ _ _).slots.size ≤ _); rw [arrV_size]; exact hin) rfl rfl dg fun H1 e z1 oq => ?_
  refine k' H1 _ cells slots h1 h2 (hR.set hc ⟨cA, ?_, e2, e3⟩ z1 oq) (inL hL hba)
  rw [e, nn_tI hr]
  dsimp only
  rw [vp_cell_i, vp_cell_i, arrV_store]
  congr 2
  funext q
  by_cases hq : q = i.toNat
  · subst hq
    simp only [updV, up, if_true]; first | exact hb2 | simpa using hb2
  · simp [updV, up, hq]
theorem wi_zastore (hX : Ok X own cc nL ret nm d post px) {a lb n : Nat} {g : Nat → Int} {i z : Int} (hc : h a = some (lb, aI .boolean n g)) (hr : inR i) (h0 : 0 ≤ i) (hi : i < n) (hb2 : narrow .boolean (.int (Int32.ofInt z)) = .int (Int32.ofInt z)) (dg : decode cc pc = .ok (.bastore, 1)) (k' : WA X (hset h a (lb, aI .boolean n (up g i.toNat z))) k sl (pc + 1) ls rest) : WA X h k sl pc ls (I z :: I i :: .ref a :: rest) := by
  obtain ⟨p, l, e, s, m, args, below, meth, c, D, S0, d0, mc, ms, po, pp⟩ := X
  intro H locs cells slots h1 h2 hR hL
  obtain ⟨hba, cA, e1, e2, e3⟩ := hR.2.2 a lb _ hc
  have hX' := hX
  obtain ⟨hx, hb, -⟩ := hX'
  have hin := vpI hr h0 hi
  refine W.zast hx hb e1 (e2 n (fun j => .int (Int32.ofInt (g j)))) (fun q => by cases q) (by show ¬ (Int32.ofInt i < 0 ∨ (arrV _ _ _).slots.size ≤ _); rw [arrV_size]; exact hin) rfl rfl dg fun H1 e z1 oq => ?_
  refine k' H1 _ cells slots h1 h2 (hR.set hc ⟨cA, ?_, e2, e3⟩ z1 oq) (inL hL hba)
  rw [e, nn_tI hr]
  dsimp only
  rw [vp_cell_i, vp_cell_i, arrV_store]
  congr 2
  funext q
  by_cases hq : q = i.toNat
  · subst hq
    simp only [updV, up, if_true]; first | exact hb2 | simpa using hb2
  · simp [updV, up, hq]
theorem wa_iastore (hX : Ok X own cc nL ret nm d post px) {a lb n : Nat} {f : Nat → Int32} {i : Int} {z : Int32} (hc : h a = some (lb, aW .int n f)) (hr : inR i) (h0 : 0 ≤ i) (hi : i < n) (dg : decode cc pc = .ok (.iastore, 1)) (k' : WA X (hset h a (lb, aW .int n (up f i.toNat z))) k sl (pc + 1) ls rest) : WA X h k sl pc ls (.int z :: I i :: .ref a :: rest) := by
  obtain ⟨p, l, e, s, m, args, below, meth, c, D, S0, d0, mc, ms, po, pp⟩ := X
  intro H locs cells slots h1 h2 hR hL
  obtain ⟨hba, cA, e1, e2, e3⟩ := hR.2.2 a lb _ hc
  have hX' := hX
  obtain ⟨hx, hb, -⟩ := hX'
  have hin := vpI hr h0 hi
  refine W.iast hx hb e1 (e2 n (fun j => .int (f j))) (fun q => by cases q) (by show ¬ (Int32.ofInt i < 0 ∨ (arrV _ _ _).slots.size ≤ _); rw [arrV_size]; exact hin) rfl rfl dg fun H1 e z1 oq => ?_
  refine k' H1 _ cells slots h1 h2 (hR.set hc ⟨cA, ?_, e2, e3⟩ z1 oq) (inL hL hba)
  rw [e, nn_tI hr]
  dsimp only
  rw [vp_cell_i, vp_cell_i, arrV_store]
  congr 2
  funext q
  by_cases hq : q = i.toNat
  · subst hq
    simp [updV, up]
  · simp [updV, up, hq]
theorem wi_lastore (hX : Ok X own cc nL ret nm d post px) {a lb n : Nat} {f : Nat → Int64} {i : Int} {z : Int64} (hc : h a = some (lb, aL n f)) (hr : inR i) (h0 : 0 ≤ i) (hi : i < n) (dg : decode cc pc = .ok (.lastore, 1)) (k' : WA X (hset h a (lb, aL n (up f i.toNat z))) k sl (pc + 1) ls rest) : WA X h k sl pc ls (.long z :: I i :: .ref a :: rest) := by
  obtain ⟨p, l, e, s, m, args, below, meth, c, D, S0, d0, mc, ms, po, pp⟩ := X
  intro H locs cells slots h1 h2 hR hL
  obtain ⟨hba, cA, e1, e2, e3⟩ := hR.2.2 a lb _ hc
  have hX' := hX
  obtain ⟨hx, hb, -⟩ := hX'
  have hin := vpI hr h0 hi
  refine W.last hx hb e1 (e2 n (fun j => .long (f j))) (fun q => by cases q) (by show ¬ (Int32.ofInt i < 0 ∨ (arrV _ _ _).slots.size ≤ _); rw [arrV_size]; exact hin) rfl rfl dg fun H1 e z1 oq => ?_
  refine k' H1 _ cells slots h1 h2 (hR.set hc ⟨cA, ?_, e2, e3⟩ z1 oq) (inL hL hba)
  rw [e, nn_tI hr]
  dsimp only
  rw [vp_cell_l, vp_cell_l, arrV_store]
  congr 2
  funext q
  by_cases hq : q = i.toNat
  · subst hq
    simp [updV, up]
  · simp [updV, up, hq]
theorem wi_dastore (hX : Ok X own cc nL ret nm d post px) {a lb n : Nat} {f : Nat → UInt64} {i : Int} {z : UInt64} (hc : h a = some (lb, aD n f)) (hr : inR i) (h0 : 0 ≤ i) (hi : i < n) (dg : decode cc pc = .ok (.dastore, 1)) (k' : WA X (hset h a (lb, aD n (up f i.toNat z))) k sl (pc + 1) ls rest) : WA X h k sl pc ls (.double z :: I i :: .ref a :: rest) := by
  obtain ⟨p, l, e, s, m, args, below, meth, c, D, S0, d0, mc, ms, po, pp⟩ := X
  intro H locs cells slots h1 h2 hR hL
  obtain ⟨hba, cA, e1, e2, e3⟩ := hR.2.2 a lb _ hc
  have hX' := hX
  obtain ⟨hx, hb, -⟩ := hX'
  have hin := vpI hr h0 hi
  refine W.dast hx hb e1 (e2 n (fun j => .double (f j))) (fun q => by cases q) (by show ¬ (Int32.ofInt i < 0 ∨ (arrV _ _ _).slots.size ≤ _); rw [arrV_size]; exact hin) rfl rfl dg fun H1 e z1 oq => ?_
  refine k' H1 _ cells slots h1 h2 (hR.set hc ⟨cA, ?_, e2, e3⟩ z1 oq) (inL hL hba)
  rw [e, nn_tI hr]
  dsimp only
  rw [vp_cell_d, vp_cell_d, arrV_store]
  congr 2
  funext q
  by_cases hq : q = i.toNat
  · subst hq
    simp [updV, up]
  · simp [updV, up, hq]
theorem wi_aastore (hX : Ok X own cc nL ret nm d post px) {a lb n v lv ci : Nat} {C : String} {f : Nat → Option Nat} {vs : List Value} {i : Int} (hc : h a = some (lb, aR (.object C) n f)) (hv : h v = some (lv, oF ci vs)) (hC : (vwCl[ci]?).map (fun q => q.1) = some C) (hr : inR i) (h0 : 0 ≤ i) (hi : i < n) (dg : decode cc pc = .ok (.aastore, 1)) (k' : WA X (hset h a (lb, aR (.object C) n (up f i.toNat (some v)))) k sl (pc + 1) ls rest) : WA X h k sl pc ls (.ref v :: I i :: .ref a :: rest) := by
  obtain ⟨p, l, e, s, m, args, below, meth, c, D, S0, d0, mc, ms, po, pp⟩ := X
  intro H locs cells slots h1 h2 hR hL
  obtain ⟨hba, cA, e1, e2, e3⟩ := hR.2.2 a lb _ hc
  have hX' := hX
  obtain ⟨hx, hb, -⟩ := hX'
  have hin := vpI hr h0 hi
  have hlt : i.toNat < n := by omega
  have h0' : ¬ Int32.ofInt i < 0 := fun q => hin (Or.inl q)
  obtain ⟨q9, hq9, hn9⟩ := Option.map_eq_some_iff.mp hC
  subst hn9
  obtain ⟨-, r', hr', cellV, g1, g2, g3, -⟩ := hR.2.2 v lv _ hv
  have hK := hX.vaK
  have hcls := (hK.1 ci q9 hq9).2
  obtain ⟨kA, comp, k1, k2, k3, k4⟩ := e3
  have hcomp : comp = D.1 ci := Option.some.inj (k3.symm.trans hcls.1)
  subst hcomp
  obtain ⟨kC, hkC, -⟩ := hcls.2
  refine W.aast hx hb e1 (fun q h => by cases h) (fun h => by cases h) k1 k2 rfl hkC ⟨h0', by show _ < (arrV _ _ _).slots.size; rw [arrV_size, nn_tI hr]; exact hlt⟩ g1 (fun q h => by rw [g3] at h; cases h) (by rw [g2]; exact hkC) (by rw [g2]; exact va_assign hcls) rfl rfl dg fun H1 e z1 oq => ?_
  refine k' H1 _ cells slots h1 h2 (hR.set hc ⟨cA, ?_, e2, ⟨kA, _, k1, k2, k3, k4⟩⟩ z1 oq) (inL hL hba)
  rw [e, nn_tI hr]
  dsimp only
  rw [vp_cell_q, vp_cell_q, arrV_store]
  congr 2
  funext q
  by_cases hq : q = i.toNat
  · subst hq
    simp [updV, up, va_rf]
  · simp [updV, up, hq]
def newW (own : String) (idx ci : Nat) : Bool := match vwCl[ci]? with
  | some q => decide (Cond.classLink own idx q.1 ∈ lw_tbl) && decide (Cond.instantiable q.1 q.2.2 ∈ lw_tbl) && decide (Cond.initialized q.1 ∈ lw_tbl)
  | none => false
def newFs (ci : Nat) (fs : List Value) : Bool := match vwCl[ci]? with
  | some q => decide (fs.length = q.2.2) && (List.range q.2.2).all (fun j => decide ((parseFieldDescriptor (q.2.1 j).2.2.1).map defaultValue = fs[j]?))
  | none => false
set_option maxHeartbeats 1000000 in
theorem wa_new (hX : Ok X own cc nL ret nm d post px) {idx : Nat} (ci lb N : Nat) (fs : List Value) (hw : newW own idx ci = true) (hfs : newFs ci fs = true) (hN : fs.length = N) (dg : decode cc pc = .ok (.new idx, 3)) (k' : ∀ a : Nat, h a = none → WA X (hset h a (lb, oF ci fs)) k sl (pc + 3) ls (.ref a :: rest)) : WA X h (k + 1) (sl + N) pc ls rest := by
  obtain ⟨p, l, e, s, m, args, below, meth, c, D, S0, d0, mc, ms, po, pp⟩ := X
  intro H locs cells slots h1 h2 hR hL
  unfold newW at hw
  unfold newFs at hfs
  cases hq : vwCl[ci]? with
  | none => rw [hq] at hw; cases hw
  | some q =>
    rw [hq] at hw hfs
    simp only [Bool.and_eq_true, decide_eq_true_eq] at hw hfs
    obtain ⟨⟨w1, w2⟩, w3⟩ := hw
    obtain ⟨f1, f2⟩ := hfs
    have hK := hX.vaK
    have hX' := hX
    obtain ⟨hx, hb, -, -, -, hown, -⟩ := hX'
    have hKn := hK.1 ci _ hq
    obtain ⟨c1, ⟨ty0, hty0⟩, -⟩ := cl_ok ci q hq
    have hts : ∀ w ∈ u_ws q.1 q.2.1 q.2.2, w.before args s = true := fun w hw => hX.word (c1 w hw) (uws_good w hw)
    have hN' : q.2.2 = N := f1.symm.trans hN
    subst hN'
    refine W.newcK hx hb hown (hX.word w1 rfl) (hX.word w2 rfl) (hX.word w3 rfl) rfl dg (show cells + 1 ≤ mc by omega) (show slots + q.2.2 ≤ ms by omega) hKn.2.1 rfl fun H1 kC hkC e1 z1 o1 => ?_
    refine k' H.size hR.fresh H1 locs (cells + 1) (slots + q.2.2) (by omega) (by omega) (hR.push ?_ z1 o1) hL
    refine ⟨_, hq, (u_born ty0 hts (fun w hw => hw) hKn hkC e1 hty0).to fun j hj => ?_⟩
    have f3 := List.all_eq_true.mp f2 j (List.mem_range.mpr hj)
    rw [decide_eq_true_eq, hty0 j hj] at f3
    simp [vp_V, ← f3]
def arrW (atype : ArrayType) : Bool := decide (Cond.arrayClass (newarray.typeOf atype) ∈ lw_tbl)
set_option maxHeartbeats 1000000 in
theorem wa_newa (hX : Ok X own cc nL ret nm d post px) {atype : ArrayType} {n : Int} (N lb : Nat) (ty : FieldType) (x : (Nat → Int32) ⊕ (Nat → Int64) ⊕ (Nat → UInt32) ⊕ (Nat → UInt64) ⊕ (Nat → Option Nat)) (hty : newarray.typeOf atype = ty) (hn : n = (N : Int)) (hlt : N < 67108864) (hcell : ∀ cA : ClassId, vp_cell cA (N, x) = arrV cA N (fun _ => defaultValue ty)) (hw : arrW atype = true) (dg : decode cc pc = .ok (.newarray atype, 2)) (k' : ∀ a : Nat, h a = none → WA X (hset h a (lb, .inl (ty, N, x))) k sl (pc + 2) ls (.ref a :: rest)) : WA X h (k + 1) (sl + N) pc ls (I n :: rest) := by
  obtain ⟨p, l, e, s, m, args, below, meth, c, D, S0, d0, mc, ms, po, pp⟩ := X
  intro H locs cells slots h1 h2 hR hL
  subst hn
  subst hty
  have hr : inR (N : Int) := by constructor <;> omega
  have hX' := hX
  obtain ⟨hx, hb, -⟩ := hX'
  have hlt0 : ¬ Int32.ofInt (N : Int) < 0 := by
    rw [zI, ltI hr (by constructor <;> omega)]; omega
  have hcb : componentBytes (newarray.typeOf atype) ≤ 8 := by cases atype <;> decide
  refine va_newaK hx hb (hX.word (of_decide_eq_true hw) rfl) rfl dg rfl hlt0 (N := N) (by rw [nn_tI hr]; exact Int.toNat_natCast N) (by
      have h9 : N * componentBytes (newarray.typeOf atype) ≤ N * 8 := Nat.mul_le_mul_left _ hcb
      omega) (show cells + 1 ≤ mc by omega) (show slots + N ≤ ms by omega) rfl fun H1 cA e1 z1 o1 hAr hNm => ?_
  refine k' H.size hR.fresh H1 locs (cells + 1) (slots + N) (by omega) (by omega) (hR.push ⟨cA, by rw [hcell]; exact e1, hAr, by cases atype <;> exact hNm⟩ z1 o1) hL
def objW (own : String) (idx : Nat) : Bool := decide (Cond.methodLink own idx Lib.objectInit ∈ lw_tbl) && decide (Cond.instanceMethod Lib.objectInit ∈ lw_tbl) && decide (Cond.code Lib.objectInit ⟨#[0xb1]⟩ 1 none ∈ lw_tbl)
theorem wa_obj (hX : Ok X own cc nL ret nm d post px) {a idx : Nat} (hw : objW own idx = true) (hsz : ls.length = nL) (hrest : (rest.map fun v => v.category).sum ≤ 8) (dg : decode cc pc = .ok (.invokespecial idx, 3)) (k' : WA X h k sl (pc + 3) ls rest) : WA X h k sl pc ls (.ref a :: rest) := by
  obtain ⟨p, l, e, s, m, args, below, meth, c, D, S0, d0, mc, ms, po, pp⟩ := X
  intro H locs cells slots h1 h2 hR hL
  unfold objW at hw
  simp only [Bool.and_eq_true, decide_eq_true_eq] at hw
  obtain ⟨⟨w1, w2⟩, w3⟩ := hw
  have hX' := hX
  obtain ⟨hx, hb, hml, -, -, hown, -⟩ := hX'
  refine W.objInit hx hb hown (hX.word w1 rfl) (hX.word w2 rfl) (hX.word w3 rfl) rfl (by rw [hml]; simpa using hsz) rfl dg (show 1 ≤ d0 + 6 by omega) ?_ ?_
  · show 2 * 0 + _ + 12 ≤ 40 * d0 + 100
    omega
  · exact k' H locs cells slots h1 h2 hR hL
/-! calls -/
theorem SRel.calling {D : va_G} {S0 : State} {h : AH} {U : State} {g : JFrame} {mk : MethodId} {a : Array Value} (r : SRel D S0 h U) : SRel D S0 h (U.calling g mk a) := ⟨r.1, r.2.1, r.2.2.1, fun x lb o q => ⟨(r.2.2.2 x lb o q).1, (r.2.2.2 x lb o q).2.moved (Vm.Alike.refl U.vm)⟩⟩
def callW (kind : Nat) (own : String) (idx : Nat) (y : MethodName) (cc1 : ByteArray) (maxL1 : Nat) (ret1 : Option FieldType) (n : Nat) : Bool :=
  decide (Cond.methodLink own idx y ∈ lw_tbl) && decide (Cond.initialized y.cls ∈ lw_tbl) && decide (Cond.code y cc1 maxL1 ret1 ∈ lw_tbl) && decide (y.cls ≠ "java/lang/invoke/MethodHandle") && decide (y.cls ≠ "java/lang/invoke/VarHandle") && decide ((parseMethodDescriptor y.desc).map (fun d => d.parameters.length) = some n) && decide (maxL1 ≤ 21) &&
  (match kind with
  | 0 => decide (Cond.static y ∈ lw_tbl)
  | 1 => decide (Cond.instanceMethod y ∈ lw_tbl) && decide (Cond.selects y.cls y y ∈ lw_tbl)
  | _ => decide (Cond.instanceMethod y ∈ lw_tbl) && decide (y.name = "<init>"))
theorem callB_S {p : Program} {l : Launch} {e : Env} {s : State} {m : MethodId} {args : Array Value} {below : List Frame} {meth : Method} {c : Code} {D : va_G} {S0 : State} {d0 mc ms : Nat} {po : Option Value → AH → Prop} {pp : String → AH → Prop}
    (hX : Ok (p, l, e, s, m, args, below, meth, c, D, S0, d0, mc, ms, po, pp) own cc nL ret nm d post px) {kind idx : Nat} {y : MethodName} {cc1 : ByteArray} {maxL1 : Nat} {ret1 : Option FieldType} {n d1 mc1 ms1 : Nat} (hw : callW kind own idx y cc1 maxL1 ret1 n = true) (hd : d1 < d) :
    CallB (rmA d0 mc ms) s args own idx y cc1 maxL1 ret1 [Cond.code y cc1 maxL1 ret1] (rmA d1 mc1 ms1) mc1 ms1 n := by
  unfold callW at hw
  simp only [Bool.and_eq_true, decide_eq_true_eq] at hw
  obtain ⟨⟨⟨⟨⟨⟨⟨w1, w2⟩, w3⟩, w4⟩, w5⟩, w6⟩, w7⟩, -⟩ := hw
  have hdd : d0 = d := hX.2.2.2.2.2.2.2.2.2.2.1
  subst hdd
  refine ⟨rfl, rfl, ?_, ?_, fun w hw a' U hU => ?_, List.mem_singleton.mpr rfl, hX.word w3 rfl, hX.word w2 rfl, ⟨w4, w5⟩, fun sig hsig => ?_, hX.word w1 rfl⟩
  · show d1 + 6 + 1 ≤ d0 + 6
    omega
  · show 8 + (maxL1 + 11) + (40 * d1 + 100) ≤ 40 * d0 + 100
    omega
  · rw [List.mem_singleton.mp hw]
    exact hX.wordU w3 rfl a' U hU
  · rw [hsig] at w6
    exact (Option.some.inj w6).symm
set_option maxHeartbeats 1000000 in
/-- behind a call -/
theorem wa_behind {p : Program} {l : Launch} {e : Env} {s : State} {m : MethodId} {args : Array Value} {below : List Frame} {meth : Method} {c : Code} {D : va_G} {S0 : State} {d0 mc ms : Nat} {po : Option Value → AH → Prop} {pp : String → AH → Prop} {H : Heap} {locs : List Loc} {cells slots mc1 ms1 : Nat} {st : List Value} {a : Array Value} {post1 : Option Value → AH → Prop} {px1 : String → AH → Prop}
    (hX : Ok (p, l, e, s, m, args, below, meth, c, D, S0, d0, mc, ms, po, pp) own cc nL ret nm d post px) (h1 : cells + (k + mc1) ≤ mc) (h2 : slots + (sl + ms1) ≤ ms) (hL : ∀ q ∈ locs, frA S0 q.base)
    (hr : vx_Run p l e (rmA d0 mc ms) s m args below meth c H locs cells slots mc1 ms1 (F0 m pc ls.toArray st) rest (QcA D S0 post1 a) (XcA D S0 px1) (frA S0))
    (kk : ∀ (r : Option Value) (h' : AH), post1 r h' → WA (p, l, e, s, m, args, below, meth, c, D, S0, d0, mc, ms, po, pp) h' k sl (pc + 3) ls (r.toList ++ rest)) (kx : ∀ (E : String) (h' : AH), px1 E h' → px E h') :
    W p l e (rmA d0 mc ms) s m args below meth c H locs cells slots (vx_MQ below (QcA D S0 po) (XcA D S0 pp) args s mc ms (frA S0)) (F0 m pc ls.toArray st) := by
  intro T hT X0
  rcases hr T hT X0 with ⟨v, st₀, t, T', L, e0, X', hL', e1, e2, ⟨r, h', ho, hp, hS⟩, go⟩ | ⟨q, st₀, t, T', L, E, ce, e0, X', hL', e1, e2, ⟨h', hp, hS⟩, hce, hcv, hcl, st9⟩
  · cases ho
    have hW1 : s.vm.Alike t.vm := by rw [← e2]; exact X'.warmed.alike
    have hR' : HRel D S0 s h' T'.heap := by rw [e1]; exact hS.moved hW1.symm
    obtain ⟨t2, a1, b1⟩ := kk v h' hp T'.heap (locs ++ L) (cells + mc1) (slots + ms1) (by omega) (by omega) hR' (t_lL hL hL') T' rfl X'
    exact ⟨t2, go t2 a1, b1⟩
  · have hX' := hX
    obtain ⟨hx, hb, hml, hr9, hlk, hown, hW, hWO, hnx, hnm, rfl, rfl, rfl, -⟩ := hX'
    have hcE : T'.heap[q]? = some ce := by rw [e1]; exact hce
    obtain ⟨t2, a1, b1⟩ := vx_out (Qc := QcA D S0 po) (XC := XcA D S0 pp) (mc := mc) (ms := ms) (free := frA S0) (H := T'.heap) (locs := locs ++ L) (cells := cells + mc1) (slots := slots + ms1) (pc := pc) (ls := ls.toArray) (rest := rest) (q := q) (E := E) (fun x hx => (hnx E h' (kx E h' hp) x hx).elim) hlk hcE hcv hcl (fun t9 ht9 hal => ⟨h', kx E h' hp, by rw [ht9, e1]; exact (hS.moved (by rw [← e2]; exact X'.warmed.alike.symm)).moved hal⟩) (t_lL hL hL') (by omega) (by omega) T' rfl X'
    exact ⟨t2, st9.trans a1, b1⟩
theorem srelU {p : Program} {l : Launch} {e : Env} {s : State} {m : MethodId} {args : Array Value} {below : List Frame} {meth : Method} {c : Code} {D : va_G} {S0 : State} {d0 mc ms : Nat} {po : Option Value → AH → Prop} {pp : String → AH → Prop} {H : Heap}
    (hX : Ok (p, l, e, s, m, args, below, meth, c, D, S0, d0, mc, ms, po, pp) own cc nL ret nm d post px) (hR : HRel D S0 s h H) (U : State) (hU : U.heap = H) (hW : s.WarmedH U.vm) : SRel D S0 h U :=
  ⟨State.WarmedH.trans hX.2.2.2.2.2.2.1 hW, by rw [hU]; exact hR.moved hW.alike⟩
set_option maxHeartbeats 1000000 in
theorem wa_callS (hX : Ok X own cc nL ret nm d post px) {st As : List Value} {idx : Nat} {y : MethodName} {cc1 : ByteArray} {maxL1 : Nat} {ret1 : Option FieldType} {d1 mc1 ms1 nA : Nat} {post1 : Option Value → AH → Prop} {px1 : String → AH → Prop}
    (hM : MA (cxL X) (cxD X) (cxS X) y cc1 maxL1 ret1 d1 As h mc1 ms1 post1 px1) (hst : st = As.reverse ++ rest) (hd : d1 < d) (hA : As.length = nA) (hw : callW 0 own idx y cc1 maxL1 ret1 nA = true) (hsz : ls.length = nL) (hrest : (rest.map fun v => v.category).sum ≤ 8) (dg : decode cc pc = .ok (.invokestatic idx, 3))
    (kk : ∀ (r : Option Value) (h' : AH), post1 r h' → WA X h' k sl (pc + 3) ls (r.toList ++ rest)) (kx : ∀ (E : String) (h' : AH), px1 E h' → px E h') : WA X h (k + mc1) (sl + ms1) pc ls st := by
  subst hA
  obtain ⟨p, l, e, s, m, args, below, meth, c, D, S0, d0, mc, ms, po, pp⟩ := X
  intro H locs cells slots h1 h2 hR hL
  have cb := callB_S (mc1 := mc1) (ms1 := ms1) hX hw hd
  unfold callW at hw
  simp only [Bool.and_eq_true, decide_eq_true_eq] at hw
  have hX' := hX
  obtain ⟨hx, hb, hml, -, -, hown, -⟩ := hX'
  refine wa_behind (a := As.toArray) hX h1 h2 hL ?_ kk kx
  exact vx_runS (Ts := []) ⟨hx, hb, hml, hown, fun w hw => by cases hw⟩ hM ⟨cb, hX.word hw.2 rfl⟩ ⟨fun a U g mk q => ⟨q.1, q.2.calling⟩, fun U hU hWU => ⟨rfl, srelU hX hR U hU hWU⟩⟩ rfl rfl (by simpa using hsz) hst (lv_room hrest) dg ⟨show cells + mc1 ≤ mc by omega, show slots + ms1 ≤ ms by omega⟩
set_option maxHeartbeats 1000000 in
theorem wa_callI (hX : Ok X own cc nL ret nm d post px) {st As : List Value} {b idx : Nat} {y : MethodName} {cc1 : ByteArray} {maxL1 : Nat} {d1 mc1 ms1 nA : Nat} {post1 : Option Value → AH → Prop} {px1 : String → AH → Prop}
    (hM : MA (cxL X) (cxD X) (cxS X) y cc1 maxL1 none d1 (.ref b :: As) h mc1 ms1 post1 px1) (hst : st = As.reverse ++ .ref b :: rest) (hd : d1 < d) (hA : As.length = nA) (hw : callW 2 own idx y cc1 maxL1 none nA = true) (hsz : ls.length = nL) (hrest : (rest.map fun v => v.category).sum ≤ 8) (dg : decode cc pc = .ok (.invokespecial idx, 3))
    (kk : ∀ (r : Option Value) (h' : AH), post1 r h' → WA X h' k sl (pc + 3) ls (r.toList ++ rest)) (kx : ∀ (E : String) (h' : AH), px1 E h' → px E h') : WA X h (k + mc1) (sl + ms1) pc ls st := by
  subst hA
  obtain ⟨p, l, e, s, m, args, below, meth, c, D, S0, d0, mc, ms, po, pp⟩ := X
  intro H locs cells slots h1 h2 hR hL
  have cb := callB_S (mc1 := mc1) (ms1 := ms1) hX hw hd
  unfold callW at hw
  simp only [Bool.and_eq_true, decide_eq_true_eq] at hw
  have hX' := hX
  obtain ⟨hx, hb, hml, -, -, hown, -⟩ := hX'
  refine wa_behind (a := (Value.ref b :: As).toArray) hX h1 h2 hL ?_ kk kx
  exact vx_runI (Ts := []) ⟨hx, hb, hml, hown, fun w hw => by cases hw⟩ hM ⟨cb, hw.2.2, hX.word hw.2.1 rfl⟩ ⟨fun a U g mk q => ⟨q.1, q.2.calling⟩, fun U hU hWU => ⟨rfl, srelU hX hR U hU hWU⟩⟩ rfl rfl (by simpa using hsz) hst (lv_room hrest) dg ⟨show cells + mc1 ≤ mc by omega, show slots + ms1 ≤ ms by omega⟩
set_option maxHeartbeats 1000000 in
theorem wa_callV (hX : Ok X own cc nL ret nm d post px) {st As : List Value} {b lb ci idx : Nat} {fs : List Value} {y : MethodName} {cc1 : ByteArray} {maxL1 : Nat} {ret1 : Option FieldType} {d1 mc1 ms1 nA : Nat} {post1 : Option Value → AH → Prop} {px1 : String → AH → Prop}
    (hM : MA (cxL X) (cxD X) (cxS X) y cc1 maxL1 ret1 d1 (.ref b :: As) h mc1 ms1 post1 px1) (hc : h b = some (lb, oF ci fs)) (hcl : (vwCl[ci]?).map (fun q => q.1) = some y.cls) (hst : st = As.reverse ++ .ref b :: rest) (hd : d1 < d) (hA : As.length = nA) (hw : callW 1 own idx y cc1 maxL1 ret1 nA = true) (hsz : ls.length = nL) (hrest : (rest.map fun v => v.category).sum ≤ 8) (dg : decode cc pc = .ok (.invokevirtual idx, 3))
    (kk : ∀ (r : Option Value) (h' : AH), post1 r h' → WA X h' k sl (pc + 3) ls (r.toList ++ rest)) (kx : ∀ (E : String) (h' : AH), px1 E h' → px E h') : WA X h (k + mc1) (sl + ms1) pc ls st := by
  subst hA
  obtain ⟨p, l, e, s, m, args, below, meth, c, D, S0, d0, mc, ms, po, pp⟩ := X
  intro H locs cells slots h1 h2 hR hL
  have cb := callB_S (mc1 := mc1) (ms1 := ms1) hX hw hd
  unfold callW at hw
  simp only [Bool.and_eq_true, decide_eq_true_eq] at hw
  have hX' := hX
  obtain ⟨hx, hb, hml, -, -, hown, -⟩ := hX'
  obtain ⟨q9, hq9, hn9⟩ := Option.map_eq_some_iff.mp hcl
  have hrec := va_recv (D := D) (ws := [(b, .inr (ci, fs))]) hX.vaK (P1 (hR.2.2 b lb _ hc).2) hq9 (q0 := 0) rfl
  rw [hn9] at hrec
  refine wa_behind (a := (Value.ref b :: As).toArray) hX h1 h2 hL ?_ kk kx
  exact vx_runV (Ts := []) ⟨hx, hb, hml, hown, fun w hw => by cases hw⟩ hM ⟨cb, hX.word hw.2.1 rfl, hX.word hw.2.2 rfl⟩ ⟨fun a U g mk q => ⟨q.1, q.2.calling⟩, hrec, fun U hU hWU => ⟨rfl, srelU hX hR U hU hWU⟩⟩ rfl rfl (by simpa using hsz) hst (lv_room hrest) dg ⟨show cells + mc1 ≤ mc by omega, show slots + ms1 ≤ ms by omega⟩
def maxW (own : String) (idx : Nat) (y : MethodName) (cd : ByteArray) : Bool := decide (Cond.methodLink own idx y ∈ lw_tbl) && decide (Cond.static y ∈ lw_tbl) && decide (Cond.initialized "java/lang/Math" ∈ lw_tbl) && decide (Cond.code y cd 2 (some .int) ∈ lw_tbl)
theorem wi_max (hX : Ok X own cc nL ret nm d post px) {idx : Nat} {x y : Int} (hw : maxW own idx Lib.Math.max.name Lib.Math.max.code = true) (hsz : ls.length = nL) (hrest : (rest.map fun v => v.category).sum ≤ 8) (hx : inR x) (hy : inR y) (dg : decode cc pc = .ok (.invokestatic idx, 3)) (k' : WA X h k sl (pc + 3) ls (I (max x y) :: rest)) : WA X h k sl pc ls (I y :: I x :: rest) := by
  obtain ⟨p, l, e, s, m, args, below, meth, c, D, S0, d0, mc, ms, po, pp⟩ := X
  intro H locs cells slots h1 h2 hR hL
  unfold maxW at hw
  simp only [Bool.and_eq_true, decide_eq_true_eq] at hw
  obtain ⟨⟨⟨w1, w2⟩, w3⟩, w4⟩ := hw
  have hX' := hX
  obtain ⟨hxx, hb, hml, -, -, hown, -⟩ := hX'
  refine va_mmax hxx hb (by rw [hml]; simpa using hsz.symm) hown (hX.word w1 rfl) (hX.word w2 rfl) (hX.word w3 rfl) (hX.word w4 rfl) (show 1 ≤ d0 + 6 by omega) (show _ + 13 ≤ 40 * d0 + 100 by omega) (show cells ≤ mc by omega) (show slots ≤ ms by omega) dg ?_
  have e9 : (if Int32.ofInt x < Int32.ofInt y then Int32.ofInt y else Int32.ofInt x) = Int32.ofInt (max x y) := by
    simp only [ltI hx hy]
    split
    · rw [Int.max_eq_right (by omega)]
    · rw [Int.max_eq_left (by omega)]
  rw [e9]
  exact k' H locs cells slots h1 h2 hR hL
theorem wi_min (hX : Ok X own cc nL ret nm d post px) {idx : Nat} {x y : Int} (hw : maxW own idx Lib.Math.min.name Lib.Math.min.code = true) (hsz : ls.length = nL) (hrest : (rest.map fun v => v.category).sum ≤ 8) (hx : inR x) (hy : inR y) (dg : decode cc pc = .ok (.invokestatic idx, 3)) (k' : WA X h k sl (pc + 3) ls (I (min x y) :: rest)) : WA X h k sl pc ls (I y :: I x :: rest) := by
  obtain ⟨p, l, e, s, m, args, below, meth, c, D, S0, d0, mc, ms, po, pp⟩ := X
  intro H locs cells slots h1 h2 hR hL
  unfold maxW at hw
  simp only [Bool.and_eq_true, decide_eq_true_eq] at hw
  obtain ⟨⟨⟨w1, w2⟩, w3⟩, w4⟩ := hw
  have hX' := hX
  obtain ⟨hxx, hb, hml, -, -, hown, -⟩ := hX'
  refine va_mmin hxx hb (by rw [hml]; simpa using hsz.symm) hown (hX.word w1 rfl) (hX.word w2 rfl) (hX.word w3 rfl) (hX.word w4 rfl) (show 1 ≤ d0 + 6 by omega) (show _ + 13 ≤ 40 * d0 + 100 by omega) (show cells ≤ mc by omega) (show slots ≤ ms by omega) dg ?_
  have e9 : (if Int32.ofInt y < Int32.ofInt x then Int32.ofInt y else Int32.ofInt x) = Int32.ofInt (min x y) := by
    simp only [ltI hy hx]
    split
    · rw [Int.min_eq_right (by omega)]
    · rw [Int.min_eq_left (by omega)]
  rw [e9]
  exact k' H locs cells slots h1 h2 hR hL
/-! throwing -/
def wordsX (own : String) (ic : Nat) (cls : String) (names : List String) : Bool := (vx_atS own ic cls names).all (fun w => decide (w ∈ lw_tbl) && goodWord w)
def throwW (own : String) (ik is ic : Nat) (cls text : String) (names : List String) : Bool :=
  Bundle.fit cls && names.all Bundle.fit && decide (names.length ≤ 2) && decide (Cond.classLink own ik cls ∈ lw_tbl) && decide (Cond.initialized cls ∈ lw_tbl) && decide (Cond.stringRef own is text ∈ lw_tbl) && decide (Cond.exactly (Term.string own is) "java/lang/String" ∈ flatC (Jvm.Cond.and given_1 narrow_1)) && wordsX own ic cls names
theorem zqU {l : Launch} {D : va_G} {S0 : State} (hW : WOK l D S0) : vx_Zq Bundle.tN "UNASSIGNED_STACK" Bundle.steD (frA S0) S0 S0.heap ∧ vx_Zq Bundle.tN "SUPPRESSED_SENTINEL" Bundle.listD (frA S0) S0 S0.heap := by
  obtain ⟨A0, -, hT, hg, -⟩ := hW
  have hf := flat_of_before _ hg
  exact ⟨vx_Zqof (args := A0) (hT _ (by decide +kernel)) (hT _ (by decide +kernel)) (hf _ (by decide +kernel)) (fun a h q => absurd q (Nat.not_le.mpr h)), vx_Zqof (args := A0) (hT _ (by decide +kernel)) (hT _ (by decide +kernel)) (hf _ (by decide +kernel)) (fun a h q => absurd q (Nat.not_le.mpr h))⟩
set_option maxHeartbeats 1000000 in
theorem wa_throwS (hX : Ok X own cc nL ret nm d post px) {ik is ic : Nat} (cls text : String) (names : List String) (hw : throwW own ik is ic cls text names = true) (hsz : ls.length = nL) (hrest : (rest.map fun v => v.category).sum ≤ 8)
    (d0 : decode cc pc = .ok (.new ik, 3)) (d3 : decode cc (pc + 3) = .ok (.dup, 1)) (d4 : decode cc (pc + 4) = .ok (.ldc is, 2)) (d6 : decode cc (pc + 6) = .ok (.invokespecial ic, 3)) (d9 : decode cc (pc + 9) = .ok (.athrow, 1)) (hq : px cls h) : WA X h (k + 1) (sl + 6) pc ls rest := by
  obtain ⟨p, l, e, s, m, args, below, meth, c, D, S0, d00, mc, ms, po, pp⟩ := X
  intro H locs cells slots h1 h2 hR hL
  unfold throwW at hw
  simp only [Bool.and_eq_true, decide_eq_true_eq] at hw
  obtain ⟨⟨⟨⟨⟨⟨⟨w1, w2⟩, w3⟩, w4⟩, w5⟩, w6⟩, w7⟩, w8⟩ := hw
  have hX' := hX
  obtain ⟨hx, hb, hml, hr9, hlk, hown, hW, hWO, hnx, hnm, rfl, rfl, rfl, hz1, hz2⟩ := hX'
  obtain ⟨hzU, hzN⟩ := zqU hWO
  have hkp : ∀ a : Nat, a < S0.heap.size → ¬ frA S0 a → s.heap[a]? = S0.heap[a]? := fun a h _ => hz2 a h
  have hU' := vx_Zq.moved hW.alike (hzU.kept hkp)
  have hN' := vx_Zq.moved hW.alike (hzN.kept hkp)
  obtain ⟨A0, hfl, hT, hg, -⟩ := hWO
  have hl : l.stackTraces = false := by
    unfold Launch.stackTraces
    rw [hfl]
    decide
  have hex := flat_of_before _ hg _ w7
  obtain ⟨sa, cS, cA, kA, q1, -⟩ := Cond.exactly_spec (args := A0) (first := S0) (o := none) (s := S0) (idx := []) (t := Term.string own is) (cls := "java/lang/String") hex
  have hstr0 : vk_R own is text sa S0 := vk_R.of (A := A0) (hT _ w6) q1
  have hstr := vk_R.warm hW hstr0
  have hall := List.all_eq_true.mp w8
  have hat : ∀ w ∈ vx_atS own ic cls names, w.before args s = true := fun w hw => by
    have h9 := hall w hw
    simp only [Bool.and_eq_true, decide_eq_true_eq] at h9
    exact hX.word h9.1 h9.2
  have hgood : ∀ w ∈ Cond.classLink own ik cls :: Cond.initialized cls :: vx_atS own ic cls names, vx_ot w = true := fun w hw => by
    rcases List.mem_cons.mp hw with rfl | hw
    · rfl
    · rcases List.mem_cons.mp hw with rfl | hw
      · rfl
      · have h9 := hall w hw
        simp only [Bool.and_eq_true] at h9
        unfold vx_ot
        rw [h9.2, Bool.or_true]
  intro T hTh X0
  have hzT : s.heap.size ≤ H.size := by
    have h9 := (vx_frame X0.same).1
    rw [← hTh]; exact h9
  refine vx_throwS (A := frA S0) (text := text) hx hb hl hown w1 (fun n hn => List.all_eq_true.mp w2 n hn) (hX.word w4 rfl) (hX.word w5 rfl) hstr hat hgood hU' hN' ⟨hzT, fun q hq hn => ?_, hL⟩ (by rw [hml]; simpa using hsz) d0 d3 d4 d6 d9 (fun x hx => (hnx _ _ hq x hx).elim) (show names.length + 3 < d00 + 6 by omega) (show _ + (13 * (names.length + 1) + 43) ≤ 40 * d00 + 100 by omega) (show cells + 1 ≤ mc by omega) (show slots + 6 ≤ ms by omega) hlk (fun t hal hsz2 hk2 => ⟨h, hq, ?_⟩) hL (by omega) (by omega) T hTh X0
  · have hq2 : q < S0.heap.size := Nat.not_le.mp hn
    rw [hR.2.1 q hq2, hz2 q hq2]
  · refine HRel.moved hal ⟨Nat.le_trans hR.1 hsz2, fun q h9 => ?_, fun a lb o h9 => ?_⟩
    · rw [hk2 q (Nat.lt_of_lt_of_le h9 hR.1)]; exact hR.2.1 q h9
    · have h8 := hR.2.2 a lb o h9
      exact ⟨h8.1, h8.2.kept (hk2 a h8.2.lt)⟩
end LY3
