/-! The law: the state of both sides; what the wrappers leave; the law's locals; the cases' tails -/
section B8a
variable {S0 : State}
/-- the class tells of broken bases what the reference tells -/
def BrR (br bf bs be b0 b1 b2 : Int) : Prop := (br = 0 ∧ b0 = -1 ∧ b1 = -1 ∧ b2 = -1) ∨ (br = 1 ∧ b0 = bf ∧ b1 = bs ∧ b2 = be ∧ (0 ≤ b0 ∧ b0 ≤ 1023) ∧ (0 ≤ b1 ∧ b1 ≤ 1023) ∧ 0 ≤ b2 ∧ b2 ≤ 1023)
def pC (so : Nat) (D2 : Nat → Bool) : Nat := 3 * (24 - so) + smC D2 24
def pS (so : Nat) (D2 : Nat → Bool) : Nat := 2054 * (24 - so) + smS D2 24
/-- both sides' states go together -/
def BST (S0 : State) (h : AH) (x mo th pc ps : Nat) : Prop := ∃ (w : Nat → Nat) (c m : Nat) (E : Nat → Nat) (R : Nat → Nat → Nat) (br bf bs be : Int) (D2 D3 : Nat → Bool) (so : Nat) (b0 b1 b2 : Int), HI h x w c m E R br bf bs be D2 D3 so ∧ RI (zA S0) DRp h mo th c w m E R b0 b1 b2 ∧ BrR br bf bs be b0 b1 b2 ∧ pC so D2 = pc ∧ pS so D2 = ps
/-- the script, an old array -/
def ScT (S0 : State) (sc n : Nat) (f : Nat → Int) : Prop := va_T .int sc n (fun j => I (f j)) (frA S0) S0 S0.heap
/-- the law's state: the script, both sides, the two arrays for answers -/
def LST (S0 : State) (h : AH) (sc n : Nat) (f : Nat → Int) (x mo out oD : Nat) (th : Nat) (g : Nat → Int64) (G : Nat → UInt64) (pc ps : Nat) : Prop := BST S0 h x mo th pc ps ∧ h out = some (200, aL 1 g) ∧ h oD = some (201, aD 1 G) ∧ ScT S0 sc n f
theorem RI.fr {Z : Nat → Prop} {DR : (Nat → Nat) → Nat → Nat → Option (Nat → Nat) → Prop} {S : Nat → Prop} {h h' : AH} {a th c m : Nat} {w : Nat → Nat} {E : Nat → Nat} {R : Nat → Nat → Nat} {b0 b1 b2 : Int} (q : RI Z DR h a th c w m E R b0 b1 b2) (f : Fr S h h') (n : ∀ x, S x → ¬ (120 ≤ x ∧ x ≤ 132)) : RI Z DR h' a th c w m E R b0 b1 b2 := by
  obtain ⟨row, brk, al, wk, us, kp, pt, k1, kJ⟩ := q
  exact ⟨row, brk, al, wk, us, kp, pt, f _ _ _ k1 (fun z => n _ z (by omega)), kJ.fr f (fun x hx z => n x hx (by omega))⟩
theorem HI.obj {h : AH} {a : Nat} {w : Nat → Nat} {c m : Nat} {E : Nat → Nat} {R : Nat → Nat → Nat} {br bf bs be : Int} {D2 D3 : Nat → Bool} {so : Nat} (q : HI h a w c m E R br bf bs be D2 D3 so) : ∃ fs, h a = some (10, oF 11 fs) := by
  obtain ⟨-, row, kept, tb, cb, pr, inn, mn, pf, ps, pa, x1, x2, x3, x4, P, k1, -⟩ := q
  exact ⟨_, k1⟩
theorem HI.mtr {h : AH} {a : Nat} {w : Nat → Nat} {c m : Nat} {E : Nat → Nat} {R : Nat → Nat → Nat} {br bf bs be : Int} {D2 D3 : Nat → Bool} {so : Nat} (q : HI h a w c m E R br bf bs be D2 D3 so) : c ≤ 60 ∧ (∀ j, w j < 1024) ∧ m ≤ 24 ∧ so ≤ m ∧ (br = 0 ∨ br = 1) ∧ (∀ j, m ≤ j → D2 j = false ∧ D3 j = false) ∧ ∀ j, j < m → Mtr (E j) (R j) := q.1
theorem RI.obj {Z : Nat → Prop} {DR : (Nat → Nat) → Nat → Nat → Option (Nat → Nat) → Prop} {h : AH} {a th c m : Nat} {w : Nat → Nat} {E : Nat → Nat} {R : Nat → Nat → Nat} {b0 b1 b2 : Int} (q : RI Z DR h a th c w m E R b0 b1 b2) : ∃ (row brk al wk us kp pt : Nat), h a = some (120, oMod (th : Int) (c : Int) row brk al wk us kp pt) := by
  obtain ⟨row, brk, al, wk, us, kp, pt, k1, -⟩ := q
  exact ⟨row, brk, al, wk, us, kp, pt, k1⟩
/-- what a wrapper leaves: which exception, the class's heap, the kept answer -/
def WrO (h : AH) (out : Nat) (P1 : Option Value → AH → Prop) (PX : String → AH → Prop) (es : List String) (r : Option Value) (h' : AH) : Prop := ∃ (kk : Nat) (h1 : AH) (g : Nat → Int64), r = some (I (kk : Int)) ∧ h' = hset h1 out (200, aL 1 g) ∧ Fr HF h h1 ∧ ((kk = 0 ∧ ∃ z : Int, P1 (some (I z)) h1 ∧ g 0 = (Int32.ofInt z).toInt64) ∨ ∃ e, es[kk - 1]? = some e ∧ 1 ≤ kk ∧ PX e h1)
variable {h h' : AH} {out : Nat} {g0 : Nat → Int64} {P1 : Option Value → AH → Prop} {PX : String → AH → Prop} {r : Option Value} {e1 e2 e3 e4 : String}
theorem HF200 : ¬ HF 200 := fun z => by have := z.2; omega
theorem wr_val {z : Int} {h1 : AH} (fP : ∀ r h', P1 r h' → Fr HF h h') (es : List String) (p : P1 (some (I z)) h1) : WrO h out P1 PX es (some (I 0)) (hset h1 out (200, aL 1 (up g0 0 (Int32.ofInt z).toInt64))) := ⟨0, h1, _, rfl, rfl, fP _ _ p, Or.inl ⟨rfl, z, p, up_s⟩⟩
theorem wr_exc {e : String} (ho : h out = some (200, aL 1 g0)) (fX : ∀ E h', PX E h' → Fr HF h h') (es : List String) (kk : Nat) (hk : 1 ≤ kk) (he : es[kk - 1]? = some e) (p : PX e h') : WrO h out P1 PX es (some (I (kk : Int))) h' := ⟨kk, h', g0, rfl, (hset_self (fX _ _ p _ _ _ ho HF200)).symm, fX _ _ p, Or.inr ⟨e, he, hk, p⟩⟩
theorem wr1 (ho : h out = some (200, aL 1 g0)) (fP : ∀ r h', P1 r h' → Fr HF h h') (fX : ∀ E h', PX E h' → Fr HF h h') (p : (∃ (z : Int) (h1 : AH), P1 (some (I z)) h1 ∧ r = some (I 0) ∧ h' = hset h1 out (200, aL 1 (up g0 0 (Int32.ofInt z).toInt64))) ∨ (PX e1 h' ∧ r = some (I 1))) : WrO h out P1 PX [e1] r h' := by
  rcases p with ⟨z, h1, p, rfl, rfl⟩ | ⟨p, rfl⟩
  · exact wr_val fP _ p
  · exact wr_exc ho fX _ 1 (by omega) rfl p
theorem wr2 (ho : h out = some (200, aL 1 g0)) (fP : ∀ r h', P1 r h' → Fr HF h h') (fX : ∀ E h', PX E h' → Fr HF h h') (p : (∃ (z : Int) (h1 : AH), P1 (some (I z)) h1 ∧ r = some (I 0) ∧ h' = hset h1 out (200, aL 1 (up g0 0 (Int32.ofInt z).toInt64))) ∨ (PX e1 h' ∧ r = some (I 1)) ∨ (PX e2 h' ∧ r = some (I 2))) : WrO h out P1 PX [e1, e2] r h' := by
  rcases p with ⟨z, h1, p, rfl, rfl⟩ | ⟨p, rfl⟩ | ⟨p, rfl⟩
  · exact wr_val fP _ p
  · exact wr_exc ho fX _ 1 (by omega) rfl p
  · exact wr_exc ho fX _ 2 (by omega) rfl p
theorem wr3 (ho : h out = some (200, aL 1 g0)) (fP : ∀ r h', P1 r h' → Fr HF h h') (fX : ∀ E h', PX E h' → Fr HF h h') (p : (∃ (z : Int) (h1 : AH), P1 (some (I z)) h1 ∧ r = some (I 0) ∧ h' = hset h1 out (200, aL 1 (up g0 0 (Int32.ofInt z).toInt64))) ∨ (PX e1 h' ∧ r = some (I 1)) ∨ (PX e2 h' ∧ r = some (I 2)) ∨ (PX e3 h' ∧ r = some (I 3))) : WrO h out P1 PX [e1, e2, e3] r h' := by
  rcases p with ⟨z, h1, p, rfl, rfl⟩ | ⟨p, rfl⟩ | ⟨p, rfl⟩ | ⟨p, rfl⟩
  · exact wr_val fP _ p
  · exact wr_exc ho fX _ 1 (by omega) rfl p
  · exact wr_exc ho fX _ 2 (by omega) rfl p
  · exact wr_exc ho fX _ 3 (by omega) rfl p
theorem wr4 (ho : h out = some (200, aL 1 g0)) (fP : ∀ r h', P1 r h' → Fr HF h h') (fX : ∀ E h', PX E h' → Fr HF h h') (p : (∃ (z : Int) (h1 : AH), P1 (some (I z)) h1 ∧ r = some (I 0) ∧ h' = hset h1 out (200, aL 1 (up g0 0 (Int32.ofInt z).toInt64))) ∨ (PX e1 h' ∧ r = some (I 1)) ∨ (PX e2 h' ∧ r = some (I 2)) ∨ (PX e3 h' ∧ r = some (I 3)) ∨ (PX e4 h' ∧ r = some (I 4))) : WrO h out P1 PX [e1, e2, e3, e4] r h' := by
  rcases p with ⟨z, h1, p, rfl, rfl⟩ | ⟨p, rfl⟩ | ⟨p, rfl⟩ | ⟨p, rfl⟩ | ⟨p, rfl⟩
  · exact wr_val fP _ p
  · exact wr_exc ho fX _ 1 (by omega) rfl p
  · exact wr_exc ho fX _ 2 (by omega) rfl p
  · exact wr_exc ho fX _ 3 (by omega) rfl p
  · exact wr_exc ho fX _ 4 (by omega) rfl p
theorem b2n_out (b : Bool) : (if b = true then (1 : Int64) else 0) = (Int32.ofInt ((b2n b : Nat) : Int)).toInt64 := by cases b <;> decide
theorem fr_out {h1 : AH} {a l : Nat} {o : Ob} {g : Nat → Int64} (hq : h1 a = some (l, o)) (hn : l ≠ 200) (ho : h1 out = some (200, aL 1 g0)) : hset h1 out (200, aL 1 g) a = some (l, o) := by
  have hne : a ≠ out := fun z => by
    subst z
    rw [ho] at hq
    cases hq
    exact hn rfl
  unfold hset
  rw [if_neg hne]
  exact hq
/-- the class's heap with the answer written: other labels stay -/
theorem fr_withOut {S : Nat → Prop} {h1 : AH} {g : Nat → Int64} (f : Fr S h h1) (ho : h1 out = some (200, aL 1 g0)) : Fr (fun x => S x ∨ x = 200) h (hset h1 out (200, aL 1 g)) := fun a l o q n => fr_out (f a l o q (fun z => n (Or.inl z))) (fun z => n (Or.inr z)) ho
end B8a
section B8b
variable {X : Cx} {own : String} {cc : ByteArray} {nL : Nat} {ret : Option FieldType} {nm : String} {d : Nat} {post : Option Value → AH → Prop} {px : String → AH → Prop} {h : AH} {k sl pc : Nat} {ls : List Slot} {rest : List Value}
/-- a variable whose old content is one word or nothing -/
def oc1 (u : Slot) : Prop := u = .unset ∨ ∃ v : Value, u = .val v ∧ v.category = 1
/-- the last two variables: two single ones, or one of two words -/
def jk7 (u v : Slot) : Prop := (oc1 u ∧ oc1 v) ∨ ∃ x : Value, u = .val x ∧ x.category = 2 ∧ v = .second
theorem oc1_okS {u : Slot} (hu : oc1 u) {i : Nat} (hl : ls[i]? = some u) : okS ls i = true := by
  unfold okS
  rw [hl]
  rcases hu with rfl | ⟨v, rfl, hv⟩
  · rfl
  · show (v.category == 1) = true
    rw [hv]; rfl
theorem okS_W {i : Nat} {v old : Value} (hl : ls[i]? = some (.val old)) (ho : old.category = 2) (h1 : i + 1 < ls.length) (hc : v.category = 1) : storeLocals ls.toArray i v = some ((ls.set (i + 1) .unset).set i (.val v)).toArray := by
  have hc2 : ¬ v.category = 2 := by omega
  have hi : i < ls.length := by omega
  have e2 : ls.toArray[i]? = some (.val old) := by rw [List.getElem?_toArray]; exact hl
  simp only [storeLocals, e2, Option.bind_eq_bind, Option.bind_some, ho, if_true]
  simp [storeSelf, setAt, hi, h1, hc2]
theorem wa_istoreW (hX : Ok X own cc nL ret nm d post px) {i : Nat} {x : Int32} {old : Value} (dg : decode cc pc = .ok (.istore i, 2)) (hl : ls[i]? = some (.val old)) (ho : old.category = 2) (h9 : i + 1 < ls.length) (k' : WA X h k sl (pc + 2) ((ls.set (i + 1) .unset).set i (.val (.int x))) rest) : WA X h k sl pc ls (.int x :: rest) := by
  obtain ⟨p, l, e, s, m, args, below, meth, c, D, S0, d0, mc, ms, po, pp⟩ := X
  intro H locs cells slots h1 h2 hR hL
  have e' := okS_W (v := .int x) hl ho h9 rfl
  intro T hT X0
  obtain ⟨t, a, b⟩ := k' H locs cells slots h1 h2 hR hL T hT X0
  refine ⟨t, ?_, b⟩
  have hexec := hX.1
  have hb := hX.2.1
  jvm_step X0.here [X0.here.top, ↓top_set X0.here.top, hexec, hb, dg, e', Value.isRef]
  exact a
theorem wa_fstoreW (hX : Ok X own cc nL ret nm d post px) {i : Nat} {x : UInt32} {old : Value} (dg : decode cc pc = .ok (.fstore i, 2)) (hl : ls[i]? = some (.val old)) (ho : old.category = 2) (h9 : i + 1 < ls.length) (k' : WA X h k sl (pc + 2) ((ls.set (i + 1) .unset).set i (.val (.float x))) rest) : WA X h k sl pc ls (.float x :: rest) := by
  obtain ⟨p, l, e, s, m, args, below, meth, c, D, S0, d0, mc, ms, po, pp⟩ := X
  intro H locs cells slots h1 h2 hR hL
  have e' := okS_W (v := .float x) hl ho h9 rfl
  intro T hT X0
  obtain ⟨t, a, b⟩ := k' H locs cells slots h1 h2 hR hL T hT X0
  refine ⟨t, ?_, b⟩
  have hexec := hX.1
  have hb := hX.2.1
  jvm_step X0.here [X0.here.top, ↓top_set X0.here.top, hexec, hb, dg, e', Value.isRef]
  exact a
/-- the law's locals -/
abbrev lwL (sc x mo out oD : Nat) (i : Int) (u6 u7 u8 : Slot) : List Slot := [.val (.ref sc), .val (.ref x), .val (.ref mo), .val (.ref out), .val (.ref oD), .val (I i), u6, u7, u8]
variable {sc x mo out oD : Nat} {i : Int} {u6 u7 u8 : Slot}
theorem lw_i6 (hX : Ok X own cc nL ret nm d post px) {z : Int} (dg : decode cc pc = .ok (.istore 6, 2)) (h6 : oc1 u6) (k' : WA X h k sl (pc + 2) (lwL sc x mo out oD i (.val (I z)) u7 u8) rest) : WA X h k sl pc (lwL sc x mo out oD i u6 u7 u8) (I z :: rest) := wa_istore hX dg (oc1_okS h6 rfl) k'
theorem lw_i7 (hX : Ok X own cc nL ret nm d post px) {z : Int} (dg : decode cc pc = .ok (.istore 7, 2)) (h7 : jk7 u7 u8) (k' : ∀ v8, oc1 v8 → WA X h k sl (pc + 2) (lwL sc x mo out oD i u6 (.val (I z)) v8) rest) : WA X h k sl pc (lwL sc x mo out oD i u6 u7 u8) (I z :: rest) := by
  rcases h7 with ⟨a, b⟩ | ⟨v, rfl, hv, rfl⟩
  · exact wa_istore hX dg (oc1_okS a rfl) (k' _ b)
  · exact wa_istoreW hX dg (i := 7) rfl hv (by show 8 < 9; decide) (k' _ (Or.inl rfl))
theorem lw_f7 (hX : Ok X own cc nL ret nm d post px) {z : UInt32} (dg : decode cc pc = .ok (.fstore 7, 2)) (h7 : jk7 u7 u8) (k' : ∀ v8, oc1 v8 → WA X h k sl (pc + 2) (lwL sc x mo out oD i u6 (.val (.float z)) v8) rest) : WA X h k sl pc (lwL sc x mo out oD i u6 u7 u8) (.float z :: rest) := by
  rcases h7 with ⟨a, b⟩ | ⟨v, rfl, hv, rfl⟩
  · exact wa_fstore hX dg (oc1_okS a rfl) (k' _ b)
  · exact wa_fstoreW hX dg (i := 7) rfl hv (by show 8 < 9; decide) (k' _ (Or.inl rfl))
theorem jk7_okS2 (h7 : jk7 u7 u8) : okS2 (lwL sc x mo out oD i u6 u7 u8) 7 = true := by
  rcases h7 with ⟨a, b⟩ | ⟨v, rfl, hv, rfl⟩
  · rcases a with rfl | ⟨v, rfl, hv⟩ <;> rcases b with rfl | ⟨v', rfl, hv'⟩
    · rfl
    · show (v'.category == 1) = true
      rw [hv']; rfl
    · show (v.category == 1) = true
      rw [hv]; rfl
    · show (v.category == 1 && v'.category == 1) = true
      rw [hv, hv']; rfl
  · rfl
theorem lw_l7 (hX : Ok X own cc nL ret nm d post px) {z : Int64} (dg : decode cc pc = .ok (.lstore 7, 2)) (h7 : jk7 u7 u8) (k' : WA X h k sl (pc + 2) (lwL sc x mo out oD i u6 (.val (.long z)) .second) rest) : WA X h k sl pc (lwL sc x mo out oD i u6 u7 u8) (.long z :: rest) := wa_lstore hX dg (jk7_okS2 h7) k'
theorem lw_d7 (hX : Ok X own cc nL ret nm d post px) {z : UInt64} (dg : decode cc pc = .ok (.dstore 7, 2)) (h7 : jk7 u7 u8) (k' : WA X h k sl (pc + 2) (lwL sc x mo out oD i u6 (.val (.double z)) .second) rest) : WA X h k sl pc (lwL sc x mo out oD i u6 u7 u8) (.double z :: rest) := wa_dstore hX dg (jk7_okS2 h7) k'
end B8b
