/-! ArrayList's reads; the reference's small helpers (X12) -/
abbrev oAL (mc : Int) (ed : Nat) (n : Int) : Ob := oF 3 [I mc, .ref ed, I n]
abbrev oMod (th c : Int) (row brk al wk us kp pt : Nat) : Ob := oF 13 [I th, I c, .ref row, .ref brk, .ref al, .ref wk, .ref us, .ref kp, .ref pt]
section LYC
variable {X : Cx} {own : String} {cc : ByteArray} {nL : Nat} {ret : Option FieldType} {nm : String} {d : Nat} {post : Option Value → AH → Prop} {px : String → AH → Prop} {h : AH} {k sl pc : Nat} {ls : List Slot} {rest : List Value}
/-- checkcast to an object's own class -/
theorem wa_ccast (hX : Ok X own cc nL ret nm d post px) {a lb ci idx : Nat} {fs : List Value} {C : String} (hc : h a = some (lb, oF ci fs)) (hcl : (vwCl[ci]?).map (fun q => q.1) = some C) (hw : decide (Cond.classLink own idx C ∈ lw_tbl) = true) (dg : decode cc pc = .ok (.checkcast idx, 3)) (k' : WA X h k sl (pc + 3) ls (.ref a :: rest)) : WA X h k sl pc ls (.ref a :: rest) := by
  obtain ⟨p, l, e, s, m, args, below, meth, c, D, S0, d0, mc, ms, po, pp⟩ := X
  intro H locs cells slots h1 h2 hR hL
  have hX' := hX
  obtain ⟨hx, hb, hml, -, -, hown, -⟩ := hX'
  obtain ⟨q9, hq9, hn9⟩ := Option.map_eq_some_iff.mp hcl
  subst hn9
  have hK := hX.vaK
  have hcls := (hK.1 ci q9 hq9).2
  obtain ⟨-, r', hr', cellV, g1, g2, g3, -⟩ := hR.2.2 a lb _ hc
  exact va_castS hx hb hown (hX.word (of_decide_eq_true hw) rfl) hcls ⟨cellV, g1, by rw [g3]; rfl, by rw [g2]; exact hcls.1⟩ dg (k' H locs cells slots h1 h2 hR hL)
end LYC
section C79
variable {l : Launch} {D : va_G} {S0 : State}
set_option maxRecDepth 100000 in
theorem c_AL_size (hW : WOK l D S0) (d : Nat) {h : AH} {a la ed : Nat} {mc n : Int} (h1 : h a = some (la, oAL mc ed n)) : MA l D S0 yJx4a65c_size_8abf5 cJx4a65c_size_8abf5 1 (some .int) d [.ref a] h 0 0 (fun r h' => r = some (I n) ∧ h' = h) (fun _ _ => False) := by
  refine MA.startF hW (by decide +kernel) [.val (.ref a)] rfl ?_
  rintro X rfl rfl rfl hX
  refine wa_aload_n hX (i := 0) dJx4a65c_size_8abf5_0 rfl rfl ?_
  refine wa_get hX 2 (by assumption) (by rfl) (by decide +kernel) dJx4a65c_size_8abf5_1 ?_
  refine wa_iret hX dJx4a65c_size_8abf5_4 ?_
  exact ⟨rfl, rfl⟩
set_option maxRecDepth 100000 in
theorem c_AL_isEmpty (hW : WOK l D S0) (d : Nat) {h : AH} {a la ed : Nat} {mc : Int} {n : Nat} (h1 : h a = some (la, oAL mc ed (n : Int))) (hn : n ≤ 1000) : MA l D S0 yJx4a65c_isEmpty_aae02 cJx4a65c_isEmpty_aae02 1 (some .boolean) d [.ref a] h 0 0 (fun r h' => r = some (I ((b2n (n == 0) : Nat) : Int)) ∧ h' = h) (fun _ _ => False) := by
  refine MA.startF hW (by decide +kernel) [.val (.ref a)] rfl ?_
  rintro X rfl rfl rfl hX
  refine wa_aload_n hX (i := 0) dJx4a65c_isEmpty_aae02_0 rfl rfl ?_
  refine wa_get hX 2 (by assumption) (by rfl) (by decide +kernel) dJx4a65c_isEmpty_aae02_1 ?_
  refine wi_if_ne hX (tgt := 11) dJx4a65c_isEmpty_aae02_4 (by decide) (by omega) (fun c4 => ?_) (fun c4 => ?_)
  · skip
    refine wi_iconst hX dJx4a65c_isEmpty_aae02_11 ?_
    refine wa_zret hX dJx4a65c_isEmpty_aae02_12 (by rfl) ?_
    refine ⟨?_, rfl⟩
    first
      | (rw [show (n == 0) = true from beq_iff_eq.mpr (by omega)]; rfl)
      | (rw [show (n == 0) = false from beq_eq_false_iff_ne.mpr (by omega)]; rfl)
  · skip
    refine wi_iconst hX dJx4a65c_isEmpty_aae02_7 ?_
    refine wa_goto hX (tgt := 12) dJx4a65c_isEmpty_aae02_8 (by decide) ?_
    refine wa_zret hX dJx4a65c_isEmpty_aae02_12 (by rfl) ?_
    refine ⟨?_, rfl⟩
    first
      | (rw [show (n == 0) = true from beq_iff_eq.mpr (by omega)]; rfl)
      | (rw [show (n == 0) = false from beq_eq_false_iff_ne.mpr (by omega)]; rfl)
set_option maxRecDepth 100000 in
theorem c_J3_checkIndex (hW : WOK l D S0) (d : Nat) {h : AH} {i n : Nat} (hi : i < n) (hn : n ≤ 1000) : MA l D S0 yJ3_checkIndex_8e157 cJ3_checkIndex_8e157 3 (some .int) d [I (i : Int), I (n : Int), .null] h 0 0 (fun r h' => r = some (I (i : Int)) ∧ h' = h) (fun _ _ => False) := by
  refine MA.startF hW (by decide +kernel) [.val (I (i : Int)), .val (I (n : Int)), .val .null] rfl ?_
  rintro X rfl rfl rfl hX
  refine wa_iload_n hX (i := 0) dJ3_checkIndex_8e157_0 rfl rfl ?_
  refine wi_if_lt hX (tgt := 9) dJ3_checkIndex_8e157_1 (by decide) (by omega) (fun c1 => ?_) (fun c1 => ?_)
  · skip
    exfalso; omega
  · skip
    refine wa_iload_n hX (i := 0) dJ3_checkIndex_8e157_4 rfl rfl ?_
    refine wa_iload_n hX (i := 1) dJ3_checkIndex_8e157_5 rfl rfl ?_
    refine wi_icmp_lt hX (tgt := 16) dJ3_checkIndex_8e157_6 (by decide) (by omega) (by omega) (fun c6 => ?_) (fun c6 => ?_)
    · skip
      refine wa_iload_n hX (i := 0) dJ3_checkIndex_8e157_16 rfl rfl ?_
      refine wa_iret hX dJ3_checkIndex_8e157_17 ?_
      exact ⟨rfl, rfl⟩
    · skip
      exfalso; omega
set_option maxRecDepth 100000 in
theorem c_J15_checkIndex (hW : WOK l D S0) (d : Nat) {h : AH} {i n : Nat} (hi : i < n) (hn : n ≤ 1000) : MA l D S0 yJ15_checkIndex_7cf53 cJ15_checkIndex_7cf53 2 (some .int) (d + 1) [I (i : Int), I (n : Int)] h 0 0 (fun r h' => r = some (I (i : Int)) ∧ h' = h) (fun _ _ => False) := by
  refine MA.startF hW (by decide +kernel) [.val (I (i : Int)), .val (I (n : Int))] rfl ?_
  rintro X rfl rfl rfl hX
  refine wa_iload_n hX (i := 0) dJ15_checkIndex_7cf53_0 rfl rfl ?_
  refine wa_iload_n hX (i := 1) dJ15_checkIndex_7cf53_1 rfl rfl ?_
  refine wa_null hX dJ15_checkIndex_7cf53_2 ?_
  refine wa_callS hX (c_J3_checkIndex hW d hi hn) (by rfl) (by omega) (nA := 3) (by rfl) (by decide +kernel) rfl (by exact Nat.le_of_ble_eq_true rfl) dJ15_checkIndex_7cf53_3 (fun r3 h3 p3 => ?_) (fun _ _ q => q.elim)
  obtain ⟨rfl, qq3⟩ := p3; subst h3
  dsimp only [Option.toList, List.cons_append, List.nil_append]
  refine wa_iret hX dJ15_checkIndex_7cf53_6 ?_
  exact ⟨rfl, rfl⟩
set_option maxRecDepth 100000 in
theorem c_AL_elementData (hW : WOK l D S0) (d : Nat) {h : AH} {a la ed le N : Nat} {mc n : Int} {f : Nat → Option Nat} {i q : Nat} (h1 : h a = some (la, oAL mc ed n)) (h2 : h ed = some (le, aR (.object "java/lang/Object") N f)) (hi : i < N) (hN : N ≤ 1000) (hf : f i = some q) : MA l D S0 yJx4a65c_elementData_915e3 cJx4a65c_elementData_915e3 2 (some (.object "java/lang/Object")) d [.ref a, I (i : Int)] h 0 0 (fun r h' => r = some (.ref q) ∧ h' = h) (fun _ _ => False) := by
  refine MA.startF hW (by decide +kernel) [.val (.ref a), .val (I (i : Int))] rfl ?_
  rintro X rfl rfl rfl hX
  refine wa_aload_n hX (i := 0) dJx4a65c_elementData_915e3_0 rfl rfl ?_
  refine wa_get hX 1 (by assumption) (by rfl) (by decide +kernel) dJx4a65c_elementData_915e3_1 ?_
  refine wa_iload_n hX (i := 1) dJx4a65c_elementData_915e3_4 rfl rfl ?_
  refine wi_aaload hX (by assumption) (by omega) (by omega) (by omega) dJx4a65c_elementData_915e3_5 ?_
  refine WA.eq (pc2 := 6) (st2 := [.ref q]) rfl rfl (by rw [Int.toNat_natCast, hf]; rfl) ?_
  refine wa_aretR hX dJx4a65c_elementData_915e3_6 (by first | exact Or.inl ⟨_, rfl⟩ | exact Or.inr ⟨_, rfl⟩) ?_
  exact ⟨rfl, rfl⟩
set_option maxRecDepth 100000 in
theorem c_AL_get (hW : WOK l D S0) (d : Nat) {h : AH} {a la ed le N n : Nat} {mc : Int} {f : Nat → Option Nat} {i q : Nat} (h1 : h a = some (la, oAL mc ed (n : Int))) (h2 : h ed = some (le, aR (.object "java/lang/Object") N f)) (hi : i < n) (hn : n ≤ N) (hN : N ≤ 1000) (hf : f i = some q) : MA l D S0 yJx4a65c_get_915e3 cJx4a65c_get_915e3 2 (some (.object "java/lang/Object")) (d + 2) [.ref a, I (i : Int)] h 0 0 (fun r h' => r = some (.ref q) ∧ h' = h) (fun _ _ => False) := by
  refine MA.startF hW (by decide +kernel) [.val (.ref a), .val (I (i : Int))] rfl ?_
  rintro X rfl rfl rfl hX
  refine wa_iload_n hX (i := 1) dJx4a65c_get_915e3_0 rfl rfl ?_
  refine wa_aload_n hX (i := 0) dJx4a65c_get_915e3_1 rfl rfl ?_
  refine wa_get hX 2 (by assumption) (by rfl) (by decide +kernel) dJx4a65c_get_915e3_2 ?_
  refine wa_callS hX (c_J15_checkIndex hW d hi (by omega)) (by rfl) (by omega) (nA := 2) (by rfl) (by decide +kernel) rfl (by exact Nat.le_of_ble_eq_true rfl) dJx4a65c_get_915e3_5 (fun r5 h5 p5 => ?_) (fun _ _ q => q.elim)
  obtain ⟨rfl, qq5⟩ := p5; subst h5
  dsimp only [Option.toList, List.cons_append, List.nil_append]
  refine wa_pop hX dJx4a65c_get_915e3_8 rfl ?_
  refine wa_aload_n hX (i := 0) dJx4a65c_get_915e3_9 rfl rfl ?_
  refine wa_iload_n hX (i := 1) dJx4a65c_get_915e3_10 rfl rfl ?_
  refine wa_callV hX (c_AL_elementData hW d h1 h2 (by omega) hN hf) (by assumption) (by rfl) (by rfl) (by omega) (nA := 1) (by rfl) (by decide +kernel) rfl (by exact Nat.le_of_ble_eq_true rfl) dJx4a65c_get_915e3_11 (fun r11 h11 p11 => ?_) (fun _ _ q => q.elim)
  obtain ⟨rfl, qq11⟩ := p11; subst h11
  dsimp only [Option.toList, List.cons_append, List.nil_append]
  refine wa_aretR hX dJx4a65c_get_915e3_14 (by first | exact Or.inl ⟨_, rfl⟩ | exact Or.inr ⟨_, rfl⟩) ?_
  exact ⟨rfl, rfl⟩
set_option maxRecDepth 100000 in
theorem c_X12_in (hW : WOK l D S0) (d : Nat) {h : AH} {v lo hi : Int} (h1 : inR v) (h2 : inR lo) (h3 : inR hi) : MA l D S0 yX12_in cX12_in 3 (some .boolean) d [I v, I lo, I hi] h 0 0 (fun r h' => r = some (I ((b2n (decide (lo ≤ v ∧ v ≤ hi)) : Nat) : Int)) ∧ h' = h) (fun _ _ => False) := by
  refine MA.start hW (by decide) [.val (I v), .val (I lo), .val (I hi)] rfl ?_
  rintro X rfl rfl rfl hX
  refine wa_iload_n hX (i := 0) dX12_in_0 rfl rfl ?_
  refine wa_iload_n hX (i := 1) dX12_in_1 rfl rfl ?_
  refine wi_icmp_lt hX (tgt := 14) dX12_in_2 (by decide) (by omega) (by omega) (fun c2 => ?_) (fun c2 => ?_)
  · skip
    refine wi_iconst hX dX12_in_14 ?_
    refine wa_zret hX dX12_in_15 (by rfl) ?_
    refine ⟨?_, rfl⟩
    first
      | (rw [decide_eq_true (by omega)]; rfl)
      | (rw [decide_eq_false (by omega)]; rfl)
  · skip
    refine wa_iload_n hX (i := 0) dX12_in_5 rfl rfl ?_
    refine wa_iload_n hX (i := 2) dX12_in_6 rfl rfl ?_
    refine wi_icmp_gt hX (tgt := 14) dX12_in_7 (by decide) (by omega) (by omega) (fun c7 => ?_) (fun c7 => ?_)
    · skip
      refine wi_iconst hX dX12_in_14 ?_
      refine wa_zret hX dX12_in_15 (by rfl) ?_
      refine ⟨?_, rfl⟩
      first
        | (rw [decide_eq_true (by omega)]; rfl)
        | (rw [decide_eq_false (by omega)]; rfl)
    · skip
      refine wi_iconst hX dX12_in_10 ?_
      refine wa_goto hX (tgt := 15) dX12_in_11 (by decide) ?_
      refine wa_zret hX dX12_in_15 (by rfl) ?_
      refine ⟨?_, rfl⟩
      first
        | (rw [decide_eq_true (by omega)]; rfl)
        | (rw [decide_eq_false (by omega)]; rfl)
set_option maxRecDepth 100000 in
theorem c_X12_thrown (hW : WOK l D S0) (d : Nat) {h : AH} {a la row brk al wk us kp pt : Nat} {th c : Int} (h1 : h a = some (la, oMod th c row brk al wk us kp pt)) : MA l D S0 yX12_thrown cX12_thrown 1 (some .int) d [.ref a] h 0 0 (fun r h' => r = some (I th) ∧ h' = h) (fun _ _ => False) := by
  refine MA.start hW (by decide) [.val (.ref a)] rfl ?_
  rintro X rfl rfl rfl hX
  refine wa_aload_n hX (i := 0) dX12_thrown_0 rfl rfl ?_
  refine wa_get hX 0 (by assumption) (by rfl) (by decide +kernel) dX12_thrown_1 ?_
  refine wa_iret hX dX12_thrown_4 ?_
  exact ⟨rfl, rfl⟩
set_option maxRecDepth 100000 in
theorem c_X12_fails (hW : WOK l D S0) (d : Nat) {h : AH} {a la row brk al wk us kp pt th k : Nat} {c : Int} {b : Bool} (h1 : h a = some (la, oMod (th : Int) c row brk al wk us kp pt)) (ht : th ≤ 10) (hk : 1 ≤ k ∧ k ≤ 10) : MA l D S0 yX12_fails cX12_fails 3 (some .boolean) d [.ref a, I ((b2n b : Nat) : Int), I (k : Int)] h 0 0 (fun r h' => r = some (I ((b2n (b || th != 0) : Nat) : Int)) ∧ h' = hset h a (la, oMod ((if b = true ∧ th = 0 then k else th : Nat) : Int) c row brk al wk us kp pt)) (fun _ _ => False) := by
  refine MA.start hW (by decide) [.val (.ref a), .val (I ((b2n b : Nat) : Int)), .val (I (k : Int))] rfl ?_
  rintro X rfl rfl rfl hX
  have t16 : ∀ t : Nat, t ≤ 10 → t = (if b = true ∧ th = 0 then k else th) → WA X (hset h a (la, oMod (t : Int) c row brk al wk us kp pt)) 0 0 16 [.val (.ref a), .val (I ((b2n b : Nat) : Int)), .val (I (k : Int))] [] := by
    intro t ht9 hte
    have w1 : hset h a (la, oMod (t : Int) c row brk al wk us kp pt) a = some (la, oMod (t : Int) c row brk al wk us kp pt) := hset_eq
    generalize hHz : hset h a (la, oMod (t : Int) c row brk al wk us kp pt) = Hz at w1 ⊢
    refine wa_aload_n hX (i := 0) dX12_fails_16 rfl rfl ?_
    refine wa_get hX 0 (by assumption) (by rfl) (by decide +kernel) dX12_fails_17 ?_
    refine wi_if_eq hX (tgt := 27) dX12_fails_20 (by decide) (by omega) (fun c20 => ?_) (fun c20 => ?_)
    · skip
      refine wi_iconst hX dX12_fails_27 ?_
      refine wa_zret hX dX12_fails_28 (by rfl) ?_
      refine ⟨?_, by rw [← hHz, hte]⟩
      cases b
      · rw [if_neg (by intro z; exact Bool.false_ne_true z.1)] at hte
        first
          | (rw [show (th != 0) = true from bne_iff_ne.mpr (by omega)]; rfl)
          | (rw [show (th != 0) = false from by rw [bne_eq_false_iff_eq]; omega]; rfl)
      · first
          | rfl
          | (exfalso
             by_cases z : th = 0
             · rw [if_pos ⟨rfl, z⟩] at hte; omega
             · rw [if_neg (fun q => z q.2)] at hte; omega)
    · skip
      refine wi_iconst hX dX12_fails_23 ?_
      refine wa_goto hX (tgt := 28) dX12_fails_24 (by decide) ?_
      refine wa_zret hX dX12_fails_28 (by rfl) ?_
      refine ⟨?_, by rw [← hHz, hte]⟩
      cases b
      · rw [if_neg (by intro z; exact Bool.false_ne_true z.1)] at hte
        first
          | (rw [show (th != 0) = true from bne_iff_ne.mpr (by omega)]; rfl)
          | (rw [show (th != 0) = false from by rw [bne_eq_false_iff_eq]; omega]; rfl)
      · first
          | rfl
          | (exfalso
             by_cases z : th = 0
             · rw [if_pos ⟨rfl, z⟩] at hte; omega
             · rw [if_neg (fun q => z q.2)] at hte; omega)
  refine wa_iload_n hX (i := 1) dX12_fails_0 rfl rfl ?_
  refine wi_if_eq hX (tgt := 16) dX12_fails_1 (by decide) (by exact b2n_inR _) (fun c1 => ?_) (fun c1 => ?_)
  · skip
    first
      | (have q := b2n_f c1
         exact WA.heap (hset_self h1).symm (t16 th (by omega) (by rw [if_neg (by intro z; rw [q] at z; exact Bool.false_ne_true z.1)])))
      | exact WA.heap (hset_self h1).symm (t16 th (by omega) (by rw [if_neg (by intro z; exact c8 (by rw [z.2]; rfl))]))
      | (have q := b2n_t c1
         exact t16 k (by omega) (by rw [if_pos ⟨q, by omega⟩]))
  · skip
    refine wa_aload_n hX (i := 0) dX12_fails_4 rfl rfl ?_
    refine wa_get hX 0 (by assumption) (by rfl) (by decide +kernel) dX12_fails_5 ?_
    refine wi_if_ne hX (tgt := 16) dX12_fails_8 (by decide) (by omega) (fun c8 => ?_) (fun c8 => ?_)
    · skip
      first
        | (have q := b2n_f c1
           exact WA.heap (hset_self h1).symm (t16 th (by omega) (by rw [if_neg (by intro z; rw [q] at z; exact Bool.false_ne_true z.1)])))
        | exact WA.heap (hset_self h1).symm (t16 th (by omega) (by rw [if_neg (by intro z; exact c8 (by rw [z.2]; rfl))]))
        | (have q := b2n_t c1
           exact t16 k (by omega) (by rw [if_pos ⟨q, by omega⟩]))
    · skip
      refine wa_aload_n hX (i := 0) dX12_fails_11 rfl rfl ?_
      refine wa_iload_n hX (i := 2) dX12_fails_12 rfl rfl ?_
      refine wa_put hX 0 h1 (Nat.le_of_ble_eq_true rfl) (by decide +kernel) (by rfl) (by rfl) (by rfl) dX12_fails_13 ?_
      refine WA.heap (h2 := hset h a (la, oMod (k : Int) c row brk al wk us kp pt)) rfl ?_
      first
        | (have q := b2n_f c1
           exact WA.heap (hset_self h1).symm (t16 th (by omega) (by rw [if_neg (by intro z; rw [q] at z; exact Bool.false_ne_true z.1)])))
        | exact WA.heap (hset_self h1).symm (t16 th (by omega) (by rw [if_neg (by intro z; exact c8 (by rw [z.2]; rfl))]))
        | (have q := b2n_t c1
           exact t16 k (by omega) (by rw [if_pos ⟨q, by omega⟩]))
set_option maxRecDepth 100000 in
theorem c_X12_no (hW : WOK l D S0) (d : Nat) {h : AH} {a la row brk al wk us kp pt lal ed m : Nat} {th c mc : Int} (h1 : h a = some (la, oMod th c row brk al wk us kp pt)) (h2 : h al = some (lal, oAL mc ed (m : Int))) (hm : m ≤ 24) {n : Int} (hn : inR n) : MA l D S0 yX12_no cX12_no 2 (some .boolean) (d + 1) [.ref a, I n] h 0 0 (fun r h' => r = some (I ((b2n (!decide (0 ≤ n ∧ n < (m : Int))) : Nat) : Int)) ∧ h' = h) (fun _ _ => False) := by
  refine MA.start hW (by decide) [.val (.ref a), .val (I n)] rfl ?_
  rintro X rfl rfl rfl hX
  refine wa_iload_n hX (i := 1) dX12_no_0 rfl rfl ?_
  refine wi_iconst hX dX12_no_1 ?_
  refine wa_aload_n hX (i := 0) dX12_no_2 rfl rfl ?_
  refine wa_get hX 4 (by assumption) (by rfl) (by decide +kernel) dX12_no_3 ?_
  refine wa_callV hX (c_AL_size hW d h2) (by assumption) (by rfl) (by rfl) (by omega) (nA := 0) (by rfl) (by decide +kernel) rfl (by exact Nat.le_of_ble_eq_true rfl) dX12_no_6 (fun r6 h6 p6 => ?_) (fun _ _ q => q.elim)
  obtain ⟨rfl, qq6⟩ := p6; subst h6
  dsimp only [Option.toList, List.cons_append, List.nil_append]
  refine wi_iconst hX dX12_no_9 ?_
  refine wi_isub hX dX12_no_10 ?_
  refine wa_callS hX (c_X12_in hW d (v := n) (lo := 0) (hi := (m : Int) - 1) hn (by omega) (by omega)) (by rfl) (by omega) (nA := 3) (by rfl) (by decide +kernel) rfl (by exact Nat.le_of_ble_eq_true rfl) dX12_no_11 (fun r11 h11 p11 => ?_) (fun _ _ q => q.elim)
  obtain ⟨rfl, qq11⟩ := p11; subst h11
  dsimp only [Option.toList, List.cons_append, List.nil_append]
  refine wi_if_ne hX (tgt := 21) dX12_no_14 (by decide) (by exact b2n_inR _) (fun c14 => ?_) (fun c14 => ?_)
  · skip
    refine wi_iconst hX dX12_no_21 ?_
    refine wa_zret hX dX12_no_22 (by rfl) ?_
    refine ⟨?_, rfl⟩
    have e : decide ((0 : Int) ≤ n ∧ n ≤ (m : Int) - 1) = decide (0 ≤ n ∧ n < (m : Int)) := decide_eq_decide.mpr (by omega)
    rw [e] at c14
    first
      | (have q := b2n_t c14; rw [q]; rfl)
      | (have q := b2n_f c14; rw [q]; rfl)
  · skip
    refine wi_iconst hX dX12_no_17 ?_
    refine wa_goto hX (tgt := 22) dX12_no_18 (by decide) ?_
    refine wa_zret hX dX12_no_22 (by rfl) ?_
    refine ⟨?_, rfl⟩
    have e : decide ((0 : Int) ≤ n ∧ n ≤ (m : Int) - 1) = decide (0 ≤ n ∧ n < (m : Int)) := decide_eq_decide.mpr (by omega)
    rw [e] at c14
    first
      | (have q := b2n_t c14; rw [q]; rfl)
      | (have q := b2n_f c14; rw [q]; rfl)
set_option maxRecDepth 100000 in
theorem c_X12_noElement (hW : WOK l D S0) (d : Nat) {h : AH} {a la row brk al wk us kp pt lal ed le N m : Nat} {th c mc : Int} {P : Nat → Nat} (h1 : h a = some (la, oMod th c row brk al wk us kp pt)) (h2 : h al = some (lal, oAL mc ed (m : Int))) (h3 : m = 0 ∨ (h ed = some (le, aR (.object "java/lang/Object") N (fun j => if j < m then some (P j) else none)) ∧ m ≤ N ∧ N ≤ 100)) (hm : m ≤ 24) {E : Nat → Nat} (h4 : ∀ j, j < m → ∃ lp rq m2 m3 l2 l3, h (P j) = some (lp, oRef (E j) rq m2 m3 l2 l3)) (hE : ∀ j, j < m → E j ≤ 10) {n el : Int} (hn : inR n) (hl : inR el) : MA l D S0 yX12_noElement cX12_noElement 3 (some .boolean) (d + 3) [.ref a, I n, I el] h 0 0 (fun r h' => h' = h ∧ ((¬ (0 ≤ n ∧ n < (m : Int)) ∧ r = some (I 1)) ∨ ∃ i, i < m ∧ n = (i : Int) ∧ r = some (I ((b2n (!decide (0 ≤ el ∧ el < ((E i : Nat) : Int))) : Nat) : Int)))) (fun _ _ => False) := by
  refine MA.start hW (by decide) [.val (.ref a), .val (I n), .val (I el)] rfl ?_
  rintro X rfl rfl rfl hX
  refine wa_aload_n hX (i := 0) dX12_noElement_0 rfl rfl ?_
  refine wa_iload_n hX (i := 1) dX12_noElement_1 rfl rfl ?_
  refine wa_callV hX (c_X12_no hW (d + 1) h1 h2 hm hn) (by assumption) (by rfl) (by rfl) (by omega) (nA := 1) (by rfl) (by decide +kernel) rfl (by exact Nat.le_of_ble_eq_true rfl) dX12_noElement_2 (fun r2 h2 p2 => ?_) (fun _ _ q => q.elim)
  obtain ⟨rfl, qq2⟩ := p2; subst h2
  dsimp only [Option.toList, List.cons_append, List.nil_append]
  refine wi_if_ne hX (tgt := 32) dX12_noElement_5 (by decide) (by exact b2n_inR _) (fun c5 => ?_) (fun c5 => ?_)
  · skip
    refine wi_iconst hX dX12_noElement_32 ?_
    refine wa_goto hX (tgt := 37) dX12_noElement_33 (by decide) ?_
    refine wa_zret hX dX12_noElement_37 (by rfl) ?_
    first
      | (have z := b2n_t c5
         rw [Bool.not_eq_true', decide_eq_false_iff_not] at z
         exact ⟨rfl, Or.inl ⟨z, rfl⟩⟩)
      | (have e : decide ((0 : Int) ≤ el ∧ el ≤ (E i : Int) - 1) = decide (0 ≤ el ∧ el < ((E i : Nat) : Int)) := decide_eq_decide.mpr (by omega)
         rw [e] at c29
         refine ⟨rfl, Or.inr ⟨i, hi, rfl, ?_⟩⟩
         first
           | (have q := b2n_t c29; rw [q]; rfl)
           | (have q := b2n_f c29; rw [q]; rfl))
  · skip
    have hv := b2n_f c5
    rw [Bool.not_eq_false', decide_eq_true_eq] at hv
    obtain ⟨i, rfl⟩ := Int.eq_ofNat_of_zero_le hv.1
    have hi : i < m := by omega
    obtain ⟨e3, hN1, hN2⟩ : h ed = some (le, aR (.object "java/lang/Object") N (fun j => if j < m then some (P j) else none)) ∧ m ≤ N ∧ N ≤ 100 := by
      rcases h3 with z | z
      · exfalso; omega
      · exact z
    obtain ⟨lp, rq, m2, m3, l2, l3, g1⟩ := h4 i hi
    have hEi := hE i hi
    refine wa_iload_n hX (i := 2) dX12_noElement_8 rfl rfl ?_
    refine wi_iconst hX dX12_noElement_9 ?_
    refine wa_aload_n hX (i := 0) dX12_noElement_10 rfl rfl ?_
    refine wa_get hX 4 (by assumption) (by rfl) (by decide +kernel) dX12_noElement_11 ?_
    refine wa_iload_n hX (i := 1) dX12_noElement_14 rfl rfl ?_
    refine wa_callV hX (c_AL_get hW d h2 e3 (i := i) (q := P i) hi hN1 (by omega) (if_pos hi)) (by assumption) (by rfl) (by rfl) (by omega) (nA := 1) (by rfl) (by decide +kernel) rfl (by exact Nat.le_of_ble_eq_true rfl) dX12_noElement_15 (fun r15 h15 p15 => ?_) (fun _ _ q => q.elim)
    obtain ⟨rfl, qq15⟩ := p15; subst h15
    dsimp only [Option.toList, List.cons_append, List.nil_append]
    refine wa_ccast hX g1 (by rfl) (by decide +kernel) dX12_noElement_18 ?_
    refine wa_get hX 0 (by assumption) (by rfl) (by decide +kernel) dX12_noElement_21 ?_
    refine wi_iconst hX dX12_noElement_24 ?_
    refine wi_isub hX dX12_noElement_25 ?_
    refine wa_callS hX (c_X12_in hW d (v := el) (lo := 0) (hi := (E i : Int) - 1) hl (by omega) (by omega)) (by rfl) (by omega) (nA := 3) (by rfl) (by decide +kernel) rfl (by exact Nat.le_of_ble_eq_true rfl) dX12_noElement_26 (fun r26 h26 p26 => ?_) (fun _ _ q => q.elim)
    obtain ⟨rfl, qq26⟩ := p26; subst h26
    dsimp only [Option.toList, List.cons_append, List.nil_append]
    refine wi_if_ne hX (tgt := 36) dX12_noElement_29 (by decide) (by exact b2n_inR _) (fun c29 => ?_) (fun c29 => ?_)
    · skip
      refine wi_iconst hX dX12_noElement_36 ?_
      refine wa_zret hX dX12_noElement_37 (by rfl) ?_
      first
        | (have z := b2n_t c5
           rw [Bool.not_eq_true', decide_eq_false_iff_not] at z
           exact ⟨rfl, Or.inl ⟨z, rfl⟩⟩)
        | (have e : decide ((0 : Int) ≤ el ∧ el ≤ (E i : Int) - 1) = decide (0 ≤ el ∧ el < ((E i : Nat) : Int)) := decide_eq_decide.mpr (by omega)
           rw [e] at c29
           refine ⟨rfl, Or.inr ⟨i, hi, rfl, ?_⟩⟩
           first
             | (have q := b2n_t c29; rw [q]; rfl)
             | (have q := b2n_f c29; rw [q]; rfl))
    · skip
      refine wi_iconst hX dX12_noElement_32 ?_
      refine wa_goto hX (tgt := 37) dX12_noElement_33 (by decide) ?_
      refine wa_zret hX dX12_noElement_37 (by rfl) ?_
      first
        | (have z := b2n_t c5
           rw [Bool.not_eq_true', decide_eq_false_iff_not] at z
           exact ⟨rfl, Or.inl ⟨z, rfl⟩⟩)
        | (have e : decide ((0 : Int) ≤ el ∧ el ≤ (E i : Int) - 1) = decide (0 ≤ el ∧ el < ((E i : Nat) : Int)) := decide_eq_decide.mpr (by omega)
           rw [e] at c29
           refine ⟨rfl, Or.inr ⟨i, hi, rfl, ?_⟩⟩
           first
             | (have q := b2n_t c29; rw [q]; rfl)
             | (have q := b2n_f c29; rw [q]; rfl))
set_option maxRecDepth 100000 in
theorem c_X12_noSet (hW : WOK l D S0) (d : Nat) {h : AH} {a la row brk al wk us kp pt lal ed le N m : Nat} {th c mc : Int} {P : Nat → Nat} (h1 : h a = some (la, oMod th c row brk al wk us kp pt)) (h2 : h al = some (lal, oAL mc ed (m : Int))) (e3 : h ed = some (le, aR (.object "java/lang/Object") N (fun j => if j < m then some (P j) else none))) (hN1 : m ≤ N) (hN2 : N ≤ 100) {e i lp rq : Nat} {m2 m3 : Value} {l2 l3 : Int} (hi : i < m) (g1 : h (P i) = some (lp, oRef e rq m2 m3 l2 l3)) (he : e ≤ 10) {s : Int} (hs : inR s) : MA l D S0 yX12_noSet cX12_noSet 3 (some .boolean) (d + 3) [.ref a, I (i : Int), I s] h 0 0 (fun r h' => r = some (I ((b2n (!decide (0 ≤ s ∧ s < ((2 ^ e : Nat) : Int))) : Nat) : Int)) ∧ h' = h) (fun _ _ => False) := by
  have hp := p2_le he
  have hp0 := p2_pos e
  refine MA.start hW (by decide) [.val (.ref a), .val (I (i : Int)), .val (I s)] rfl ?_
  rintro X rfl rfl rfl hX
  refine wa_iload_n hX (i := 2) dX12_noSet_0 rfl rfl ?_
  refine wi_iconst hX dX12_noSet_1 ?_
  refine wa_aload_n hX (i := 0) dX12_noSet_2 rfl rfl ?_
  refine wa_get hX 4 (by assumption) (by rfl) (by decide +kernel) dX12_noSet_3 ?_
  refine wa_iload_n hX (i := 1) dX12_noSet_6 rfl rfl ?_
  refine wa_callV hX (c_AL_get hW d h2 e3 (i := i) (q := P i) hi hN1 (by omega) (if_pos hi)) (by assumption) (by rfl) (by rfl) (by omega) (nA := 1) (by rfl) (by decide +kernel) rfl (by exact Nat.le_of_ble_eq_true rfl) dX12_noSet_7 (fun r7 h7 p7 => ?_) (fun _ _ q => q.elim)
  obtain ⟨rfl, qq7⟩ := p7; subst h7
  dsimp only [Option.toList, List.cons_append, List.nil_append]
  refine wa_ccast hX g1 (by rfl) (by decide +kernel) dX12_noSet_10 ?_
  refine wa_callV hX (c_X11_full hW d g1 he) (by assumption) (by rfl) (by rfl) (by omega) (nA := 0) (by rfl) (by decide +kernel) rfl (by exact Nat.le_of_ble_eq_true rfl) dX12_noSet_13 (fun r13 h13 p13 => ?_) (fun _ _ q => q.elim)
  obtain ⟨rfl, qq13⟩ := p13; subst h13
  dsimp only [Option.toList, List.cons_append, List.nil_append]
  refine wa_callS hX (c_X12_in hW d (v := s) (lo := 0) (hi := ((2 ^ e - 1 : Nat) : Int)) hs (by omega) (by omega)) (by rfl) (by omega) (nA := 3) (by rfl) (by decide +kernel) rfl (by exact Nat.le_of_ble_eq_true rfl) dX12_noSet_16 (fun r16 h16 p16 => ?_) (fun _ _ q => q.elim)
  obtain ⟨rfl, qq16⟩ := p16; subst h16
  dsimp only [Option.toList, List.cons_append, List.nil_append]
  refine wi_if_ne hX (tgt := 26) dX12_noSet_19 (by decide) (by exact b2n_inR _) (fun c19 => ?_) (fun c19 => ?_)
  · skip
    refine wi_iconst hX dX12_noSet_26 ?_
    refine wa_zret hX dX12_noSet_27 (by rfl) ?_
    refine ⟨?_, rfl⟩
    have e9 : decide ((0 : Int) ≤ s ∧ s ≤ ((2 ^ e - 1 : Nat) : Int)) = decide (0 ≤ s ∧ s < ((2 ^ e : Nat) : Int)) := decide_eq_decide.mpr (by omega)
    rw [e9] at c19
    first
      | (have q := b2n_t c19; rw [q]; rfl)
      | (have q := b2n_f c19; rw [q]; rfl)
  · skip
    refine wi_iconst hX dX12_noSet_22 ?_
    refine wa_goto hX (tgt := 27) dX12_noSet_23 (by decide) ?_
    refine wa_zret hX dX12_noSet_27 (by rfl) ?_
    refine ⟨?_, rfl⟩
    have e9 : decide ((0 : Int) ≤ s ∧ s ≤ ((2 ^ e - 1 : Nat) : Int)) = decide (0 ≤ s ∧ s < ((2 ^ e : Nat) : Int)) := decide_eq_decide.mpr (by omega)
    rw [e9] at c19
    first
      | (have q := b2n_t c19; rw [q]; rfl)
      | (have q := b2n_f c19; rw [q]; rfl)
set_option maxRecDepth 100000 in
theorem c_X12_areUnlike (hW : WOK l D S0) (d : Nat) {h : AH} {a la row brk al wk us kp pt lal ed le N m : Nat} {th c mc : Int} {P : Nat → Nat} (h1 : h a = some (la, oMod th c row brk al wk us kp pt)) (h2 : h al = some (lal, oAL mc ed (m : Int))) (e3 : h ed = some (le, aR (.object "java/lang/Object") N (fun j => if j < m then some (P j) else none))) (hN1 : m ≤ N) (hN2 : N ≤ 100) {e i lp rq e' j lp' rq' : Nat} {m2 m3 m2' m3' : Value} {l2 l3 l2' l3' : Int} (hi : i < m) (g1 : h (P i) = some (lp, oRef e rq m2 m3 l2 l3)) (he : e ≤ 10) (hj : j < m) (g2 : h (P j) = some (lp', oRef e' rq' m2' m3' l2' l3')) (he' : e' ≤ 10) : MA l D S0 yX12_areUnlike cX12_areUnlike 3 (some .boolean) (d + 3) [.ref a, I (i : Int), I (j : Int)] h 0 0 (fun r h' => r = some (I ((b2n (e != e') : Nat) : Int)) ∧ h' = h) (fun _ _ => False) := by
  refine MA.start hW (by decide) [.val (.ref a), .val (I (i : Int)), .val (I (j : Int))] rfl ?_
  rintro X rfl rfl rfl hX
  refine wa_aload_n hX (i := 0) dX12_areUnlike_0 rfl rfl ?_
  refine wa_get hX 4 (by assumption) (by rfl) (by decide +kernel) dX12_areUnlike_1 ?_
  refine wa_iload_n hX (i := 1) dX12_areUnlike_4 rfl rfl ?_
  refine wa_callV hX (c_AL_get hW d h2 e3 (i := i) (q := P i) hi hN1 (by omega) (if_pos hi)) (by assumption) (by rfl) (by rfl) (by omega) (nA := 1) (by rfl) (by decide +kernel) rfl (by exact Nat.le_of_ble_eq_true rfl) dX12_areUnlike_5 (fun r5 h5 p5 => ?_) (fun _ _ q => q.elim)
  obtain ⟨rfl, qq5⟩ := p5; subst h5
  dsimp only [Option.toList, List.cons_append, List.nil_append]
  refine wa_ccast hX g1 (by rfl) (by decide +kernel) dX12_areUnlike_8 ?_
  refine wa_get hX 0 g1 (by rfl) (by decide +kernel) dX12_areUnlike_11 ?_
  refine wa_aload_n hX (i := 0) dX12_areUnlike_14 rfl rfl ?_
  refine wa_get hX 4 (by assumption) (by rfl) (by decide +kernel) dX12_areUnlike_15 ?_
  refine wa_iload_n hX (i := 2) dX12_areUnlike_18 rfl rfl ?_
  refine wa_callV hX (c_AL_get hW d h2 e3 (i := j) (q := P j) hj hN1 (by omega) (if_pos hj)) (by assumption) (by rfl) (by rfl) (by omega) (nA := 1) (by rfl) (by decide +kernel) rfl (by exact Nat.le_of_ble_eq_true rfl) dX12_areUnlike_19 (fun r19 h19 p19 => ?_) (fun _ _ q => q.elim)
  obtain ⟨rfl, qq19⟩ := p19; subst h19
  dsimp only [Option.toList, List.cons_append, List.nil_append]
  refine wa_ccast hX g2 (by rfl) (by decide +kernel) dX12_areUnlike_22 ?_
  refine wa_get hX 0 g2 (by rfl) (by decide +kernel) dX12_areUnlike_25 ?_
  refine wi_icmp_eq hX (tgt := 35) dX12_areUnlike_28 (by decide) (by omega) (by omega) (fun c28 => ?_) (fun c28 => ?_)
  · skip
    refine wi_iconst hX dX12_areUnlike_35 ?_
    refine wa_zret hX dX12_areUnlike_36 (by rfl) ?_
    refine ⟨?_, rfl⟩
    first
      | (rw [show (e != e') = true from bne_iff_ne.mpr (by omega)]; rfl)
      | (rw [show (e != e') = false from by rw [bne_eq_false_iff_eq]; omega]; rfl)
  · skip
    refine wi_iconst hX dX12_areUnlike_31 ?_
    refine wa_goto hX (tgt := 36) dX12_areUnlike_32 (by decide) ?_
    refine wa_zret hX dX12_areUnlike_36 (by rfl) ?_
    refine ⟨?_, rfl⟩
    first
      | (rw [show (e != e') = true from bne_iff_ne.mpr (by omega)]; rfl)
      | (rw [show (e != e') = false from by rw [bne_eq_false_iff_eq]; omega]; rfl)
end C79
