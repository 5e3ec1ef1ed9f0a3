/-! The house (X10): isomorphisms, symmetries, minors -/
/-- what the pair's search left -/
def PairAt (h : AH) (a : Nat) (E : Nat → Nat) (R : Nat → Nat → Nat) (i j : Nat) (v : Bool) : Prop := ∃ (row kept tb cb pr inn mn : Nat) (mm pf ps pa so : Int), h a = some (10, .inr (11, [.ref row, .ref kept, I mm, .ref tb, .ref cb, .ref pr, .ref inn, .ref mn, I pf, I ps, I pa, I so])) ∧ ∃ (r : Nat → Nat) (e n : Int) (F : Nat → Int) (C W Im : Nat → Nat) (P Q : Nat → Int32), LikS h pr 50 r e n F C W Im P Q ∧ AlkP (R i) (E i) (R j) (E j) v Im
theorem MatI.hset {h : AH} {p e b la : Nat} {rk : Nat → Nat} {b2 b3 : Bool} {oa : Ob} {x : Nat × Ob} (q : MatI h p e rk b2 b3) (hb : h b = some (la, oa)) (n1 : la ≠ 2) (n2 : la ≠ 25) (ne : p ≠ b) : MatI (hset h b x) p e rk b2 b3 := by
  obtain ⟨rq, hq, tq, sym, v2, v3, q1, q2, q3, q4, q5, q6, q7⟩ := q
  have dr : ∀ {f0 : Nat} {bb : Bool} {v : Value}, DraI h p e rk f0 bb v → DraI (Jvm.Pilot.CCircuitfoldLaw_law_r1122_60d9a8.hset h b x) p e rk f0 bb v := fun {f0 bb v} z => by
    rcases z with z | ⟨z0, qd, jq, kq, bq, nq, cq, c2, r2, p2, rc, tr, z1, z2, z3, z4, z5, z6⟩
    · exact Or.inl z
    · exact Or.inr ⟨z0, qd, jq, kq, bq, nq, cq, c2, r2, p2, rc, tr, z1, hset_lab hb z2 (Ne.symm n2), hset_lab hb z3 (Ne.symm n1), hset_lab hb z4 (Ne.symm n1), fun j hj => hset_lab hb (z5 j hj) (Ne.symm n1), z6⟩
  exact ⟨rq, hq, tq, sym, v2, v3, (hset_ne ne).trans q1, hset_lab hb q2 (Ne.symm n1), hset_lab hb q3 (Ne.symm n1), hset_lab hb q4 (Ne.symm n1), q5, dr q6, dr q7⟩
theorem cimN_1 {P Q : Nat → Int32} {C W : Nat → Nat} {e el : Nat} {Im : Nat → Nat} : ∀ t, (cimN P Q C W e el Im t).1 ≤ t + 1 := by
  intro t
  induction t with
  | zero => exact Nat.le_refl 1
  | succ t ih =>
    unfold cimN
    split
    · dsimp only
      have : ∀ b : Bool, b2n b ≤ 1 := fun b => by cases b <;> decide
      have := this (plcN P Q C W e (e - (el + 1)) (el + 1) ((2 ^ el - 1) ||| 2 ^ (el + 1 + t)) (putN (cimN P Q C W e el Im t).2 el (el + 1 + t))).1
      omega
    · omega
def dfac (e : Nat) : Nat → Nat
  | 0 => 1
  | k + 1 => dfac e k * (e - k)
theorem dfac_le : ∀ e, e < 11 → dfac e e ≤ 3628800 := by decide +kernel
theorem symN_1 {P Q : Nat → Int32} {C W : Nat → Nat} {e : Nat} {Im : Nat → Nat} : ∀ k, k ≤ e → (symN P Q C W e Im k).1 ≤ dfac e k := by
  intro k
  induction k with
  | zero => intro _; exact Nat.le_refl 1
  | succ k ih =>
    intro hk
    have h1 := ih (by omega)
    have h2 := cimN_1 (P := P) (Q := Q) (C := C) (W := W) (e := e) (el := k) (Im := (symN P Q C W e Im k).2) (e - (k + 1))
    show (symN P Q C W e Im k).1 * (cimN P Q C W e k (symN P Q C W e Im k).2 (e - (k + 1))).1 ≤ dfac e k * (e - k)
    exact Nat.mul_le_mul h1 (by omega)
theorem symb_le {rk : Nat → Nat} {e sym : Nat} (he : e ≤ 10) (h : sym = 0 ∨ SymP rk e sym) : sym ≤ 2000000000 := by
  rcases h with h | ⟨C, W, Im, P, -, h⟩
  · omega
  · have h1 := symN_1 (P := prgS (sortN rk e) W P e) (Q := prfS (sortN rk e) W e) (C := cntS (sortN rk e) W C e) (W := wntS (sortN rk e) W e) (e := e) (Im := Im) e (Nat.le_refl e)
    have h2 := dfac_le e (by omega)
    rw [h]
    omega
section C73
variable {l : Launch} {D : va_G} {S0 : State}
set_option maxHeartbeats 4000000 in
set_option maxRecDepth 100000 in
theorem c_X10_areAlike (hW : WOK l D S0) (d : Nat) {h : AH} {a : Nat} {w : Nat → Nat} {c m : Nat} {E : Nat → Nat} {R : Nat → Nat → Nat} {br bf bs be : Int} {D2 D3 : Nat → Bool} {so : Nat} (hI : HI h a w c m E R br bf bs be D2 D3 so) {n n2 : Int} (hn : inR n) (hn2 : inR n2) : MA l D S0 yX10_areAlike cX10_areAlike 5 (some .boolean) (d + 13) [.ref a, I n, I n2] h 4 24 (fun r h' => ∃ (i j : Nat) (v : Bool), i < m ∧ n = (i : Int) ∧ j < m ∧ n2 = (j : Int) ∧ r = some (I ((b2n v : Nat) : Int)) ∧ HI h' a w c m E R br bf bs be D2 D3 so ∧ Fr HF h h' ∧ PairAt h' a E R i j v) (fun E' h' => h' = h ∧ (noM n m ∨ noM n2 m) ∧ E' = eIOO) := by
  obtain ⟨⟨hc60, hw, hm24, hso, hbr, hD, hMt⟩, row, kept, tb, cb, pr, inn, mn, pf, ps, pa, x1, x2, x3, x4, P, k1, kR, k3, kT, kC, kP, kL, kM, kI, kMat⟩ := id hI
  have hpfs : inR pf ∧ inR ps ∧ (pa = 0 ∨ pa = 1) := by
    rcases id kP with ⟨q1, q2, q3, -⟩ | ⟨i', j', v, _, _, _, _, _, _, _, _, _, w1, w2, w3, w4, w5, -⟩
    · exact ⟨by omega, by omega, q3⟩
    · refine ⟨by omega, by omega, ?_⟩
      cases v
      · exact Or.inl w5
      · exact Or.inr w5
  refine MA.start hW (by decide) [.val (.ref a), .val (I n), .val (I n2), .unset, .unset] rfl ?_
  rintro X rfl rfl rfl hX
  refine wa_aload_n hX (i := 0) dX10_areAlike_0 rfl rfl ?_
  refine wa_iload_n hX (i := 1) dX10_areAlike_1 rfl rfl ?_
  refine wa_callV hX (c_X10_find hW d k1 k3 hm24 hn) (by assumption) (by rfl) (by rfl) (by omega) (nA := 1) (by rfl) (by decide +kernel) rfl (by exact Nat.le_of_ble_eq_true rfl) dX10_areAlike_2 (fun r2 h2 p2 => ?_) (fun E' h' q => ⟨q.2.1, Or.inl q.2.2, q.1⟩)
  obtain ⟨hq2, i, hi, rfl, rfl⟩ := p2
  subst h2
  obtain ⟨rq, hq, tq, sym, v2, v3, g1, g2, g3, g4, g5, g6, g7⟩ := id (kMat i hi)
  have hMi := hMt i hi
  have he := hMi.1
  have hp := p2_le he
  have hp0 := p2_pos (E i)
  dsimp only [Option.toList, List.cons_append, List.nil_append]
  refine wa_astore_n hX (i := 3) dX10_areAlike_5 rfl rfl ?_
  dsimp only [List.set]
  refine wa_aload_n hX (i := 0) dX10_areAlike_6 rfl rfl ?_
  refine wa_iload_n hX (i := 2) dX10_areAlike_7 rfl rfl ?_
  refine wa_callV hX (c_X10_find hW d k1 k3 hm24 hn2) (by assumption) (by rfl) (by rfl) (by omega) (nA := 1) (by rfl) (by decide +kernel) rfl (by exact Nat.le_of_ble_eq_true rfl) dX10_areAlike_8 (fun r8 h8 p8 => ?_) (fun E' h' q => ⟨q.2.1, Or.inr q.2.2, q.1⟩)
  obtain ⟨hq8, j, hj, rfl, rfl⟩ := p8
  subst h8
  obtain ⟨rq', hq', tq', sym', v2', v3', y1, y2, y3, y4, y5, y6, y7⟩ := id (kMat j hj)
  have hMj := hMt j hj
  have hej := hMj.1
  dsimp only [Option.toList, List.cons_append, List.nil_append]
  refine wa_astore hX dX10_areAlike_11 rfl ?_
  dsimp only [List.set]
  have t29 : WA X h 2 12 29 [.val (.ref a), .val (I (i : Int)), .val (I (j : Int)), .val (.ref (P i)), .val (.ref (P j))] [] := by
    obtain ⟨r0, e0, n0, F, C, W, Im, Pq, Q, hL⟩ : LikI h pr 50 := by
      rcases id kP with ⟨-, -, -, q⟩ | ⟨_, _, _, r0, e0, n0, F, C, W, Im, Pq, Q, _, _, _, _, _, w6, -⟩
      · exact q
      · exact ⟨r0, e0, n0, F, C, W, Im, Pq, Q, w6⟩
    obtain ⟨l0, l1, l2, l3, l4, l5, l6, lC, lW, lI, lI0⟩ := id hL
    refine wa_aload_n hX (i := 0) dX10_areAlike_29 rfl rfl ?_
    refine wa_get hX 5 (by assumption) (by rfl) (by decide +kernel) dX10_areAlike_30 ?_
    refine wa_aload hX dX10_areAlike_33 rfl ?_
    refine wa_callV hX (c_X5_lookFor hW d l0 l3 l6 y1 y4 (by decide) (by decide) (by decide) (by decide) hej (fun j _ => sortN_lt _ _ j)) (by assumption) (by rfl) (by rfl) (by omega) (nA := 1) (by rfl) (by decide +kernel) rfl (by exact Nat.le_of_ble_eq_true rfl) dX10_areAlike_35 (fun r35 h35 p35 => ?_) (fun _ _ q => q.elim)
    obtain ⟨rfl, u1, u2, u3, u4⟩ := p35
    obtain ⟨hL35, f35⟩ := c_X5_look hW d hL y1 y4 (by decide) (by decide) hej (fun j _ => sortN_lt _ _ j) u1 u2 u3 u4
    have a1 := f35 _ _ _ k1 (by omega)
    have z1 := f35 _ _ _ g1 (by omega)
    have z4 := f35 _ _ _ g4 (by omega)
    have l35 := hL35.1
    dsimp only [Option.toList, List.cons_append, List.nil_append]
    refine wa_aload_n hX (i := 0) dX10_areAlike_38 rfl rfl ?_
    refine wa_aload_n hX (i := 0) dX10_areAlike_39 rfl rfl ?_
    refine wa_get hX 5 (by assumption) (by rfl) (by decide +kernel) dX10_areAlike_40 ?_
    refine wa_aload_n hX (i := 3) dX10_areAlike_43 rfl rfl ?_
    refine wi_iconst hX dX10_areAlike_44 ?_
    refine wi_iconst hX dX10_areAlike_45 ?_
    refine wa_callV hX (c_X5_isAlike hW d (con := 0) (del := 0) hL35 z1 z4 (by decide) (by decide) hej he (p2_pos (E i)) (fun j _ => sortN_lt _ _ j)) (by assumption) (by rfl) (by rfl) (by omega) (nA := 3) (by rfl) (by decide +kernel) rfl (by exact Nat.le_of_ble_eq_true rfl) dX10_areAlike_46 (fun r46 h46 p46 => ?_) (fun _ _ q => q.elim)
    obtain ⟨rfl, F', C', P', I', hL46, f46, him⟩ := p46
    generalize hv : alkN _ _ _ _ _ _ _ _ _ = v at him ⊢
    have a2 := f46 _ _ _ a1 (by omega)
    dsimp only [Option.toList, List.cons_append, List.nil_append]
    refine wa_put hX 10 a2 (Nat.le_of_ble_eq_true rfl) (by decide +kernel) (by rfl) (by cases v <;> rfl) (by cases v <;> rfl) dX10_areAlike_49 ?_
    refine WA.heap (h2 := hset h46 a (10, oHou row kept m tb cb pr inn mn pf ps ((b2n v : Nat) : Int) so)) rfl ?_
    refine wa_aload_n hX (i := 0) dX10_areAlike_52 rfl rfl ?_
    refine wa_iload_n hX (i := 1) dX10_areAlike_53 rfl rfl ?_
    refine wa_put hX 8 hset_eq (Nat.le_of_ble_eq_true rfl) (by decide +kernel) (by rfl) (by rfl) (by rfl) dX10_areAlike_54 ?_
    rw [hset_hset]
    refine wa_aload_n hX (i := 0) dX10_areAlike_57 rfl rfl ?_
    refine wa_iload_n hX (i := 2) dX10_areAlike_58 rfl rfl ?_
    refine wa_put hX 9 hset_eq (Nat.le_of_ble_eq_true rfl) (by decide +kernel) (by rfl) (by rfl) (by rfl) dX10_areAlike_59 ?_
    rw [hset_hset]
    refine WA.heap (h2 := hset h46 a (10, oHou row kept m tb cb pr inn mn (i : Int) (j : Int) ((b2n v : Nat) : Int) so)) rfl ?_
    refine WA.hgq (fun hA hhA => ?_)
    have f3 : Fr (fun x => x = 10) h46 hA := by rw [hhA]; exact Fr.hset Fr.rf a2 rfl
    have a3 : hA a = some (10, oHou row kept m tb cb pr inn mn (i : Int) (j : Int) ((b2n v : Nat) : Int) so) := by rw [hhA]; exact hset_eq
    have hL3 := hL46.fr f3 (fun y hy => by omega)
    have f : Fr (fun x => x = 10 ∨ (50 ≤ x ∧ x ≤ 56)) h hA := ((f35.mono (fun x hx => by omega)).trans (f46.mono (fun x hx => by omega))).trans (f3.mono (fun x hx => by omega))
    have hAlk : AlkP (R i) (E i) (R j) (E j) v I' := ⟨C, W, Im, lI0, hv.symm, fun z => (him z).2⟩
    refine wa_aload_n hX (i := 0) dX10_areAlike_62 rfl rfl ?_
    refine wa_get hX 10 (by assumption) (by rfl) (by decide +kernel) dX10_areAlike_63 ?_
    refine wa_zret hX dX10_areAlike_66 (by cases v <;> rfl) ?_
    exact ⟨i, j, v, hi, rfl, hj, rfl, rfl, ⟨⟨hc60, hw, hm24, hso, hbr, hD, hMt⟩, row, kept, tb, cb, pr, inn, mn, (i : Int), (j : Int), ((b2n v : Nat) : Int), x1, x2, x3, x4, P, a3, kR.fr f (by omega) (by omega), f _ _ _ k3 (by omega), kT.fr f (fun y hy => by omega), kC.fr f (fun y hy => by omega), Or.inr ⟨i, j, v, r0, _, _, _, _, _, _, _, _, hi, hj, rfl, rfl, rfl, hL3, hAlk⟩, kL.fr f (fun y hy => by omega), kM.fr f (by omega) (by omega), kI, fun j hj => (kMat j hj).fr f (by omega) (by omega) (by omega)⟩, f.mono (fun x hx => by omega), row, kept, tb, cb, pr, inn, mn, _, _, _, _, _, a3, r0, _, _, _, _, _, _, _, _, hL3, hAlk⟩
  refine wa_iload_n hX (i := 1) dX10_areAlike_13 rfl rfl ?_
  refine wa_aload_n hX (i := 0) dX10_areAlike_14 rfl rfl ?_
  refine wa_get hX 8 (by assumption) (by rfl) (by decide +kernel) dX10_areAlike_15 ?_
  refine wi_icmp_ne hX (tgt := 29) dX10_areAlike_18 (by decide) (by first | exact hpfs.1 | exact hpfs.2.1 | omega) (by first | exact hpfs.1 | exact hpfs.2.1 | omega) (fun c18 => ?_) (fun c18 => ?_)
  · skip
    exact t29
  · skip
    refine wa_iload_n hX (i := 2) dX10_areAlike_21 rfl rfl ?_
    refine wa_aload_n hX (i := 0) dX10_areAlike_22 rfl rfl ?_
    refine wa_get hX 9 (by assumption) (by rfl) (by decide +kernel) dX10_areAlike_23 ?_
    refine wi_icmp_eq hX (tgt := 62) dX10_areAlike_26 (by decide) (by first | exact hpfs.1 | exact hpfs.2.1 | omega) (by first | exact hpfs.1 | exact hpfs.2.1 | omega) (fun c26 => ?_) (fun c26 => ?_)
    · skip
      rcases id kP with ⟨q1, -⟩ | ⟨i', j', v, r0, e0, n0, F, C, W, Im, Pq, Q, w1, w2, w3, w4, w5, w6, w7⟩
      · exfalso; omega
      · have e1 : i' = i := by omega
        have e2 : j' = j := by omega
        subst e1
        subst e2
        refine wa_aload_n hX (i := 0) dX10_areAlike_62 rfl rfl ?_
        refine wa_get hX 10 (by assumption) (by rfl) (by decide +kernel) dX10_areAlike_63 ?_
        refine wa_zret hX dX10_areAlike_66 (by rcases hpfs.2.2 with q | q <;> rw [q] <;> rfl) ?_
        exact ⟨i', j', v, hi, rfl, hj, rfl, by rw [w5], hI, Fr.rf, row, kept, tb, cb, pr, inn, mn, _, _, _, _, _, k1, r0, e0, n0, F, C, W, Im, Pq, Q, w6, w7⟩
    · skip
      exact t29
set_option maxHeartbeats 4000000 in
set_option maxRecDepth 100000 in
theorem c_X10_image (hW : WOK l D S0) (d : Nat) {h : AH} {a : Nat} {w : Nat → Nat} {c m : Nat} {E : Nat → Nat} {R : Nat → Nat → Nat} {br bf bs be : Int} {D2 D3 : Nat → Bool} {so : Nat} (hI : HI h a w c m E R br bf bs be D2 D3 so) {n n2 : Int} (hn : inR n) (hn2 : inR n2) {el : Int} (hl : inR el) : MA l D S0 yX10_image cX10_image 5 (some .int) (d + 14) [.ref a, I n, I n2, I el] h 8 48 (fun r h' => ∃ (i j k : Nat) (Im : Nat → Nat), i < m ∧ n = (i : Int) ∧ j < m ∧ n2 = (j : Int) ∧ k < E i ∧ el = (k : Int) ∧ AlkP (R i) (E i) (R j) (E j) true Im ∧ r = some (I (ntz (Im (2 ^ k)) : Nat)) ∧ HI h' a w c m E R br bf bs be D2 D3 so ∧ Fr HF h h') (fun E' h' => (h' = h ∧ (((noM n m ∨ noM n2 m) ∧ E' = eIOO) ∨ ∃ i j, i < m ∧ n = (i : Int) ∧ j < m ∧ n2 = (j : Int) ∧ ¬ (0 ≤ el ∧ el < ((E i : Nat) : Int)) ∧ E' = eIOO)) ∨ ∃ (i j k : Nat) (Im : Nat → Nat), i < m ∧ n = (i : Int) ∧ j < m ∧ n2 = (j : Int) ∧ k < E i ∧ el = (k : Int) ∧ AlkP (R i) (E i) (R j) (E j) false Im ∧ E' = eNSE ∧ HI h' a w c m E R br bf bs be D2 D3 so ∧ Fr HF h h') := by
  obtain ⟨⟨hc60, hw, hm24, hso, hbr, hD, hMt⟩, row, kept, tb, cb, pr, inn, mn, pf, ps, pa, x1, x2, x3, x4, P, k1, kR, k3, kT, kC, kP, kL, kM, kI, kMat⟩ := id hI
  refine MA.start hW (by decide) [.val (.ref a), .val (I n), .val (I n2), .val (I el), .unset] rfl ?_
  rintro X rfl rfl rfl hX
  refine wa_aload_n hX (i := 0) dX10_image_0 rfl rfl ?_
  refine wa_iload_n hX (i := 1) dX10_image_1 rfl rfl ?_
  refine wa_callV hX (c_X10_find hW d k1 k3 hm24 hn) (by assumption) (by rfl) (by rfl) (by omega) (nA := 1) (by rfl) (by decide +kernel) rfl (by exact Nat.le_of_ble_eq_true rfl) dX10_image_2 (fun r2 h2 p2 => ?_) (fun E' h' q => Or.inl ⟨q.2.1, Or.inl ⟨Or.inl q.2.2, q.1⟩⟩)
  obtain ⟨hq2, i, hi, rfl, rfl⟩ := p2
  subst h2
  obtain ⟨rq, hq, tq, sym, v2, v3, g1, g2, g3, g4, g5, g6, g7⟩ := id (kMat i hi)
  have hMi := hMt i hi
  have he := hMi.1
  have hp := p2_le he
  have hp0 := p2_pos (E i)
  dsimp only [Option.toList, List.cons_append, List.nil_append]
  refine wa_astore hX dX10_image_5 rfl ?_
  dsimp only [List.set]
  refine wa_aload_n hX (i := 0) dX10_image_7 rfl rfl ?_
  refine wa_iload_n hX (i := 2) dX10_image_8 rfl rfl ?_
  refine wa_callV hX (c_X10_find hW d k1 k3 hm24 hn2) (by assumption) (by rfl) (by rfl) (by omega) (nA := 1) (by rfl) (by decide +kernel) rfl (by exact Nat.le_of_ble_eq_true rfl) dX10_image_9 (fun r9 h9 p9 => ?_) (fun E' h' q => Or.inl ⟨q.2.1, Or.inl ⟨Or.inr q.2.2, q.1⟩⟩)
  obtain ⟨hq9, j, hj, rfl, rfl⟩ := p9
  subst h9
  dsimp only [Option.toList, List.cons_append, List.nil_append]
  refine wa_pop hX dX10_image_12 rfl ?_
  refine wa_aload hX dX10_image_13 rfl ?_
  refine wa_iload_n hX (i := 3) dX10_image_15 rfl rfl ?_
  refine wa_callS hX (c_X10_needElement hW d g1 he hl) (by rfl) (by omega) (nA := 2) (by rfl) (by decide +kernel) rfl (by exact Nat.le_of_ble_eq_true rfl) dX10_image_16 (fun r16 h16 p16 => ?_) (fun E' h' q => Or.inl ⟨q.2.1, Or.inr ⟨i, j, hi, rfl, hj, rfl, q.2.2, q.1⟩⟩)
  obtain ⟨rfl, hq16, hl0, hl1⟩ := p16
  subst h16
  obtain ⟨k, rfl⟩ := Int.eq_ofNat_of_zero_le hl0
  have hk : k < E i := by omega
  dsimp only [Option.toList, List.cons_append, List.nil_append]
  refine wa_aload_n hX (i := 0) dX10_image_19 rfl rfl ?_
  refine wa_iload_n hX (i := 1) dX10_image_20 rfl rfl ?_
  refine wa_iload_n hX (i := 2) dX10_image_21 rfl rfl ?_
  refine wa_callV hX (c_X10_areAlike hW d hI hn hn2) (by assumption) (by rfl) (by rfl) (by omega) (nA := 2) (by rfl) (by decide +kernel) rfl (by exact Nat.le_of_ble_eq_true rfl) dX10_image_22 (fun r22 h22 p22 => ?_) (fun E' h' q => Or.inl ⟨q.1, Or.inl ⟨q.2.1, q.2.2⟩⟩)
  obtain ⟨i', j', v, hi', hii, hj', hjj, rfl, hI22, f22, row2, kept2, tb2, cb2, pr2, inn2, mn2, mm2, pf2, ps2, pa2, so2, kA, r0, e0, n0, F, C, W, Im, Pq, Q, hL, hAlk⟩ := p22
  have e1 : i' = i := by omega
  have e2 : j' = j := by omega
  subst e1
  subst e2
  have l0 := hL.1
  dsimp only [Option.toList, List.cons_append, List.nil_append]
  refine wi_if_ne hX (tgt := 39) dX10_image_25 (by decide) (by exact b2n_inR _) (fun c25 => ?_) (fun c25 => ?_)
  · skip
    refine wa_aload_n hX (i := 0) dX10_image_39 rfl rfl ?_
    refine wa_get hX 5 (by assumption) (by rfl) (by decide +kernel) dX10_image_40 ?_
    refine wa_iload_n hX (i := 3) dX10_image_43 rfl rfl ?_
    refine wa_callV hX (c_X5_imageOf hW d l0 hL.2.2.2.2.1 (el := k) (by omega) (hL.2.2.2.2.2.2.2.2.2.1 (2 ^ k) (by have := bit_lt hk; omega))) (by assumption) (by rfl) (by rfl) (by omega) (nA := 1) (by rfl) (by decide +kernel) rfl (by exact Nat.le_of_ble_eq_true rfl) dX10_image_44 (fun r44 h44 p44 => ?_) (fun _ _ q => q.elim)
    obtain ⟨rfl, qq44⟩ := p44; subst h44
    dsimp only [Option.toList, List.cons_append, List.nil_append]
    refine wa_iret hX dX10_image_47 ?_
    have hv := b2n_t c25
    subst hv
    exact ⟨i', j', k, Im, hi, rfl, hj, rfl, hk, rfl, hAlk, rfl, hI22, f22⟩
  · skip
    refine wa_throwSW3 hX (ik := 157) (is := 276) (ic := 161) "java/util/NoSuchElementException" "there is no isomorphism" ["java/lang/RuntimeException", "java/lang/Exception"] (thr_ok3 (by decide +kernel) wx_NSE) rfl (by exact Nat.le_of_ble_eq_true rfl) dX10_image_28 dX10_image_31 dX10_image_32 dX10_image_35 dX10_image_38 ?_
    have hv := b2n_f c25
    subst hv
    exact Or.inr ⟨i', j', k, Im, hi, rfl, hj, rfl, hk, rfl, hAlk, rfl, hI22, f22⟩
set_option maxHeartbeats 4000000 in
set_option maxRecDepth 100000 in
theorem c_X10_symmetries (hW : WOK l D S0) (d : Nat) {h : AH} {a : Nat} {w : Nat → Nat} {c m : Nat} {E : Nat → Nat} {R : Nat → Nat → Nat} {br bf bs be : Int} {D2 D3 : Nat → Bool} {so : Nat} (hI : HI h a w c m E R br bf bs be D2 D3 so) {n : Int} (hn : inR n) : MA l D S0 yX10_symmetries cX10_symmetries 3 (some .int) (d + 14) [.ref a, I n] h 4 24 (fun r h' => ∃ i v : Nat, i < m ∧ n = (i : Int) ∧ SymP (R i) (E i) v ∧ r = some (I (v : Nat)) ∧ HI h' a w c m E R br bf bs be D2 D3 so ∧ Fr HF h h') (fun E' h' => h' = h ∧ noM n m ∧ E' = eIOO) := by
  obtain ⟨⟨hc60, hw, hm24, hso, hbr, hD, hMt⟩, row, kept, tb, cb, pr, inn, mn, pf, ps, pa, x1, x2, x3, x4, P, k1, kR, k3, kT, kC, kP, kL, kM, kI, kMat⟩ := id hI
  refine MA.start hW (by decide) [.val (.ref a), .val (I n), .unset] rfl ?_
  rintro X rfl rfl rfl hX
  refine wa_aload_n hX (i := 0) dX10_symmetries_0 rfl rfl ?_
  refine wa_iload_n hX (i := 1) dX10_symmetries_1 rfl rfl ?_
  refine wa_callV hX (c_X10_find hW d k1 k3 hm24 hn) (by assumption) (by rfl) (by rfl) (by omega) (nA := 1) (by rfl) (by decide +kernel) rfl (by exact Nat.le_of_ble_eq_true rfl) dX10_symmetries_2 (fun r2 h2 p2 => ?_) (fun E' h' q => ⟨q.2.1, q.2.2, q.1⟩)
  obtain ⟨hq2, i, hi, rfl, rfl⟩ := p2
  subst h2
  obtain ⟨rq, hq, tq, sym, v2, v3, g1, g2, g3, g4, g5, g6, g7⟩ := id (kMat i hi)
  have hMi := hMt i hi
  have he := hMi.1
  have hp := p2_le he
  have hp0 := p2_pos (E i)
  obtain ⟨r0, e0, n0, F, C, W, Im, Pq, Q, hL⟩ := id kL
  have l0 := hL.1
  have lI0 := hL.2.2.2.2.2.2.2.2.2.2
  have hsb : sym ≤ 2000000000 := symb_le he g5
  dsimp only [Option.toList, List.cons_append, List.nil_append]
  refine wa_astore_n hX (i := 2) dX10_symmetries_5 rfl rfl ?_
  dsimp only [List.set]
  refine wa_aload_n hX (i := 2) dX10_symmetries_6 rfl rfl ?_
  refine wa_get hX 6 (by assumption) (by rfl) (by decide +kernel) dX10_symmetries_7 ?_
  refine wi_if_ne hX (tgt := 25) dX10_symmetries_10 (by decide) (by omega) (fun c10 => ?_) (fun c10 => ?_)
  · skip
    refine wa_aload_n hX (i := 2) dX10_symmetries_25 rfl rfl ?_
    refine wa_get hX 6 (by assumption) (by rfl) (by decide +kernel) dX10_symmetries_26 ?_
    refine wa_iret hX dX10_symmetries_29 ?_
    have hs9 : SymP (R i) (E i) sym := by
      rcases g5 with q | q
      · exfalso; omega
      · exact q
    exact ⟨i, sym, hi, rfl, hs9, rfl, hI, Fr.rf⟩
  · skip
    refine wa_aload_n hX (i := 2) dX10_symmetries_13 rfl rfl ?_
    refine wa_aload_n hX (i := 0) dX10_symmetries_14 rfl rfl ?_
    refine wa_get hX 6 (by assumption) (by rfl) (by decide +kernel) dX10_symmetries_15 ?_
    refine wa_aload_n hX (i := 2) dX10_symmetries_18 rfl rfl ?_
    refine wa_callV hX (c_X5_symmetriesOf hW d hL g1 g4 (by decide) (by decide) he (fun j _ => sortN_lt _ _ j)) (by assumption) (by rfl) (by rfl) (by omega) (nA := 1) (by rfl) (by decide +kernel) rfl (by exact Nat.le_of_ble_eq_true rfl) dX10_symmetries_19 (fun r19 h19 p19 => ?_) (fun _ _ q => q.elim)
    obtain ⟨rfl, f19, C', W', I', P', Q', hL19⟩ := p19
    have hsy : SymP (R i) (E i) (symN (prgS (sortN (R i) (E i)) W Pq (E i)) (prfS (sortN (R i) (E i)) W (E i)) (cntS (sortN (R i) (E i)) W C (E i)) (wntS (sortN (R i) (E i)) W (E i)) (E i) Im (E i)).1 := ⟨C, W, Im, Pq, lI0, rfl⟩
    generalize (symN (prgS (sortN (R i) (E i)) W Pq (E i)) (prfS (sortN (R i) (E i)) W (E i)) (cntS (sortN (R i) (E i)) W C (E i)) (wntS (sortN (R i) (E i)) W (E i)) (E i) Im (E i)).1 = v at hsy ⊢
    have z1 := f19 _ _ _ g1 (by omega)
    dsimp only [Option.toList, List.cons_append, List.nil_append]
    refine wa_put hX 6 z1 (Nat.le_of_ble_eq_true rfl) (by decide +kernel) (by rfl) (by rfl) (by rfl) dX10_symmetries_22 ?_
    refine WA.heap (h2 := hset h19 (P i) (24, oMat (E i) (R i (2 ^ E i - 1)) rq hq tq (v : Int) v2 v3)) rfl ?_
    refine WA.hgq (fun hA hhA => ?_)
    have z2 : hA (P i) = some (24, oMat (E i) (R i (2 ^ E i - 1)) rq hq tq (v : Int) v2 v3) := by rw [hhA]; exact hset_eq
    have f3 : Fr (fun x => x = 24) h19 hA := by rw [hhA]; exact Fr.hset Fr.rf z1 rfl
    have f : Fr (fun x => x = 24 ∨ (60 ≤ x ∧ x ≤ 66)) h hA := (f19.mono (fun x hx => by omega)).trans (f3.mono (fun x hx => by omega))
    have hm9 : ∀ t, t < m → MatI hA (P t) (E t) (R t) (D2 t) (D3 t) := fun t ht => by
      by_cases q : t = i
      · subst q
        exact ⟨rq, hq, tq, v, v2, v3, z2, f _ _ _ g2 (by omega), f _ _ _ g3 (by omega), f _ _ _ g4 (by omega), Or.inr hsy, g6.fr f (by omega) (by omega), g7.fr f (by omega) (by omega)⟩
      · rw [hhA]
        exact ((kMat t ht).fr f19 (by omega) (by omega) (by omega)).hset z1 (by decide) (by decide) (fun z => q (kI t i ht hi z))
    refine wa_aload_n hX (i := 2) dX10_symmetries_25 rfl rfl ?_
    refine wa_get hX 6 (by assumption) (by rfl) (by decide +kernel) dX10_symmetries_26 ?_
    refine wa_iret hX dX10_symmetries_29 ?_
    exact ⟨i, v, hi, rfl, hsy, rfl, ⟨⟨hc60, hw, hm24, hso, hbr, hD, hMt⟩, row, kept, tb, cb, pr, inn, mn, pf, ps, pa, x1, x2, x3, x4, P, f _ _ _ k1 (by omega), kR.fr f (by omega) (by omega), f _ _ _ k3 (by omega), kT.fr f (fun y hy => by omega), kC.fr f (fun y hy => by omega), kP.fr f (fun y hy => by omega), ⟨r0, _, _, _, _, _, _, _, _, hL19.fr f3 (fun y hy => by omega)⟩, kM.fr f (by omega) (by omega), kI, hm9⟩, f.mono (fun x hx => by omega)⟩
set_option maxHeartbeats 4000000 in
set_option maxRecDepth 100000 in
theorem c_X10_minorBy (hW : WOK l D S0) (d : Nat) {h : AH} {a : Nat} {w : Nat → Nat} {c m : Nat} {E : Nat → Nat} {R : Nat → Nat → Nat} {br bf bs be : Int} {D2 D3 : Nat → Bool} {so : Nat} (hI : HI h a w c m E R br bf bs be D2 D3 so) {n n2 : Int} (hn : inR n) (hn2 : inR n2) : MA l D S0 yX10_minorBy cX10_minorBy 3 (some .int) (d + 16) [.ref a, I n, I n2] h 8 48 (fun r h' => ∃ (i j : Nat) (co de : Int), i < m ∧ n = (i : Int) ∧ j < m ∧ n2 = (j : Int) ∧ MinP (R i) (E i) (R j) (E j) 1 co de ∧ r = some (I co) ∧ HI h' a w c m E R br bf bs be D2 D3 so ∧ Fr HF h h') (fun E' h' => (h' = h ∧ (noM n m ∨ noM n2 m) ∧ E' = eIOO) ∨ ∃ (i j : Nat) (co de : Int), i < m ∧ n = (i : Int) ∧ j < m ∧ n2 = (j : Int) ∧ MinP (R i) (E i) (R j) (E j) 0 co de ∧ E' = eNSE ∧ HI h' a w c m E R br bf bs be D2 D3 so ∧ Fr HF h h') := by
  obtain ⟨⟨hc60, hw, hm24, hso, hbr, hD, hMt⟩, row, kept, tb, cb, pr, inn, mn, pf, ps, pa, x1, x2, x3, x4, P, k1, kR, k3, kT, kC, kP, kL, kM, kI, kMat⟩ := id hI
  obtain ⟨dq, li, lw, lp, fo, co, de, DD, m1, m2, m3, m4, m5, m6⟩ := id kM
  obtain ⟨r0, e0, n0, F, C, W, Im, Pq, Q, hL⟩ := id kL
  refine MA.start hW (by decide) [.val (.ref a), .val (I n), .val (I n2)] rfl ?_
  rintro X rfl rfl rfl hX
  refine wa_aload_n hX (i := 0) dX10_minorBy_0 rfl rfl ?_
  refine wa_get hX 7 (by assumption) (by rfl) (by decide +kernel) dX10_minorBy_1 ?_
  refine wa_aload_n hX (i := 0) dX10_minorBy_4 rfl rfl ?_
  refine wa_iload_n hX (i := 1) dX10_minorBy_5 rfl rfl ?_
  refine wa_callV hX (c_X10_find hW d k1 k3 hm24 hn) (by assumption) (by rfl) (by rfl) (by omega) (nA := 1) (by rfl) (by decide +kernel) rfl (by exact Nat.le_of_ble_eq_true rfl) dX10_minorBy_6 (fun r6 h6 p6 => ?_) (fun E' h' q => Or.inl ⟨q.2.1, Or.inl q.2.2, q.1⟩)
  obtain ⟨hq6, i, hi, rfl, rfl⟩ := p6
  subst h6
  obtain ⟨rq, hq, tq, sym, v2, v3, g1, g2, g3, g4, g5, g6, g7⟩ := id (kMat i hi)
  have hMi := hMt i hi
  have he := hMi.1
  have hp := p2_le he
  have hp0 := p2_pos (E i)
  dsimp only [Option.toList, List.cons_append, List.nil_append]
  refine wa_aload_n hX (i := 0) dX10_minorBy_9 rfl rfl ?_
  refine wa_iload_n hX (i := 2) dX10_minorBy_10 rfl rfl ?_
  refine wa_callV hX (c_X10_find hW d k1 k3 hm24 hn2) (by assumption) (by rfl) (by rfl) (by omega) (nA := 1) (by rfl) (by decide +kernel) rfl (by exact Nat.le_of_ble_eq_true rfl) dX10_minorBy_11 (fun r11 h11 p11 => ?_) (fun E' h' q => Or.inl ⟨q.2.1, Or.inr q.2.2, q.1⟩)
  obtain ⟨hq11, j, hj, rfl, rfl⟩ := p11
  subst h11
  obtain ⟨rq', hq', tq', sym', v2', v3', y1, y2, y3, y4, y5, y6, y7⟩ := id (kMat j hj)
  have hMj := hMt j hj
  have hej := hMj.1
  dsimp only [Option.toList, List.cons_append, List.nil_append]
  refine wa_callV hX (c_X7_isMinor hW d m1 m2 hL g1 g2 g4 y1 y4 (by decide) (by decide) (by decide) (by decide) (by decide) (by decide) (by decide) (by decide) (by decide) (by decide) (by decide) (by decide) (by decide) (by decide) he hej (hMi.le10 (by omega)) (hMj.le10 (by have := p2_pos (E j); omega)) (fun s hs => hMi.le10 hs) (fun j _ => sortN_lt _ _ j) (fun j _ => sortN_lt _ _ j) m3) (by assumption) (by rfl) (by rfl) (by omega) (nA := 2) (by rfl) (by decide +kernel) rfl (by exact Nat.le_of_ble_eq_true rfl) dX10_minorBy_14 (fun r14 h14 p14 => ?_) (fun _ _ q => q.elim)
  obtain ⟨v, co', de', li', lw', lp', a14, rfl, hv, q1, hI14, f14, hK⟩ : ∃ (v co' de' li' : Int) (lw' lp' : Option Nat), h14 a = some (10, oHou row kept m tb cb pr inn mn pf ps pa so) ∧ r14 = some (I v) ∧ (v = 0 ∨ v = 1) ∧ h14 mn = some (22, oMin inn dq li' (va_rf lw') (va_rf lp') v co' de') ∧ HI h14 a w c m E R br bf bs be D2 D3 so ∧ Fr HF h h14 ∧ MinP (R i) (E i) (R j) (E j) v co' de' := by
    rcases p14 with ⟨b1, b2, b3, b4⟩ | ⟨b1, ⟨e', n', F', C', W', I', P', Q', hL14⟩, f14, ⟨D', m2'⟩, v, li', co', de', b5, m1', b6⟩
    · subst h14
      exact ⟨fo, co, de, li, lw, lp, k1, b3, m3, m1, hI, Fr.rf, m6 i j hi hj b1 b2⟩
    · have hMP : MinP (R i) (E i) (R j) (E j) v co' de' := ⟨W, co, de, b6⟩
      have hv : v = 0 ∨ v = 1 := by
        rcases b6 with z | z
        · exact Or.inl z.1
        · exact Or.inr z.1
      have f : Fr (fun x => x = 22 ∨ x = 23 ∨ (60 ≤ x ∧ x ≤ 66)) h h14 := f14.mono (fun x hx => by omega)
      refine ⟨v, co', de', li', some (P i), some (P j), f _ _ _ k1 (by omega), b5, hv, m1', ⟨⟨hc60, hw, hm24, hso, hbr, hD, hMt⟩, row, kept, tb, cb, pr, inn, mn, pf, ps, pa, x1, x2, x3, x4, P, f _ _ _ k1 (by omega), kR.fr f (by omega) (by omega), f _ _ _ k3 (by omega), kT.fr f (fun y hy => by omega), kC.fr f (fun y hy => by omega), kP.fr f (fun y hy => by omega), ⟨r0, _, _, _, _, _, _, _, _, hL14⟩, ⟨dq, li', some (P i), some (P j), v, co', de', D', m1', m2', hv, fun y hy => ⟨i, hi, (Option.some.inj hy).symm⟩, fun y hy => ⟨j, hj, (Option.some.inj hy).symm⟩, fun i2 j2 h2 h3 z1 z2 => ?_⟩, kI, fun t ht => (kMat t ht).fr f (by omega) (by omega) (by omega)⟩, f.mono (fun x hx => by omega), hMP⟩
      have e1 := kI i i2 hi h2 (Option.some.inj z1)
      have e2 := kI j j2 hj h3 (Option.some.inj z2)
      subst e1
      subst e2
      exact hMP
  clear p14
  dsimp only [Option.toList, List.cons_append, List.nil_append]
  refine wi_if_ne hX (tgt := 31) dX10_minorBy_17 (by decide) (by rcases hv with q | q <;> rw [q] <;> decide) (fun c17 => ?_) (fun c17 => ?_)
  · skip
    refine wa_aload_n hX (i := 0) dX10_minorBy_31 rfl rfl ?_
    refine wa_get hX 7 (by assumption) (by rfl) (by decide +kernel) dX10_minorBy_32 ?_
    refine wa_callV hX (c_X7_contracted hW d q1) (by assumption) (by rfl) (by rfl) (by omega) (nA := 0) (by rfl) (by decide +kernel) rfl (by exact Nat.le_of_ble_eq_true rfl) dX10_minorBy_35 (fun r35 h35 p35 => ?_) (fun _ _ q => q.elim)
    obtain ⟨rfl, qq35⟩ := p35; subst h35
    dsimp only [Option.toList, List.cons_append, List.nil_append]
    refine wa_iret hX dX10_minorBy_38 ?_
    have e9 : v = 1 := by omega
    subst e9
    exact ⟨i, j, co', de', hi, rfl, hj, rfl, hK, rfl, hI14, f14⟩
  · skip
    refine wa_throwSW3 hX (ik := 157) (is := 292) (ic := 161) "java/util/NoSuchElementException" "there is no such minor" ["java/lang/RuntimeException", "java/lang/Exception"] (thr_ok3 (by decide +kernel) wx_NSE) rfl (by exact Nat.le_of_ble_eq_true rfl) dX10_minorBy_20 dX10_minorBy_23 dX10_minorBy_24 dX10_minorBy_27 dX10_minorBy_30 ?_
    have e9 : v = 0 := by omega
    subst e9
    exact Or.inr ⟨i, j, co', de', hi, rfl, hj, rfl, hK, rfl, hI14, f14⟩
set_option maxHeartbeats 4000000 in
set_option maxRecDepth 100000 in
theorem c_X10_minorWithout (hW : WOK l D S0) (d : Nat) {h : AH} {a : Nat} {w : Nat → Nat} {c m : Nat} {E : Nat → Nat} {R : Nat → Nat → Nat} {br bf bs be : Int} {D2 D3 : Nat → Bool} {so : Nat} (hI : HI h a w c m E R br bf bs be D2 D3 so) {n n2 : Int} (hn : inR n) (hn2 : inR n2) : MA l D S0 yX10_minorWithout cX10_minorWithout 3 (some .int) (d + 16) [.ref a, I n, I n2] h 8 48 (fun r h' => ∃ (i j : Nat) (co de : Int), i < m ∧ n = (i : Int) ∧ j < m ∧ n2 = (j : Int) ∧ MinP (R i) (E i) (R j) (E j) 1 co de ∧ r = some (I de) ∧ HI h' a w c m E R br bf bs be D2 D3 so ∧ Fr HF h h') (fun E' h' => (h' = h ∧ (noM n m ∨ noM n2 m) ∧ E' = eIOO) ∨ ∃ (i j : Nat) (co de : Int), i < m ∧ n = (i : Int) ∧ j < m ∧ n2 = (j : Int) ∧ MinP (R i) (E i) (R j) (E j) 0 co de ∧ E' = eNSE ∧ HI h' a w c m E R br bf bs be D2 D3 so ∧ Fr HF h h') := by
  obtain ⟨⟨hc60, hw, hm24, hso, hbr, hD, hMt⟩, row, kept, tb, cb, pr, inn, mn, pf, ps, pa, x1, x2, x3, x4, P, k1, kR, k3, kT, kC, kP, kL, kM, kI, kMat⟩ := id hI
  obtain ⟨dq, li, lw, lp, fo, co, de, DD, m1, m2, m3, m4, m5, m6⟩ := id kM
  obtain ⟨r0, e0, n0, F, C, W, Im, Pq, Q, hL⟩ := id kL
  refine MA.start hW (by decide) [.val (.ref a), .val (I n), .val (I n2)] rfl ?_
  rintro X rfl rfl rfl hX
  refine wa_aload_n hX (i := 0) dX10_minorWithout_0 rfl rfl ?_
  refine wa_get hX 7 (by assumption) (by rfl) (by decide +kernel) dX10_minorWithout_1 ?_
  refine wa_aload_n hX (i := 0) dX10_minorWithout_4 rfl rfl ?_
  refine wa_iload_n hX (i := 1) dX10_minorWithout_5 rfl rfl ?_
  refine wa_callV hX (c_X10_find hW d k1 k3 hm24 hn) (by assumption) (by rfl) (by rfl) (by omega) (nA := 1) (by rfl) (by decide +kernel) rfl (by exact Nat.le_of_ble_eq_true rfl) dX10_minorWithout_6 (fun r6 h6 p6 => ?_) (fun E' h' q => Or.inl ⟨q.2.1, Or.inl q.2.2, q.1⟩)
  obtain ⟨hq6, i, hi, rfl, rfl⟩ := p6
  subst h6
  obtain ⟨rq, hq, tq, sym, v2, v3, g1, g2, g3, g4, g5, g6, g7⟩ := id (kMat i hi)
  have hMi := hMt i hi
  have he := hMi.1
  have hp := p2_le he
  have hp0 := p2_pos (E i)
  dsimp only [Option.toList, List.cons_append, List.nil_append]
  refine wa_aload_n hX (i := 0) dX10_minorWithout_9 rfl rfl ?_
  refine wa_iload_n hX (i := 2) dX10_minorWithout_10 rfl rfl ?_
  refine wa_callV hX (c_X10_find hW d k1 k3 hm24 hn2) (by assumption) (by rfl) (by rfl) (by omega) (nA := 1) (by rfl) (by decide +kernel) rfl (by exact Nat.le_of_ble_eq_true rfl) dX10_minorWithout_11 (fun r11 h11 p11 => ?_) (fun E' h' q => Or.inl ⟨q.2.1, Or.inr q.2.2, q.1⟩)
  obtain ⟨hq11, j, hj, rfl, rfl⟩ := p11
  subst h11
  obtain ⟨rq', hq', tq', sym', v2', v3', y1, y2, y3, y4, y5, y6, y7⟩ := id (kMat j hj)
  have hMj := hMt j hj
  have hej := hMj.1
  dsimp only [Option.toList, List.cons_append, List.nil_append]
  refine wa_callV hX (c_X7_isMinor hW d m1 m2 hL g1 g2 g4 y1 y4 (by decide) (by decide) (by decide) (by decide) (by decide) (by decide) (by decide) (by decide) (by decide) (by decide) (by decide) (by decide) (by decide) (by decide) he hej (hMi.le10 (by omega)) (hMj.le10 (by have := p2_pos (E j); omega)) (fun s hs => hMi.le10 hs) (fun j _ => sortN_lt _ _ j) (fun j _ => sortN_lt _ _ j) m3) (by assumption) (by rfl) (by rfl) (by omega) (nA := 2) (by rfl) (by decide +kernel) rfl (by exact Nat.le_of_ble_eq_true rfl) dX10_minorWithout_14 (fun r14 h14 p14 => ?_) (fun _ _ q => q.elim)
  obtain ⟨v, co', de', li', lw', lp', a14, rfl, hv, q1, hI14, f14, hK⟩ : ∃ (v co' de' li' : Int) (lw' lp' : Option Nat), h14 a = some (10, oHou row kept m tb cb pr inn mn pf ps pa so) ∧ r14 = some (I v) ∧ (v = 0 ∨ v = 1) ∧ h14 mn = some (22, oMin inn dq li' (va_rf lw') (va_rf lp') v co' de') ∧ HI h14 a w c m E R br bf bs be D2 D3 so ∧ Fr HF h h14 ∧ MinP (R i) (E i) (R j) (E j) v co' de' := by
    rcases p14 with ⟨b1, b2, b3, b4⟩ | ⟨b1, ⟨e', n', F', C', W', I', P', Q', hL14⟩, f14, ⟨D', m2'⟩, v, li', co', de', b5, m1', b6⟩
    · subst h14
      exact ⟨fo, co, de, li, lw, lp, k1, b3, m3, m1, hI, Fr.rf, m6 i j hi hj b1 b2⟩
    · have hMP : MinP (R i) (E i) (R j) (E j) v co' de' := ⟨W, co, de, b6⟩
      have hv : v = 0 ∨ v = 1 := by
        rcases b6 with z | z
        · exact Or.inl z.1
        · exact Or.inr z.1
      have f : Fr (fun x => x = 22 ∨ x = 23 ∨ (60 ≤ x ∧ x ≤ 66)) h h14 := f14.mono (fun x hx => by omega)
      refine ⟨v, co', de', li', some (P i), some (P j), f _ _ _ k1 (by omega), b5, hv, m1', ⟨⟨hc60, hw, hm24, hso, hbr, hD, hMt⟩, row, kept, tb, cb, pr, inn, mn, pf, ps, pa, x1, x2, x3, x4, P, f _ _ _ k1 (by omega), kR.fr f (by omega) (by omega), f _ _ _ k3 (by omega), kT.fr f (fun y hy => by omega), kC.fr f (fun y hy => by omega), kP.fr f (fun y hy => by omega), ⟨r0, _, _, _, _, _, _, _, _, hL14⟩, ⟨dq, li', some (P i), some (P j), v, co', de', D', m1', m2', hv, fun y hy => ⟨i, hi, (Option.some.inj hy).symm⟩, fun y hy => ⟨j, hj, (Option.some.inj hy).symm⟩, fun i2 j2 h2 h3 z1 z2 => ?_⟩, kI, fun t ht => (kMat t ht).fr f (by omega) (by omega) (by omega)⟩, f.mono (fun x hx => by omega), hMP⟩
      have e1 := kI i i2 hi h2 (Option.some.inj z1)
      have e2 := kI j j2 hj h3 (Option.some.inj z2)
      subst e1
      subst e2
      exact hMP
  clear p14
  dsimp only [Option.toList, List.cons_append, List.nil_append]
  refine wi_if_ne hX (tgt := 31) dX10_minorWithout_17 (by decide) (by rcases hv with q | q <;> rw [q] <;> decide) (fun c17 => ?_) (fun c17 => ?_)
  · skip
    refine wa_aload_n hX (i := 0) dX10_minorWithout_31 rfl rfl ?_
    refine wa_get hX 7 (by assumption) (by rfl) (by decide +kernel) dX10_minorWithout_32 ?_
    refine wa_callV hX (c_X7_deleted hW d q1) (by assumption) (by rfl) (by rfl) (by omega) (nA := 0) (by rfl) (by decide +kernel) rfl (by exact Nat.le_of_ble_eq_true rfl) dX10_minorWithout_35 (fun r35 h35 p35 => ?_) (fun _ _ q => q.elim)
    obtain ⟨rfl, qq35⟩ := p35; subst h35
    dsimp only [Option.toList, List.cons_append, List.nil_append]
    refine wa_iret hX dX10_minorWithout_38 ?_
    have e9 : v = 1 := by omega
    subst e9
    exact ⟨i, j, co', de', hi, rfl, hj, rfl, hK, rfl, hI14, f14⟩
  · skip
    refine wa_throwSW3 hX (ik := 157) (is := 292) (ic := 161) "java/util/NoSuchElementException" "there is no such minor" ["java/lang/RuntimeException", "java/lang/Exception"] (thr_ok3 (by decide +kernel) wx_NSE) rfl (by exact Nat.le_of_ble_eq_true rfl) dX10_minorWithout_20 dX10_minorWithout_23 dX10_minorWithout_24 dX10_minorWithout_27 dX10_minorWithout_30 ?_
    have e9 : v = 0 := by omega
    subst e9
    exact Or.inr ⟨i, j, co', de', hi, rfl, hj, rfl, hK, rfl, hI14, f14⟩
end C73
