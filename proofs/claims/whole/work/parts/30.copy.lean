/-! ROWS: System.arraycopy between arrays of ints from place 0 on; arrays of arrays of ints. Own text. -/
theorem cell_ext9 {a b : Cell} (h1 : a.cls = b.cls) (h2 : a.slots = b.slots) (h3 : a.vm = b.vm) (h4 : a.hash = b.hash) (h5 : a.monitor = b.monitor) : a = b := by
  cases a; cases b
  simp_all
theorem copied0 {c0 c1 : ClassId} {n0 n1 n : Nat} {f g : Nat → Int32} (h0 : n ≤ n0) (h1 : n ≤ n1) : (vp_cell c1 (n1, .inl g)).storeRun 0 ((vp_cell c0 (n0, .inl f)).stretch 0 n) = vp_cell c1 (n1, .inl (fun j => if j < n then f j else g j)) := by
  rw [vp_cell_i, vp_cell_i, vp_cell_i]
  have hl : ((arrV c0 n0 (fun j => .int (f j))).stretch 0 n).length = n := Cell.stretch_length _ _ _
  have hf := Cell.storeRun_facts (arrV c1 n1 (fun j => .int (g j))) 0 ((arrV c0 n0 (fun j => .int (f j))).stretch 0 n)
  refine cell_ext9 hf.1 ?_ hf.2.1 hf.2.2.2.1 hf.2.2.2.2
  apply Array.ext_getElem?
  intro j
  have hg := Cell.storePairs_get (arrV c1 n1 (fun j => .int (g j))) 0 ((arrV c0 n0 (fun j => .int (f j))).stretch 0 n) 0 j (by rw [hl, arrV_size]; omega)
  refine Eq.trans hg ?_
  rw [hl]
  simp only [Nat.zero_add, Nat.sub_zero, Nat.zero_le, true_and]
  by_cases hj : j < n
  · rw [if_pos hj]
    have h3 : ((arrV c0 n0 (fun j => .int (f j))).stretch 0 n)[j]? = some (.int (f j)) := by
      have h4 : j < ((arrV c0 n0 (fun j => .int (f j))).stretch 0 n).length := by omega
      rw [List.getElem?_eq_getElem h4]
      have h5 := (Cell.stretch_get (List.getElem?_eq_getElem h4)).2
      rw [h5, Nat.zero_add, Array.getD_eq_getD_getElem?, arrV_read _ _ (by omega)]
      rfl
    rw [h3, arrV_read _ _ (by omega), if_pos hj]
  · rw [if_neg hj]
    by_cases h2 : j < n1
    · rw [arrV_read _ _ h2, arrV_read _ _ h2, if_neg hj]
    · rw [Array.getElem?_eq_none (by rw [arrV_size]; omega), Array.getElem?_eq_none (by rw [arrV_size]; omega)]
def copyW (own : String) (idx : Nat) : Bool := decide (Cond.methodLink own idx arraycopyName ∈ lw_tbl) && decide (Cond.native arraycopyName ∈ lw_tbl) && decide (Cond.static arraycopyName ∈ lw_tbl) && decide (Cond.initialized "java/lang/System" ∈ lw_tbl)
section LYA
variable {X : Cx} {own : String} {cc : ByteArray} {nL : Nat} {ret : Option FieldType} {nm : String} {d : Nat} {post : Option Value → AH → Prop} {px : String → AH → Prop} {h : AH} {k sl pc : Nat} {ls : List Slot} {rest : List Value}
theorem wa_copy (hX : Ok X own cc nL ret nm d post px) {a b la lb n0 n1 idx : Nat} {f g : Nat → Int32} (n : Nat) (ha : h a = some (la, aW .int n0 f)) (hb9 : h b = some (lb, aW .int n1 g)) (h0 : n ≤ n0) (h1 : n ≤ n1) (hn : n < 2147483648) (hw : copyW own idx = true) (hsz : ls.length = nL) (hrest : (rest.map fun v => v.category).sum ≤ 8) (dg : decode cc pc = .ok (.invokestatic idx, 3)) (k' : WA X (hset h b (lb, aW .int n1 (fun j => if j < n then f j else g j))) k sl (pc + 3) ls rest) : WA X h k sl pc ls (I (n : Int) :: I 0 :: .ref b :: I 0 :: .ref a :: rest) := by
  obtain ⟨p, l, e, s, m, args, below, meth, c, D, S0, d0, mc, ms, po, pp⟩ := X
  intro H locs cells slots q1 q2 hR hL
  unfold copyW at hw
  simp only [Bool.and_eq_true, decide_eq_true_eq] at hw
  obtain ⟨⟨⟨w1, w2⟩, w3⟩, w4⟩ := hw
  have hX' := hX
  obtain ⟨hxx, hb, hml, -, -, hown, -⟩ := hX'
  obtain ⟨hba, cA, e1, e2, e3⟩ := hR.2.2 a la _ ha
  obtain ⟨hbb, cB, e4, e5, e6⟩ := hR.2.2 b lb _ hb9
  intro T hT X0
  obtain ⟨-, k0, hk0, cm0, hkk0⟩ := e2 n0 (fun j => .int (f j))
  obtain ⟨-, k1, hk1, cm1, hkk1⟩ := e5 n1 (fun j => .int (g j))
  have hz : (Int32.ofInt (0 : Int)).toNatClampNeg = 0 := by decide
  have hnn : (Int32.ofInt (n : Int)).toNatClampNeg = n := by rw [nn_tI (inR_nat hn)]; exact Int.toNat_natCast n
  have hz2 : (Int32.ofInt (0 : Int)).toInt = 0 := by decide
  have hn2 : (Int32.ofInt (n : Int)).toInt = n := tI (inR_nat hn)
  have hnlt : ¬ Int32.ofInt (n : Int) < 0 := by
    rw [zI, ltI (inR_nat hn) (by constructor <;> omega)]; omega
  obtain ⟨vm', X', step⟩ := X0.arraycopy hxx hown (hX.word w1 rfl) (hX.word w2 rfl) (hX.word w3 rfl) (hX.word w4 rfl) (src := a) (dst := b) (cs := vp_cell cA (n0, .inl f)) (cd := vp_cell cB (n1, .inl g)) (srcPos := Int32.ofInt 0) (destPos := Int32.ofInt 0) (n := Int32.ofInt n) (by rw [hT]; exact e1) (by rw [hT]; exact e4)
    (fun _ h => by cases h) (fun _ h => by cases h) (fun h => by cases h) (fun h => by cases h) hk0 hk1 hkk0 hkk1 (by rfl) (by decide) (by decide) hnlt
    (by rw [hz2, hn2]; show ¬ _ > ((arrV cA n0 (fun j => .int (f j))).slots.size : Int); rw [arrV_size]; omega)
    (by rw [hz2, hn2]; show ¬ _ > ((arrV cB n1 (fun j => .int (g j))).slots.size : Int); rw [arrV_size]; omega)
    (fun vm₁ _ i hi => by
      rw [hnn] at hi
      have e : (vp_cell cA (n0, .inl f)).slots.getD ((Int32.ofInt 0).toNatClampNeg + i) .null = .int (f i) := by
        show (arrV cA n0 (fun j => .int (f j))).slots.getD _ _ = _
        rw [hz, Nat.zero_add, Array.getD_eq_getD_getElem?, arrV_read _ _ (by omega)]
        rfl
      rw [e]
      exact ⟨rfl, trivial⟩)
    (g := F0 m pc ls.toArray (I (n : Int) :: I 0 :: .ref b :: I 0 :: .ref a :: rest)) rfl (by rw [hml]; simpa using hsz) (rest := rest) rfl (by rw [hb]; exact dg) (show 1 ≤ d0 + 6 by omega) (by
      have hw9 : nativeFrameWords "java/lang/System" "arraycopy" 5 + 11 ≤ 60 := by decide +kernel
      show 2 * 0 + _ + _ ≤ 40 * d0 + 100
      omega)
  have ec : copied (vp_cell cA (n0, .inl f)) (vp_cell cB (n1, .inl g)) (Int32.ofInt 0) (Int32.ofInt 0) (Int32.ofInt n) = vp_cell cB (n1, .inl (fun j => if j < n then f j else g j)) := by
    unfold copied
    rw [hz, hnn]
    exact copied0 h0 h1
  rw [ec] at X' step
  have hl : b < H.size := (Array.getElem?_eq_some_iff.mp e4).1
  have hheap : ((T.setVm vm').setCell b (vp_cell cB (n1, .inl (fun j => if j < n then f j else g j)))).heap = H.setIfInBounds b (vp_cell cB (n1, .inl (fun j => if j < n then f j else g j))) := by rw [← hT]; rfl
  have oq : ∀ q : Nat, q ≠ b → (H.setIfInBounds b (vp_cell cB (n1, .inl (fun j => if j < n then f j else g j))))[q]? = H[q]? := fun q hq => by simp [Array.getElem?_setIfInBounds, Ne.symm hq]
  obtain ⟨t, a1, b1⟩ := k' (H.setIfInBounds b (vp_cell cB (n1, .inl (fun j => if j < n then f j else g j)))) _ cells slots q1 q2 (hR.set hb9 ⟨cB, by simp [Array.getElem?_setIfInBounds, hl], e5, e6⟩ (by simp) oq) (fun q hq => by
      rcases List.mem_append.mp hq with h | h
      · exact hL q h
      · obtain ⟨z, -, hz⟩ := List.mem_map.mp h
        rw [← hz]
        exact hbb) _ hheap X'
  exact ⟨t, step _ a1, b1⟩
def mnaW (own : String) (idx : Nat) : Bool := decide (Cond.classLink own idx ("[" ++ (FieldType.array .int).toString) ∈ lw_tbl) && decide (Cond.arrayOver (.array .int) ∈ lw_tbl) && decide (Cond.arrayClass .int ∈ lw_tbl)
theorem outer_is (cA : ClassId) (N q : Nat) : ∀ i, i ≤ N → Jvm.Free.Multi.outerC cA N q i = arrV cA N (fun j => if j < i then .ref (q + 1 + j) else .null)
  | 0, _ => by
    show ({ cls := cA, slots := Array.replicate N .null, vm := .none } : Cell) = _
    rw [arrV_new]
    congr 1
  | i + 1, hi => by
    show (Jvm.Free.Multi.outerC cA N q i).setSlot i (.ref (q + 1 + i)) = _
    rw [outer_is cA N q i (by omega), arrV_store]
    congr 1
    funext j
    unfold updV
    dsimp only
    by_cases h1 : j = i
    · subst h1; rw [if_pos rfl, if_pos (by omega)]
    · rw [if_neg h1]
      by_cases h2 : j < i
      · rw [if_pos h2, if_pos (by omega)]
      · rw [if_neg h2, if_neg (by omega)]
theorem wa_mna (hX : Ok X own cc nL ret nm d post px) {idx N K : Nat} (lo lr : Nat) (hN : N ≤ 1000) (hK : K ≤ 1000) (hw : mnaW own idx = true) (dg : decode cc pc = .ok (.multianewarray idx 2, 4))
    (k' : ∀ (a : Nat) (r : Nat → Nat) (h' : AH), (∀ i j, i < N → j < N → r i = r j → i = j) → h' a = some (lo, aR (.array .int) N (fun j => if j < N then some (r j) else none)) → (∀ j, j < N → h' (r j) = some (lr, aI .int K (fun _ => 0))) → (∀ b x, h b = some x → h' b = some x) → WA X h' k sl (pc + 4) ls (.ref a :: rest)) : WA X h (k + 1 + N) (sl + N + N * K) pc ls (I (K : Int) :: I (N : Int) :: rest) := by
  obtain ⟨p, l, e, s, m, args, below, meth, c, D, S0, d0, mc, ms, po, pp⟩ := X
  intro H locs cells slots q1 q2 hR hL
  unfold mnaW at hw
  simp only [Bool.and_eq_true, decide_eq_true_eq] at hw
  obtain ⟨⟨w1, w2⟩, w3⟩ := hw
  have hX' := hX
  obtain ⟨hxx, hb, hml, -, -, hown, hWH, ⟨A0, -, hT0, -, -⟩, -⟩ := hX'
  have hover : (Cond.arrayOver (.array .int)).before args s = true := arrayOver_alikeB hWH.alike (hT0 _ w2)
  intro T hT X0
  have hnN : (Int32.ofInt (N : Int)).toNatClampNeg = N := by rw [nn_tI (inR_nat (by omega))]; exact Int.toNat_natCast N
  have hnK : (Int32.ofInt (K : Int)).toNatClampNeg = K := by rw [nn_tI (inR_nat (by omega))]; exact Int.toNat_natCast K
  have hlt : ∀ z : Nat, z ≤ 1000 → ¬ Int32.ofInt (z : Int) < 0 := fun z hz => by
    rw [zI, ltI (inR_nat (by omega)) (by constructor <;> omega)]; omega
  have hNK : N * K ≤ 1000 * 1000 := Nat.mul_le_mul hN hK
  obtain ⟨vm₁, cA, comp, hW1, fA, fC, hO, hI, X', step⟩ := X0.multianewarray2F hxx hown (hX.word w1 rfl) hover (hX.word w3 rfl) (g := F0 m pc ls.toArray (I (K : Int) :: I (N : Int) :: rest)) rfl (by rw [hb]; exact dg) rfl (hlt N hN) (hlt K hK) (by rw [hnN]; omega) (by rw [hnK]; show K * 4 ≤ _; omega) (by rw [hnK]; omega) (by decide) (by decide) (by rw [hnN]; show cells + (1 + N) ≤ mc; omega) (by rw [hnN, hnK]; show slots + (N + N * K) ≤ ms; omega)
  rw [hnN, hnK] at X' step
  generalize hF : Jvm.Free.Multi.fill (T.setVm vm₁) cA comp N K (defaultValue .int) N = F at X' step
  have hTh : (T.setVm vm₁).heap = H := hT
  obtain ⟨f1, f2, -, -⟩ := Jvm.Free.Multi.fill_facts (T.setVm vm₁) cA comp N K (defaultValue .int) N
  rw [hF, hTh] at f1 f2
  have hold : ∀ x : Nat, x < H.size → F.heap[x]? = H[x]? := fun x hx => by
    have := Jvm.Free.Multi.fill_old (T.setVm vm₁) cA comp N K (defaultValue .int) (a := x) (by rw [hTh]; exact hx) N
    rw [hF, hTh] at this
    exact this
  have hrow : ∀ j : Nat, j < N → F.heap[H.size + 1 + j]? = some (vp_cell comp (K, .inl (fun _ => 0))) := fun j hj => by
    have := Jvm.Free.Multi.fill_inner (T.setVm vm₁) cA comp N K (defaultValue .int) N j hj
    rw [hF, hTh] at this
    rw [this, vp_cell_i]
    exact congrArg some (arrV_new comp K (.int 0))
  have hout : F.heap[H.size]? = some (vp_cell cA (N, .inr (.inr (.inr (.inr (fun j => if j < N then some (H.size + 1 + j) else none)))))) := by
    rw [f2, vp_cell_q, outer_is cA N H.size N (Nat.le_refl N)]
    congr 2
    funext j
    by_cases hj : j < N
    · rw [if_pos hj, if_pos hj]; rfl
    · rw [if_neg hj, if_neg hj]; rfl
  have hS0H : S0.heap.size ≤ H.size := hR.1
  have K9 := k' H.size (fun j => H.size + 1 + j) (fun b => if b = H.size then some (lo, aR (.array .int) N (fun j => if j < N then some (H.size + 1 + j) else none)) else if H.size < b ∧ b < H.size + 1 + N then some (lr, aI .int K (fun _ => 0)) else h b) (fun i j _ _ q => by omega) (if_pos rfl) (fun j hj => by
      rw [if_neg (by omega), if_pos (by omega)]) (fun b x hbx => by
      have hlt9 : b < H.size := (hR.2.2 b x.1 x.2 hbx).2.lt
      rw [if_neg (by omega), if_neg (by omega)]
      exact hbx) F.heap locs (cells + 1 + N) (slots + N + N * K) (by omega) (by omega) ⟨by rw [f1]; omega, fun q hq => by rw [hold q (by omega)]; exact hR.2.1 q hq, fun b lb o hbo => by
      dsimp only at hbo
      by_cases e1 : b = H.size
      · subst e1
        rw [if_pos rfl] at hbo
        cases hbo
        exact ⟨hS0H, cA, hout, fun n z => (hO 0 0 0).1, fA⟩
      · rw [if_neg e1] at hbo
        by_cases e2 : H.size < b ∧ b < H.size + 1 + N
        · rw [if_pos e2] at hbo
          cases hbo
          refine ⟨by omega, comp, ?_, fun n z => (hI 0 .null).1, fC⟩
          have h9 := hrow (b - (H.size + 1)) (by omega)
          rw [show H.size + 1 + (b - (H.size + 1)) = b by omega] at h9
          exact h9
        · rw [if_neg e2] at hbo
          have h9 := hR.2.2 b lb o hbo
          exact ⟨h9.1, h9.2.kept (hold b h9.2.lt)⟩⟩ hL F rfl X'
  obtain ⟨t, a1, b1⟩ := K9
  exact ⟨t, step _ (by rw [hT]; exact a1), b1⟩
end LYA
