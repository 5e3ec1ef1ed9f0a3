/-! Circuitfold$Elimination (X3): ranks -/
theorem low_off : ∀ s, s < 1024 → s = 0 ∨ (s &&& (s - 1) < s ∧ bc (s &&& (s - 1)) + 1 = bc s ∧ 2 ^ ntz s ≤ s) := by decide +kernel
theorem bc_le2 : ∀ n, n < 11 → ∀ s, s < 2 ^ n → bc s ≤ n := by decide +kernel
theorem pre_a : ∀ u, u < 1023 → (u + 1) &&& u = u / 2 ^ ntz (u + 1) * 2 ^ ntz (u + 1) ∧ ntz (u + 1) < 10 := by decide +kernel
theorem pre_b : ∀ u, u < 1024 → ∀ k, k < 10 → u / 2 ^ k * 2 ^ k = u ∨ (0 < u ∧ (u &&& (u - 1)) / 2 ^ k = u / 2 ^ k) := by decide +kernel
theorem low_lt (s : Nat) (h : 0 < s) : s &&& (s - 1) < s := Nat.lt_of_le_of_lt Nat.and_le_right (by omega)
abbrev Vp : Type := (Nat → Nat) × Int
def vp0 : Vp := (fun _ => 0, -1)
def stepE (f rows : Nat) (C : Nat → Nat → Nat) (c : List Vp) (s : Nat) : Vp := (finV f rows (redS f rows (fun j => (c.getD j vp0).1) (fun j => (c.getD j vp0).2) (C (ntz s)) c.length), fstE (redS f rows (fun j => (c.getD j vp0).1) (fun j => (c.getD j vp0).2) (C (ntz s)) c.length) rows)
/-- the reduced columns of a set, from its highest element down, each with its pivot -/
def chE (f rows : Nat) (C : Nat → Nat → Nat) (s : Nat) : List Vp := if h : 0 < s then chE f rows C (s &&& (s - 1)) ++ [stepE f rows C (chE f rows C (s &&& (s - 1))) s] else []
termination_by s
decreasing_by all_goals exact low_lt s h
theorem chE_pos {f rows : Nat} {C : Nat → Nat → Nat} {s : Nat} (h : 0 < s) : chE f rows C s = chE f rows C (s &&& (s - 1)) ++ [stepE f rows C (chE f rows C (s &&& (s - 1))) s] := by
  rw [chE, dif_pos h]
theorem chE_zero {f rows : Nat} {C : Nat → Nat → Nat} : chE f rows C 0 = [] := by
  rw [chE, dif_neg (Nat.lt_irrefl 0)]
def rkE (f rows : Nat) (C : Nat → Nat → Nat) (s : Nat) : Nat := (chE f rows C s).countP (fun x => decide (0 ≤ x.2))
theorem rkE_pos {f rows : Nat} {C : Nat → Nat → Nat} {s : Nat} (h : 0 < s) : rkE f rows C s = rkE f rows C (s &&& (s - 1)) + (if 0 ≤ (stepE f rows C (chE f rows C (s &&& (s - 1))) s).2 then 1 else 0) := by
  unfold rkE
  rw [chE_pos h, List.countP_append, List.countP_singleton]
  simp
theorem chE_len {f rows : Nat} {C : Nat → Nat → Nat} : ∀ s, s < 1024 → (chE f rows C s).length = bc s := by
  intro s
  induction s using Nat.strongRecOn with
  | _ s ih =>
    intro hs
    rcases low_off s hs with e | ⟨h1, h2, -⟩
    · subst e; rw [chE_zero]; rfl
    · rw [chE_pos (by omega), List.length_append, ih _ h1 (by omega), ← h2]; rfl
theorem rkE_le {f rows : Nat} {C : Nat → Nat → Nat} {s : Nat} (hs : s < 1024) : rkE f rows C s ≤ bc s := by
  rw [← chE_len (f := f) (rows := rows) (C := C) s hs]
  exact List.countP_le_length
theorem chE_pre {f rows : Nat} {C : Nat → Nat → Nat} {k : Nat} (hk : k < 10) : ∀ u, u < 1024 → ∃ t, chE f rows C u = chE f rows C (u / 2 ^ k * 2 ^ k) ++ t := by
  intro u
  induction u using Nat.strongRecOn with
  | _ u ih =>
    intro hu
    rcases pre_b u hu k hk with e | ⟨h0, e⟩
    · rw [e]; exact ⟨[], (List.append_nil _).symm⟩
    · have hl := low_lt u h0
      obtain ⟨t, ht⟩ := ih _ hl (by omega)
      rw [e] at ht
      refine ⟨t ++ [stepE f rows C (chE f rows C (u &&& (u - 1))) u], ?_⟩
      rw [chE_pos h0, ← List.append_assoc, ← ht]
theorem chE_next {f rows : Nat} {C : Nat → Nat → Nat} {u : Nat} (hu : u < 1023) : ∃ t, chE f rows C u = chE f rows C ((u + 1) &&& u) ++ t := by
  obtain ⟨h1, h2⟩ := pre_a u hu
  rw [h1]
  exact chE_pre h2 u (by omega)
theorem redS_congr {f rows : Nat} {R R' : Nat → Nat → Nat} {P P' : Nat → Int} {v : Nat → Nat} : ∀ k, (∀ j, j < k → R j = R' j ∧ P j = P' j) → redS f rows R P v k = redS f rows R' P' v k := by
  intro k
  induction k with
  | zero => intro _; rfl
  | succ k ih =>
    intro h
    have h1 := ih (fun j hj => h j (by omega))
    obtain ⟨h2, h3⟩ := h k (by omega)
    unfold redS
    rw [h1, h2, h3]
theorem chE_ok {f rows : Nat} {C : Nat → Nat → Nat} (hf : 0 < f) (hC : ∀ j, ∀ r, r < rows → C j r < f) : ∀ s x, x ∈ chE f rows C s → (∀ r, r < rows → x.1 r < f) ∧ -1 ≤ x.2 ∧ x.2 < rows := by
  intro s
  induction s using Nat.strongRecOn with
  | _ s ih =>
    intro x hx
    by_cases h0 : 0 < s
    · rw [chE_pos h0] at hx
      rcases List.mem_append.mp hx with q | q
      · exact ih _ (low_lt s h0) x q
      · rw [List.mem_singleton] at q
        subst q
        exact ⟨finV_lt hf (redS_lt hf (hC _) _), fstE_rng _ _⟩
    · rw [show s = 0 by omega, chE_zero] at hx
      cases hx
theorem getD_app {α : Type} {l t : List α} {j : Nat} {d : α} (h : j < l.length) : (l ++ t).getD j d = l.getD j d := by
  rw [List.getD_eq_getElem?_getD, List.getD_eq_getElem?_getD, List.getElem?_append_left h]
section C33
variable {l : Launch} {D : va_G} {S0 : State}
set_option maxRecDepth 100000 in
theorem c_X3_ranks (hW : WOK l D S0) (d : Nat) {h : AH} {a la f rows n cq rq pq lc lr lp : Nat} {rc rr : Nat → Nat} {C : Nat → Nat → Nat} {R : Nat → Nat → Nat} {P : Nat → Int} (h1 : h a = some (la, oElim f rows n cq rq pq)) (h2 : h cq = some (2, aRR n rc)) (h3 : h rq = some (2, aRR n rr)) (h4 : h pq = some (lp, aI .int n P)) (hc : ∀ j, j < n → ∃ G, h (rc j) = some (lc, aI .int rows G) ∧ ∀ r, r < rows → G r = ((C j r : Nat) : Int)) (hr : ∀ j, j < n → h (rr j) = some (lr, aV rows (R j))) (hn : n ≤ 10) (hrows : rows ≤ 10) (hf2 : 2 ≤ f) (hf5 : f ≤ 5) (hri : ∀ i j, i < n → j < n → rr i = rr j → i = j) (hl1 : lc ≠ lr) (hl2 : lr ≠ 2) (hl3 : lp ≠ lr) (hl4 : lp ≠ 2) (hl5 : la ≠ lr) (hl6 : la ≠ lp) (hl7 : lc ≠ lp) (hC : ∀ j, ∀ r, r < rows → C j r < f) : MA l D S0 yX3_ranks cX3_ranks 5 (some (.array .byte)) (d + 3) [.ref a] h 1 1024 (fun r h' => ∃ b, r = some (.ref b) ∧ h b = none ∧ h' b = some (2, aB n (rkE f rows C)) ∧ Fr (fun x => x = lr ∨ x = lp) h h') (fun _ _ => False) := by
  have hp := p2_le hn
  have hp0 := p2_pos n
  refine MA.start hW (by decide) [.val (.ref a), .unset, .unset, .unset, .unset] rfl ?_
  rintro X rfl rfl rfl hX
  refine wa_aload_n hX (i := 0) dX3_ranks_0 rfl rfl ?_
  refine wa_get hX 2 (by assumption) (by rfl) (by decide +kernel) dX3_ranks_1 ?_
  refine wa_callS hX (c_X9_blank hW (d + 1) hn) (by rfl) (by omega) (nA := 1) (by rfl) (by decide +kernel) rfl (by exact Nat.le_of_ble_eq_true rfl) dX3_ranks_4 (fun r4 h4 p4 => ?_) (fun _ _ q => q.elim)
  obtain ⟨b, rfl, bn, rfl⟩ := p4
  dsimp only [Option.toList, List.cons_append, List.nil_append]
  refine wa_astore_n hX (i := 1) dX3_ranks_7 rfl (by first | rfl | exact hu1 | exact hu2 | exact hu3 | exact hu4) ?_
  dsimp only [List.set]
  refine wi_iconst hX dX3_ranks_8 ?_
  refine wa_istore_n hX (i := 2) dX3_ranks_9 rfl (by first | rfl | exact hu1 | exact hu2 | exact hu3 | exact hu4) ?_
  dsimp only [List.set]
  refine WA.loop (σ := Nat × AH × Slot × Slot) (fun z => 2 ^ n - z.1) (fun z => z.1 < 2 ^ n ∧ okS [z.2.2.1] 0 = true ∧ okS [z.2.2.2] 0 = true ∧ (∃ F, z.2.1 b = some (2, aI .byte (2 ^ n) F) ∧ ∀ j, j < 2 ^ n → j ≤ z.1 → F j = ((rkE f rows C j : Nat) : Int)) ∧ Fr (fun x => x = lr ∨ x = lp) h z.2.1 ∧ ∃ (R : Nat → Nat → Nat) (P : Nat → Int), z.2.1 pq = some (lp, aI .int n P) ∧ (∀ j, j < n → z.2.1 (rr j) = some (lr, aV rows (R j))) ∧ ∀ j, j < (chE f rows C z.1).length → R j = ((chE f rows C z.1).getD j vp0).1 ∧ P j = ((chE f rows C z.1).getD j vp0).2) (fun z => z.2.1) (fun z => [.val (.ref a), .val (.ref b), .val (I ((z.1 + 1 : Nat) : Int)), z.2.2.1, z.2.2.2]) ?_ (0, hset h b (2, aI .byte (2 ^ n) (fun _ => 0)), .unset, .unset) ⟨hp0, rfl, rfl, ⟨_, hset_eq, fun j hj h0 => by
    have e : j = 0 := by dsimp only at h0; omega
    subst e
    unfold rkE
    rw [chE_zero]
    rfl⟩, fun y ly oy hy _ => hset_new bn hy, R, P, hset_new bn h4, fun j hj => hset_new bn (hr j hj), fun j hj => by
      dsimp only at hj
      rw [chE_zero] at hj
      exact absurd hj (Nat.not_lt_zero j)⟩
  clear h4 hr R P
  rintro ⟨u, hh, u1, u2⟩ ⟨hu, hu1, hu2, ⟨F, hb, hF⟩, hFr, R, P, h4, hr, hRP⟩ ih
  dsimp only at hu hu1 hu2 hb hF hFr h4 hr hRP ⊢
  have h1i := hFr _ _ _ h1 (by omega)
  have h2i := hFr _ _ _ h2 (by omega)
  have h3i := hFr _ _ _ h3 (by omega)
  refine wa_iload_n hX (i := 2) dX3_ranks_10 rfl rfl ?_
  refine wa_aload_n hX (i := 1) dX3_ranks_11 rfl rfl ?_
  refine wa_len hX (by assumption) dX3_ranks_12 ?_
  refine wi_icmp_ge hX (tgt := 70) dX3_ranks_13 (by decide) (by omega) (by omega) (fun c13 => ?_) (fun c13 => ?_)
  · skip
    refine WA.ext9 (fun j => ((rkE f rows C j : Nat) : Int)) hb (fun j hj => hF j hj (by omega)) ?_
    refine wa_aload_n hX (i := 1) dX3_ranks_70 rfl rfl ?_
    refine wa_aretR hX dX3_ranks_71 (by first | exact Or.inl ⟨_, rfl⟩ | exact Or.inr ⟨_, rfl⟩) ?_
    refine ⟨b, rfl, bn, hset_eq, fun y ly oy hy hn9 => (hset_ne (fun e => by subst e; rw [bn] at hy; cases hy)).trans (hFr y ly oy hy hn9)⟩
  · skip
    have hs : u + 1 < 2 ^ n := by omega
    obtain ⟨t9, ht9⟩ := chE_next (f := f) (rows := rows) (C := C) (u := u) (by omega)
    rcases low_off (u + 1) (by omega) with e9 | ⟨lo1, lo2, lo3⟩
    · omega
    rw [Nat.add_sub_cancel] at lo1 lo2
    have hbn := bc_le2 n (by omega) (u + 1) hs
    have hnz : ntz (u + 1) < n := p2_inv (by omega)
    obtain ⟨Gc, hc0, hGc⟩ := hc _ hnz
    have hci := hFr _ _ _ hc0 (by omega)
    have hlen := chE_len (f := f) (rows := rows) (C := C) ((u + 1) &&& u) (by omega)
    have hplc : (chE f rows C ((u + 1) &&& u)).length = bc (u + 1) - 1 := by omega
    refine wa_iload_n hX (i := 2) dX3_ranks_16 rfl rfl ?_
    refine wa_callS hX (c_J6_bitCount hW (d + 2) (s := u + 1) (by omega)) (by rfl) (by omega) (nA := 1) (by rfl) (by decide +kernel) rfl (by exact Nat.le_of_ble_eq_true rfl) dX3_ranks_17 (fun r17 h17 p17 => ?_) (fun _ _ q => q.elim)
    obtain ⟨rfl, qq17⟩ := p17; subst h17
    dsimp only [Option.toList, List.cons_append, List.nil_append]
    refine wi_iconst hX dX3_ranks_20 ?_
    refine wi_isub hX dX3_ranks_21 ?_
    refine wa_istore_n hX (i := 3) dX3_ranks_22 rfl (by first | rfl | exact hu1 | exact hu2 | exact hu3 | exact hu4) ?_
    dsimp only [List.set]
    refine wa_aload_n hX (i := 0) dX3_ranks_23 rfl rfl ?_
    refine wa_iload_n hX (i := 2) dX3_ranks_24 rfl rfl ?_
    refine wa_callS hX (c_J6_ntz hW (d + 2) (u + 1) (by omega)) (by rfl) (by omega) (nA := 1) (by rfl) (by decide +kernel) rfl (by exact Nat.le_of_ble_eq_true rfl) dX3_ranks_25 (fun r25 h25 p25 => ?_) (fun _ _ q => q.elim)
    obtain ⟨rfl, qq25⟩ := p25; subst h25
    dsimp only [Option.toList, List.cons_append, List.nil_append]
    refine wa_iload_n hX (i := 3) dX3_ranks_28 rfl rfl ?_
    have hagree : ∀ j, j < bc (u + 1) - 1 → R j = ((chE f rows C ((u + 1) &&& u)).getD j vp0).1 ∧ P j = ((chE f rows C ((u + 1) &&& u)).getD j vp0).2 := fun j hj => by
      have h9 := hRP j (by rw [ht9, List.length_append]; omega)
      rw [ht9, getD_app (by omega)] at h9
      exact h9
    have hmem : ∀ j, j < bc (u + 1) - 1 → ((chE f rows C ((u + 1) &&& u)).getD j vp0) ∈ chE f rows C ((u + 1) &&& u) := fun j hj => by
      rw [List.getD_eq_getElem?_getD, List.getElem?_eq_getElem (by omega)]
      exact List.getElem_mem _
    rw [show (((bc (u + 1) : Nat) : Int) - 1) = ((bc (u + 1) - 1 : Nat) : Int) by omega]
    refine wa_callV hX (c_X3_reduce hW d (lc := lc) h1i h2i h3i h4 hci hGc hr hnz (pl := bc (u + 1) - 1) (by omega) hn hrows hf2 hf5 hri hl1 hl2 hl3 hl4 (hC _) (fun j hj r hr9 => by rw [(hagree j hj).1]; exact (chE_ok (by omega) hC _ _ (hmem j hj)).1 r hr9) (fun j hj => by rw [(hagree j hj).2]; exact (chE_ok (by omega) hC _ _ (hmem j hj)).2)) (by assumption) (by rfl) (by rfl) (by omega) (nA := 2) (by rfl) (by decide +kernel) rfl (by exact Nat.le_of_ble_eq_true rfl) dX3_ranks_29 (fun r29 h29 p29 => ?_) (fun _ _ q => q.elim)
    obtain ⟨rfl, g1, g2, g3⟩ := p29
    have hst : redS f rows R P (C (ntz (u + 1))) (bc (u + 1) - 1) = redS f rows (fun j => ((chE f rows C ((u + 1) &&& u)).getD j vp0).1) (fun j => ((chE f rows C ((u + 1) &&& u)).getD j vp0).2) (C (ntz (u + 1))) (chE f rows C ((u + 1) &&& u)).length := by
      rw [hplc]
      exact redS_congr _ hagree
    rw [hst] at g1 g2
    have g1' : h29 (rr (bc (u + 1) - 1)) = some (lr, aV rows (stepE f rows C (chE f rows C ((u + 1) &&& u)) (u + 1)).1) := g1
    have g2' : h29 pq = some (lp, aI .int n (up P (bc (u + 1) - 1) (stepE f rows C (chE f rows C ((u + 1) &&& u)) (u + 1)).2)) := g2
    clear g1 g2 hst
    have hpos : rkE f rows C (u + 1) = rkE f rows C ((u + 1) &&& u) + (if 0 ≤ (stepE f rows C (chE f rows C ((u + 1) &&& u)) (u + 1)).2 then 1 else 0) := rkE_pos (by omega)
    have hchp : chE f rows C (u + 1) = chE f rows C ((u + 1) &&& u) ++ [stepE f rows C (chE f rows C ((u + 1) &&& u)) (u + 1)] := chE_pos (by omega)
    have hrng : -1 ≤ (stepE f rows C (chE f rows C ((u + 1) &&& u)) (u + 1)).2 ∧ (stepE f rows C (chE f rows C ((u + 1) &&& u)) (u + 1)).2 < rows := fstE_rng _ _
    generalize hSt : stepE f rows C (chE f rows C ((u + 1) &&& u)) (u + 1) = st at g1' g2' hpos hchp hrng
    have hbrr : b ≠ rr (bc (u + 1) - 1) := lab_ne (hr _ (by omega)) hb hl2.symm
    have hbpq : b ≠ pq := lab_ne h4 hb hl4.symm
    have hb9 : h29 b = some (2, aI .byte (2 ^ n) F) := (g3 b hbrr hbpq).trans hb
    have hFr9 : Fr (fun x => x = lr ∨ x = lp) h h29 := fun y ly oy hy hn9 => by
      have hy2 := hFr y ly oy hy hn9
      refine (g3 y (lab_ne (hr _ (by omega)) hy2 (fun e => hn9 (Or.inl e))) (lab_ne h4 hy2 (fun e => hn9 (Or.inr e)))).trans hy2
    have h1j := hFr9 _ _ _ h1 (by omega)
    have hrk9 := rkE_le (f := f) (rows := rows) (C := C) (s := u + 1) (by omega)
    have hbl := bc_le (u + 1)
    dsimp only [Option.toList, List.cons_append, List.nil_append]
    refine wa_aload_n hX (i := 1) dX3_ranks_32 rfl rfl ?_
    refine wa_iload_n hX (i := 2) dX3_ranks_33 rfl rfl ?_
    refine wa_iload_n hX (i := 2) dX3_ranks_34 rfl rfl ?_
    refine wi_iconst hX dX3_ranks_35 ?_
    refine wi_isub hX dX3_ranks_36 ?_
    rw [show (((u + 1 : Nat) : Int) - 1) = ((u : Nat) : Int) by omega]
    refine wn_iand hX dX3_ranks_37 (by rfl) (by rfl) ?_
    refine wa_callS hX (c_X9_at hW (d + 2) hb9 (by omega) (i := (((u + 1) &&& u : Nat) : Int)) (by omega)) (by rfl) (by omega) (nA := 2) (by rfl) (by decide +kernel) rfl (by exact Nat.le_of_ble_eq_true rfl) dX3_ranks_38 (fun r38 h38 p38 => ?_) (fun _ _ q => q.elim)
    obtain ⟨rfl, qq38⟩ := p38; subst h38
    rw [atv_in (by omega), hF _ (by omega) (by omega)]
    dsimp only [Option.toList, List.cons_append, List.nil_append]
    refine wa_istore hX dX3_ranks_41 (by first | rfl | exact hu1 | exact hu2 | exact hu3 | exact hu4) ?_
    dsimp only [List.set]
    refine wa_aload_n hX (i := 1) dX3_ranks_43 rfl rfl ?_
    refine wa_iload_n hX (i := 2) dX3_ranks_44 rfl rfl ?_
    refine wa_aload_n hX (i := 0) dX3_ranks_45 rfl rfl ?_
    refine wa_iload_n hX (i := 3) dX3_ranks_46 rfl rfl ?_
    refine wa_callV hX (c_X3_pivotAt hW (d + 2) h1j g2' (j := bc (u + 1) - 1) (by omega) hn) (by assumption) (by rfl) (by rfl) (by omega) (nA := 1) (by rfl) (by decide +kernel) rfl (by exact Nat.le_of_ble_eq_true rfl) dX3_ranks_47 (fun r47 h47 p47 => ?_) (fun _ _ q => q.elim)
    obtain ⟨rfl, qq47⟩ := p47; subst h47
    rw [up_s]
    dsimp only [Option.toList, List.cons_append, List.nil_append]
    refine wi_if_lt hX (tgt := 60) dX3_ranks_50 (by decide) (by omega) (fun c50 => ?_) (fun c50 => ?_)
    · skip
      refine wa_iload hX dX3_ranks_60 rfl ?_
      refine wn_i2b hX (rkE f rows C (u + 1)) dX3_ranks_62 (by first | (rw [hpos, if_pos (by omega)]; omega) | (rw [hpos, if_neg (by omega)]; omega)) (by omega) ?_
      refine wi_bastore hX hb9 (by omega) (by omega) (by omega) (nar8 _ (by omega)) dX3_ranks_63 ?_
      refine wi_iinc hX dX3_ranks_64 rfl ?_
      dsimp only [List.set]
      refine wa_goto hX (tgt := 10) dX3_ranks_67 (by decide) ?_
      refine ih (u + 1, hset h29 b (2, aI .byte (2 ^ n) (up F ((u + 1 : Nat) : Int).toNat ((rkE f rows C (u + 1) : Nat) : Int))), .val (I ((bc (u + 1) - 1 : Nat) : Int)), .val (I ((rkE f rows C ((u + 1) &&& u) : Nat) : Int))) ⟨hs, rfl, rfl, ⟨_, hset_eq, fun j hj hju => ?_⟩, fun y ly oy hy hn9 => ?_, (fun j => if j = bc (u + 1) - 1 then st.1 else R j), up P (bc (u + 1) - 1) st.2, ?_, fun j hj => ?_, fun j hj => ?_⟩ (by show 2 ^ n - (u + 1) < 2 ^ n - u; omega)
      · rw [up_is, Int.toNat_natCast]
        by_cases e9 : j = u + 1
        · subst e9; rw [if_pos rfl]
        · rw [if_neg e9]; exact hF j hj (by dsimp only at hju; omega)
      · have hyb : y ≠ b := fun e => by subst e; rw [bn] at hy; cases hy
        exact (hset_ne hyb).trans (hFr9 y ly oy hy hn9)
      · exact (hset_ne hbpq.symm).trans g2'
      · have hjb : rr j ≠ b := lab_ne hb (hr j hj) hl2
        dsimp only
        rw [hset_ne hjb]
        by_cases e9 : j = bc (u + 1) - 1
        · subst e9; rw [if_pos rfl]; exact g1'
        · rw [if_neg e9]
          refine (g3 _ (fun e => e9 (hri j _ hj (by omega) e)) (lab_ne h4 (hr j hj) hl3.symm)).trans (hr j hj)
      · dsimp only at hj ⊢
        rw [hchp, List.length_append, List.length_singleton, hplc] at hj
        rw [hchp, up_is]
        by_cases e9 : j = bc (u + 1) - 1
        · rw [if_pos e9, if_pos e9, List.getD_eq_getElem?_getD, List.getElem?_append_right (by omega), show j - (chE f rows C ((u + 1) &&& u)).length = 0 by omega]
          exact ⟨rfl, rfl⟩
        · rw [if_neg e9, if_neg e9, getD_app (by omega)]
          exact hagree j (by omega)
    · skip
      refine wa_iload hX dX3_ranks_53 rfl ?_
      refine wi_iconst hX dX3_ranks_55 ?_
      refine wi_iadd hX dX3_ranks_56 ?_
      refine wa_goto hX (tgt := 62) dX3_ranks_57 (by decide) ?_
      refine wn_i2b hX (rkE f rows C (u + 1)) dX3_ranks_62 (by first | (rw [hpos, if_pos (by omega)]; omega) | (rw [hpos, if_neg (by omega)]; omega)) (by omega) ?_
      refine wi_bastore hX hb9 (by omega) (by omega) (by omega) (nar8 _ (by omega)) dX3_ranks_63 ?_
      refine wi_iinc hX dX3_ranks_64 rfl ?_
      dsimp only [List.set]
      refine wa_goto hX (tgt := 10) dX3_ranks_67 (by decide) ?_
      refine ih (u + 1, hset h29 b (2, aI .byte (2 ^ n) (up F ((u + 1 : Nat) : Int).toNat ((rkE f rows C (u + 1) : Nat) : Int))), .val (I ((bc (u + 1) - 1 : Nat) : Int)), .val (I ((rkE f rows C ((u + 1) &&& u) : Nat) : Int))) ⟨hs, rfl, rfl, ⟨_, hset_eq, fun j hj hju => ?_⟩, fun y ly oy hy hn9 => ?_, (fun j => if j = bc (u + 1) - 1 then st.1 else R j), up P (bc (u + 1) - 1) st.2, ?_, fun j hj => ?_, fun j hj => ?_⟩ (by show 2 ^ n - (u + 1) < 2 ^ n - u; omega)
      · rw [up_is, Int.toNat_natCast]
        by_cases e9 : j = u + 1
        · subst e9; rw [if_pos rfl]
        · rw [if_neg e9]; exact hF j hj (by dsimp only at hju; omega)
      · have hyb : y ≠ b := fun e => by subst e; rw [bn] at hy; cases hy
        exact (hset_ne hyb).trans (hFr9 y ly oy hy hn9)
      · exact (hset_ne hbpq.symm).trans g2'
      · have hjb : rr j ≠ b := lab_ne hb (hr j hj) hl2
        dsimp only
        rw [hset_ne hjb]
        by_cases e9 : j = bc (u + 1) - 1
        · subst e9; rw [if_pos rfl]; exact g1'
        · rw [if_neg e9]
          refine (g3 _ (fun e => e9 (hri j _ hj (by omega) e)) (lab_ne h4 (hr j hj) hl3.symm)).trans (hr j hj)
      · dsimp only at hj ⊢
        rw [hchp, List.length_append, List.length_singleton, hplc] at hj
        rw [hchp, up_is]
        by_cases e9 : j = bc (u + 1) - 1
        · rw [if_pos e9, if_pos e9, List.getD_eq_getElem?_getD, List.getElem?_append_right (by omega), show j - (chE f rows C ((u + 1) &&& u)).length = 0 by omega]
          exact ⟨rfl, rfl⟩
        · rw [if_neg e9, if_neg e9, getD_app (by omega)]
          exact hagree j (by omega)
end C33
