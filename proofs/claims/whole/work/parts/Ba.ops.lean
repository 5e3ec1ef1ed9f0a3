/-! The law: each operation: what both sides say goes together -/
section Ba
/-- both sides' states after a call -/
def Mg (S0 : State) (h1 h2 : AH) (x mo kk pc ps : Nat) : Prop := ∃ (w : Nat → Nat) (c m : Nat) (E : Nat → Nat) (R : Nat → Nat → Nat) (br bf bs be : Int) (D2 D3 : Nat → Bool) (so : Nat) (b0 b1 b2 : Int), HI h1 x w c m E R br bf bs be D2 D3 so ∧ RI (zA S0) DRp h2 mo kk c w m E R b0 b1 b2 ∧ BrR br bf bs be b0 b1 b2 ∧ pC so D2 ≤ pc ∧ pS so D2 ≤ ps
theorem iI {z v : Int} (h : some (I z) = some (I v)) : Int32.ofInt z = Int32.ofInt v := Value.int.inj (Option.some.inj h)
theorem ex1 {e e1 : String} {k : Nat} (h : [e1][k - 1]? = some e) (hk : 1 ≤ k) : k = 1 ∧ e = e1 := by
  obtain ⟨j, rfl⟩ : ∃ j, k = j + 1 := ⟨k - 1, by omega⟩
  rw [Nat.add_sub_cancel] at h
  match j, h with
  | 0, h => exact ⟨rfl, (Option.some.inj h).symm⟩
theorem ex2 {e e1 e2 : String} {k : Nat} (h : [e1, e2][k - 1]? = some e) (hk : 1 ≤ k) : (k = 1 ∧ e = e1) ∨ (k = 2 ∧ e = e2) := by
  obtain ⟨j, rfl⟩ : ∃ j, k = j + 1 := ⟨k - 1, by omega⟩
  rw [Nat.add_sub_cancel] at h
  match j, h with
  | 0, h => exact Or.inl ⟨rfl, (Option.some.inj h).symm⟩
  | 1, h => exact Or.inr ⟨rfl, (Option.some.inj h).symm⟩
theorem ex3 {e e1 e2 e3 : String} {k : Nat} (h : [e1, e2, e3][k - 1]? = some e) (hk : 1 ≤ k) : (k = 1 ∧ e = e1) ∨ (k = 2 ∧ e = e2) ∨ (k = 3 ∧ e = e3) := by
  obtain ⟨j, rfl⟩ : ∃ j, k = j + 1 := ⟨k - 1, by omega⟩
  rw [Nat.add_sub_cancel] at h
  match j, h with
  | 0, h => exact Or.inl ⟨rfl, (Option.some.inj h).symm⟩
  | 1, h => exact Or.inr (Or.inl ⟨rfl, (Option.some.inj h).symm⟩)
  | 2, h => exact Or.inr (Or.inr ⟨rfl, (Option.some.inj h).symm⟩)
theorem ex4 {e e1 e2 e3 e4 : String} {k : Nat} (h : [e1, e2, e3, e4][k - 1]? = some e) (hk : 1 ≤ k) : (k = 1 ∧ e = e1) ∨ (k = 2 ∧ e = e2) ∨ (k = 3 ∧ e = e3) ∨ (k = 4 ∧ e = e4) := by
  obtain ⟨j, rfl⟩ : ∃ j, k = j + 1 := ⟨k - 1, by omega⟩
  rw [Nat.add_sub_cancel] at h
  match j, h with
  | 0, h => exact Or.inl ⟨rfl, (Option.some.inj h).symm⟩
  | 1, h => exact Or.inr (Or.inl ⟨rfl, (Option.some.inj h).symm⟩)
  | 2, h => exact Or.inr (Or.inr (Or.inl ⟨rfl, (Option.some.inj h).symm⟩))
  | 3, h => exact Or.inr (Or.inr (Or.inr ⟨rfl, (Option.some.inj h).symm⟩))
/-- the made matroid's ranks, told otherwise -/
theorem RI.up {Z : Nat → Prop} {H : AH} {a th c m e : Nat} {w : Nat → Nat} {E : Nat → Nat} {R : Nat → Nat → Nat} {X Y : Nat → Nat} {b0 b1 b2 : Int} (q : RI Z DRp H a th c w (m + 1) (up E m e) (up R m X) b0 b1 b2) (h : ∀ s, s < 2 ^ e → X s = Y s) : RI Z DRp H a th c w (m + 1) (up E m e) (up R m Y) b0 b1 b2 := by
  refine RI_congr (fun j hj s hs => ?_) q
  by_cases g : j = m
  · subst g
    rw [up_s] at hs
    rw [up_s, up_s]
    exact h s hs
  · rw [up_n g, up_n g]
theorem b2n_01 (b : Bool) : ((b2n b : Nat) : Int) = 0 ∨ ((b2n b : Nat) : Int) = 1 := by cases b <;> decide
theorem lI {z v : Int64} (h : some (Value.long z) = some (.long v)) : z = v := Value.long.inj (Option.some.inj h)
theorem srt_some {ch : Int} {t : Nat} (h : sortOf ch = some t) : srtC ch := by
  rcases srt_letter (ch := ch) with ⟨t', q1, q2, -⟩ | ⟨q1, -⟩
  · exact q2
  · rw [h] at q1; cases q1
theorem srt_none {ch : Int} (h : sortOf ch = none) : ¬ srtC ch := by
  rcases srt_letter (ch := ch) with ⟨t', q1, q2, -⟩ | ⟨-, q1⟩
  · rw [h] at q1; cases q1
  · exact q1
theorem cw_yes {rk : Nat → Nat} {e t : Nat} (h : (sortN rk e t &&& 2 != 0) = true) : bsB rk e t = true := by rw [← sortB9]; exact h
theorem cw_no {rk : Nat → Nat} {e t : Nat} {b : Int} (h : ¬ (0 ≤ b ∧ b < ((2 ^ e : Nat) : Int) ∧ sortN rk e b.toNat &&& 2 ≠ 0)) (hb : b = ((t : Nat) : Int)) (ht : t < 2 ^ e) : bsB rk e t = false := by
  subst hb
  rw [Int.toNat_natCast] at h
  rw [← sortB9, Bool.eq_false_iff]
  intro z
  rw [bne_iff_ne] at z
  exact h ⟨by omega, by omega, z⟩
theorem common_v {r1 r2 : Nat → Nat} {e e2 : Nat} (h1 : Mtr e r1) (h2 : Mtr e2 r2) (h : e = e2) : bc (amx (fun s => (sortN r1 e s &&& 1 != 0) && (sortN r2 e s &&& 1 != 0)) bc 0 0 (2 ^ e)).1 = mstN r1 r2 (2 ^ e) := by
  subst h
  exact (common_is h1 h2 rfl).2.1.2.2
theorem least_one {P : Nat → Prop} {a b : Nat} (a1 : P a) (a2 : ∀ u, u < a → ¬ P u) (b1 : P b) (b2 : ∀ u, u < b → ¬ P u) : a = b := by
  rcases Nat.lt_trichotomy a b with z | z | z
  · exact absurd a1 (b2 a z)
  · exact z
  · exact absurd b1 (a2 b z)
theorem commonSet_v {r1 r2 : Nat → Nat} {e e2 t : Nat} (h1 : Mtr e r1) (h2 : Mtr e2 r2) (h : e = e2) (t1 : (fun u => frB r1 u = true ∧ frB r2 u = true ∧ bc u = mstN r1 r2 (2 ^ e)) t) (t2 : ∀ u, u < t → ¬ (fun u => frB r1 u = true ∧ frB r2 u = true ∧ bc u = mstN r1 r2 (2 ^ e)) u) : (amx (fun s => (sortN r1 e s &&& 1 != 0) && (sortN r2 e s &&& 1 != 0)) bc 0 0 (2 ^ e)).1 = t := by
  subst h
  obtain ⟨-, a1, a2⟩ := common_is h1 h2 rfl
  exact least_one a1 a2 t1 t2
theorem commonBound_v {r1 r2 : Nat → Nat} {e e2 t : Nat} (h1 : Mtr e r1) (h2 : Mtr e2 r2) (h : e = e2) (t1 : (fun u => r1 u + r2 (sdf (2 ^ e - 1) u) = mstN r1 r2 (2 ^ e)) t) (t2 : ∀ u, u < t → ¬ (fun u => r1 u + r2 (sdf (2 ^ e - 1) u) = mstN r1 r2 (2 ^ e)) u) : (amn (fun _ => true) (fun s => r1 s + r2 (sdf (2 ^ e - 1) s)) 0 (r2 (2 ^ e - 1)) (2 ^ e)).1 = t := by
  subst h
  obtain ⟨-, a1, a2⟩ := bound_is h1 h2 rfl
  exact least_one a1 a2 t1 t2
theorem coverBound_v {rk : Nat → Nat} {e t : Nat} (hM : Mtr e rk) (hl : loopB rk e = false) (he : e ≠ 0) (t0 : 1 ≤ t) (t1 : ndN rk t = cvM rk (2 ^ e)) (t2 : ∀ u, 1 ≤ u → u < t → ndN rk u ≠ cvM rk (2 ^ e)) : (amx (fun _ => true) (pfN rk) 0 0 (2 ^ e)).1 = t := by
  obtain ⟨b1, -, b3, b4⟩ := (cover_is hM hl rfl).2 he
  exact least_one (P := fun u => 1 ≤ u ∧ ndN rk u = cvM rk (2 ^ e)) ⟨b1, b3⟩ (fun u hu z => b4 u z.1 hu z.2) ⟨t0, t1⟩ (fun u hu z => t2 u z.1 hu z.2)
theorem packingBound_v {rk : Nat → Nat} {e t : Nat} (hM : Mtr e rk) (h0 : rk (2 ^ e - 1) ≠ 0) (t1 : alwN rk e t = pkM rk e (2 ^ e)) (t2 : ∀ u, u < t → alwN rk e u ≠ pkM rk e (2 ^ e)) : (amn (fun s => decide (rk s < rk (2 ^ e - 1))) (bbN rk e (rk (2 ^ e - 1))) 0 (bbN rk e (rk (2 ^ e - 1)) 0) (2 ^ e)).1 = t := by
  obtain ⟨-, -, b3, b4⟩ := packing_is hM h0 rfl
  exact least_one (P := fun u => alwN rk e u = pkM rk e (2 ^ e)) b3 b4 t1 t2
theorem minor_v {r1 r2 : Nat → Nat} {e1 e2 c1 d1 : Nat} {co de : Int} (h1 : Mtr e1 r1) (h2 : Mtr e2 r2) (h : MinP r1 e1 r2 e2 1 co de) (hc : c1 < 1024) (hd : d1 < 1024) (h3 : MinG r1 e1 r2 e2 ((1024 * c1 + d1 : Nat) : Int)) : co = (c1 : Int) ∧ de = (d1 : Int) := by
  have p1 := p2_le h1.1
  rcases minor_same h1 h2 h h3 with ⟨z, -⟩ | ⟨-, c, d, z1, z2, z3, z4, z5⟩
  · omega
  · omega
theorem minor_n1 {r1 r2 : Nat → Nat} {e1 e2 : Nat} {co de : Int} (h1 : Mtr e1 r1) (h2 : Mtr e2 r2) (h : MinP r1 e1 r2 e2 1 co de) (h3 : MinG r1 e1 r2 e2 (-1)) : False := by
  rcases minor_same h1 h2 h h3 with ⟨z, -⟩ | ⟨-, c, d, z1, -⟩ <;> omega
theorem minor_n2 {r1 r2 : Nat → Nat} {e1 e2 c1 d1 : Nat} {co de : Int} (h1 : Mtr e1 r1) (h2 : Mtr e2 r2) (h : MinP r1 e1 r2 e2 0 co de) (h3 : MinG r1 e1 r2 e2 ((1024 * c1 + d1 : Nat) : Int)) : False := by
  rcases minor_same h1 h2 h h3 with ⟨-, z⟩ | ⟨z, -⟩ <;> omega
theorem col_ok {c y : Nat} (hm : c % y = 0) (hy : 1 ≤ y) : c ≤ y * 10 ↔ c / y ≤ 10 := by
  have q := Nat.div_add_mod c y
  rw [hm, Nat.add_zero] at q
  constructor
  · intro z
    exact Nat.div_le_of_le_mul z
  · intro z
    rw [← q]
    exact Nat.mul_le_mul_left y z
theorem smC_up {D2 : Nat → Bool} {i : Nat} : ∀ n, smC (up D2 i true) n ≤ smC D2 n ∧ smS (up D2 i true) n ≤ smS D2 n := by
  intro n
  induction n with
  | zero => exact ⟨Nat.le_refl _, Nat.le_refl _⟩
  | succ n ih =>
    unfold smC smS
    by_cases g : n = i
    · subst g
      rw [up_s]
      have : rmC true = 0 := rfl
      have : rmS true = 0 := rfl
      omega
    · rw [up_n g]
      omega
theorem pC_up {D2 : Nat → Bool} {i so fN : Nat} : pC so (if fN = 2 then up D2 i true else D2) ≤ pC so D2 := by
  unfold pC
  split
  · have := (smC_up (D2 := D2) (i := i) 24).1
    omega
  · exact Nat.le_refl _
theorem pS_up {D2 : Nat → Bool} {i so fN : Nat} : pS so (if fN = 2 then up D2 i true else D2) ≤ pS so D2 := by
  unfold pS
  split
  · have := (smC_up (D2 := D2) (i := i) 24).2
    omega
  · exact Nat.le_refl _
theorem drw_none {rk : Nat → Nat} {e f : Nat} {tr : Int} {o : Option (Nat → Nat)} (hM : Mtr e rk) (hf : f = 2 ∨ f = 3) (h1 : draP rk e f tr) (h2 : DRp rk e f o) : tr = ((b2n o.isSome : Nat) : Int) := by
  rcases drawing_same hM hf h1 h2 with ⟨z1, z2⟩ | ⟨g, z1, z2, -⟩
  · rw [z1, z2]; rfl
  · rw [z1, z2]; rfl
theorem drw_val {rk : Nat → Nat} {e f k t : Nat} {tr : Int} {g : Nat → Nat} (hM : Mtr e rk) (hf : f = 2 ∨ f = 3) (h1 : draP rk e f tr) (h2 : DRp rk e f (some g)) (hk : k < e) (ht : t < rk (2 ^ e - 1)) : drG (sortN rk e) e (bsN rk e) f k t = g (rk (2 ^ e - 1) * k + t) := by
  rcases drawing_same hM hf h1 h2 with ⟨z1, -⟩ | ⟨g', z1, -, z3⟩
  · cases z1
  · cases z1
    exact (z3 k hk t ht).symm
theorem pair_v {h : AH} {a i j : Nat} {E : Nat → Nat} {R : Nat → Nat → Nat} {v v2 : Bool} {im : Nat → Nat} (h1 : Mtr (E i) (R i)) (h2 : Mtr (E j) (R j)) (h3 : PairAt h a E R i j v) (h4 : IsoG (R i) (E i) (R j) (E j) v2 im) : v = v2 := by
  obtain ⟨_, _, _, _, _, _, _, _, _, _, _, _, -, _, _, _, _, _, _, Im, _, _, -, hA⟩ := h3
  exact (alike_same h1 h2 hA h4).1
theorem graph_up {Z : Nat → Prop} {H : AH} {a th c c9 m k : Nat} {w : Nat → Nat} {E : Nat → Nat} {R : Nat → Nat → Nat} {b0 b1 b2 : Int} (q : RI Z DRp H a th c9 w (m + 1) (up E m (c / 2)) (up R m (fun s => graM w (c / 2) s)) b0 b1 b2) (hc : c = 2 * k) (hk : k ≤ 10) (hw : ∀ j, j < c → w j < 10) : RI Z DRp H a th c9 w (m + 1) (up E m k) (up R m (rkE 2 10 (colG w k))) b0 b1 b2 := by
  have e : c / 2 = k := by omega
  rw [e] at q
  exact q.up (fun s hs => (graph_same hk (fun j hj => hw j (by omega)) hs).symm)
theorem col_up {Z : Nat → Prop} {H : AH} {a th c c9 m f y : Nat} {w : Nat → Nat} {E : Nat → Nat} {R : Nat → Nat → Nat} {b0 b1 b2 : Int} (q : RI Z DRp H a th c9 w (m + 1) (up E m (c / y)) (up R m (fun s => colM w f y (c / y) s)) b0 b1 b2) (hf : f = 2 ∨ f = 3 ∨ f = 5) (hy : 1 ≤ y) (hm : c % y = 0) (hc : c ≤ y * 10) (hw : ∀ j, j < c → w j < f) : RI Z DRp H a th c9 w (m + 1) (up E m (c / y)) (up R m (rkE f y (colC w y (c / y)))) b0 b1 b2 := by
  have e := Nat.div_add_mod c y
  rw [hm, Nat.add_zero, Nat.mul_comm] at e
  exact q.up (fun s hs => (columns_same ((col_ok hm hy).mp hc) hf (fun j hj => hw j (by omega)) hs).symm)
theorem entry_c1 {rk : Nat → Nat} {e f : Nat} {o : Option (Nat → Nat)} (hM : Mtr e rk) (hf : f = 2 ∨ f = 3) (h1 : draP rk e f 1) (h2 : DRp rk e f o) : o ≠ none := fun z => by
  have q := drw_none hM hf h1 h2
  rw [z] at q
  exact absurd q (by decide)
theorem entry_c2 {rk : Nat → Nat} {e f : Nat} {tr : Int} {o : Option (Nat → Nat)} {g : Nat → Nat} (hM : Mtr e rk) (hf : f = 2 ∨ f = 3) (h1 : draP rk e f tr) (h2 : DRp rk e f o) (h3 : o = some g) : tr = 1 := by
  have q := drw_none hM hf h1 h2
  rw [h3] at q
  exact q
theorem zi_v {ch zi b0 b1 b2 : Int} (h : (ch = 97 ∧ zi = 0) ∨ (ch = 98 ∧ zi = 1) ∨ (ch = 120 ∧ zi = 2) ∨ (ch ≠ 97 ∧ ch ≠ 98 ∧ ch ≠ 120 ∧ zi = -1)) (h0 : 0 ≤ zi) : (ch = 97 ∧ (if zi = 0 then b0 else if zi = 1 then b1 else b2) = b0) ∨ (ch = 98 ∧ (if zi = 0 then b0 else if zi = 1 then b1 else b2) = b1) ∨ (ch = 120 ∧ (if zi = 0 then b0 else if zi = 1 then b1 else b2) = b2) := by
  rcases h with ⟨a, rfl⟩ | ⟨a, rfl⟩ | ⟨a, rfl⟩ | ⟨-, -, -, rfl⟩
  · exact Or.inl ⟨a, rfl⟩
  · exact Or.inr (Or.inl ⟨a, rfl⟩)
  · exact Or.inr (Or.inr ⟨a, rfl⟩)
  · omega
theorem brk_veq {ch zi b0 b1 b2 br bf bs be : Int} (h9 : ch = 97 ∨ ch = 98 ∨ ch = 120) (h : (ch = 97 ∧ zi = 0) ∨ (ch = 98 ∧ zi = 1) ∨ (ch = 120 ∧ zi = 2) ∨ (ch ≠ 97 ∧ ch ≠ 98 ∧ ch ≠ 120 ∧ zi = -1)) (h0 : 0 ≤ zi) (hB : BrR br bf bs be b0 b1 b2) (hb : br = 1) : (if ch = 97 then bf else if ch = 98 then bs else be) = (if zi = 0 then b0 else if zi = 1 then b1 else b2) := by
  rcases hB with ⟨z, -⟩ | ⟨-, z0, z1, z2, -⟩
  · omega
  · rcases zi_v (b0 := b0) (b1 := b1) (b2 := b2) h h0 with ⟨a, b⟩ | ⟨a, b⟩ | ⟨a, b⟩
    · rw [b, a, if_pos rfl, z0]
    · rw [b, a, if_neg (by decide), if_pos rfl, z1]
    · rw [b, a, if_neg (by decide), if_neg (by decide), z2]
theorem brk_c1 {ch zi b0 b1 b2 br bf bs be : Int} (hB : BrR br bf bs be b0 b1 b2) (hb : br = 1) (_ : ch = 97 ∨ ch = 98 ∨ ch = 120) (h : (ch = 97 ∧ zi = 0) ∨ (ch = 98 ∧ zi = 1) ∨ (ch = 120 ∧ zi = 2) ∨ (ch ≠ 97 ∧ ch ≠ 98 ∧ ch ≠ 120 ∧ zi = -1)) (h0 : 0 ≤ zi) (h1 : (if zi = 0 then b0 else if zi = 1 then b1 else b2) = -1) : False := by
  rcases hB with ⟨z, -⟩ | ⟨-, z0, z1, z2, y1, y2, y3⟩
  · omega
  · rcases zi_v (b0 := b0) (b1 := b1) (b2 := b2) h h0 with ⟨a, b⟩ | ⟨a, b⟩ | ⟨a, b⟩ <;> omega
theorem brk_c2 {ch zi b0 b1 b2 br bf bs be : Int} (hB : BrR br bf bs be b0 b1 b2) (hb : br = 0) (_ : ch = 97 ∨ ch = 98 ∨ ch = 120) (h : (ch = 97 ∧ zi = 0) ∨ (ch = 98 ∧ zi = 1) ∨ (ch = 120 ∧ zi = 2) ∨ (ch ≠ 97 ∧ ch ≠ 98 ∧ ch ≠ 120 ∧ zi = -1)) (h0 : 0 ≤ zi) (h1 : (if zi = 0 then b0 else if zi = 1 then b1 else b2) ≠ -1) : False := by
  rcases hB with ⟨-, z0, z1, z2⟩ | ⟨z, -⟩
  · rcases zi_v (b0 := b0) (b1 := b1) (b2 := b2) h h0 with ⟨a, b⟩ | ⟨a, b⟩ | ⟨a, b⟩ <;> omega
  · omega
end Ba
