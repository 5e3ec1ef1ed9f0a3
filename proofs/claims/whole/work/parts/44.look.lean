/-! Circuitfold$Likeness (X5): what is looked for, the sets of a part -/
def sgN (G : Nat → Nat) : Nat → Nat → Nat
  | 0 => G
  | k + 1 => fun j => if j.testBit k then sgN G k j else sgN G k j + sgN G k (j ||| 2 ^ k)
def basN (sf : Nat → Nat) (s : Nat) : Nat := b2n (sf s &&& 2 != 0)
/-- the table that is looked for -/
def lokN (G : Nat → Nat) (e : Nat) (W0 : Nat → Nat) : Nat → Nat := fun j => if j < 2 ^ e then sgN G e j else W0 j
theorem sgT_cast {G : Nat → Nat} {G2 : Nat → Int} {e : Nat} (h : ∀ j, j < 2 ^ e → G2 j = ((G j : Nat) : Int)) : ∀ k, k ≤ e → ∀ j, j < 2 ^ e → sgT G2 k j = ((sgN G k j : Nat) : Int) := by
  intro k
  induction k with
  | zero => intro _ j hj; exact h j hj
  | succ k ih =>
    intro hk j hj
    have h1 := ih (by omega) j hj
    have h2 := ih (by omega) (j ||| 2 ^ k) (or_lt hj (bit_lt (by omega)))
    show (if j.testBit k then sgT G2 k j else sgT G2 k j + sgT G2 k (j ||| 2 ^ k)) = ((if j.testBit k then sgN G k j else sgN G k j + sgN G k (j ||| 2 ^ k) : Nat) : Int)
    rw [h1, h2]
    split
    · rfl
    · rw [Int.natCast_add]
theorem sgN_le {G : Nat → Nat} (h : ∀ j, G j ≤ 1) : ∀ k j, sgN G k j ≤ 2 ^ k := by
  intro k
  induction k with
  | zero => exact h
  | succ k ih =>
    intro j
    have h1 := ih j
    have h2 := ih (j ||| 2 ^ k)
    show (if j.testBit k then sgN G k j else sgN G k j + sgN G k (j ||| 2 ^ k)) ≤ 2 ^ (k + 1)
    rw [Nat.pow_succ]
    split <;> omega
theorem lokN_le {G W0 : Nat → Nat} {e : Nat} (he : e ≤ 10) (h : ∀ j, G j ≤ 1) (hW : ∀ j, W0 j ≤ 1024) : ∀ j, lokN G e W0 j ≤ 1024 := by
  intro j
  unfold lokN
  split
  · exact Nat.le_trans (sgN_le h e j) (p2_le he)
  · exact hW j
theorem cnt_bc : ∀ n, n < 11 → ∀ s, s < 2 ^ n → cnt (fun k => s.testBit k) n = bc s := by decide +kernel
theorem cnt_mono {p : Nat → Bool} {a b : Nat} (h : a ≤ b) : cnt p a ≤ cnt p b := by
  induction b with
  | zero => rw [show a = 0 by omega]; exact Nat.le_refl _
  | succ b ih =>
    rcases Nat.lt_or_eq_of_le h with q | q
    · have := ih (by omega)
      show _ ≤ cnt p b + (if p b = true then 1 else 0)
      omega
    · rw [q]; exact Nat.le_refl _
/-- the sets of the elements that are left, with con, as they are listed -/
def depN (left con : Nat) : Nat → Nat → Nat
  | 0 => fun _ => con
  | k + 1 => fun j => if left.testBit k then (if j < 2 ^ cnt (fun t => left.testBit t) k then depN left con k j else depN left con k (j - 2 ^ cnt (fun t => left.testBit t) k) ||| 2 ^ k) else depN left con k j
theorem depN_lt {left con e : Nat} (hc : con < 2 ^ e) : ∀ k, k ≤ e → ∀ j, depN left con k j < 2 ^ e := by
  intro k
  induction k with
  | zero => intro _ j; exact hc
  | succ k ih =>
    intro hk j
    have h1 := ih (by omega)
    show (if left.testBit k then (if j < 2 ^ cnt (fun t => left.testBit t) k then depN left con k j else depN left con k (j - 2 ^ cnt (fun t => left.testBit t) k) ||| 2 ^ k) else depN left con k j) < 2 ^ e
    split
    · split
      · exact h1 j
      · exact or_lt (h1 _) (bit_lt (by omega))
    · exact h1 j
section C44
variable {l : Launch} {D : va_G} {S0 : State}
set_option maxRecDepth 100000 in
theorem c_X5_lookFor (hW : WOK l D S0) (d : Nat) {h : AH} {a b r1 r2 r3 r4 r5 r6 l3 l6 m lm full rq hq tq lt e : Nat} {e0 n0 : Int} {sym : Int} {v2 v3 : Value} {sf W0 : Nat → Nat} {Q0 : Nat → Int32} (h1 : h a = some (b, oLik r1 r2 r3 r4 r5 r6 e0 n0)) (h3 : h r3 = some (l3, aV 1024 W0)) (h6 : h r6 = some (l6, aW .int 10 Q0)) (hm : h m = some (lm, oMat e full rq hq tq sym v2 v3)) (ht : h tq = some (lt, aB e sf)) (hl1 : l3 ≠ l6) (hl2 : lm ≠ b) (hl3 : lt ≠ b) (hl4 : lt ≠ l3) (he : e ≤ 10) (hsf : ∀ j, j < 2 ^ e → sf j < 32) : MA l D S0 yX5_lookFor cX5_lookFor 3 none (d + 2) [.ref a, .ref m] h 0 0 (fun r h' => r = none ∧ h' a = some (b, oLik r1 r2 r3 r4 r5 r6 e ((2 ^ e : Nat) : Int)) ∧ h' r3 = some (l3, aV 1024 (lokN (basN sf) e W0)) ∧ h' r6 = some (l6, aI .int 10 (prfN (lokN (basN sf) e W0) e (2 ^ e))) ∧ ∀ x, x ≠ a → x ≠ r3 → x ≠ r6 → h' x = h x) (fun _ _ => False) := by
  have hp := p2_le he
  have hp0 := p2_pos e
  have ha3 := ne_oa h1 h3
  have ha6 := ne_oa h1 h6
  have h36 : r6 ≠ r3 := lab_ne h3 h6 hl1.symm
  have hma : m ≠ a := lab_ne h1 hm hl2
  have hta : tq ≠ a := lab_ne h1 ht hl3
  have ht3 : tq ≠ r3 := lab_ne h3 ht hl4
  have hm3 : m ≠ r3 := ne_oa hm h3
  refine MA.start hW (by decide) [.val (.ref a), .val (.ref m), .unset] rfl ?_
  rintro X rfl rfl rfl hX
  refine wa_aload_n hX (i := 0) dX5_lookFor_0 rfl rfl ?_
  refine wa_aload_n hX (i := 1) dX5_lookFor_1 rfl rfl ?_
  refine wa_get hX 0 hm (by rfl) (by decide +kernel) dX5_lookFor_2 ?_
  refine wa_put hX 6 h1 (Nat.le_of_ble_eq_true rfl) (by decide +kernel) (by rfl) (by rfl) (by rfl) dX5_lookFor_5 ?_
  have g1 : hset h a (b, oLik r1 r2 r3 r4 r5 r6 e n0) a = some (b, oLik r1 r2 r3 r4 r5 r6 e n0) := hset_eq
  have gm : hset h a (b, oLik r1 r2 r3 r4 r5 r6 e n0) m = some (lm, oMat e full rq hq tq sym v2 v3) := (hset_ne hma).trans hm
  refine WA.heap (h2 := hset h a (b, oLik r1 r2 r3 r4 r5 r6 e n0)) rfl ?_
  refine wa_aload_n hX (i := 0) dX5_lookFor_8 rfl rfl ?_
  refine wa_aload_n hX (i := 1) dX5_lookFor_9 rfl rfl ?_
  refine wa_get hX 1 gm (by rfl) (by decide +kernel) dX5_lookFor_10 ?_
  refine wi_iconst hX dX5_lookFor_13 ?_
  refine wi_iadd hX dX5_lookFor_14 ?_
  refine wi_sipush hX dX5_lookFor_15 (by decide) ?_
  refine wi_min hX (by decide +kernel) rfl (by exact Nat.le_of_ble_eq_true rfl) (by omega) (by omega) dX5_lookFor_18 ?_
  rw [show min (((2 ^ e - 1 : Nat) : Int) + 1) (1024 : Int) = ((2 ^ e : Nat) : Int) by omega]
  refine wa_put hX 7 g1 (Nat.le_of_ble_eq_true rfl) (by decide +kernel) (by rfl) (by rfl) (by rfl) dX5_lookFor_21 ?_
  rw [hset_hset]
  refine WA.heap (h2 := hset h a (b, oLik r1 r2 r3 r4 r5 r6 e ((2 ^ e : Nat) : Int))) rfl ?_
  clear g1 gm
  have g1 : hset h a (b, oLik r1 r2 r3 r4 r5 r6 e ((2 ^ e : Nat) : Int)) a = some (b, oLik r1 r2 r3 r4 r5 r6 e ((2 ^ e : Nat) : Int)) := hset_eq
  have g3 : hset h a (b, oLik r1 r2 r3 r4 r5 r6 e ((2 ^ e : Nat) : Int)) r3 = some (l3, aV 1024 W0) := (hset_ne ha3.symm).trans h3
  have g6 : hset h a (b, oLik r1 r2 r3 r4 r5 r6 e ((2 ^ e : Nat) : Int)) r6 = some (l6, aW .int 10 Q0) := (hset_ne ha6.symm).trans h6
  have gm : hset h a (b, oLik r1 r2 r3 r4 r5 r6 e ((2 ^ e : Nat) : Int)) m = some (lm, oMat e full rq hq tq sym v2 v3) := (hset_ne hma).trans hm
  have gt : hset h a (b, oLik r1 r2 r3 r4 r5 r6 e ((2 ^ e : Nat) : Int)) tq = some (lt, aB e sf) := (hset_ne hta).trans ht
  have gk : ∀ x, x ≠ a → hset h a (b, oLik r1 r2 r3 r4 r5 r6 e ((2 ^ e : Nat) : Int)) x = h x := fun x hx => hset_ne hx
  generalize hset h a (b, oLik r1 r2 r3 r4 r5 r6 e ((2 ^ e : Nat) : Int)) = hA at g1 g3 g6 gm gt gk ⊢
  refine wi_iconst hX dX5_lookFor_24 ?_
  refine wa_istore_n hX (i := 2) dX5_lookFor_25 rfl rfl ?_
  dsimp only [List.set]
  refine WA.heap (hset_self g3).symm ?_
  refine WA.loop (σ := Nat × (Nat → Int)) (fun z => 2 ^ e - z.1) (fun z => z.1 ≤ 2 ^ e ∧ ∀ j, j < 1024 → z.2 j = ((if j < z.1 then basN sf j else W0 j : Nat) : Int)) (fun z => hset hA r3 (l3, aI .int 1024 z.2)) (fun z => [.val (.ref a), .val (.ref m), .val (I (z.1 : Nat))]) ?_ (0, (fun j => ((W0 j : Nat) : Int))) ⟨Nat.zero_le _, fun j hj => by rw [if_neg (Nat.not_lt_zero j)]⟩
  rintro ⟨i, F⟩ ⟨hi, hF⟩ ih
  dsimp only at hi hF ⊢
  have k1 : hset hA r3 (l3, aI .int 1024 F) a = some (b, oLik r1 r2 r3 r4 r5 r6 e ((2 ^ e : Nat) : Int)) := (hset_ne ha3).trans g1
  have k3 : hset hA r3 (l3, aI .int 1024 F) r3 = some (l3, aI .int 1024 F) := hset_eq
  have k6 : hset hA r3 (l3, aI .int 1024 F) r6 = some (l6, aW .int 10 Q0) := (hset_ne h36).trans g6
  have km : hset hA r3 (l3, aI .int 1024 F) m = some (lm, oMat e full rq hq tq sym v2 v3) := (hset_ne hm3).trans gm
  have kt : hset hA r3 (l3, aI .int 1024 F) tq = some (lt, aB e sf) := (hset_ne ht3).trans gt
  refine wa_iload_n hX (i := 2) dX5_lookFor_26 rfl rfl ?_
  refine wa_aload_n hX (i := 0) dX5_lookFor_27 rfl rfl ?_
  refine wa_get hX 7 (by assumption) (by rfl) (by decide +kernel) dX5_lookFor_28 ?_
  refine wi_icmp_ge hX (tgt := 60) dX5_lookFor_31 (by decide) (by omega) (by omega) (fun c31 => ?_) (fun c31 => ?_)
  · skip
    refine wa_aload_n hX (i := 0) dX5_lookFor_60 rfl rfl ?_
    refine wa_aload_n hX (i := 0) dX5_lookFor_61 rfl rfl ?_
    refine wa_get hX 2 (by assumption) (by rfl) (by decide +kernel) dX5_lookFor_62 ?_
    refine wa_callV hX (c_X5_sumOverGreater hW d k1 k3 he) (by assumption) (by rfl) (by rfl) (by omega) (nA := 1) (by rfl) (by decide +kernel) rfl (by exact Nat.le_of_ble_eq_true rfl) dX5_lookFor_65 (fun r65 h65 p65 => ?_) (fun _ _ q => q.elim)
    obtain ⟨rfl, F2, rfl, hF2, hF3⟩ := p65
    have hie : i = 2 ^ e := by omega
    subst hie
    refine WA.ext9 (fun j => ((lokN (basN sf) e W0 j : Nat) : Int)) hset_eq (fun j hj => by
      unfold lokN
      by_cases e5 : j < 2 ^ e
      · rw [if_pos e5, hF2 j e5]
        exact sgT_cast (G := basN sf) (fun t ht => by rw [hF t (by omega), if_pos ht]) e (Nat.le_refl e) j e5
      · rw [if_neg e5, hF3 j (by omega), hF j hj, if_neg e5]) ?_
    rw [hset_hset, hset_hset]
    clear k1 k3 k6 km kt
    have k1 : hset hA r3 (l3, aV 1024 (lokN (basN sf) e W0)) a = some (b, oLik r1 r2 r3 r4 r5 r6 e ((2 ^ e : Nat) : Int)) := (hset_ne ha3).trans g1
    have k3 : hset hA r3 (l3, aV 1024 (lokN (basN sf) e W0)) r3 = some (l3, aV 1024 (lokN (basN sf) e W0)) := hset_eq
    have k6 : hset hA r3 (l3, aV 1024 (lokN (basN sf) e W0)) r6 = some (l6, aW .int 10 Q0) := (hset_ne h36).trans g6
    refine WA.heap (h2 := hset hA r3 (l3, aV 1024 (lokN (basN sf) e W0))) rfl ?_
    dsimp only [Option.toList, List.cons_append, List.nil_append]
    refine wa_aload_n hX (i := 0) dX5_lookFor_68 rfl rfl ?_
    refine wa_aload_n hX (i := 0) dX5_lookFor_69 rfl rfl ?_
    refine wa_get hX 2 (by assumption) (by rfl) (by decide +kernel) dX5_lookFor_70 ?_
    refine wa_aload_n hX (i := 0) dX5_lookFor_73 rfl rfl ?_
    refine wa_get hX 5 (by assumption) (by rfl) (by decide +kernel) dX5_lookFor_74 ?_
    refine wa_callV hX (c_X5_fillProfiles hW d (e := e) (C := lokN (basN sf) e W0) k1 k3 (fun j _ => rfl) k6 hl1 he) (by assumption) (by rfl) (by rfl) (by omega) (nA := 2) (by rfl) (by decide +kernel) rfl (by exact Nat.le_of_ble_eq_true rfl) dX5_lookFor_77 (fun r77 h77 p77 => ?_) (fun _ _ q => q.elim)
    obtain ⟨rfl, rfl⟩ := p77
    dsimp only [Option.toList, List.cons_append, List.nil_append]
    refine wa_vret hX dX5_lookFor_80 ?_
    exact ⟨rfl, (hset_ne ha6).trans k1, (hset_ne h36.symm).trans k3, hset_eq, fun x x1 x2 x3 => (hset_ne x3).trans ((hset_ne x2).trans (gk x x1))⟩
  · skip
    refine wa_aload_n hX (i := 0) dX5_lookFor_34 rfl rfl ?_
    refine wa_get hX 2 (by assumption) (by rfl) (by decide +kernel) dX5_lookFor_35 ?_
    refine wa_iload_n hX (i := 2) dX5_lookFor_38 rfl rfl ?_
    refine wa_aload_n hX (i := 1) dX5_lookFor_39 rfl rfl ?_
    refine wa_iload_n hX (i := 2) dX5_lookFor_40 rfl rfl ?_
    refine wi_iconst hX dX5_lookFor_41 ?_
    refine wa_callV hX (c_X6_has hW (d + 1) km kt (so := 2) he (s := i) (by omega) hsf) (by assumption) (by rfl) (by rfl) (by omega) (nA := 2) (by rfl) (by decide +kernel) rfl (by exact Nat.le_of_ble_eq_true rfl) dX5_lookFor_42 (fun r42 h42 p42 => ?_) (fun _ _ q => q.elim)
    obtain ⟨rfl, qq42⟩ := p42; subst h42
    dsimp only [Option.toList, List.cons_append, List.nil_append]
    refine wi_if_eq hX (tgt := 52) dX5_lookFor_45 (by decide) (by exact b2n_inR _) (fun c45 => ?_) (fun c45 => ?_)
    · skip
      refine wi_iconst hX dX5_lookFor_52 ?_
      refine WA.eq (pc2 := 53) (ls2 := [.val (.ref a), .val (.ref m), .val (I (i : Nat))]) (st2 := [I ((basN sf i : Nat) : Int), I (i : Nat), .ref r3]) rfl rfl (by
        first
          | (have q5 := b2n_f c45; unfold basN; rw [q5]; rfl)
          | (have q5 := b2n_t c45; unfold basN; rw [q5]; rfl)) ?_
      refine wi_iastore hX k3 (by omega) (by omega) (by omega) dX5_lookFor_53 ?_
      rw [hset_hset]
      refine wi_iinc hX dX5_lookFor_54 rfl ?_
      dsimp only [List.set]
      refine wa_goto hX (tgt := 26) dX5_lookFor_57 (by decide) ?_
      refine ih (i + 1, up F (i : Int).toNat ((basN sf i : Nat) : Int)) ⟨by show i + 1 ≤ 2 ^ e; omega, fun j hj => ?_⟩ (by show 2 ^ e - (i + 1) < 2 ^ e - i; omega)
      dsimp only
      rw [up_is, Int.toNat_natCast]
      by_cases e9 : j = i
      · subst e9; rw [if_pos rfl, if_pos (by omega)]
      · rw [if_neg e9, hF j hj]
        by_cases e5 : j < i
        · rw [if_pos e5, if_pos (by omega)]
        · rw [if_neg e5, if_neg (by omega)]
    · skip
      refine wi_iconst hX dX5_lookFor_48 ?_
      refine wa_goto hX (tgt := 53) dX5_lookFor_49 (by decide) ?_
      refine WA.eq (pc2 := 53) (ls2 := [.val (.ref a), .val (.ref m), .val (I (i : Nat))]) (st2 := [I ((basN sf i : Nat) : Int), I (i : Nat), .ref r3]) rfl rfl (by
        first
          | (have q5 := b2n_f c45; unfold basN; rw [q5]; rfl)
          | (have q5 := b2n_t c45; unfold basN; rw [q5]; rfl)) ?_
      refine wi_iastore hX k3 (by omega) (by omega) (by omega) dX5_lookFor_53 ?_
      rw [hset_hset]
      refine wi_iinc hX dX5_lookFor_54 rfl ?_
      dsimp only [List.set]
      refine wa_goto hX (tgt := 26) dX5_lookFor_57 (by decide) ?_
      refine ih (i + 1, up F (i : Int).toNat ((basN sf i : Nat) : Int)) ⟨by show i + 1 ≤ 2 ^ e; omega, fun j hj => ?_⟩ (by show 2 ^ e - (i + 1) < 2 ^ e - i; omega)
      dsimp only
      rw [up_is, Int.toNat_natCast]
      by_cases e9 : j = i
      · subst e9; rw [if_pos rfl, if_pos (by omega)]
      · rw [if_neg e9, hF j hj]
        by_cases e5 : j < i
        · rw [if_pos e5, if_pos (by omega)]
        · rw [if_neg e5, if_neg (by omega)]
end C44
