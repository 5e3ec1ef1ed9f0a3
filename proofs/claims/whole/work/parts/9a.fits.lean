/-! The reference (X12): fits, goesOn, areAlike of two matroids -/
def imO (im : Nat → Nat) (s b0 : Nat) : Nat → Nat
  | 0 => b0
  | j + 1 => imO im s b0 j ||| (if s.testBit j = true then 2 ^ im j else 0)
theorem imO_lt {im : Nat → Nat} {s b0 e : Nat} (h0 : b0 < 2 ^ e) : ∀ k, (∀ j, j < k → im j < e) → imO im s b0 k < 2 ^ e := by
  intro k
  induction k with
  | zero => intro _; exact h0
  | succ k ih =>
    intro h
    unfold imO
    refine or_lt (ih (fun j hj => h j (by omega))) ?_
    split
    · exact bit_lt (h k (by omega))
    · exact p2_pos e
theorem imO_congr {im im' : Nat → Nat} {s b0 : Nat} : ∀ k, (∀ j, j < k → im j = im' j) → imO im s b0 k = imO im' s b0 k := by
  intro k
  induction k with
  | zero => intro _; rfl
  | succ k ih =>
    intro h
    unfold imO
    rw [ih (fun j hj => h j (by omega)), h k (by omega)]
def FitP (r1 r2 im : Nat → Nat) (k : Nat) : Prop := ∀ s, s < 2 ^ k → r1 (s ||| 2 ^ k) = r2 (imO im s (2 ^ im k) k)
theorem FitP.congr {r1 r2 im im' : Nat → Nat} {k : Nat} (h : FitP r1 r2 im k) (e : ∀ j, j ≤ k → im j = im' j) : FitP r1 r2 im' k := by
  intro s hs
  rw [h s hs, e k (Nat.le_refl k), imO_congr k (fun j hj => e j (by omega))]
def ExtP (r1 r2 : Nat → Nat) (e used many : Nat) (im : Nat → Nat) : Prop := ∀ k, many ≤ k → k < e → im k < e ∧ used.testBit (im k) = false ∧ (∀ j, many ≤ j → j < k → im j ≠ im k) ∧ FitP r1 r2 im k
def LexLe (e : Nat) (a b : Nat → Nat) : Prop := (∀ j, j < e → a j = b j) ∨ ∃ k, k < e ∧ (∀ j, j < k → a j = b j) ∧ a k < b k
def GoP (r1 r2 : Nat → Nat) (e used many : Nat) (im : Nat → Nat) (v : Bool) (im' : Nat → Nat) : Prop := (v = true ∧ (∀ j, j < many → im' j = im j) ∧ ExtP r1 r2 e used many im' ∧ ∀ im2 : Nat → Nat, (∀ j, j < many → im2 j = im j) → ExtP r1 r2 e used many im2 → LexLe e im' im2) ∨ (v = false ∧ ∀ im2 : Nat → Nat, (∀ j, j < many → im2 j = im j) → ¬ ExtP r1 r2 e used many im2)
theorem ExtP.down {r1 r2 : Nat → Nat} {e used many : Nat} {im : Nat → Nat} (h : ExtP r1 r2 e used many im) (hm : many < e) : im many < e ∧ used.testBit (im many) = false ∧ FitP r1 r2 im many ∧ ExtP r1 r2 e (used ||| 2 ^ im many) (many + 1) im := by
  obtain ⟨a1, a2, -, a4⟩ := h many (Nat.le_refl _) hm
  refine ⟨a1, a2, a4, fun k hk hke => ?_⟩
  obtain ⟨b1, b2, b3, b4⟩ := h k (by omega) hke
  refine ⟨b1, ?_, fun j hj hjk => b3 j (by omega) hjk, b4⟩
  rw [Nat.testBit_or, b2, Bool.false_or, p2_testBit]
  exact decide_eq_false (b3 many (Nat.le_refl _) (by omega))
theorem ExtP.up9 {r1 r2 : Nat → Nat} {e used many : Nat} {im : Nat → Nat} (h1 : im many < e) (h2 : used.testBit (im many) = false) (h3 : FitP r1 r2 im many) (h4 : ExtP r1 r2 e (used ||| 2 ^ im many) (many + 1) im) : ExtP r1 r2 e used many im := by
  intro k hk hke
  by_cases g : k = many
  · subst g
    exact ⟨h1, h2, fun j hj hjk => absurd hjk (by omega), h3⟩
  · obtain ⟨b1, b2, b3, b4⟩ := h4 k (by omega) hke
    rw [Nat.testBit_or, Bool.or_eq_false_iff, p2_testBit] at b2
    refine ⟨b1, b2.1, fun j hj hjk => ?_, b4⟩
    by_cases g2 : j = many
    · subst g2
      exact of_decide_eq_false b2.2
    · exact b3 j (by omega) hjk
section C100
variable {l : Launch} {D : va_G} {S0 : State}
set_option maxRecDepth 100000 in
theorem c_X12_fits (hW : WOK l D S0) (d : Nat) {h : AH} {p1 p2 l1 l2 q1 q2 lq1 lq2 ki lk e mo : Nat} {m12 m13 m22 m23 : Value} {k12 k13 k22 k23 : Int} {r1 r2 im : Nat → Nat} {G1 G2 KP : Nat → Int} (a1 : h p1 = some (l1, oRef e q1 m12 m13 k12 k13)) (a2 : h q1 = some (lq1, aI .int 1024 G1)) (a3 : ∀ s, s < 2 ^ e → G1 s = ((r1 s : Nat) : Int)) (b1 : h p2 = some (l2, oRef e q2 m22 m23 k22 k23)) (b2 : h q2 = some (lq2, aI .int 1024 G2)) (b3 : ∀ s, s < 2 ^ e → G2 s = ((r2 s : Nat) : Int)) (he : e ≤ 10) (hr1 : ∀ s, s < 2 ^ e → r1 s ≤ 10) (hr2 : ∀ s, s < 2 ^ e → r2 s ≤ 10) (hk : h ki = some (lk, aI .int 10 KP)) (hm : mo < e) (hK : ∀ j, j ≤ mo → KP j = ((im j : Nat) : Int)) (hi : ∀ j, j ≤ mo → im j < e) : MA l D S0 yX12_fits cX12_fits 7 (some .boolean) d [.ref p1, .ref p2, .ref ki, I ((mo : Int) + 1)] h 0 0 (fun r h' => (∃ b : Bool, r = some (I ((b2n b : Nat) : Int)) ∧ (b = true ↔ FitP r1 r2 im mo)) ∧ h' = h) (fun _ _ => False) := by
  have hp := p2_le he
  have hpm : 2 ^ mo < 2 ^ e := bit_lt hm
  have him := hi mo (Nat.le_refl mo)
  have hbm : 2 ^ im mo < 2 ^ e := bit_lt him
  have e1 : ((mo : Int) + 1) - 1 = (mo : Int) := by omega
  refine MA.start hW (by decide) [.val (.ref p1), .val (.ref p2), .val (.ref ki), .val (I ((mo : Int) + 1)), .unset, .unset, .unset] rfl ?_
  rintro X rfl rfl rfl hX
  refine wi_iconst hX dX12_fits_0 ?_
  refine wa_istore hX dX12_fits_1 (by first | rfl | assumption) ?_
  dsimp only [List.set]
  refine WA.loop (σ := Nat × Slot × Slot) (fun z => 2 ^ mo - z.1) (fun z => z.1 ≤ 2 ^ mo ∧ (∀ s, s < z.1 → r1 (s ||| 2 ^ mo) = r2 (imO im s (2 ^ im mo) mo)) ∧ okS [z.2.1] 0 = true ∧ okS [z.2.2] 0 = true) (fun _ => h) (fun z => [.val (.ref p1), .val (.ref p2), .val (.ref ki), .val (I ((mo : Int) + 1)), .val (I (z.1 : Nat)), z.2.1, z.2.2]) ?_ (0, .unset, .unset) ⟨Nat.zero_le _, fun s hs => absurd hs (Nat.not_lt_zero s), rfl, rfl⟩
  rintro ⟨z, u5, u6⟩ ⟨hz, hF, hu5, hu6⟩ ih
  dsimp only at hz hF hu5 hu6 ⊢
  refine wa_iload hX dX12_fits_3 rfl ?_
  refine wi_iconst hX dX12_fits_5 ?_
  refine wa_iload_n hX (i := 3) dX12_fits_6 rfl rfl ?_
  refine wi_iconst hX dX12_fits_7 ?_
  refine wi_isub hX dX12_fits_8 ?_
  rw [e1]
  refine wn_ishl hX (a := 1) (b := mo) dX12_fits_9 rfl rfl (by omega) ?_
  rw [Nat.one_shiftLeft]
  refine wi_icmp_ge hX (tgt := 96) dX12_fits_10 (by decide) (by omega) (by omega) (fun c10 => ?_) (fun c10 => ?_)
  · skip
    refine wi_iconst hX dX12_fits_96 ?_
    refine wa_zret hX dX12_fits_97 (by rfl) ?_
    exact ⟨⟨true, rfl, ⟨fun _ s hs => hF s (by omega), fun _ => rfl⟩⟩, rfl⟩
  · skip
    refine wi_iconst hX dX12_fits_13 ?_
    refine wa_aload_n hX (i := 2) dX12_fits_14 rfl rfl ?_
    refine wa_iload_n hX (i := 3) dX12_fits_15 rfl rfl ?_
    refine wi_iconst hX dX12_fits_16 ?_
    refine wi_isub hX dX12_fits_17 ?_
    rw [e1]
    refine wi_iaload hX (by assumption) (by omega) (by omega) (by omega) dX12_fits_18 ?_
    rw [Int.toNat_natCast, hK mo (Nat.le_refl mo)]
    refine wn_ishl hX (a := 1) (b := im mo) dX12_fits_19 rfl rfl (by omega) ?_
    rw [Nat.one_shiftLeft]
    refine wa_istore hX dX12_fits_20 (by first | rfl | assumption) ?_
    dsimp only [List.set]
    refine wi_iconst hX dX12_fits_22 ?_
    refine wa_istore hX dX12_fits_23 (by first | rfl | assumption) ?_
    dsimp only [List.set]
    refine WA.loop (σ := Nat) (fun k => mo - k) (fun k => k ≤ mo) (fun _ => h) (fun k => [.val (.ref p1), .val (.ref p2), .val (.ref ki), .val (I ((mo : Int) + 1)), .val (I (z : Nat)), .val (I (imO im z (2 ^ im mo) k : Nat)), .val (I (k : Nat))]) ?_ 0 (Nat.zero_le _)
    intro k hk9 ih2
    have hst : imO im z (2 ^ im mo) (k + 1) = imO im z (2 ^ im mo) k ||| (if z.testBit k = true then 2 ^ im k else 0) := rfl
    have hlt := imO_lt (im := im) (s := z) hbm k (fun j hj => hi j (by omega))
    have hik := hi k hk9
    have t56 : ∀ x : Nat, k < mo → x = (if z.testBit k = true then 2 ^ im k else 0) → WA X h 0 0 56 [.val (.ref p1), .val (.ref p2), .val (.ref ki), .val (I ((mo : Int) + 1)), .val (I (z : Nat)), .val (I (imO im z (2 ^ im mo) k : Nat)), .val (I (k : Nat))] [I (x : Int), I ((imO im z (2 ^ im mo) k : Nat) : Int)] := by
      intro x hkm hx
      refine wn_ior hX dX12_fits_56 (by rfl) (by rfl) ?_
      refine wa_istore hX dX12_fits_57 (by first | rfl | assumption) ?_
      dsimp only [List.set]
      refine wi_iinc hX dX12_fits_59 rfl ?_
      dsimp only [List.set]
      refine wa_goto hX (tgt := 25) dX12_fits_62 (by decide) ?_
      refine WA.eq rfl ?_ rfl (ih2 (k + 1) (by omega) (by omega))
      rw [hst, ← hx]
      rfl
    refine wa_iload hX dX12_fits_25 rfl ?_
    refine wa_iload_n hX (i := 3) dX12_fits_27 rfl rfl ?_
    refine wi_iconst hX dX12_fits_28 ?_
    refine wi_isub hX dX12_fits_29 ?_
    rw [e1]
    refine wi_icmp_ge hX (tgt := 65) dX12_fits_30 (by decide) (by omega) (by omega) (fun c30 => ?_) (fun c30 => ?_)
    · skip
      have hkm : k = mo := by omega
      have hlt2 : imO im z (2 ^ im mo) k < 1024 := by omega
      refine wa_aload_n hX (i := 0) dX12_fits_65 rfl rfl ?_
      refine wa_get hX 1 (by assumption) (by rfl) (by decide +kernel) dX12_fits_66 ?_
      refine wa_iload hX dX12_fits_69 rfl ?_
      refine wi_iconst hX dX12_fits_71 ?_
      refine wa_iload_n hX (i := 3) dX12_fits_72 rfl rfl ?_
      refine wi_iconst hX dX12_fits_73 ?_
      refine wi_isub hX dX12_fits_74 ?_
      rw [e1]
      refine wn_ishl hX (a := 1) (b := mo) dX12_fits_75 rfl rfl (by omega) ?_
      rw [Nat.one_shiftLeft]
      refine wn_ior hX dX12_fits_76 (by rfl) (by rfl) ?_
      have hol : z ||| 2 ^ mo < 2 ^ e := or_lt (by omega) hpm
      refine wi_iaload hX (by assumption) (by omega) (by omega) (by omega) dX12_fits_77 ?_
      rw [Int.toNat_natCast, a3 _ hol]
      refine wa_aload_n hX (i := 1) dX12_fits_78 rfl rfl ?_
      refine wa_get hX 1 (by assumption) (by rfl) (by decide +kernel) dX12_fits_79 ?_
      refine wa_iload hX dX12_fits_82 rfl ?_
      refine wi_iaload hX (by assumption) (by omega) (by omega) (by omega) dX12_fits_84 ?_
      rw [Int.toNat_natCast, b3 _ hlt]
      have v1 := hr1 _ hol
      have v2 := hr2 _ hlt
      refine wi_icmp_eq hX (tgt := 90) dX12_fits_85 (by decide) (by omega) (by omega) (fun c85 => ?_) (fun c85 => ?_)
      · skip
        refine wi_iinc hX dX12_fits_90 rfl ?_
        dsimp only [List.set]
        refine wa_goto hX (tgt := 3) dX12_fits_93 (by decide) ?_
        refine ih (z + 1, _, _) ⟨by show z + 1 ≤ _; omega, fun s hs => ?_, rfl, rfl⟩ (by show _ - (z + 1) < _; omega)
        have hs2 : s < z + 1 := hs
        by_cases g : s = z
        · subst g
          rw [← hkm]
          rw [hkm] at c85 ⊢
          omega
        · exact hF s (by omega)
      · skip
        refine wi_iconst hX dX12_fits_88 ?_
        refine wa_zret hX dX12_fits_89 (by rfl) ?_
        exact ⟨⟨false, rfl, ⟨(fun q => nomatch q), fun q => by
            have q9 := q z (by omega)
            rw [hkm] at c85
            omega⟩⟩, rfl⟩
    · skip
      refine wa_iload hX dX12_fits_33 rfl ?_
      refine wa_iload hX dX12_fits_35 rfl ?_
      refine wa_iload hX dX12_fits_37 rfl ?_
      refine wn_ishr hX dX12_fits_39 (by rfl) (by rfl) (by omega) (by omega) ?_
      refine wi_iconst hX dX12_fits_40 ?_
      refine wn_iand hX dX12_fits_41 (by rfl) (by rfl) ?_
      rw [bit1]
      refine wi_iconst hX dX12_fits_42 ?_
      refine wi_icmp_ne hX (tgt := 55) dX12_fits_43 (by decide) (by first | exact b2n_inR _ | decide +kernel) (by first | exact b2n_inR _ | decide +kernel) (fun c43 => ?_) (fun c43 => ?_)
      · skip
        refine wi_iconst hX dX12_fits_55 ?_
        first
          | (have q1 : z.testBit k = true := b2n_1 c43
             exact t56 (2 ^ im k) (by omega) (by rw [q1]; rfl))
          | (have q1 : z.testBit k = false := by
               cases hb : z.testBit k
               · rfl
               · rw [hb] at c43; exact absurd rfl c43
             exact WA.eq rfl rfl rfl (t56 0 (by omega) (by rw [q1]; rfl)))
      · skip
        refine wi_iconst hX dX12_fits_46 ?_
        refine wa_aload_n hX (i := 2) dX12_fits_47 rfl rfl ?_
        refine wa_iload hX dX12_fits_48 rfl ?_
        refine wi_iaload hX (by assumption) (by omega) (by omega) (by omega) dX12_fits_50 ?_
        rw [Int.toNat_natCast, hK k hk9]
        refine wn_ishl hX (a := 1) (b := im k) dX12_fits_51 rfl rfl (by omega) ?_
        rw [Nat.one_shiftLeft]
        refine wa_goto hX (tgt := 56) dX12_fits_52 (by decide) ?_
        first
          | (have q1 : z.testBit k = true := b2n_1 c43
             exact t56 (2 ^ im k) (by omega) (by rw [q1]; rfl))
          | (have q1 : z.testBit k = false := by
               cases hb : z.testBit k
               · rfl
               · rw [hb] at c43; exact absurd rfl c43
             exact WA.eq rfl rfl rfl (t56 0 (by omega) (by rw [q1]; rfl)))
set_option maxHeartbeats 1000000 in
set_option maxRecDepth 100000 in
theorem c_X12_goesOn (hW : WOK l D S0) {p1 p2 l1 l2 q1 q2 lq1 lq2 ki lk e : Nat} {m12 m13 m22 m23 : Value} {k12 k13 k22 k23 : Int} {r1 r2 : Nat → Nat} {G1 G2 : Nat → Int} (a3 : ∀ s, s < 2 ^ e → G1 s = ((r1 s : Nat) : Int)) (b3 : ∀ s, s < 2 ^ e → G2 s = ((r2 s : Nat) : Int)) (he : e ≤ 10) (hr1 : ∀ s, s < 2 ^ e → r1 s ≤ 10) (hr2 : ∀ s, s < 2 ^ e → r2 s ≤ 10) (hl : l1 ≠ lk ∧ lq1 ≠ lk ∧ l2 ≠ lk ∧ lq2 ≠ lk) : ∀ (f d many used : Nat) (h : AH) (KP : Nat → Int) (im : Nat → Nat), many + f = e → used < 2 ^ e → h p1 = some (l1, oRef e q1 m12 m13 k12 k13) → h q1 = some (lq1, aI .int 1024 G1) → h p2 = some (l2, oRef e q2 m22 m23 k22 k23) → h q2 = some (lq2, aI .int 1024 G2) → h ki = some (lk, aI .int 10 KP) → (∀ j, j < many → KP j = ((im j : Nat) : Int)) → (∀ j, j < many → im j < e) → MA l D S0 yX12_goesOn cX12_goesOn 6 (some .boolean) (d + f + 1) [.ref p1, .ref p2, .ref ki, I (many : Int), I (used : Int)] h 0 0 (fun r h' => ∃ (v : Bool) (KP' : Nat → Int) (im' : Nat → Nat), r = some (I ((b2n v : Nat) : Int)) ∧ h' = hset h ki (lk, aI .int 10 KP') ∧ (∀ j, j < many → KP' j = KP j) ∧ (v = true → ∀ j, j < e → KP' j = ((im' j : Nat) : Int)) ∧ GoP r1 r2 e used many im v im') (fun _ _ => False) := by
  have hp := p2_le he
  intro f
  induction f with
  | zero =>
    intro d many used h KP im hf hus a1 a2 b1 b2 hk hK hi
    refine MA.start hW (by decide) [.val (.ref p1), .val (.ref p2), .val (.ref ki), .val (I (many : Int)), .val (I (used : Int)), .unset] rfl ?_
    rintro X rfl rfl rfl hX
    refine wa_iload_n hX (i := 3) dX12_goesOn_0 rfl rfl ?_
    refine wa_aload_n hX (i := 0) dX12_goesOn_1 rfl rfl ?_
    refine wa_get hX 0 (by assumption) (by rfl) (by decide +kernel) dX12_goesOn_2 ?_
    refine wi_icmp_ne hX (tgt := 10) dX12_goesOn_5 (by decide) (by omega) (by omega) (fun c5 => ?_) (fun c5 => ?_)
    · skip
      exfalso; omega
    · skip
      refine wi_iconst hX dX12_goesOn_8 ?_
      refine wa_zret hX dX12_goesOn_9 (by rfl) ?_
      have hme : many = e := by omega
      refine ⟨true, KP, im, rfl, (hset_self hk).symm, fun j hj => rfl, fun _ j hj => hK j (by omega), Or.inl ⟨rfl, fun j hj => rfl, fun k h1 h2 => absurd h2 (by omega), fun im2 h1 h2 => Or.inl (fun j hj => (h1 j (by omega)).symm)⟩⟩
  | succ f ih0 =>
    intro d many used h KP im hf hus a1 a2 b1 b2 hk hK hi
    refine MA.start hW (by decide) [.val (.ref p1), .val (.ref p2), .val (.ref ki), .val (I (many : Int)), .val (I (used : Int)), .unset] rfl ?_
    rintro X rfl rfl rfl hX
    refine wa_iload_n hX (i := 3) dX12_goesOn_0 rfl rfl ?_
    refine wa_aload_n hX (i := 0) dX12_goesOn_1 rfl rfl ?_
    refine wa_get hX 0 (by assumption) (by rfl) (by decide +kernel) dX12_goesOn_2 ?_
    refine wi_icmp_ne hX (tgt := 10) dX12_goesOn_5 (by decide) (by omega) (by omega) (fun c5 => ?_) (fun c5 => ?_)
    · skip
      refine wi_iconst hX dX12_goesOn_10 ?_
      refine wa_istore hX dX12_goesOn_11 (by first | rfl | assumption) ?_
      dsimp only [List.set]
      refine WA.heap (h2 := hset h ki (lk, aI .int 10 KP)) (hset_self hk).symm ?_
      refine WA.loop (σ := Nat × (Nat → Int)) (fun z => e - z.1) (fun z => z.1 ≤ e ∧ (∀ j, j < many → z.2 j = KP j) ∧ (∀ im2 : Nat → Nat, (∀ j, j < many → im2 j = im j) → ExtP r1 r2 e used many im2 → z.1 ≤ im2 many)) (fun z => hset h ki (lk, aI .int 10 z.2)) (fun z => [.val (.ref p1), .val (.ref p2), .val (.ref ki), .val (I (many : Int)), .val (I (used : Int)), .val (I (z.1 : Nat))]) ?_ (0, KP) ⟨Nat.zero_le _, fun j hj => rfl, fun im2 h1 h2 => Nat.zero_le _⟩
      rintro ⟨z, F⟩ ⟨hz, hF, hN⟩ ih
      dsimp only at hz hF hN ⊢
      have a1F := hset_lab (x := (lk, aI .int 10 F)) hk a1 hl.1
      have a2F := hset_lab (x := (lk, aI .int 10 F)) hk a2 hl.2.1
      have b1F := hset_lab (x := (lk, aI .int 10 F)) hk b1 hl.2.2.1
      have b2F := hset_lab (x := (lk, aI .int 10 F)) hk b2 hl.2.2.2
      have kF : hset h ki (lk, aI .int 10 F) ki = some (lk, aI .int 10 F) := hset_eq
      have t70 : ∀ F' : Nat → Int, z < e → (∀ j, j < many → F' j = KP j) → (∀ im2 : Nat → Nat, (∀ j, j < many → im2 j = im j) → ExtP r1 r2 e used many im2 → im2 many ≠ z) → WA X (hset h ki (lk, aI .int 10 F')) 0 0 70 [.val (.ref p1), .val (.ref p2), .val (.ref ki), .val (I (many : Int)), .val (I (used : Int)), .val (I (z : Nat))] [] := by
        intro F' hze hF' hN2
        refine wi_iinc hX dX12_goesOn_70 rfl ?_
        dsimp only [List.set]
        refine wa_goto hX (tgt := 13) dX12_goesOn_73 (by decide) ?_
        refine ih (z + 1, F') ⟨by show z + 1 ≤ e; omega, hF', fun im2 h1 h2 => ?_⟩ (by show e - (z + 1) < e - z; omega)
        have q1 := hN im2 h1 h2
        have q2 := hN2 im2 h1 h2
        show z + 1 ≤ im2 many
        omega
      refine wa_iload hX dX12_goesOn_13 rfl ?_
      refine wa_aload_n hX (i := 0) dX12_goesOn_15 rfl rfl ?_
      refine wa_get hX 0 (by assumption) (by rfl) (by decide +kernel) dX12_goesOn_16 ?_
      refine wi_icmp_ge hX (tgt := 76) dX12_goesOn_19 (by decide) (by omega) (by omega) (fun c19 => ?_) (fun c19 => ?_)
      · skip
        refine wi_iconst hX dX12_goesOn_76 ?_
        refine wa_zret hX dX12_goesOn_77 (by rfl) ?_
        refine ⟨false, F, im, rfl, rfl, hF, (fun q => nomatch q), Or.inr ⟨rfl, fun im2 h1 h2 => ?_⟩⟩
        have q1 := hN im2 h1 h2
        have q2 := (h2.down (by omega)).1
        omega
      · skip
        refine wa_aload_n hX (i := 2) dX12_goesOn_22 rfl rfl ?_
        refine wa_iload_n hX (i := 3) dX12_goesOn_23 rfl rfl ?_
        refine wa_iload hX dX12_goesOn_24 rfl ?_
        refine wi_iastore hX kF (by omega) (by omega) (by omega) dX12_goesOn_26 ?_
        rw [hset_hset, Int.toNat_natCast]
        have a1G := hset_lab (x := (lk, aI .int 10 (up F many (z : Int)))) hk a1 hl.1
        have a2G := hset_lab (x := (lk, aI .int 10 (up F many (z : Int)))) hk a2 hl.2.1
        have b1G := hset_lab (x := (lk, aI .int 10 (up F many (z : Int)))) hk b1 hl.2.2.1
        have b2G := hset_lab (x := (lk, aI .int 10 (up F many (z : Int)))) hk b2 hl.2.2.2
        have kG : hset h ki (lk, aI .int 10 (up F many (z : Int))) ki = some (lk, aI .int 10 (up F many (z : Int))) := hset_eq
        have hze : z < e := by omega
        have hpre : ∀ j, j < many → up F many (z : Int) j = KP j := fun j hj => by rw [up_n (by omega)]; exact hF j hj
        have hK1 : ∀ j, j ≤ many → up F many (z : Int) j = ((up im many z j : Nat) : Int) := fun j hj => by
          by_cases g : j = many
          · subst g; rw [up_s, up_s]
          · rw [up_n g, up_n g, hF j (by omega), hK j (by omega)]
        have hi1 : ∀ j, j ≤ many → up im many z j < e := fun j hj => by
          by_cases g : j = many
          · subst g; rw [up_s]; exact hze
          · rw [up_n g]; exact hi j (by omega)
        refine wa_iload hX dX12_goesOn_27 rfl ?_
        refine wa_iload hX dX12_goesOn_29 rfl ?_
        refine wn_ishr hX dX12_goesOn_31 (by rfl) (by rfl) (by omega) (by omega) ?_
        refine wi_iconst hX dX12_goesOn_32 ?_
        refine wn_iand hX dX12_goesOn_33 (by rfl) (by rfl) ?_
        rw [bit1]
        refine wi_if_ne hX (tgt := 70) dX12_goesOn_34 (by decide) (by exact b2n_inR _) (fun c34 => ?_) (fun c34 => ?_)
        · skip
          first
            | (have q1 := b2n_t c34
               refine t70 _ hze hpre (fun im2 h1 h2 h3 => ?_)
               have q2 := (h2.down (by omega)).2.1
               rw [h3, q1] at q2
               cases q2)
            | (have q1 := b2n_f c46
               refine t70 _ hze hpre (fun im2 h1 h2 h3 => ?_)
               have q2 := hbf.mpr ((h2.down (by omega)).2.2.1.congr (fun j hj => by
                 by_cases g : j = many
                 · subst g; rw [up_s, h3]
                 · rw [up_n g]; exact h1 j (by omega)))
               rw [q2] at q1
               cases q1)
            | (have q1 := b2n_f c65
               refine t70 F2 hze (fun j hj => (hA j (by omega)).trans (hpre j hj)) (fun im2 h1 h2 h3 => ?_)
               rcases hG with ⟨g1, _⟩ | ⟨_, g2⟩
               · rw [g1] at q1; cases q1
               · refine g2 im2 (fun j hj => ?_) ?_
                 · by_cases g : j = many
                   · subst g; rw [up_s, h3]
                   · rw [up_n g]; exact h1 j (by omega)
                 · have q2 := (h2.down (by omega)).2.2.2
                   rw [h3] at q2
                   exact q2)
        · skip
          refine wa_aload_n hX (i := 0) dX12_goesOn_37 rfl rfl ?_
          refine wa_aload_n hX (i := 1) dX12_goesOn_38 rfl rfl ?_
          refine wa_aload_n hX (i := 2) dX12_goesOn_39 rfl rfl ?_
          refine wa_iload_n hX (i := 3) dX12_goesOn_40 rfl rfl ?_
          refine wi_iconst hX dX12_goesOn_41 ?_
          refine wi_iadd hX dX12_goesOn_42 ?_
          refine wa_callS hX (c_X12_fits hW d (mo := many) (im := up im many z) a1G a2G a3 b1G b2G b3 he hr1 hr2 kG (by omega) hK1 hi1) (by rfl) (by omega) (nA := 4) (by rfl) (by decide +kernel) rfl (by exact Nat.le_of_ble_eq_true rfl) dX12_goesOn_43 (fun r43 h43 p43 => ?_) (fun _ _ q => q.elim)
          obtain ⟨⟨bf, rfl, hbf⟩, rfl⟩ := p43
          dsimp only [Option.toList, List.cons_append, List.nil_append]
          refine wi_if_eq hX (tgt := 70) dX12_goesOn_46 (by decide) (by exact b2n_inR _) (fun c46 => ?_) (fun c46 => ?_)
          · skip
            first
              | (have q1 := b2n_t c34
                 refine t70 _ hze hpre (fun im2 h1 h2 h3 => ?_)
                 have q2 := (h2.down (by omega)).2.1
                 rw [h3, q1] at q2
                 cases q2)
              | (have q1 := b2n_f c46
                 refine t70 _ hze hpre (fun im2 h1 h2 h3 => ?_)
                 have q2 := hbf.mpr ((h2.down (by omega)).2.2.1.congr (fun j hj => by
                   by_cases g : j = many
                   · subst g; rw [up_s, h3]
                   · rw [up_n g]; exact h1 j (by omega)))
                 rw [q2] at q1
                 cases q1)
              | (have q1 := b2n_f c65
                 refine t70 F2 hze (fun j hj => (hA j (by omega)).trans (hpre j hj)) (fun im2 h1 h2 h3 => ?_)
                 rcases hG with ⟨g1, _⟩ | ⟨_, g2⟩
                 · rw [g1] at q1; cases q1
                 · refine g2 im2 (fun j hj => ?_) ?_
                   · by_cases g : j = many
                     · subst g; rw [up_s, h3]
                     · rw [up_n g]; exact h1 j (by omega)
                   · have q2 := (h2.down (by omega)).2.2.2
                     rw [h3] at q2
                     exact q2)
          · skip
            refine wa_aload_n hX (i := 0) dX12_goesOn_49 rfl rfl ?_
            refine wa_aload_n hX (i := 1) dX12_goesOn_50 rfl rfl ?_
            refine wa_aload_n hX (i := 2) dX12_goesOn_51 rfl rfl ?_
            refine wa_iload_n hX (i := 3) dX12_goesOn_52 rfl rfl ?_
            refine wi_iconst hX dX12_goesOn_53 ?_
            refine wi_iadd hX dX12_goesOn_54 ?_
            refine wa_iload hX dX12_goesOn_55 rfl ?_
            refine wi_iconst hX dX12_goesOn_57 ?_
            refine wa_iload hX dX12_goesOn_58 rfl ?_
            refine wn_shl1 hX dX12_goesOn_60 (by rfl) (by omega) ?_
            refine wn_ior hX dX12_goesOn_61 (by rfl) (by rfl) ?_
            rw [show (many : Int) + 1 = ((many + 1 : Nat) : Int) by omega]
            have hu2 : used ||| 2 ^ z < 2 ^ e := or_lt hus (bit_lt hze)
            refine wa_callS hX (ih0 d (many + 1) (used ||| 2 ^ z) _ (up F many (z : Int)) (up im many z) (by omega) hu2 a1G a2G b1G b2G kG (fun j hj => hK1 j (by omega)) (fun j hj => hi1 j (by omega))) (by rfl) (by omega) (nA := 5) (by rfl) (by decide +kernel) rfl (by exact Nat.le_of_ble_eq_true rfl) dX12_goesOn_62 (fun r62 h62 p62 => ?_) (fun _ _ q => q.elim)
            obtain ⟨v, F2, im', rfl, hh62, hA, hB, hG⟩ := p62
            rw [hset_hset] at hh62
            subst hh62
            dsimp only [Option.toList, List.cons_append, List.nil_append]
            refine wi_if_eq hX (tgt := 70) dX12_goesOn_65 (by decide) (by exact b2n_inR _) (fun c65 => ?_) (fun c65 => ?_)
            · skip
              first
                | (have q1 := b2n_t c34
                   refine t70 _ hze hpre (fun im2 h1 h2 h3 => ?_)
                   have q2 := (h2.down (by omega)).2.1
                   rw [h3, q1] at q2
                   cases q2)
                | (have q1 := b2n_f c46
                   refine t70 _ hze hpre (fun im2 h1 h2 h3 => ?_)
                   have q2 := hbf.mpr ((h2.down (by omega)).2.2.1.congr (fun j hj => by
                     by_cases g : j = many
                     · subst g; rw [up_s, h3]
                     · rw [up_n g]; exact h1 j (by omega)))
                   rw [q2] at q1
                   cases q1)
                | (have q1 := b2n_f c65
                   refine t70 F2 hze (fun j hj => (hA j (by omega)).trans (hpre j hj)) (fun im2 h1 h2 h3 => ?_)
                   rcases hG with ⟨g1, _⟩ | ⟨_, g2⟩
                   · rw [g1] at q1; cases q1
                   · refine g2 im2 (fun j hj => ?_) ?_
                     · by_cases g : j = many
                       · subst g; rw [up_s, h3]
                       · rw [up_n g]; exact h1 j (by omega)
                     · have q2 := (h2.down (by omega)).2.2.2
                       rw [h3] at q2
                       exact q2)
            · skip
              refine wi_iconst hX dX12_goesOn_68 ?_
              refine wa_zret hX dX12_goesOn_69 (by rfl) ?_
              have q1 := b2n_t c65
              have q0 := b2n_f c34
              have q3 := hbf.mp (b2n_t c46)
              rcases hG with ⟨_, g2, g3, g4⟩ | ⟨g1, _⟩
              · have e1 : im' many = z := by rw [g2 many (by omega), up_s]
                have e2 : ∀ j, j < many → im' j = im j := fun j hj => by rw [g2 j (by omega), up_n (by omega)]
                refine ⟨true, F2, im', rfl, rfl, fun j hj => (hA j (by omega)).trans (hpre j hj), fun _ => hB q1, Or.inl ⟨rfl, e2, ExtP.up9 (by omega) (by rw [e1]; exact q0) (q3.congr (fun j hj => (g2 j (by omega)).symm)) (by rw [e1]; exact g3), fun im2 h1 h2 => ?_⟩⟩
                have h3 := hN im2 h1 h2
                by_cases g : im2 many = z
                · refine g4 im2 (fun j hj => ?_) ?_
                  · by_cases g9 : j = many
                    · subst g9; rw [up_s, g]
                    · rw [up_n g9]; exact h1 j (by omega)
                  · have q2 := (h2.down (by omega)).2.2.2
                    rw [g] at q2
                    exact q2
                · exact Or.inr ⟨many, by omega, fun j hj => by rw [e2 j hj, h1 j hj], by omega⟩
              · rw [g1] at q1; cases q1
    · skip
      exfalso; omega
/-- the first isomorphism, or none -/
def IsoG (r1 : Nat → Nat) (e1 : Nat) (r2 : Nat → Nat) (e2 : Nat) (v : Bool) (im : Nat → Nat) : Prop := (v = true ∧ e1 = e2 ∧ r1 (2 ^ e1 - 1) = r2 (2 ^ e2 - 1) ∧ ExtP r1 r2 e1 0 0 im ∧ ∀ im2 : Nat → Nat, ExtP r1 r2 e1 0 0 im2 → LexLe e1 im im2) ∨ (v = false ∧ ¬ (e1 = e2 ∧ r1 (2 ^ e1 - 1) = r2 (2 ^ e2 - 1) ∧ ∃ im2 : Nat → Nat, ExtP r1 r2 e1 0 0 im2))
set_option maxHeartbeats 1000000 in
set_option maxRecDepth 100000 in
theorem c_X12_areAlike (hW : WOK l D S0) (d : Nat) {h : AH} {p1 p2 l1 l2 q1 q2 lq1 lq2 ki lk e1 e2 : Nat} {m12 m13 m22 m23 : Value} {k12 k13 k22 k23 : Int} {r1 r2 : Nat → Nat} {G1 G2 KP : Nat → Int} (a1 : h p1 = some (l1, oRef e1 q1 m12 m13 k12 k13)) (a2 : h q1 = some (lq1, aI .int 1024 G1)) (a3 : ∀ s, s < 2 ^ e1 → G1 s = ((r1 s : Nat) : Int)) (b1 : h p2 = some (l2, oRef e2 q2 m22 m23 k22 k23)) (b2 : h q2 = some (lq2, aI .int 1024 G2)) (b3 : ∀ s, s < 2 ^ e2 → G2 s = ((r2 s : Nat) : Int)) (he1 : e1 ≤ 10) (he2 : e2 ≤ 10) (hr1 : ∀ s, s < 2 ^ e1 → r1 s ≤ 10) (hr2 : ∀ s, s < 2 ^ e2 → r2 s ≤ 10) (hk : h ki = some (lk, aI .int 10 KP)) (hl : l1 ≠ lk ∧ lq1 ≠ lk ∧ l2 ≠ lk ∧ lq2 ≠ lk) : MA l D S0 yX12_areAlike cX12_areAlike 3 (some .boolean) (d + 12) [.ref p1, .ref p2, .ref ki] h 0 0 (fun r h' => ∃ (v : Bool) (KP' : Nat → Int) (im : Nat → Nat), r = some (I ((b2n v : Nat) : Int)) ∧ h' = hset h ki (lk, aI .int 10 KP') ∧ (v = true → ∀ j, j < e1 → KP' j = ((im j : Nat) : Int)) ∧ IsoG r1 e1 r2 e2 v im) (fun _ _ => False) := by
  have hp1 := p2_pos e1
  have hp2 := p2_pos e2
  have v1 := hr1 (2 ^ e1 - 1) (by omega)
  have v2 := hr2 (2 ^ e2 - 1) (by omega)
  refine MA.start hW (by decide) [.val (.ref p1), .val (.ref p2), .val (.ref ki)] rfl ?_
  rintro X rfl rfl rfl hX
  refine wa_aload_n hX (i := 0) dX12_areAlike_0 rfl rfl ?_
  refine wa_get hX 0 (by assumption) (by rfl) (by decide +kernel) dX12_areAlike_1 ?_
  refine wa_aload_n hX (i := 1) dX12_areAlike_4 rfl rfl ?_
  refine wa_get hX 0 (by assumption) (by rfl) (by decide +kernel) dX12_areAlike_5 ?_
  refine wi_icmp_ne hX (tgt := 37) dX12_areAlike_8 (by decide) (by omega) (by omega) (fun c8 => ?_) (fun c8 => ?_)
  · skip
    refine wi_iconst hX dX12_areAlike_37 ?_
    refine wa_zret hX dX12_areAlike_38 (by rfl) ?_
    first
      | (have q := b2n_t c30
         rcases hG with ⟨_, _, g3, g4⟩ | ⟨g1, _⟩
         · exact ⟨true, KP', im', rfl, rfl, fun _ => hB q, Or.inl ⟨rfl, rfl, hrr, g3, fun im2 h2 => g4 im2 (fun j hj => absurd hj (Nat.not_lt_zero j)) h2⟩⟩
         · rw [g1] at q; cases q)
      | (have q := b2n_f c30
         rcases hG with ⟨g1, _⟩ | ⟨_, g2⟩
         · rw [g1] at q; cases q
         · exact ⟨false, KP', im', rfl, rfl, (fun z => nomatch z), Or.inr ⟨rfl, fun z => z.2.2.elim (fun im2 h2 => g2 im2 (fun j hj => absurd hj (Nat.not_lt_zero j)) h2)⟩⟩)
      | exact ⟨false, KP, fun _ => 0, rfl, (hset_self hk).symm, (fun z => nomatch z), Or.inr ⟨rfl, fun z => by obtain ⟨z1, z2, _⟩ := z; omega⟩⟩
  · skip
    refine wa_aload_n hX (i := 0) dX12_areAlike_11 rfl rfl ?_
    refine wa_callV hX (c_X11_rank hW d a1 a2 a3 he1 hr1) (by assumption) (by rfl) (by rfl) (by omega) (nA := 0) (by rfl) (by decide +kernel) rfl (by exact Nat.le_of_ble_eq_true rfl) dX12_areAlike_12 (fun r12 h12 p12 => ?_) (fun _ _ q => q.elim)
    obtain ⟨rfl, qq12⟩ := p12; subst h12
    dsimp only [Option.toList, List.cons_append, List.nil_append]
    refine wa_aload_n hX (i := 1) dX12_areAlike_15 rfl rfl ?_
    refine wa_callV hX (c_X11_rank hW d b1 b2 b3 he2 hr2) (by assumption) (by rfl) (by rfl) (by omega) (nA := 0) (by rfl) (by decide +kernel) rfl (by exact Nat.le_of_ble_eq_true rfl) dX12_areAlike_16 (fun r16 h16 p16 => ?_) (fun _ _ q => q.elim)
    obtain ⟨rfl, qq16⟩ := p16; subst h16
    dsimp only [Option.toList, List.cons_append, List.nil_append]
    refine wi_icmp_ne hX (tgt := 37) dX12_areAlike_19 (by decide) (by omega) (by omega) (fun c19 => ?_) (fun c19 => ?_)
    · skip
      refine wi_iconst hX dX12_areAlike_37 ?_
      refine wa_zret hX dX12_areAlike_38 (by rfl) ?_
      first
        | (have q := b2n_t c30
           rcases hG with ⟨_, _, g3, g4⟩ | ⟨g1, _⟩
           · exact ⟨true, KP', im', rfl, rfl, fun _ => hB q, Or.inl ⟨rfl, rfl, hrr, g3, fun im2 h2 => g4 im2 (fun j hj => absurd hj (Nat.not_lt_zero j)) h2⟩⟩
           · rw [g1] at q; cases q)
        | (have q := b2n_f c30
           rcases hG with ⟨g1, _⟩ | ⟨_, g2⟩
           · rw [g1] at q; cases q
           · exact ⟨false, KP', im', rfl, rfl, (fun z => nomatch z), Or.inr ⟨rfl, fun z => z.2.2.elim (fun im2 h2 => g2 im2 (fun j hj => absurd hj (Nat.not_lt_zero j)) h2)⟩⟩)
        | exact ⟨false, KP, fun _ => 0, rfl, (hset_self hk).symm, (fun z => nomatch z), Or.inr ⟨rfl, fun z => by obtain ⟨z1, z2, _⟩ := z; omega⟩⟩
    · skip
      refine wa_aload_n hX (i := 0) dX12_areAlike_22 rfl rfl ?_
      refine wa_aload_n hX (i := 1) dX12_areAlike_23 rfl rfl ?_
      refine wa_aload_n hX (i := 2) dX12_areAlike_24 rfl rfl ?_
      refine wi_iconst hX dX12_areAlike_25 ?_
      refine wi_iconst hX dX12_areAlike_26 ?_
      have hrr : r1 (2 ^ e1 - 1) = r2 (2 ^ e2 - 1) := by omega
      have hee : e1 = e2 := by omega
      subst hee
      refine wa_callS hX (c_X12_goesOn hW a3 b3 he1 hr1 hr2 hl e1 (d + (10 - e1)) 0 0 h KP (fun _ => 0) (by omega) (by omega) a1 a2 b1 b2 hk (fun j hj => absurd hj (Nat.not_lt_zero j)) (fun j hj => absurd hj (Nat.not_lt_zero j))) (by rfl) (by omega) (nA := 5) (by rfl) (by decide +kernel) rfl (by exact Nat.le_of_ble_eq_true rfl) dX12_areAlike_27 (fun r27 h27 p27 => ?_) (fun _ _ q => q.elim)
      obtain ⟨v, KP', im', rfl, rfl, -, hB, hG⟩ := p27
      dsimp only [Option.toList, List.cons_append, List.nil_append]
      refine wi_if_eq hX (tgt := 37) dX12_areAlike_30 (by decide) (by exact b2n_inR _) (fun c30 => ?_) (fun c30 => ?_)
      · skip
        refine wi_iconst hX dX12_areAlike_37 ?_
        refine wa_zret hX dX12_areAlike_38 (by rfl) ?_
        first
          | (have q := b2n_t c30
             rcases hG with ⟨_, _, g3, g4⟩ | ⟨g1, _⟩
             · exact ⟨true, KP', im', rfl, rfl, fun _ => hB q, Or.inl ⟨rfl, rfl, hrr, g3, fun im2 h2 => g4 im2 (fun j hj => absurd hj (Nat.not_lt_zero j)) h2⟩⟩
             · rw [g1] at q; cases q)
          | (have q := b2n_f c30
             rcases hG with ⟨g1, _⟩ | ⟨_, g2⟩
             · rw [g1] at q; cases q
             · exact ⟨false, KP', im', rfl, rfl, (fun z => nomatch z), Or.inr ⟨rfl, fun z => z.2.2.elim (fun im2 h2 => g2 im2 (fun j hj => absurd hj (Nat.not_lt_zero j)) h2)⟩⟩)
          | exact ⟨false, KP, fun _ => 0, rfl, (hset_self hk).symm, (fun z => nomatch z), Or.inr ⟨rfl, fun z => by obtain ⟨z1, z2, _⟩ := z; omega⟩⟩
      · skip
        refine wi_iconst hX dX12_areAlike_33 ?_
        refine wa_goto hX (tgt := 38) dX12_areAlike_34 (by decide) ?_
        refine wa_zret hX dX12_areAlike_38 (by rfl) ?_
        first
          | (have q := b2n_t c30
             rcases hG with ⟨_, _, g3, g4⟩ | ⟨g1, _⟩
             · exact ⟨true, KP', im', rfl, rfl, fun _ => hB q, Or.inl ⟨rfl, rfl, hrr, g3, fun im2 h2 => g4 im2 (fun j hj => absurd hj (Nat.not_lt_zero j)) h2⟩⟩
             · rw [g1] at q; cases q)
          | (have q := b2n_f c30
             rcases hG with ⟨g1, _⟩ | ⟨_, g2⟩
             · rw [g1] at q; cases q
             · exact ⟨false, KP', im', rfl, rfl, (fun z => nomatch z), Or.inr ⟨rfl, fun z => z.2.2.elim (fun im2 h2 => g2 im2 (fun j hj => absurd hj (Nat.not_lt_zero j)) h2)⟩⟩)
          | exact ⟨false, KP, fun _ => 0, rfl, (hset_self hk).symm, (fun z => nomatch z), Or.inr ⟨rfl, fun z => by obtain ⟨z1, z2, _⟩ := z; omega⟩⟩
end C100
