/-! Circuitfold$Drawing (X2): fillColumns -/
/-- the heap whose columns are G -/
def colH (h : AH) (lc n rows : Nat) (rc : Nat → Nat) (G : Nat → Nat → Nat) : AH := fun b => match fst (fun j => rc j == b) n with
  | some j => some (lc, aV rows (G j))
  | none => h b
theorem colH_in {h : AH} {lc n rows : Nat} {rc : Nat → Nat} {G : Nat → Nat → Nat} (hi : ∀ i j, i < n → j < n → rc i = rc j → i = j) {j : Nat} (hj : j < n) : colH h lc n rows rc G (rc j) = some (lc, aV rows (G j)) := by
  have e : fst (fun i => rc i == rc j) n = some j := fst_some hj (fun i hij => by
    show (rc i == rc j) = false
    rw [beq_eq_false_iff_ne]
    intro q
    have := hi i j (by omega) hj q
    omega) (by show (rc j == rc j) = true; exact beq_self_eq_true _)
  unfold colH
  rw [e]
theorem colH_out {h : AH} {lc n rows b : Nat} {rc : Nat → Nat} {G : Nat → Nat → Nat} (hb : ∀ j, j < n → rc j ≠ b) : colH h lc n rows rc G b = h b := by
  have e : fst (fun i => rc i == b) n = none := fst_none (fun i hi => by
    show (rc i == b) = false
    rw [beq_eq_false_iff_ne]
    exact hb i hi)
  unfold colH
  rw [e]
theorem colH_set {h : AH} {lc n rows el : Nat} {rc : Nat → Nat} {G : Nat → Nat → Nat} {V : Nat → Nat} (hi : ∀ i j, i < n → j < n → rc i = rc j → i = j) (hel : el < n) : hset (colH h lc n rows rc G) (rc el) (lc, aV rows V) = colH h lc n rows rc (fun j => if j = el then V else G j) := by
  funext b
  by_cases e : b = rc el
  · subst e
    rw [hset_eq, colH_in hi hel, if_pos rfl]
  · rw [hset_ne e]
    unfold colH
    cases q : fst (fun j => rc j == b) n with
    | none => rfl
    | some j =>
      dsimp only
      have : j ≠ el := by
        intro z
        subst z
        rcases fst_spec (p := fun j => rc j == b) (n := n) with ⟨w, -⟩ | ⟨i, -, w, w2, -⟩
        · rw [q] at w; cases w
        · rw [q] at w
          cases w
          exact e (eq_of_beq w2).symm
      rw [if_neg this]
theorem colH_id {h : AH} {lc n rows : Nat} {rc : Nat → Nat} {G : Nat → Nat → Nat} (hc : ∀ j, j < n → h (rc j) = some (lc, aV rows (G j))) : h = colH h lc n rows rc G := by
  funext b
  unfold colH
  rcases fst_spec (p := fun j => rc j == b) (n := n) with ⟨w, -⟩ | ⟨i, hi, w, w2, -⟩
  · rw [w]
  · rw [w]
    dsimp only
    have : rc i = b := eq_of_beq w2
    rw [← this]
    exact hc i hi
theorem up_castN {K : Nat → Nat} {x z : Nat} : up (fun j => ((K j : Nat) : Int)) x ((z : Nat) : Int) = fun j => ((up K x z j : Nat) : Int) := by
  funext j
  rw [up_is, up_is]
  split <;> rfl
def cup (G : Nat → Nat → Nat) (el row z : Nat) : Nat → Nat → Nat := fun j => if j = el then up (G el) row z else G j
def fcI (J N : Nat → Nat) (bs nm row : Nat) (G : Nat → Nat → Nat) : Nat → (Nat → Nat → Nat)
  | 0 => G
  | n + 1 => if isE J bs n nm = true then cup (fcI J N bs nm row G n) n row (if (N n).testBit nm = true then 2 else 1) else fcI J N bs nm row G n
def fcO (J N : Nat → Nat) (bs e : Nat) (G : Nat → Nat → Nat) : Nat → (Nat → Nat → Nat)
  | 0 => G
  | n + 1 => if bs.testBit n = true then fcI J N bs n (cnt (fun k => bs.testBit k) n) (cup (fcO J N bs e G n) n (cnt (fun k => bs.testBit k) n) 1) e else fcO J N bs e G n
section C60
variable {l : Launch} {D : va_G} {S0 : State}
set_option maxHeartbeats 4000000 in
set_option maxRecDepth 100000 in
theorem c_X2_fillColumns (hW : WOK l D S0) (d : Nat) {h : AH} {a la mt lm jq kq bq nq cq lq c2 l2 r2 p2 lj ln lc bs f full fu rq hq tq e : Nat} {tr sym : Int} {v2 v3 : Value} {J N rc : Nat → Nat} {G0 : Nat → Nat → Nat} (h9 : h a = some (la, oDra mt (bs : Int) jq kq bq nq cq tr)) (hj : h jq = some (lj, aV 10 J)) (hn : h nq = some (ln, aV 10 N)) (hm : h mt = some (lm, oMat e fu rq hq tq sym v2 v3)) (hc : h cq = some (lq, oElim f full e c2 r2 p2)) (h2 : h c2 = some (l2, aRR e rc)) (hrc : ∀ j, j < e → h (rc j) = some (lc, aV full (G0 j))) (hi : ∀ i j, i < e → j < e → rc i = rc j → i = j) (l1 : la ≠ lc) (l3 : lj ≠ lc) (l4 : ln ≠ lc) (l5 : lm ≠ lc) (l6 : lq ≠ lc) (l7 : l2 ≠ lc) (he : e ≤ 10) (hfull : full ≤ 10) (hbs : bs < 2 ^ e) (hbc : bc bs = full) (hJ : ∀ j, j < 10 → J j < 1024) (hN : ∀ j, N j < 1024) : MA l D S0 yX2_fillColumns cX2_fillColumns 4 none (d + 2) [.ref a] h 0 0 (fun r h' => r = none ∧ h' = colH h lc e full rc (fcO J N bs e G0 e)) (fun _ _ => False) := by
  have hp := p2_le he
  have hcb := cnt_bc e (by omega) bs hbs
  obtain ⟨Z, hZ⟩ : ∃ Z : (Nat → Nat → Nat) → AH, ∀ G, Z G = colH h lc e full rc G := ⟨_, fun _ => rfl⟩
  have zo : ∀ {b lb : Nat} {o : Ob}, h b = some (lb, o) → lb ≠ lc → ∀ G, Z G b = some (lb, o) := fun {b lb o} g k G => by
    rw [hZ, colH_out (fun j hj => (lab_ne (hrc j hj) g k).symm)]
    exact g
  have z0 : h = Z G0 := by rw [hZ]; exact colH_id hrc
  have zA := zo h9 l1
  have zJ := zo hj l3
  have zN := zo hn l4
  have zM := zo hm l5
  have zC := zo hc l6
  have z2 := zo h2 l7
  have zR : ∀ G, ∀ j, j < e → Z G (rc j) = some (lc, aV full (G j)) := fun G j hj => by rw [hZ]; exact colH_in hi hj
  have zS : ∀ G el row z, el < e → hset (Z G) (rc el) (lc, aI .int full (up (fun j => ((G el j : Nat) : Int)) row ((z : Nat) : Int))) = Z (cup G el row z) := fun G el row z hel => by rw [hZ, hZ, up_castN]; exact colH_set hi hel
  rw [← hZ]
  refine MA.start hW (by decide) [.val (.ref a), .unset, .unset, .unset] rfl ?_
  rintro X rfl rfl rfl hX
  refine wi_iconst hX dX2_fillColumns_0 ?_
  refine wa_istore_n hX (i := 1) dX2_fillColumns_1 rfl (by first | rfl | assumption) ?_
  dsimp only [List.set]
  refine wi_iconst hX dX2_fillColumns_2 ?_
  refine wa_istore_n hX (i := 2) dX2_fillColumns_3 rfl (by first | rfl | assumption) ?_
  dsimp only [List.set]
  refine WA.heap z0 ?_
  refine WA.loop (σ := Nat × Slot) (fun z => e - z.1) (fun z => z.1 ≤ e ∧ okS [z.2] 0 = true) (fun z => Z (fcO J N bs e G0 z.1)) (fun z => [.val (.ref a), .val (I (cnt (fun k => bs.testBit k) z.1 : Nat)), .val (I (z.1 : Nat)), z.2]) ?_ (0, .unset) ⟨Nat.zero_le _, rfl⟩
  rintro ⟨i, u3⟩ ⟨hi9, hu3⟩ ih
  dsimp only at hi9 hu3 ⊢
  have hst : fcO J N bs e G0 (i + 1) = (if bs.testBit i = true then fcI J N bs i (cnt (fun k => bs.testBit k) i) (cup (fcO J N bs e G0 i) i (cnt (fun k => bs.testBit k) i) 1) e else fcO J N bs e G0 i) := rfl
  have hcl : i < e → bs.testBit i = true → cnt (fun k => bs.testBit k) i < full := fun q1 q2 => by
    have := cnt_y (p := fun k => bs.testBit k) (n := i) q2
    have := cnt_mono (p := fun k => bs.testBit k) (show i + 1 ≤ e by omega)
    omega
  have hcy : bs.testBit i = true → cnt (fun k => bs.testBit k) (i + 1) = cnt (fun k => bs.testBit k) i + 1 := fun q => cnt_y (p := fun k => bs.testBit k) q
  have hcn : ¬ bs.testBit i = true → cnt (fun k => bs.testBit k) (i + 1) = cnt (fun k => bs.testBit k) i := fun q => cnt_n (p := fun k => bs.testBit k) q
  have hcle := cnt_le (fun k => bs.testBit k) i
  generalize hG : fcO J N bs e G0 i = G at hst ⊢
  generalize cnt (fun k => bs.testBit k) i = c at hst hcl hcy hcn hcle ⊢
  have kA := zA G
  have kM := zM G
  have kC := zC G
  have k2 := z2 G
  refine wa_iload_n hX (i := 2) dX2_fillColumns_4 rfl rfl ?_
  refine wa_aload_n hX (i := 0) dX2_fillColumns_5 rfl rfl ?_
  refine wa_get hX 0 (by assumption) (by rfl) (by decide +kernel) dX2_fillColumns_6 ?_
  refine wa_get hX 0 (by assumption) (by rfl) (by decide +kernel) dX2_fillColumns_9 ?_
  refine wi_icmp_ge hX (tgt := 102) dX2_fillColumns_12 (by decide) (by omega) (by omega) (fun c12 => ?_) (fun c12 => ?_)
  · skip
    refine wa_vret hX dX2_fillColumns_102 ?_
    rw [← hG, show i = e by omega]
    exact ⟨rfl, rfl⟩
  · skip
    refine wa_aload_n hX (i := 0) dX2_fillColumns_15 rfl rfl ?_
    refine wa_get hX 1 (by assumption) (by rfl) (by decide +kernel) dX2_fillColumns_16 ?_
    refine wa_iload_n hX (i := 2) dX2_fillColumns_19 rfl rfl ?_
    refine wa_callS hX (c_X2_has hW d (s := bs) (el := i) (by omega) (by omega)) (by rfl) (by omega) (nA := 2) (by rfl) (by decide +kernel) rfl (by exact Nat.le_of_ble_eq_true rfl) dX2_fillColumns_20 (fun r20 h20 p20 => ?_) (fun _ _ q => q.elim)
    obtain ⟨rfl, qq20⟩ := p20; subst h20
    dsimp only [Option.toList, List.cons_append, List.nil_append]
    refine wi_if_eq hX (tgt := 96) dX2_fillColumns_23 (by decide) (by exact b2n_inR _) (fun c23 => ?_) (fun c23 => ?_)
    · skip
      have w := b2n_f c23
      have hno : ¬ bs.testBit i = true := by rw [w]; decide
      rw [if_neg hno] at hst
      refine wi_iinc hX dX2_fillColumns_96 rfl ?_
      dsimp only [List.set]
      refine wa_goto hX (tgt := 4) dX2_fillColumns_99 (by decide) ?_
      refine WA.heap ?_ (WA.eq rfl ?_ rfl (ih (i + 1, u3) ⟨by show i + 1 ≤ e; omega, hu3⟩ (by show e - (i + 1) < e - i; omega)))
      · dsimp only; rw [hst]
      · dsimp only; rw [hcn hno]; rfl
    · skip
      have hyes := b2n_t c23
      rw [if_pos hyes] at hst
      have hcf := hcl (by omega) hyes
      have kR := zR G i (by omega)
      refine wa_aload_n hX (i := 0) dX2_fillColumns_26 rfl rfl ?_
      refine wa_get hX 6 (by assumption) (by rfl) (by decide +kernel) dX2_fillColumns_27 ?_
      refine wa_iload_n hX (i := 2) dX2_fillColumns_30 rfl rfl ?_
      refine wa_iload_n hX (i := 1) dX2_fillColumns_31 rfl rfl ?_
      refine wi_iconst hX dX2_fillColumns_32 ?_
      refine wa_callV hX (c_X3_put hW d kC k2 (el := i) (by omega) kR hcf he hfull (z := ((1 : Nat) : Int))) (by assumption) (by rfl) (by rfl) (by omega) (nA := 3) (by rfl) (by decide +kernel) rfl (by exact Nat.le_of_ble_eq_true rfl) dX2_fillColumns_33 (fun r33 h33 p33 => ?_) (fun _ _ q => q.elim)
      obtain ⟨rfl, rfl⟩ := p33
      rw [zS G i c 1 (by omega)]
      dsimp only [Option.toList, List.cons_append, List.nil_append]
      refine wi_iconst hX dX2_fillColumns_36 ?_
      refine wa_istore_n hX (i := 3) dX2_fillColumns_37 rfl (by first | rfl | assumption) ?_
      dsimp only [List.set]
      generalize cup G i c 1 = G1 at hst ⊢
      clear kA kM kC k2 kR
      refine WA.loop (σ := Nat) (fun z => e - z) (fun z => z ≤ e) (fun z => Z (fcI J N bs i c G1 z)) (fun z => [.val (.ref a), .val (I (c : Nat)), .val (I (i : Nat)), .val (I (z : Nat))]) ?_ 0 (Nat.zero_le _)
      intro n hn9 ih2
      have hst2 : fcI J N bs i c G1 (n + 1) = (if isE J bs n i = true then cup (fcI J N bs i c G1 n) n c (if (N n).testBit i = true then 2 else 1) else fcI J N bs i c G1 n) := rfl
      generalize hF : fcI J N bs i c G1 n = F at hst2 ⊢
      have kA := zA F
      have kM := zM F
      have kC := zC F
      have kJ := zJ F
      have kN := zN F
      have k2 := z2 F
      refine wa_iload_n hX (i := 3) dX2_fillColumns_38 rfl rfl ?_
      refine wa_aload_n hX (i := 0) dX2_fillColumns_39 rfl rfl ?_
      refine wa_get hX 0 (by assumption) (by rfl) (by decide +kernel) dX2_fillColumns_40 ?_
      refine wa_get hX 0 (by assumption) (by rfl) (by decide +kernel) dX2_fillColumns_43 ?_
      refine wi_icmp_ge hX (tgt := 93) dX2_fillColumns_46 (by decide) (by omega) (by omega) (fun c46 => ?_) (fun c46 => ?_)
      · skip
        have hne : n = e := by omega
        have hcy2 := hcy hyes
        refine wi_iinc hX dX2_fillColumns_93 rfl ?_
        dsimp only [List.set]
        refine wi_iinc hX dX2_fillColumns_96 rfl ?_
        dsimp only [List.set]
        refine wa_goto hX (tgt := 4) dX2_fillColumns_99 (by decide) ?_
        refine WA.heap ?_ (WA.eq rfl ?_ rfl (ih (i + 1, .val (I (n : Nat))) ⟨by show i + 1 ≤ e; omega, rfl⟩ (by show e - (i + 1) < e - i; omega)))
        · dsimp only; rw [hst, ← hne, hF]
        · dsimp only; rw [hcy2]; rfl
      · skip
        refine wa_aload_n hX (i := 0) dX2_fillColumns_49 rfl rfl ?_
        refine wa_iload_n hX (i := 3) dX2_fillColumns_50 rfl rfl ?_
        refine wa_iload_n hX (i := 2) dX2_fillColumns_51 rfl rfl ?_
        refine wa_callV hX (c_X2_isEntry hW d kA kJ (by omega) hJ (el := n) (row := i) (by omega) (by omega)) (by assumption) (by rfl) (by rfl) (by omega) (nA := 2) (by rfl) (by decide +kernel) rfl (by exact Nat.le_of_ble_eq_true rfl) dX2_fillColumns_52 (fun r52 h52 p52 => ?_) (fun _ _ q => q.elim)
        obtain ⟨rfl, qq52⟩ := p52; subst h52
        dsimp only [Option.toList, List.cons_append, List.nil_append]
        refine wi_if_eq hX (tgt := 87) dX2_fillColumns_55 (by decide) (by exact b2n_inR _) (fun c55 => ?_) (fun c55 => ?_)
        · skip
          have w := b2n_f c55
          rw [if_neg (show ¬ isE J bs n i = true by unfold isE; rw [w]; decide)] at hst2
          rw [← hst2]
          refine wi_iinc hX dX2_fillColumns_87 rfl ?_
          dsimp only [List.set]
          refine wa_goto hX (tgt := 38) dX2_fillColumns_90 (by decide) ?_
          exact ih2 (n + 1) (by omega) (by omega)
        · skip
          have hyes2 := b2n_t c55
          rw [if_pos (show isE J bs n i = true from hyes2)] at hst2
          have kR := zR F n (by omega)
          have hNn := hN n
          refine wa_aload_n hX (i := 0) dX2_fillColumns_58 rfl rfl ?_
          refine wa_get hX 6 (by assumption) (by rfl) (by decide +kernel) dX2_fillColumns_59 ?_
          refine wa_iload_n hX (i := 3) dX2_fillColumns_62 rfl rfl ?_
          refine wa_iload_n hX (i := 1) dX2_fillColumns_63 rfl rfl ?_
          refine wa_aload_n hX (i := 0) dX2_fillColumns_64 rfl rfl ?_
          refine wa_get hX 5 (by assumption) (by rfl) (by decide +kernel) dX2_fillColumns_65 ?_
          refine wa_iload_n hX (i := 3) dX2_fillColumns_68 rfl rfl ?_
          refine wa_callS hX (c_X2_at hW d kN (by decide) (i := (n : Int)) (by omega)) (by rfl) (by omega) (nA := 2) (by rfl) (by decide +kernel) rfl (by exact Nat.le_of_ble_eq_true rfl) dX2_fillColumns_69 (fun r69 h69 p69 => ?_) (fun _ _ q => q.elim)
          obtain ⟨rfl, qq69⟩ := p69; subst h69
          rw [atv_in (by omega)]
          dsimp only [Option.toList, List.cons_append, List.nil_append]
          refine wa_iload_n hX (i := 2) dX2_fillColumns_72 rfl rfl ?_
          refine wa_callS hX (c_X2_has hW d (s := N n) (el := i) (by omega) (by omega)) (by rfl) (by omega) (nA := 2) (by rfl) (by decide +kernel) rfl (by exact Nat.le_of_ble_eq_true rfl) dX2_fillColumns_73 (fun r73 h73 p73 => ?_) (fun _ _ q => q.elim)
          obtain ⟨rfl, qq73⟩ := p73; subst h73
          dsimp only [Option.toList, List.cons_append, List.nil_append]
          refine wi_if_eq hX (tgt := 83) dX2_fillColumns_76 (by decide) (by exact b2n_inR _) (fun c76 => ?_) (fun c76 => ?_)
          · skip
            refine wi_iconst hX dX2_fillColumns_83 ?_
            refine WA.eq (pc2 := 84) (st2 := [I (((if (N n).testBit i = true then 2 else 1 : Nat) : Nat) : Int), I (c : Int), I (n : Int), .ref cq]) rfl rfl (by
              first
                | (have w := b2n_t c76; rw [if_pos w]; rfl)
                | (have w := b2n_f c76; rw [if_neg (by rw [w]; decide)]; rfl)) ?_
            refine wa_callV hX (c_X3_put hW d kC k2 (el := n) (by omega) kR hcf he hfull) (by assumption) (by rfl) (by rfl) (by omega) (nA := 3) (by rfl) (by decide +kernel) rfl (by exact Nat.le_of_ble_eq_true rfl) dX2_fillColumns_84 (fun r84 h84 p84 => ?_) (fun _ _ q => q.elim)
            obtain ⟨rfl, rfl⟩ := p84
            rw [zS F n c _ (by omega), ← hst2]
            dsimp only [Option.toList, List.cons_append, List.nil_append]
            refine wi_iinc hX dX2_fillColumns_87 rfl ?_
            dsimp only [List.set]
            refine wa_goto hX (tgt := 38) dX2_fillColumns_90 (by decide) ?_
            exact ih2 (n + 1) (by omega) (by omega)
          · skip
            refine wi_iconst hX dX2_fillColumns_79 ?_
            refine wa_goto hX (tgt := 84) dX2_fillColumns_80 (by decide) ?_
            refine WA.eq (pc2 := 84) (st2 := [I (((if (N n).testBit i = true then 2 else 1 : Nat) : Nat) : Int), I (c : Int), I (n : Int), .ref cq]) rfl rfl (by
              first
                | (have w := b2n_t c76; rw [if_pos w]; rfl)
                | (have w := b2n_f c76; rw [if_neg (by rw [w]; decide)]; rfl)) ?_
            refine wa_callV hX (c_X3_put hW d kC k2 (el := n) (by omega) kR hcf he hfull) (by assumption) (by rfl) (by rfl) (by omega) (nA := 3) (by rfl) (by decide +kernel) rfl (by exact Nat.le_of_ble_eq_true rfl) dX2_fillColumns_84 (fun r84 h84 p84 => ?_) (fun _ _ q => q.elim)
            obtain ⟨rfl, rfl⟩ := p84
            rw [zS F n c _ (by omega), ← hst2]
            dsimp only [Option.toList, List.cons_append, List.nil_append]
            refine wi_iinc hX dX2_fillColumns_87 rfl ?_
            dsimp only [List.set]
            refine wa_goto hX (tgt := 38) dX2_fillColumns_90 (by decide) ?_
            exact ih2 (n + 1) (by omega) (by omega)
end C60
