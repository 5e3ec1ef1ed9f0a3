/-! Circuitfold$Minors (X7): search -/
/-- the k-th of the numbers below n that p holds of -/
def kthN (p : Nat → Bool) (n k : Nat) : Nat := match fst (fun s => p s && decide (cnt p s = k)) n with
  | some s => s
  | none => 0
theorem cnt_surj {p : Nat → Bool} {n k : Nat} (h : k < cnt p n) : ∃ s, s < n ∧ p s = true ∧ cnt p s = k := by
  induction n with
  | zero => exact absurd h (Nat.not_lt_zero k)
  | succ n ih =>
    by_cases hp : p n = true
    · rw [cnt_y hp] at h
      by_cases q : k < cnt p n
      · obtain ⟨s, s1, s2, s3⟩ := ih q
        exact ⟨s, by omega, s2, s3⟩
      · exact ⟨n, by omega, hp, by omega⟩
    · rw [cnt_n hp] at h
      obtain ⟨s, s1, s2, s3⟩ := ih h
      exact ⟨s, by omega, s2, s3⟩
theorem kthN_is {p : Nat → Bool} {n k : Nat} (h : k < cnt p n) : kthN p n k < n ∧ p (kthN p n k) = true ∧ cnt p (kthN p n k) = k := by
  obtain ⟨s, s1, s2, s3⟩ := cnt_surj h
  unfold kthN
  rcases fst_spec (p := fun s => p s && decide (cnt p s = k)) (n := n) with ⟨-, h2⟩ | ⟨i, i1, i2, i3, -⟩
  · have := h2 s s1
    rw [s2, decide_eq_true s3] at this
    cases this
  · rw [i2]
    rw [Bool.and_eq_true] at i3
    exact ⟨i1, i3.1, of_decide_eq_true i3.2⟩
/-- the first set contracted, and the deletion that goes with it -/
def delL (rk : Nat → Nat) (e full nb : Nat) : Nat → Nat := kthN (delB rk e full nb) (2 ^ e)
def delN (rk : Nat → Nat) (e full nb : Nat) : Nat := cnt (delB rk e full nb) (2 ^ e)
def withD (rk sf W : Nat → Nat) (Q : Nat → Int32) (e e2 full nb con : Nat) : Option Nat := fst (fun k => (con &&& delL rk e full nb k == 0) && alk0 sf W Q e2 e con (delL rk e full nb k)) (delN rk e full nb)
def srcB (rk sf W : Nat → Nat) (Q : Nat → Int32) (e e2 full nb lr con : Nat) : Bool := decide (bc con = lr) && (sf con &&& 1 != 0) && (withD rk sf W Q e e2 full nb con).isSome
section C51
variable {l : Launch} {D : va_G} {S0 : State}
set_option maxRecDepth 100000 in
theorem c_X7_search (hW : WOK l D S0) (d : Nat) {h : AH} {a la lk dq ld b m1 lm1 m2 lm2 f1 f2 rq1 hq1 tq1 lr1 lt1 rq2 hq2 tq2 lt2 e1 e2 : Nat} {li fo co de s1 s2 e0 n0 : Int} {lw lp v12 v13 v22 v23 : Value} {rk1 sf1 sf2 : Nat → Nat} {r : Nat → Nat} {F DD : Nat → Int} {C W Im : Nat → Nat} {P Q : Nat → Int32} (h1 : h a = some (la, oMin lk dq li lw lp fo co de)) (h2 : h dq = some (ld, aI .int 1024 DD)) (hS : LikS h lk b r e0 n0 F C W Im P Q) (hm1 : h m1 = some (lm1, oMat e1 f1 rq1 hq1 tq1 s1 v12 v13)) (hr1 : h rq1 = some (lr1, aB e1 rk1)) (ht1 : h tq1 = some (lt1, aB e1 sf1)) (hm2 : h m2 = some (lm2, oMat e2 f2 rq2 hq2 tq2 s2 v22 v23)) (ht2 : h tq2 = some (lt2, aB e2 sf2)) (x1 : lm1 < b ∨ b + 6 < lm1) (x2 : lr1 < b ∨ b + 6 < lr1) (x3 : lt1 < b ∨ b + 6 < lt1) (x4 : lm2 < b ∨ b + 6 < lm2) (x5 : lt2 < b ∨ b + 6 < lt2) (x6 : la < b ∨ b + 6 < la) (x7 : ld < b ∨ b + 6 < ld) (y1 : la ≠ lm1) (y2 : la ≠ lr1) (y3 : la ≠ lt1) (y4 : ld ≠ lm1) (y5 : ld ≠ lr1) (y6 : ld ≠ lt1) (y7 : la ≠ ld) (he1 : e1 ≤ 10) (he2 : e2 ≤ 10) (hf1 : f1 ≤ 10) (hf2 : f2 ≤ 10) (hrk : ∀ s, s < 2 ^ e1 → rk1 s ≤ 10) (hs1 : ∀ j, j < 2 ^ e1 → sf1 j < 32) (hs2 : ∀ j, j < 2 ^ e2 → sf2 j < 32) : MA l D S0 yX7_search cX7_search 7 (some .boolean) (d + 14) [.ref a, .ref m1, .ref m2] h 0 0 (fun rr h' => (∃ e' n' F' C' W' I' P' Q', LikS h' lk b r e' n' F' C' W' I' P' Q') ∧ Fr (fun x => x = la ∨ x = ld ∨ (b ≤ x ∧ x ≤ b + 6)) h h' ∧ (∃ D', h' dq = some (ld, aI .int 1024 D')) ∧ ((rr = some (I 0) ∧ (∃ li', h' a = some (la, oMin lk dq li' lw lp fo co de)) ∧ (¬ (f2 ≤ f1 ∧ e2 + (f1 - f2) ≤ e1) ∨ ∀ con, con < 2 ^ e1 → srcB rk1 sf1 (wntS sf2 W e2) (prfS sf2 W e2) e1 e2 f1 (e1 - e2 - (f1 - f2)) (f1 - f2) con = false)) ∨ (rr = some (I 1) ∧ (f2 ≤ f1 ∧ e2 + (f1 - f2) ≤ e1) ∧ ∃ con k : Nat, con < 2 ^ e1 ∧ (∀ c, c < con → srcB rk1 sf1 (wntS sf2 W e2) (prfS sf2 W e2) e1 e2 f1 (e1 - e2 - (f1 - f2)) (f1 - f2) c = false) ∧ srcB rk1 sf1 (wntS sf2 W e2) (prfS sf2 W e2) e1 e2 f1 (e1 - e2 - (f1 - f2)) (f1 - f2) con = true ∧ withD rk1 sf1 (wntS sf2 W e2) (prfS sf2 W e2) e1 e2 f1 (e1 - e2 - (f1 - f2)) con = some k ∧ ∃ li', h' a = some (la, oMin lk dq li' lw lp fo (con : Int) (delL rk1 e1 f1 (e1 - e2 - (f1 - f2)) k : Nat))))) (fun _ _ => False) := by
  have hp := p2_le he1
  have hp0 := p2_pos e1
  refine MA.start hW (by decide) [.val (.ref a), .val (.ref m1), .val (.ref m2), .unset, .unset, .unset, .unset] rfl ?_
  rintro X rfl rfl rfl hX
  refine wa_aload_n hX (i := 1) dX7_search_0 rfl rfl ?_
  refine wa_get hX 2 hm1 (by rfl) (by decide +kernel) dX7_search_1 ?_
  refine wa_aload_n hX (i := 2) dX7_search_4 rfl rfl ?_
  refine wa_get hX 2 hm2 (by rfl) (by decide +kernel) dX7_search_5 ?_
  refine wi_isub hX dX7_search_8 ?_
  refine wa_istore_n hX (i := 3) dX7_search_9 rfl (by first | rfl | exact hu1 | exact hu2 | exact hu3 | exact hu4) ?_
  dsimp only [List.set]
  refine wa_aload_n hX (i := 1) dX7_search_10 rfl rfl ?_
  refine wa_get hX 0 hm1 (by rfl) (by decide +kernel) dX7_search_11 ?_
  refine wa_aload_n hX (i := 2) dX7_search_14 rfl rfl ?_
  refine wa_get hX 0 hm2 (by rfl) (by decide +kernel) dX7_search_15 ?_
  refine wi_isub hX dX7_search_18 ?_
  refine wa_iload_n hX (i := 3) dX7_search_19 rfl rfl ?_
  refine wi_isub hX dX7_search_20 ?_
  refine wa_istore hX dX7_search_21 (by first | rfl | exact hu1 | exact hu2 | exact hu3 | exact hu4) ?_
  dsimp only [List.set]
  refine wa_iload_n hX (i := 3) dX7_search_23 rfl rfl ?_
  refine wi_if_lt hX (tgt := 32) dX7_search_24 (by decide) (by omega) (fun c24 => ?_) (fun c24 => ?_)
  · skip
    refine wi_iconst hX dX7_search_32 ?_
    refine wa_zret hX dX7_search_33 (by rfl) ?_
    exact ⟨⟨_, _, _, _, _, _, _, _, hS⟩, Fr.rf, ⟨_, h2⟩, Or.inl ⟨rfl, ⟨_, h1⟩, Or.inl (fun q => by omega)⟩⟩
  · skip
    refine wa_iload hX dX7_search_27 rfl ?_
    refine wi_if_ge hX (tgt := 34) dX7_search_29 (by decide) (by omega) (fun c29 => ?_) (fun c29 => ?_)
    · skip
      have hok : f2 ≤ f1 ∧ e2 + (f1 - f2) ≤ e1 := ⟨by omega, by omega⟩
      rw [show ((e1 : Int) - (e2 : Int) - ((f1 : Int) - (f2 : Int))) = ((e1 - e2 - (f1 - f2) : Nat) : Int) by omega, show ((f1 : Int) - (f2 : Int)) = ((f1 - f2 : Nat) : Int) by omega]
      have kl := hS.1
      refine wa_aload_n hX (i := 0) dX7_search_34 rfl rfl ?_
      refine wa_get hX 0 h1 (by rfl) (by decide +kernel) dX7_search_35 ?_
      refine wa_aload_n hX (i := 2) dX7_search_38 rfl rfl ?_
      refine wa_callV hX (c_X5_lookFor hW d hS.1 hS.2.2.2.1 hS.2.2.2.2.2.2.1 hm2 ht2 (by omega) (by omega) (by omega) (by omega) he2 hs2) (by assumption) (by rfl) (by rfl) (by omega) (nA := 1) (by rfl) (by decide +kernel) rfl (by exact Nat.le_of_ble_eq_true rfl) dX7_search_39 (fun r39 h39 p39 => ?_) (fun _ _ q => q.elim)
      obtain ⟨rfl, w1, w2, w3, w4⟩ := p39
      obtain ⟨hS1, fr1⟩ := c_X5_look hW d hS hm2 ht2 x4 x5 he2 hs2 w1 w2 w3 w4
      clear w1 w2 w3 w4
      have k1 := fr1 _ _ _ h1 (by omega)
      have k2 := fr1 _ _ _ h2 (by omega)
      have km := fr1 _ _ _ hm1 (by omega)
      have kr := fr1 _ _ _ hr1 (by omega)
      have kt := fr1 _ _ _ ht1 (by omega)
      dsimp only [Option.toList, List.cons_append, List.nil_append]
      refine wa_aload_n hX (i := 0) dX7_search_42 rfl rfl ?_
      refine wa_aload_n hX (i := 1) dX7_search_43 rfl rfl ?_
      refine wa_iload hX dX7_search_44 rfl ?_
      refine wa_callV hX (c_X7_listDeletions hW d k1 k2 km kr y1.symm y5.symm he1 hrk hf1 (nb := e1 - e2 - (f1 - f2)) (by omega)) (by assumption) (by rfl) (by rfl) (by omega) (nA := 2) (by rfl) (by decide +kernel) rfl (by exact Nat.le_of_ble_eq_true rfl) dX7_search_46 (fun r46 h46 p46 => ?_) (fun _ _ q => q.elim)
      obtain ⟨rfl, D', rfl, hD'⟩ := p46
      have hdq : dq ≠ a := Ne.symm (ne_oa k1 k2)
      have fr2 : Fr (fun x => x = la ∨ x = ld) h39 (hset (hset h39 dq (ld, aI .int 1024 D')) a (la, oMin lk dq (cnt (delB rk1 e1 f1 (e1 - e2 - (f1 - f2))) (2 ^ e1) : Nat) lw lp fo co de)) := fun y ly oy hy hn => (hset_ne (lab_ne k1 hy (fun q => hn (Or.inl q)))).trans ((hset_ne (lab_ne k2 hy (fun q => hn (Or.inr q)))).trans hy)
      have j1 : hset (hset h39 dq (ld, aI .int 1024 D')) a (la, oMin lk dq (cnt (delB rk1 e1 f1 (e1 - e2 - (f1 - f2))) (2 ^ e1) : Nat) lw lp fo co de) a = some (la, oMin lk dq ((delN rk1 e1 f1 (e1 - e2 - (f1 - f2)) : Nat) : Int) lw lp fo co de) := hset_eq
      have j2 : hset (hset h39 dq (ld, aI .int 1024 D')) a (la, oMin lk dq (cnt (delB rk1 e1 f1 (e1 - e2 - (f1 - f2))) (2 ^ e1) : Nat) lw lp fo co de) dq = some (ld, aI .int 1024 D') := (hset_ne hdq).trans hset_eq
      have hDl : ∀ k, k < delN rk1 e1 f1 (e1 - e2 - (f1 - f2)) → D' k = ((delL rk1 e1 f1 (e1 - e2 - (f1 - f2)) k : Nat) : Int) := fun k hk => by
        obtain ⟨q1, q2, q3⟩ := kthN_is hk
        have q4 := hD' _ q1 q2
        rw [q3] at q4
        exact q4
      have hdn : delN rk1 e1 f1 (e1 - e2 - (f1 - f2)) ≤ 1024 := Nat.le_trans (cnt_le _ _) hp
      have hS2 : LikS (hset (hset h39 dq (ld, aI .int 1024 D')) a (la, oMin lk dq (cnt (delB rk1 e1 f1 (e1 - e2 - (f1 - f2))) (2 ^ e1) : Nat) lw lp fo co de)) lk b r e2 ((2 ^ e2 : Nat) : Int) F C (wntS sf2 W e2) Im P (prfS sf2 W e2) := by
        obtain ⟨gA, g1, g2, g3, g4, g5, g6, hC, hWb, hIm, hI0⟩ := hS1
        exact ⟨fr2 _ _ _ gA (by omega), fr2 _ _ _ g1 (by omega), fr2 _ _ _ g2 (by omega), fr2 _ _ _ g3 (by omega), fr2 _ _ _ g4 (by omega), fr2 _ _ _ g5 (by omega), fr2 _ _ _ g6 (by omega), hC, hWb, hIm, hI0⟩
      have fr3 : Fr (fun x => x = la ∨ x = ld ∨ (b ≤ x ∧ x ≤ b + 6)) h (hset (hset h39 dq (ld, aI .int 1024 D')) a (la, oMin lk dq (cnt (delB rk1 e1 f1 (e1 - e2 - (f1 - f2))) (2 ^ e1) : Nat) lw lp fo co de)) := (fr1.mono (fun x hx => Or.inr (Or.inr hx))).trans (fr2.mono (fun x hx => by rcases hx with q | q <;> omega))
      generalize hset (hset h39 dq (ld, aI .int 1024 D')) a (la, oMin lk dq (cnt (delB rk1 e1 f1 (e1 - e2 - (f1 - f2))) (2 ^ e1) : Nat) lw lp fo co de) = hA at j1 j2 hS2 fr3 ⊢
      dsimp only [Option.toList, List.cons_append, List.nil_append]
      refine wi_iconst hX dX7_search_49 ?_
      refine wa_istore hX dX7_search_50 (by first | rfl | exact hu1 | exact hu2 | exact hu3 | exact hu4) ?_
      dsimp only [List.set]
      refine WA.loop (σ := Nat × AH × Slot) (fun z => 2 ^ e1 - z.1) (fun z => z.1 ≤ 2 ^ e1 ∧ okS [z.2.2] 0 = true ∧ (∃ F' C' P' I', LikS z.2.1 lk b r e2 ((2 ^ e2 : Nat) : Int) F' C' (wntS sf2 W e2) I' P' (prfS sf2 W e2)) ∧ Fr (fun x => x = la ∨ x = ld ∨ (b ≤ x ∧ x ≤ b + 6)) h z.2.1 ∧ z.2.1 a = some (la, oMin lk dq ((delN rk1 e1 f1 (e1 - e2 - (f1 - f2)) : Nat) : Int) lw lp fo co de) ∧ z.2.1 dq = some (ld, aI .int 1024 D') ∧ ∀ c, c < z.1 → srcB rk1 sf1 (wntS sf2 W e2) (prfS sf2 W e2) e1 e2 f1 (e1 - e2 - (f1 - f2)) (f1 - f2) c = false) (fun z => z.2.1) (fun z => [.val (.ref a), .val (.ref m1), .val (.ref m2), .val (I ((f1 - f2 : Nat) : Int)), .val (I ((e1 - e2 - (f1 - f2) : Nat) : Int)), .val (I (z.1 : Nat)), z.2.2]) ?_ (0, hA, .unset) ⟨Nat.zero_le _, rfl, ⟨F, C, P, Im, hS2⟩, fr3, j1, j2, fun c hc => absurd hc (Nat.not_lt_zero c)⟩
      clear fr3 hS2 j1 j2
      rintro ⟨i, hh, u1⟩ ⟨hi, hu1, ⟨F3, C3, P3, I3, hS3⟩, fr3, j1, j2, hno⟩ ih
      dsimp only at hi hu1 hS3 fr3 j1 j2 hno ⊢
      have qm := fr3 _ _ _ hm1 (by omega)
      have qt := fr3 _ _ _ ht1 (by omega)
      have hb := bc_le i
      have hsb : srcB rk1 sf1 (wntS sf2 W e2) (prfS sf2 W e2) e1 e2 f1 (e1 - e2 - (f1 - f2)) (f1 - f2) i = (decide (bc i = f1 - f2) && (sf1 i &&& 1 != 0) && (withD rk1 sf1 (wntS sf2 W e2) (prfS sf2 W e2) e1 e2 f1 (e1 - e2 - (f1 - f2)) i).isSome) := rfl
      have hnext : srcB rk1 sf1 (wntS sf2 W e2) (prfS sf2 W e2) e1 e2 f1 (e1 - e2 - (f1 - f2)) (f1 - f2) i = false → ∀ c, c < i + 1 → srcB rk1 sf1 (wntS sf2 W e2) (prfS sf2 W e2) e1 e2 f1 (e1 - e2 - (f1 - f2)) (f1 - f2) c = false := fun q c hc => by
        rcases Nat.lt_succ_iff_lt_or_eq.mp hc with w | w
        · exact hno c w
        · subst w; exact q
      refine wa_iload hX dX7_search_52 rfl ?_
      refine wa_aload_n hX (i := 1) dX7_search_54 rfl rfl ?_
      refine wa_get hX 1 qm (by rfl) (by decide +kernel) dX7_search_55 ?_
      refine wi_icmp_gt hX (tgt := 116) dX7_search_58 (by decide) (by omega) (by omega) (fun c58 => ?_) (fun c58 => ?_)
      · skip
        refine wi_iconst hX dX7_search_116 ?_
        refine wa_zret hX dX7_search_117 (by rfl) ?_
        exact ⟨⟨_, _, F3, C3, _, I3, P3, _, hS3⟩, fr3, ⟨D', j2⟩, Or.inl ⟨rfl, ⟨_, j1⟩, Or.inr (fun c hc => hno c (by omega))⟩⟩
      · skip
        refine wa_iload hX dX7_search_61 rfl ?_
        refine wa_callS hX (c_J6_bitCount hW d (s := i) (by omega)) (by rfl) (by omega) (nA := 1) (by rfl) (by decide +kernel) rfl (by exact Nat.le_of_ble_eq_true rfl) dX7_search_63 (fun r63 h63 p63 => ?_) (fun _ _ q => q.elim)
        obtain ⟨rfl, qq63⟩ := p63; subst h63
        dsimp only [Option.toList, List.cons_append, List.nil_append]
        refine wa_iload_n hX (i := 3) dX7_search_66 rfl rfl ?_
        refine wi_icmp_ne hX (tgt := 84) dX7_search_67 (by decide) (by omega) (by omega) (fun c67 => ?_) (fun c67 => ?_)
        · skip
          refine wi_iconst hX dX7_search_84 ?_
          first
            | (have w : (decide (bc i = f1 - f2) && (sf1 i &&& 1 != 0)) = false := by
                 first
                   | (have w1 := b2n_f c77; rw [w1, Bool.and_false])
                   | (rw [decide_eq_false (by omega), Bool.false_and])
               rw [w, Bool.false_and] at hsb
               refine wa_istore hX dX7_search_85 hu1 ?_
               dsimp only [List.set]
               refine wa_iload hX dX7_search_87 rfl ?_
               refine wi_if_eq hX (tgt := 110) dX7_search_89 (by decide) (by omega) (fun c89 => ?_) (fun c89 => absurd rfl c89)
               refine wi_iinc hX dX7_search_110 rfl ?_
               dsimp only [List.set]
               refine wa_goto hX (tgt := 52) dX7_search_113 (by decide) ?_
               exact ih (i + 1, hh, .val (I 0)) ⟨by show i + 1 ≤ 2 ^ e1; omega, rfl, ⟨F3, C3, P3, I3, hS3⟩, fr3, j1, j2, hnext hsb⟩ (by show 2 ^ e1 - (i + 1) < 2 ^ e1 - i; omega))
            | skip
          all_goals
            have w : (decide (bc i = f1 - f2) && (sf1 i &&& 1 != 0)) = true := by rw [b2n_t c77, decide_eq_true (by omega)]; rfl
            rw [w, Bool.true_and] at hsb
            refine wa_istore hX dX7_search_85 (by first | rfl | exact hu1 | exact hu2 | exact hu3 | exact hu4) ?_
            dsimp only [List.set]
            refine wa_iload hX dX7_search_87 rfl ?_
            refine wi_if_eq hX (tgt := 110) dX7_search_89 (by decide) (by omega) (fun c89 => ?_) (fun c89 => ?_)
            · skip
              first
                | exact absurd c89 (by decide)
                | (rcases hbb with ⟨q1, q2, q3⟩ | ⟨q1, -⟩
                   · rw [q2] at hsb
                     refine wi_iinc hX dX7_search_110 rfl ?_
                     dsimp only [List.set]
                     refine wa_goto hX (tgt := 52) dX7_search_113 (by decide) ?_
                     exact ih (i + 1, h96, .val (I 1)) ⟨by show i + 1 ≤ 2 ^ e1; omega, rfl, ⟨F4, C4, P4, I4, hS4⟩, fr5, q3, j2', hnext hsb⟩ (by show 2 ^ e1 - (i + 1) < 2 ^ e1 - i; omega)
                   · rw [q1] at c99
                     exact absurd c99 (by decide))
            · skip
              refine wa_aload_n hX (i := 0) dX7_search_92 rfl rfl ?_
              refine wa_aload_n hX (i := 1) dX7_search_93 rfl rfl ?_
              refine wa_iload hX dX7_search_94 rfl ?_
              refine wa_callV hX (c_X7_findDeletion hW d j1 j2 hDl hdn hS3 qm qt x1 x3 x6 x7 he2 he1 (con := i) (by omega) hs1) (by assumption) (by rfl) (by rfl) (by omega) (nA := 2) (by rfl) (by decide +kernel) rfl (by exact Nat.le_of_ble_eq_true rfl) dX7_search_96 (fun r96 h96 p96 => ?_) (fun _ _ q => q.elim)
              obtain ⟨⟨F4, C4, P4, I4, hS4⟩, fr4, hcase⟩ := p96
              have fr5 := fr3.trans (fr4.mono (fun x hx => (by omega : x = la ∨ x = ld ∨ (b ≤ x ∧ x ≤ b + 6))))
              have j2' := fr4 _ _ _ j2 (by omega)
              have hcase2 : ∃ bb : Bool, r96 = some (I ((b2n bb : Nat) : Int)) ∧ ((bb = false ∧ withD rk1 sf1 (wntS sf2 W e2) (prfS sf2 W e2) e1 e2 f1 (e1 - e2 - (f1 - f2)) i = none ∧ h96 a = some (la, oMin lk dq ((delN rk1 e1 f1 (e1 - e2 - (f1 - f2)) : Nat) : Int) lw lp fo co de)) ∨ (bb = true ∧ ∃ k, withD rk1 sf1 (wntS sf2 W e2) (prfS sf2 W e2) e1 e2 f1 (e1 - e2 - (f1 - f2)) i = some k ∧ h96 a = some (la, oMin lk dq ((delN rk1 e1 f1 (e1 - e2 - (f1 - f2)) : Nat) : Int) lw lp fo co (delL rk1 e1 f1 (e1 - e2 - (f1 - f2)) k : Nat)))) := by
                rcases hcase with ⟨q1, q2, q3⟩ | ⟨k, q1, q2, q3⟩
                · exact ⟨false, q2, Or.inl ⟨rfl, q1, q3⟩⟩
                · exact ⟨true, q2, Or.inr ⟨rfl, k, q1, q3⟩⟩
              obtain ⟨bb, rfl, hbb⟩ := hcase2
              dsimp only [Option.toList, List.cons_append, List.nil_append]
              refine wi_if_eq hX (tgt := 110) dX7_search_99 (by decide) (by exact b2n_inR _) (fun c99 => ?_) (fun c99 => ?_)
              · skip
                first
                  | exact absurd c89 (by decide)
                  | (rcases hbb with ⟨q1, q2, q3⟩ | ⟨q1, -⟩
                     · rw [q2] at hsb
                       refine wi_iinc hX dX7_search_110 rfl ?_
                       dsimp only [List.set]
                       refine wa_goto hX (tgt := 52) dX7_search_113 (by decide) ?_
                       exact ih (i + 1, h96, .val (I 1)) ⟨by show i + 1 ≤ 2 ^ e1; omega, rfl, ⟨F4, C4, P4, I4, hS4⟩, fr5, q3, j2', hnext hsb⟩ (by show 2 ^ e1 - (i + 1) < 2 ^ e1 - i; omega)
                     · rw [q1] at c99
                       exact absurd c99 (by decide))
              · skip
                rcases hbb with ⟨q1, -, -⟩ | ⟨q1, k, q2, q3⟩
                · rw [q1] at c99; exact absurd rfl c99
                · refine wa_aload_n hX (i := 0) dX7_search_102 rfl rfl ?_
                  refine wa_iload hX dX7_search_103 rfl ?_
                  refine wa_put hX 6 q3 (Nat.le_of_ble_eq_true rfl) (by decide +kernel) (by rfl) (by rfl) (by rfl) dX7_search_105 ?_
                  refine wi_iconst hX dX7_search_108 ?_
                  refine wa_zret hX dX7_search_109 (by rfl) ?_
                  rw [q2] at hsb
                  have hS5 : LikS (hset h96 a (la, oMin lk dq ((delN rk1 e1 f1 (e1 - e2 - (f1 - f2)) : Nat) : Int) lw lp fo (i : Int) (delL rk1 e1 f1 (e1 - e2 - (f1 - f2)) k : Nat))) lk b r e2 ((2 ^ e2 : Nat) : Int) F4 C4 (wntS sf2 W e2) I4 P4 (prfS sf2 W e2) := by
                    obtain ⟨gA, g1, g2, g3, g4, g5, g6, hC, hWb, hIm, hI0⟩ := hS4
                    exact ⟨hset_lab q3 gA (by omega), hset_lab q3 g1 (by omega), hset_lab q3 g2 (by omega), hset_lab q3 g3 (by omega), hset_lab q3 g4 (by omega), hset_lab q3 g5 (by omega), hset_lab q3 g6 (by omega), hC, hWb, hIm, hI0⟩
                  exact ⟨⟨_, _, _, _, _, _, _, _, hS5⟩, Fr.put fr5 q3 (fun x hx => hset_ne hx) (Or.inl rfl), ⟨D', (hset_ne (Ne.symm (ne_oa q3 j2'))).trans j2'⟩, Or.inr ⟨rfl, hok, i, k, by omega, hno, hsb, q2, _, hset_eq⟩⟩
        · skip
          refine wa_aload_n hX (i := 1) dX7_search_70 rfl rfl ?_
          refine wa_iload hX dX7_search_71 rfl ?_
          refine wi_iconst hX dX7_search_73 ?_
          refine wa_callV hX (c_X6_has hW d qm qt (so := 1) he1 (s := i) (by omega) hs1) (by assumption) (by rfl) (by rfl) (by omega) (nA := 2) (by rfl) (by decide +kernel) rfl (by exact Nat.le_of_ble_eq_true rfl) dX7_search_74 (fun r74 h74 p74 => ?_) (fun _ _ q => q.elim)
          obtain ⟨rfl, qq74⟩ := p74; subst h74
          dsimp only [Option.toList, List.cons_append, List.nil_append]
          refine wi_if_eq hX (tgt := 84) dX7_search_77 (by decide) (by exact b2n_inR _) (fun c77 => ?_) (fun c77 => ?_)
          · skip
            refine wi_iconst hX dX7_search_84 ?_
            first
              | (have w : (decide (bc i = f1 - f2) && (sf1 i &&& 1 != 0)) = false := by
                   first
                     | (have w1 := b2n_f c77; rw [w1, Bool.and_false])
                     | (rw [decide_eq_false (by omega), Bool.false_and])
                 rw [w, Bool.false_and] at hsb
                 refine wa_istore hX dX7_search_85 hu1 ?_
                 dsimp only [List.set]
                 refine wa_iload hX dX7_search_87 rfl ?_
                 refine wi_if_eq hX (tgt := 110) dX7_search_89 (by decide) (by omega) (fun c89 => ?_) (fun c89 => absurd rfl c89)
                 refine wi_iinc hX dX7_search_110 rfl ?_
                 dsimp only [List.set]
                 refine wa_goto hX (tgt := 52) dX7_search_113 (by decide) ?_
                 exact ih (i + 1, hh, .val (I 0)) ⟨by show i + 1 ≤ 2 ^ e1; omega, rfl, ⟨F3, C3, P3, I3, hS3⟩, fr3, j1, j2, hnext hsb⟩ (by show 2 ^ e1 - (i + 1) < 2 ^ e1 - i; omega))
              | skip
            all_goals
              have w : (decide (bc i = f1 - f2) && (sf1 i &&& 1 != 0)) = true := by rw [b2n_t c77, decide_eq_true (by omega)]; rfl
              rw [w, Bool.true_and] at hsb
              refine wa_istore hX dX7_search_85 (by first | rfl | exact hu1 | exact hu2 | exact hu3 | exact hu4) ?_
              dsimp only [List.set]
              refine wa_iload hX dX7_search_87 rfl ?_
              refine wi_if_eq hX (tgt := 110) dX7_search_89 (by decide) (by omega) (fun c89 => ?_) (fun c89 => ?_)
              · skip
                first
                  | exact absurd c89 (by decide)
                  | (rcases hbb with ⟨q1, q2, q3⟩ | ⟨q1, -⟩
                     · rw [q2] at hsb
                       refine wi_iinc hX dX7_search_110 rfl ?_
                       dsimp only [List.set]
                       refine wa_goto hX (tgt := 52) dX7_search_113 (by decide) ?_
                       exact ih (i + 1, h96, .val (I 1)) ⟨by show i + 1 ≤ 2 ^ e1; omega, rfl, ⟨F4, C4, P4, I4, hS4⟩, fr5, q3, j2', hnext hsb⟩ (by show 2 ^ e1 - (i + 1) < 2 ^ e1 - i; omega)
                     · rw [q1] at c99
                       exact absurd c99 (by decide))
              · skip
                refine wa_aload_n hX (i := 0) dX7_search_92 rfl rfl ?_
                refine wa_aload_n hX (i := 1) dX7_search_93 rfl rfl ?_
                refine wa_iload hX dX7_search_94 rfl ?_
                refine wa_callV hX (c_X7_findDeletion hW d j1 j2 hDl hdn hS3 qm qt x1 x3 x6 x7 he2 he1 (con := i) (by omega) hs1) (by assumption) (by rfl) (by rfl) (by omega) (nA := 2) (by rfl) (by decide +kernel) rfl (by exact Nat.le_of_ble_eq_true rfl) dX7_search_96 (fun r96 h96 p96 => ?_) (fun _ _ q => q.elim)
                obtain ⟨⟨F4, C4, P4, I4, hS4⟩, fr4, hcase⟩ := p96
                have fr5 := fr3.trans (fr4.mono (fun x hx => (by omega : x = la ∨ x = ld ∨ (b ≤ x ∧ x ≤ b + 6))))
                have j2' := fr4 _ _ _ j2 (by omega)
                have hcase2 : ∃ bb : Bool, r96 = some (I ((b2n bb : Nat) : Int)) ∧ ((bb = false ∧ withD rk1 sf1 (wntS sf2 W e2) (prfS sf2 W e2) e1 e2 f1 (e1 - e2 - (f1 - f2)) i = none ∧ h96 a = some (la, oMin lk dq ((delN rk1 e1 f1 (e1 - e2 - (f1 - f2)) : Nat) : Int) lw lp fo co de)) ∨ (bb = true ∧ ∃ k, withD rk1 sf1 (wntS sf2 W e2) (prfS sf2 W e2) e1 e2 f1 (e1 - e2 - (f1 - f2)) i = some k ∧ h96 a = some (la, oMin lk dq ((delN rk1 e1 f1 (e1 - e2 - (f1 - f2)) : Nat) : Int) lw lp fo co (delL rk1 e1 f1 (e1 - e2 - (f1 - f2)) k : Nat)))) := by
                  rcases hcase with ⟨q1, q2, q3⟩ | ⟨k, q1, q2, q3⟩
                  · exact ⟨false, q2, Or.inl ⟨rfl, q1, q3⟩⟩
                  · exact ⟨true, q2, Or.inr ⟨rfl, k, q1, q3⟩⟩
                obtain ⟨bb, rfl, hbb⟩ := hcase2
                dsimp only [Option.toList, List.cons_append, List.nil_append]
                refine wi_if_eq hX (tgt := 110) dX7_search_99 (by decide) (by exact b2n_inR _) (fun c99 => ?_) (fun c99 => ?_)
                · skip
                  first
                    | exact absurd c89 (by decide)
                    | (rcases hbb with ⟨q1, q2, q3⟩ | ⟨q1, -⟩
                       · rw [q2] at hsb
                         refine wi_iinc hX dX7_search_110 rfl ?_
                         dsimp only [List.set]
                         refine wa_goto hX (tgt := 52) dX7_search_113 (by decide) ?_
                         exact ih (i + 1, h96, .val (I 1)) ⟨by show i + 1 ≤ 2 ^ e1; omega, rfl, ⟨F4, C4, P4, I4, hS4⟩, fr5, q3, j2', hnext hsb⟩ (by show 2 ^ e1 - (i + 1) < 2 ^ e1 - i; omega)
                       · rw [q1] at c99
                         exact absurd c99 (by decide))
                · skip
                  rcases hbb with ⟨q1, -, -⟩ | ⟨q1, k, q2, q3⟩
                  · rw [q1] at c99; exact absurd rfl c99
                  · refine wa_aload_n hX (i := 0) dX7_search_102 rfl rfl ?_
                    refine wa_iload hX dX7_search_103 rfl ?_
                    refine wa_put hX 6 q3 (Nat.le_of_ble_eq_true rfl) (by decide +kernel) (by rfl) (by rfl) (by rfl) dX7_search_105 ?_
                    refine wi_iconst hX dX7_search_108 ?_
                    refine wa_zret hX dX7_search_109 (by rfl) ?_
                    rw [q2] at hsb
                    have hS5 : LikS (hset h96 a (la, oMin lk dq ((delN rk1 e1 f1 (e1 - e2 - (f1 - f2)) : Nat) : Int) lw lp fo (i : Int) (delL rk1 e1 f1 (e1 - e2 - (f1 - f2)) k : Nat))) lk b r e2 ((2 ^ e2 : Nat) : Int) F4 C4 (wntS sf2 W e2) I4 P4 (prfS sf2 W e2) := by
                      obtain ⟨gA, g1, g2, g3, g4, g5, g6, hC, hWb, hIm, hI0⟩ := hS4
                      exact ⟨hset_lab q3 gA (by omega), hset_lab q3 g1 (by omega), hset_lab q3 g2 (by omega), hset_lab q3 g3 (by omega), hset_lab q3 g4 (by omega), hset_lab q3 g5 (by omega), hset_lab q3 g6 (by omega), hC, hWb, hIm, hI0⟩
                    exact ⟨⟨_, _, _, _, _, _, _, _, hS5⟩, Fr.put fr5 q3 (fun x hx => hset_ne hx) (Or.inl rfl), ⟨D', (hset_ne (Ne.symm (ne_oa q3 j2'))).trans j2'⟩, Or.inr ⟨rfl, hok, i, k, by omega, hno, hsb, q2, _, hset_eq⟩⟩
          · skip
            refine wi_iconst hX dX7_search_80 ?_
            refine wa_goto hX (tgt := 85) dX7_search_81 (by decide) ?_
            first
              | (have w : (decide (bc i = f1 - f2) && (sf1 i &&& 1 != 0)) = false := by
                   first
                     | (have w1 := b2n_f c77; rw [w1, Bool.and_false])
                     | (rw [decide_eq_false (by omega), Bool.false_and])
                 rw [w, Bool.false_and] at hsb
                 refine wa_istore hX dX7_search_85 hu1 ?_
                 dsimp only [List.set]
                 refine wa_iload hX dX7_search_87 rfl ?_
                 refine wi_if_eq hX (tgt := 110) dX7_search_89 (by decide) (by omega) (fun c89 => ?_) (fun c89 => absurd rfl c89)
                 refine wi_iinc hX dX7_search_110 rfl ?_
                 dsimp only [List.set]
                 refine wa_goto hX (tgt := 52) dX7_search_113 (by decide) ?_
                 exact ih (i + 1, hh, .val (I 0)) ⟨by show i + 1 ≤ 2 ^ e1; omega, rfl, ⟨F3, C3, P3, I3, hS3⟩, fr3, j1, j2, hnext hsb⟩ (by show 2 ^ e1 - (i + 1) < 2 ^ e1 - i; omega))
              | skip
            all_goals
              have w : (decide (bc i = f1 - f2) && (sf1 i &&& 1 != 0)) = true := by rw [b2n_t c77, decide_eq_true (by omega)]; rfl
              rw [w, Bool.true_and] at hsb
              refine wa_istore hX dX7_search_85 (by first | rfl | exact hu1 | exact hu2 | exact hu3 | exact hu4) ?_
              dsimp only [List.set]
              refine wa_iload hX dX7_search_87 rfl ?_
              refine wi_if_eq hX (tgt := 110) dX7_search_89 (by decide) (by omega) (fun c89 => ?_) (fun c89 => ?_)
              · skip
                first
                  | exact absurd c89 (by decide)
                  | (rcases hbb with ⟨q1, q2, q3⟩ | ⟨q1, -⟩
                     · rw [q2] at hsb
                       refine wi_iinc hX dX7_search_110 rfl ?_
                       dsimp only [List.set]
                       refine wa_goto hX (tgt := 52) dX7_search_113 (by decide) ?_
                       exact ih (i + 1, h96, .val (I 1)) ⟨by show i + 1 ≤ 2 ^ e1; omega, rfl, ⟨F4, C4, P4, I4, hS4⟩, fr5, q3, j2', hnext hsb⟩ (by show 2 ^ e1 - (i + 1) < 2 ^ e1 - i; omega)
                     · rw [q1] at c99
                       exact absurd c99 (by decide))
              · skip
                refine wa_aload_n hX (i := 0) dX7_search_92 rfl rfl ?_
                refine wa_aload_n hX (i := 1) dX7_search_93 rfl rfl ?_
                refine wa_iload hX dX7_search_94 rfl ?_
                refine wa_callV hX (c_X7_findDeletion hW d j1 j2 hDl hdn hS3 qm qt x1 x3 x6 x7 he2 he1 (con := i) (by omega) hs1) (by assumption) (by rfl) (by rfl) (by omega) (nA := 2) (by rfl) (by decide +kernel) rfl (by exact Nat.le_of_ble_eq_true rfl) dX7_search_96 (fun r96 h96 p96 => ?_) (fun _ _ q => q.elim)
                obtain ⟨⟨F4, C4, P4, I4, hS4⟩, fr4, hcase⟩ := p96
                have fr5 := fr3.trans (fr4.mono (fun x hx => (by omega : x = la ∨ x = ld ∨ (b ≤ x ∧ x ≤ b + 6))))
                have j2' := fr4 _ _ _ j2 (by omega)
                have hcase2 : ∃ bb : Bool, r96 = some (I ((b2n bb : Nat) : Int)) ∧ ((bb = false ∧ withD rk1 sf1 (wntS sf2 W e2) (prfS sf2 W e2) e1 e2 f1 (e1 - e2 - (f1 - f2)) i = none ∧ h96 a = some (la, oMin lk dq ((delN rk1 e1 f1 (e1 - e2 - (f1 - f2)) : Nat) : Int) lw lp fo co de)) ∨ (bb = true ∧ ∃ k, withD rk1 sf1 (wntS sf2 W e2) (prfS sf2 W e2) e1 e2 f1 (e1 - e2 - (f1 - f2)) i = some k ∧ h96 a = some (la, oMin lk dq ((delN rk1 e1 f1 (e1 - e2 - (f1 - f2)) : Nat) : Int) lw lp fo co (delL rk1 e1 f1 (e1 - e2 - (f1 - f2)) k : Nat)))) := by
                  rcases hcase with ⟨q1, q2, q3⟩ | ⟨k, q1, q2, q3⟩
                  · exact ⟨false, q2, Or.inl ⟨rfl, q1, q3⟩⟩
                  · exact ⟨true, q2, Or.inr ⟨rfl, k, q1, q3⟩⟩
                obtain ⟨bb, rfl, hbb⟩ := hcase2
                dsimp only [Option.toList, List.cons_append, List.nil_append]
                refine wi_if_eq hX (tgt := 110) dX7_search_99 (by decide) (by exact b2n_inR _) (fun c99 => ?_) (fun c99 => ?_)
                · skip
                  first
                    | exact absurd c89 (by decide)
                    | (rcases hbb with ⟨q1, q2, q3⟩ | ⟨q1, -⟩
                       · rw [q2] at hsb
                         refine wi_iinc hX dX7_search_110 rfl ?_
                         dsimp only [List.set]
                         refine wa_goto hX (tgt := 52) dX7_search_113 (by decide) ?_
                         exact ih (i + 1, h96, .val (I 1)) ⟨by show i + 1 ≤ 2 ^ e1; omega, rfl, ⟨F4, C4, P4, I4, hS4⟩, fr5, q3, j2', hnext hsb⟩ (by show 2 ^ e1 - (i + 1) < 2 ^ e1 - i; omega)
                       · rw [q1] at c99
                         exact absurd c99 (by decide))
                · skip
                  rcases hbb with ⟨q1, -, -⟩ | ⟨q1, k, q2, q3⟩
                  · rw [q1] at c99; exact absurd rfl c99
                  · refine wa_aload_n hX (i := 0) dX7_search_102 rfl rfl ?_
                    refine wa_iload hX dX7_search_103 rfl ?_
                    refine wa_put hX 6 q3 (Nat.le_of_ble_eq_true rfl) (by decide +kernel) (by rfl) (by rfl) (by rfl) dX7_search_105 ?_
                    refine wi_iconst hX dX7_search_108 ?_
                    refine wa_zret hX dX7_search_109 (by rfl) ?_
                    rw [q2] at hsb
                    have hS5 : LikS (hset h96 a (la, oMin lk dq ((delN rk1 e1 f1 (e1 - e2 - (f1 - f2)) : Nat) : Int) lw lp fo (i : Int) (delL rk1 e1 f1 (e1 - e2 - (f1 - f2)) k : Nat))) lk b r e2 ((2 ^ e2 : Nat) : Int) F4 C4 (wntS sf2 W e2) I4 P4 (prfS sf2 W e2) := by
                      obtain ⟨gA, g1, g2, g3, g4, g5, g6, hC, hWb, hIm, hI0⟩ := hS4
                      exact ⟨hset_lab q3 gA (by omega), hset_lab q3 g1 (by omega), hset_lab q3 g2 (by omega), hset_lab q3 g3 (by omega), hset_lab q3 g4 (by omega), hset_lab q3 g5 (by omega), hset_lab q3 g6 (by omega), hC, hWb, hIm, hI0⟩
                    exact ⟨⟨_, _, _, _, _, _, _, _, hS5⟩, Fr.put fr5 q3 (fun x hx => hset_ne hx) (Or.inl rfl), ⟨D', (hset_ne (Ne.symm (ne_oa q3 j2'))).trans j2'⟩, Or.inr ⟨rfl, hok, i, k, by omega, hno, hsb, q2, _, hset_eq⟩⟩
    · skip
      refine wi_iconst hX dX7_search_32 ?_
      refine wa_zret hX dX7_search_33 (by rfl) ?_
      exact ⟨⟨_, _, _, _, _, _, _, _, hS⟩, Fr.rf, ⟨_, h2⟩, Or.inl ⟨rfl, ⟨_, h1⟩, Or.inl (fun q => by omega)⟩⟩
end C51
