/-! Circuitfold$Minors (X7): isMinor -/
/-- what a search found: whether, the contracted, the deleted -/
def SrcK (rk1 sf1 sf2 W : Nat → Nat) (e1 e2 f1 f2 : Nat) (co de v co' de' : Int) : Prop := ((v = 0 ∧ co' = co ∧ de' = de ∧ (¬ (f2 ≤ f1 ∧ e2 + (f1 - f2) ≤ e1) ∨ ∀ con, con < 2 ^ e1 → srcB rk1 sf1 (wntS sf2 W e2) (prfS sf2 W e2) e1 e2 f1 (e1 - e2 - (f1 - f2)) (f1 - f2) con = false)) ∨ (v = 1 ∧ (f2 ≤ f1 ∧ e2 + (f1 - f2) ≤ e1) ∧ ∃ con k : Nat, con < 2 ^ e1 ∧ (∀ c, c < con → srcB rk1 sf1 (wntS sf2 W e2) (prfS sf2 W e2) e1 e2 f1 (e1 - e2 - (f1 - f2)) (f1 - f2) c = false) ∧ srcB rk1 sf1 (wntS sf2 W e2) (prfS sf2 W e2) e1 e2 f1 (e1 - e2 - (f1 - f2)) (f1 - f2) con = true ∧ withD rk1 sf1 (wntS sf2 W e2) (prfS sf2 W e2) e1 e2 f1 (e1 - e2 - (f1 - f2)) con = some k ∧ co' = (con : Int) ∧ de' = ((delL rk1 e1 f1 (e1 - e2 - (f1 - f2)) k : Nat) : Int)))
section C52
variable {l : Launch} {D : va_G} {S0 : State}
set_option maxRecDepth 100000 in
theorem c_X7_isMinor (hW : WOK l D S0) (d : Nat) {h : AH} {a la lk dq ld b m1 lm1 m2 lm2 f1 f2 rq1 hq1 tq1 lr1 lt1 rq2 hq2 tq2 lt2 e1 e2 : Nat} {li fo co de s1 s2 e0 n0 : Int} {lw lp : Option Nat} {v12 v13 v22 v23 : Value} {rk1 sf1 sf2 : Nat → Nat} {r : Nat → Nat} {F DD : Nat → Int} {C W Im : Nat → Nat} {P Q : Nat → Int32} (g1 : h a = some (la, oMin lk dq li (va_rf lw) (va_rf lp) fo co de)) (g2 : h dq = some (ld, aI .int 1024 DD)) (hS : LikS h lk b r e0 n0 F C W Im P Q) (hm1 : h m1 = some (lm1, oMat e1 f1 rq1 hq1 tq1 s1 v12 v13)) (hr1 : h rq1 = some (lr1, aB e1 rk1)) (ht1 : h tq1 = some (lt1, aB e1 sf1)) (hm2 : h m2 = some (lm2, oMat e2 f2 rq2 hq2 tq2 s2 v22 v23)) (ht2 : h tq2 = some (lt2, aB e2 sf2)) (x1 : lm1 < b ∨ b + 6 < lm1) (x2 : lr1 < b ∨ b + 6 < lr1) (x3 : lt1 < b ∨ b + 6 < lt1) (x4 : lm2 < b ∨ b + 6 < lm2) (x5 : lt2 < b ∨ b + 6 < lt2) (x6 : la < b ∨ b + 6 < la) (x7 : ld < b ∨ b + 6 < ld) (y1 : la ≠ lm1) (y2 : la ≠ lr1) (y3 : la ≠ lt1) (y4 : ld ≠ lm1) (y5 : ld ≠ lr1) (y6 : ld ≠ lt1) (y7 : la ≠ ld) (he1 : e1 ≤ 10) (he2 : e2 ≤ 10) (hf1 : f1 ≤ 10) (hf2 : f2 ≤ 10) (hrk : ∀ s, s < 2 ^ e1 → rk1 s ≤ 10) (hs1 : ∀ j, j < 2 ^ e1 → sf1 j < 32) (hs2 : ∀ j, j < 2 ^ e2 → sf2 j < 32) (hfo : fo = 0 ∨ fo = 1) : MA l D S0 yX7_isMinor cX7_isMinor 3 (some .boolean) (d + 15) [.ref a, .ref m1, .ref m2] h 0 0 (fun rr h' => (lw = some m1 ∧ lp = some m2 ∧ rr = some (I fo) ∧ h' = h) ∨ (¬ (lw = some m1 ∧ lp = some m2) ∧ (∃ e' n' F' C' W' I' P' Q', LikS h' lk b r e' n' F' C' W' I' P' Q') ∧ Fr (fun x => x = la ∨ x = ld ∨ (b ≤ x ∧ x ≤ b + 6)) h h' ∧ (∃ D', h' dq = some (ld, aI .int 1024 D')) ∧ ∃ v li' co' de' : Int, rr = some (I v) ∧ h' a = some (la, oMin lk dq li' (.ref m1) (.ref m2) v co' de') ∧ SrcK rk1 sf1 sf2 W e1 e2 f1 f2 co de v co' de')) (fun _ _ => False) := by
  refine MA.start hW (by decide) [.val (.ref a), .val (.ref m1), .val (.ref m2)] rfl ?_
  rintro X rfl rfl rfl hX
  have tail : ¬ (lw = some m1 ∧ lp = some m2) → WA X h 0 0 16 [.val (.ref a), .val (.ref m1), .val (.ref m2)] [] := by
    intro hnew
    refine wa_aload_n hX (i := 0) dX7_isMinor_16 rfl rfl ?_
    refine wa_aload_n hX (i := 0) dX7_isMinor_17 rfl rfl ?_
    refine wa_aload_n hX (i := 1) dX7_isMinor_18 rfl rfl ?_
    refine wa_aload_n hX (i := 2) dX7_isMinor_19 rfl rfl ?_
    refine wa_callV hX (c_X7_search hW d g1 g2 hS hm1 hr1 ht1 hm2 ht2 x1 x2 x3 x4 x5 x6 x7 y1 y2 y3 y4 y5 y6 y7 he1 he2 hf1 hf2 hrk hs1 hs2) (by assumption) (by rfl) (by rfl) (by omega) (nA := 2) (by rfl) (by decide +kernel) rfl (by exact Nat.le_of_ble_eq_true rfl) dX7_isMinor_20 (fun r20 h20 p20 => ?_) (fun _ _ q => q.elim)
    obtain ⟨⟨e', n', F', C', W', I', P', Q', hL⟩, fr, ⟨D', k2⟩, hcase⟩ := p20
    have hc2 : ∃ v li' co' de' : Int, r20 = some (I v) ∧ (v = 0 ∨ v = 1) ∧ h20 a = some (la, oMin lk dq li' (va_rf lw) (va_rf lp) fo co' de') ∧ SrcK rk1 sf1 sf2 W e1 e2 f1 f2 co de v co' de' := by
      rcases hcase with ⟨q1, ⟨li', q2⟩, q3⟩ | ⟨q1, q2, con, k, q3, q4, q5, q6, li', q7⟩
      · exact ⟨0, li', co, de, q1, Or.inl rfl, q2, Or.inl ⟨rfl, rfl, rfl, q3⟩⟩
      · exact ⟨1, li', _, _, q1, Or.inr rfl, q7, Or.inr ⟨rfl, q2, con, k, q3, q4, q5, q6, rfl, rfl⟩⟩
    clear hcase
    obtain ⟨v, li', co', de', rfl, hv, k1, hK⟩ := hc2
    dsimp only [Option.toList, List.cons_append, List.nil_append]
    refine wa_put hX 5 k1 (Nat.le_of_ble_eq_true rfl) (by decide +kernel) (by rfl) (by rcases hv with q | q <;> subst q <;> rfl) (by rcases hv with q | q <;> subst q <;> rfl) dX7_isMinor_23 ?_
    refine wa_aload_n hX (i := 0) dX7_isMinor_26 rfl rfl ?_
    refine wa_aload_n hX (i := 1) dX7_isMinor_27 rfl rfl ?_
    refine wa_put hX 3 hset_eq (Nat.le_of_ble_eq_true rfl) (by decide +kernel) (by rfl) (by rfl) (by rfl) dX7_isMinor_28 ?_
    rw [hset_hset]
    refine wa_aload_n hX (i := 0) dX7_isMinor_31 rfl rfl ?_
    refine wa_aload_n hX (i := 2) dX7_isMinor_32 rfl rfl ?_
    refine wa_put hX 4 hset_eq (Nat.le_of_ble_eq_true rfl) (by decide +kernel) (by rfl) (by rfl) (by rfl) dX7_isMinor_33 ?_
    rw [hset_hset]
    have j1 : hset h20 a (la, oMin lk dq li' (.ref m1) (.ref m2) v co' de') a = some (la, oMin lk dq li' (.ref m1) (.ref m2) v co' de') := hset_eq
    refine WA.heap (h2 := hset h20 a (la, oMin lk dq li' (.ref m1) (.ref m2) v co' de')) rfl ?_
    refine wa_aload_n hX (i := 0) dX7_isMinor_36 rfl rfl ?_
    refine wa_get hX 5 j1 (by rfl) (by decide +kernel) dX7_isMinor_37 ?_
    refine wa_zret hX dX7_isMinor_40 (by rcases hv with q | q <;> subst q <;> rfl) ?_
    have hS5 : LikS (hset h20 a (la, oMin lk dq li' (.ref m1) (.ref m2) v co' de')) lk b r e' n' F' C' W' I' P' Q' := by
      obtain ⟨gA, q1, q2, q3, q4, q5, q6, hC, hWb, hIm, hI0⟩ := hL
      exact ⟨hset_lab k1 gA (by omega), hset_lab k1 q1 (by omega), hset_lab k1 q2 (by omega), hset_lab k1 q3 (by omega), hset_lab k1 q4 (by omega), hset_lab k1 q5 (by omega), hset_lab k1 q6 (by omega), hC, hWb, hIm, hI0⟩
    exact Or.inr ⟨hnew, ⟨_, _, _, _, _, _, _, _, hS5⟩, Fr.put fr k1 (fun x hx => hset_ne hx) (Or.inl rfl), ⟨D', (hset_ne (Ne.symm (ne_oa k1 k2))).trans k2⟩, v, li', co', de', rfl, hset_eq, hK⟩
  refine wa_aload_n hX (i := 0) dX7_isMinor_0 rfl rfl ?_
  refine wa_get hX 3 g1 (by rfl) (by decide +kernel) dX7_isMinor_1 ?_
  refine wa_aload_n hX (i := 1) dX7_isMinor_4 rfl rfl ?_
  refine wa_acmp_ne hX (rx := lw) (ry := some m1) (tgt := 16) dX7_isMinor_5 (by decide) (fun c5 => tail (fun q => c5 q.1)) (fun c5 => ?_)
  refine wa_aload_n hX (i := 0) dX7_isMinor_8 rfl rfl ?_
  refine wa_get hX 4 g1 (by rfl) (by decide +kernel) dX7_isMinor_9 ?_
  refine wa_aload_n hX (i := 2) dX7_isMinor_12 rfl rfl ?_
  refine wa_acmp_eq hX (rx := lp) (ry := some m2) (tgt := 36) dX7_isMinor_13 (by decide) (fun c13 => ?_) (fun c13 => tail (fun q => c13 q.2))
  refine wa_aload_n hX (i := 0) dX7_isMinor_36 rfl rfl ?_
  refine wa_get hX 5 g1 (by rfl) (by decide +kernel) dX7_isMinor_37 ?_
  refine wa_zret hX dX7_isMinor_40 (by rcases hfo with q | q <;> subst q <;> rfl) ?_
  exact Or.inl ⟨c5, c13, rfl, rfl⟩
end C52
