/-! The reference (X12): firstBasis, isDrawn, draws -/
def bsL (rk : Nat → Nat) (e b : Nat) : Prop := b < 2 ^ e ∧ bsB rk e b = true ∧ ∀ s, s < b → bsB rk e s = false
def DrnP (rk : Nat → Nat) (e f rows : Nat) (M : Nat → Nat → Nat) (co : Nat) : Prop := ∀ s, 2 ^ co ≤ s → s < 2 ^ (co + 1) → frB rk (sdf s (2 ^ co)) = true → rkM f rows e s M = rk s
def cV (f rows bs c way r : Nat) : Nat := if bs.testBit c = true then (if r = bc (bs &&& (2 ^ c - 1)) then 1 else 0) else way / f ^ (rows - 1 - r) % f
def wayN (f rows bs c : Nat) : Nat := if bs.testBit c = true then 1 else f ^ rows
def mW (f rows bs : Nat) (wy : Nat → Nat) (n c r : Nat) : Nat := if c < n then cV f rows bs c (wy c) r else 0
def ExtW (rk : Nat → Nat) (e f bs co : Nat) (wy : Nat → Nat) : Prop := ∀ k, co ≤ k → k < e → wy k < wayN f (rk (2 ^ e - 1)) bs k ∧ DrnP rk e f (rk (2 ^ e - 1)) (mW f (rk (2 ^ e - 1)) bs wy (k + 1)) k
def GoW (rk : Nat → Nat) (e f bs co : Nat) (wy : Nat → Nat) (v : Bool) (wy' : Nat → Nat) : Prop := (v = true ∧ (∀ j, j < co → wy' j = wy j) ∧ ExtW rk e f bs co wy' ∧ ∀ wy2 : Nat → Nat, (∀ j, j < co → wy2 j = wy j) → ExtW rk e f bs co wy2 → LexLe e wy' wy2) ∨ (v = false ∧ ∀ wy2 : Nat → Nat, (∀ j, j < co → wy2 j = wy j) → ¬ ExtW rk e f bs co wy2)
def RelD (e f rows bs : Nat) (Gm : Nat → Int) (wy : Nat → Nat) (n : Nat) : Prop := ∀ c, c < e → ∀ r, r < rows → Gm (rows * c + r) = ((mW f rows bs wy n c r : Nat) : Int)
theorem cV_lt {f rows bs c way r : Nat} (hf : 2 ≤ f) : cV f rows bs c way r < f := by
  unfold cV
  split
  · split <;> omega
  · exact Nat.mod_lt _ (by omega)
theorem mW_lt {f rows bs : Nat} {wy : Nat → Nat} {n c r : Nat} (hf : 2 ≤ f) : mW f rows bs wy n c r < f := by
  unfold mW
  split
  · exact cV_lt hf
  · omega
theorem mW_congr {f rows bs : Nat} {wy wy' : Nat → Nat} {n : Nat} (h : ∀ c, c < n → wy c = wy' c) : mW f rows bs wy n = mW f rows bs wy' n := by
  funext c r
  unfold mW
  by_cases g : c < n
  · rw [if_pos g, if_pos g, h c g]
  · rw [if_neg g, if_neg g]
theorem Mtr.bsEx {e : Nat} {rk : Nat → Nat} (hM : Mtr e rk) : ∃ b, b < 2 ^ e ∧ bsB rk e b = true := by
  have hp := p2_pos e
  obtain ⟨t, t1, -, t3, t4⟩ := hM.inner (s := 2 ^ e - 1) (by omega)
  refine ⟨t, t1, ?_⟩
  unfold bsB frB
  rw [Bool.and_eq_true, beq_iff_eq, beq_iff_eq]
  exact ⟨t3, t4⟩
theorem rkM_le {f rows cols set : Nat} {W0 : Nat → Nat → Nat} (hf : 0 < f) (h : ∀ c, c < cols → ∀ k, k < rows → W0 c k < f) : rkM f rows cols set W0 ≤ rows := (elM_ok (set := set) hf h rows).2
theorem pow_le3 {f k : Nat} (hf : f ≤ 3) (hk : k ≤ 10) : f ^ k ≤ 59049 := Nat.le_trans (Nat.pow_le_pow_left hf k) (Nat.le_trans (Nat.pow_le_pow_right (by decide) hk) (by decide))
section C9k
variable {l : Launch} {D : va_G} {S0 : State}
set_option maxRecDepth 100000 in
theorem c_X12_firstBasis (hW : WOK l D S0) (d : Nat) {h : AH} {a la q lq e : Nat} {m2 m3 : Value} {l2 l3 : Int} {rk : Nat → Nat} {G : Nat → Int} (g1 : h a = some (la, oRef e q m2 m3 l2 l3)) (g2 : h q = some (lq, aI .int 1024 G)) (g3 : ∀ s, s < 2 ^ e → G s = ((rk s : Nat) : Int)) (hM : Mtr e rk) : MA l D S0 yX12_firstBasis cX12_firstBasis 2 (some .int) (d + 3) [.ref a] h 0 0 (fun r h' => (∃ b, r = some (I (b : Nat)) ∧ bsL rk e b) ∧ h' = h) (fun _ _ => False) := by
  have he := hM.1
  have hp := p2_le he
  obtain ⟨t0, t1, t2⟩ := hM.bsEx
  refine MA.start hW (by decide) [.val (.ref a), .unset] rfl ?_
  rintro X rfl rfl rfl hX
  refine wi_iconst hX dX12_firstBasis_0 ?_
  refine wa_istore_n hX (i := 1) dX12_firstBasis_1 rfl rfl ?_
  dsimp only [List.set]
  refine WA.loop (σ := Nat) (fun z => t0 - z) (fun z => z ≤ t0 ∧ ∀ s, s < z → bsB rk e s = false) (fun _ => h) (fun z => [.val (.ref a), .val (I (z : Nat))]) ?_ 0 ⟨Nat.zero_le _, fun s hs => absurd hs (Nat.not_lt_zero s)⟩
  rintro z ⟨hz, hF⟩ ih
  refine wa_aload_n hX (i := 0) dX12_firstBasis_2 rfl rfl ?_
  refine wa_iload_n hX (i := 1) dX12_firstBasis_3 rfl rfl ?_
  refine wa_callV hX (c_X11_isBasis hW d g1 g2 g3 he (fun s hs => hM.le10 hs) (s := z) (by omega)) (by assumption) (by rfl) (by rfl) (by omega) (nA := 1) (by rfl) (by decide +kernel) rfl (by exact Nat.le_of_ble_eq_true rfl) dX12_firstBasis_4 (fun r4 h4 p4 => ?_) (fun _ _ q => q.elim)
  obtain ⟨rfl, qq4⟩ := p4; subst h4
  dsimp only [Option.toList, List.cons_append, List.nil_append]
  refine wi_if_ne hX (tgt := 16) dX12_firstBasis_7 (by decide) (by exact b2n_inR _) (fun c7 => ?_) (fun c7 => ?_)
  · skip
    refine wa_iload_n hX (i := 1) dX12_firstBasis_16 rfl rfl ?_
    refine wa_iret hX dX12_firstBasis_17 ?_
    exact ⟨⟨z, rfl, by omega, b2n_t c7, hF⟩, rfl⟩
  · skip
    refine wi_iinc hX dX12_firstBasis_10 rfl ?_
    dsimp only [List.set]
    refine wa_goto hX (tgt := 2) dX12_firstBasis_13 (by decide) ?_
    have q := b2n_f c7
    have hne : z ≠ t0 := fun e9 => by rw [e9, t2] at q; cases q
    exact ih (z + 1) ⟨by omega, fun s hs => by
      by_cases g : s = z
      · subst g; exact q
      · exact hF s (by omega)⟩ (by omega)
set_option maxHeartbeats 1000000 in
set_option maxRecDepth 100000 in
theorem c_X12_isDrawn (hW : WOK l D S0) (d : Nat) {h : AH} {me row brk al wk us kp pt p q lp lq e f : Nat} {th c0 : Int} {m2 m3 : Value} {l2 l3 : Int} {rk : Nat → Nat} {G : Nat → Int} {eq le co rows : Nat} {Gm : Nat → Int} {M : Nat → Nat → Nat} (k1 : h me = some (120, oMod th c0 row brk al wk us kp pt)) (hwu : (∃ WK : Nat → Int, h wk = some (125, aI .int 100 WK)) ∧ (∃ US : Nat → Bool, h us = some (126, aI .boolean 10 (fun j => ((b2n (US j) : Nat) : Int))))) (g1 : h p = some (lp, oRef e q m2 m3 l2 l3)) (g2 : h q = some (lq, aI .int 1024 G)) (g3 : ∀ s, s < 2 ^ e → G s = ((rk s : Nat) : Int)) (hM : Mtr e rk) (hlp : lp ≠ 125 ∧ lp ≠ 126 ∧ lq ≠ 125 ∧ lq ≠ 126 ∧ le ≠ 125 ∧ le ≠ 126) (ke : h eq = some (le, aI .int 100 Gm)) (hr : rows ≤ 10) (hre : rows * e ≤ 100) (hco : co < e) (hf : f = 2 ∨ f = 3) (hG : ∀ c, c < e → ∀ r, r < rows → Gm (rows * c + r) = ((M c r : Nat) : Int)) (hG2 : ∀ c, c < e → ∀ r, r < rows → M c r < f) : MA l D S0 yX12_isDrawn cX12_isDrawn 7 (some .boolean) (d + 2) [.ref me, .ref p, .ref eq, I (rows : Int), I ((co + 1 : Nat) : Int), I (f : Int)] h 0 0 (fun r h' => (∃ b : Bool, r = some (I ((b2n b : Nat) : Int)) ∧ (b = true ↔ DrnP rk e f rows M co)) ∧ Fr (fun x => x = 125 ∨ x = 126) h h' ∧ (∃ WK : Nat → Int, h' wk = some (125, aI .int 100 WK)) ∧ (∃ US : Nat → Bool, h' us = some (126, aI .boolean 10 (fun j => ((b2n (US j) : Nat) : Int))))) (fun _ _ => False) := by
  have he := hM.1
  have hp := p2_le he
  have hbc : 2 ^ co < 2 ^ e := bit_lt hco
  have hps : 2 ^ (co + 1) = 2 ^ co + 2 ^ co := by rw [Nat.pow_succ]; omega
  have hpe : 2 ^ (co + 1) ≤ 2 ^ e := Nat.pow_le_pow_right (by decide) (by omega)
  have hp0 := p2_pos co
  have e1 : ((co + 1 : Nat) : Int) - 1 = (co : Int) := by omega
  refine MA.start hW (by decide) [.val (.ref me), .val (.ref p), .val (.ref eq), .val (I (rows : Int)), .val (I ((co + 1 : Nat) : Int)), .val (I (f : Int)), .unset] rfl ?_
  rintro X rfl rfl rfl hX
  refine wi_iconst hX dX12_isDrawn_0 ?_
  refine wa_iload hX dX12_isDrawn_1 rfl ?_
  refine wi_iconst hX dX12_isDrawn_3 ?_
  refine wi_isub hX dX12_isDrawn_4 ?_
  rw [e1]
  refine wn_ishl hX (a := 1) (b := co) dX12_isDrawn_5 rfl rfl (by omega) ?_
  rw [Nat.one_shiftLeft]
  refine wa_istore hX dX12_isDrawn_6 rfl ?_
  dsimp only [List.set]
  refine WA.loop (σ := Nat × AH) (fun z => 2 ^ (co + 1) - z.1) (fun z => 2 ^ co ≤ z.1 ∧ z.1 ≤ 2 ^ (co + 1) ∧ (∀ s, 2 ^ co ≤ s → s < z.1 → frB rk (sdf s (2 ^ co)) = true → rkM f rows e s M = rk s) ∧ Fr (fun x => x = 125 ∨ x = 126) h z.2 ∧ (∃ WK : Nat → Int, z.2 wk = some (125, aI .int 100 WK)) ∧ (∃ US : Nat → Bool, z.2 us = some (126, aI .boolean 10 (fun j => ((b2n (US j) : Nat) : Int))))) (fun z => z.2) (fun z => [.val (.ref me), .val (.ref p), .val (.ref eq), .val (I (rows : Int)), .val (I ((co + 1 : Nat) : Int)), .val (I (f : Int)), .val (I (z.1 : Nat))]) ?_ (2 ^ co, h) ⟨Nat.le_refl _, by omega, fun s h1 h2 => absurd h2 (by show ¬ s < 2 ^ co; omega), Fr.rf, hwu⟩
  clear hwu
  rintro ⟨z, h2⟩ ⟨hz0, hz, hF, f2, ⟨WK, w2⟩, ⟨US, s2⟩⟩ ih
  dsimp only at hz0 hz hF f2 w2 s2 ⊢
  have k2 := f2 _ _ _ k1 (by omega)
  have g1F := f2 _ _ _ g1 (by omega)
  have g2F := f2 _ _ _ g2 (by omega)
  have keF := f2 _ _ _ ke (by omega)
  have t61 : ∀ h3 : AH, z < 2 ^ (co + 1) → Fr (fun x => x = 125 ∨ x = 126) h h3 → ((∃ WK : Nat → Int, h3 wk = some (125, aI .int 100 WK)) ∧ (∃ US : Nat → Bool, h3 us = some (126, aI .boolean 10 (fun j => ((b2n (US j) : Nat) : Int))))) → (frB rk (sdf z (2 ^ co)) = true → rkM f rows e z M = rk z) → WA X h3 0 0 61 [.val (.ref me), .val (.ref p), .val (.ref eq), .val (I (rows : Int)), .val (I ((co + 1 : Nat) : Int)), .val (I (f : Int)), .val (I (z : Nat))] [] := by
    intro h3 hzl f3 hwu hok
    refine wi_iinc hX dX12_isDrawn_61 rfl ?_
    dsimp only [List.set]
    refine wa_goto hX (tgt := 8) dX12_isDrawn_64 (by decide) ?_
    refine ih (z + 1, h3) ⟨by show 2 ^ co ≤ z + 1; omega, by show z + 1 ≤ _; omega, fun s h1 h2 h4 => ?_, f3, hwu⟩ (by show _ - (z + 1) < _; omega)
    have h5 : s < z + 1 := h2
    by_cases g : s = z
    · subst g; exact hok h4
    · exact hF s h1 (by omega) h4
  refine wa_iload hX dX12_isDrawn_8 rfl ?_
  refine wi_iconst hX dX12_isDrawn_10 ?_
  refine wa_iload hX dX12_isDrawn_11 rfl ?_
  refine wn_ishl hX (a := 1) (b := co + 1) dX12_isDrawn_13 rfl rfl (by omega) ?_
  rw [Nat.one_shiftLeft]
  refine wi_icmp_ge hX (tgt := 67) dX12_isDrawn_14 (by decide) (by omega) (by omega) (fun c14 => ?_) (fun c14 => ?_)
  · skip
    refine wi_iconst hX dX12_isDrawn_67 ?_
    refine wa_zret hX dX12_isDrawn_68 (by rfl) ?_
    exact ⟨⟨true, rfl, fun _ s h1 h2 h3 => hF s h1 (by omega) h3, fun _ => rfl⟩, f2, ⟨WK, w2⟩, ⟨US, s2⟩⟩
  · skip
    refine wa_aload_n hX (i := 1) dX12_isDrawn_17 rfl rfl ?_
    refine wa_iload hX dX12_isDrawn_18 rfl ?_
    refine wi_iconst hX dX12_isDrawn_20 ?_
    refine wa_iload hX dX12_isDrawn_21 rfl ?_
    refine wi_iconst hX dX12_isDrawn_23 ?_
    refine wi_isub hX dX12_isDrawn_24 ?_
    rw [e1]
    refine wn_ishl hX (a := 1) (b := co) dX12_isDrawn_25 rfl rfl (by omega) ?_
    rw [Nat.one_shiftLeft]
    refine wi_iconst hX dX12_isDrawn_26 ?_
    refine wa_ixor hX dX12_isDrawn_27 ?_
    refine wn_andn hX dX12_isDrawn_28 (by rfl) (by rfl) ?_
    refine wa_callV hX (c_X11_isFree hW d g1F g2F g3 he (fun s hs => hM.le10 hs) (s := sdf z (2 ^ co)) (sdf_lt (by omega))) (by assumption) (by rfl) (by rfl) (by omega) (nA := 1) (by rfl) (by decide +kernel) rfl (by exact Nat.le_of_ble_eq_true rfl) dX12_isDrawn_29 (fun r29 h29 p29 => ?_) (fun _ _ q => q.elim)
    obtain ⟨rfl, qq29⟩ := p29; subst h29
    dsimp only [Option.toList, List.cons_append, List.nil_append]
    refine wi_if_eq hX (tgt := 61) dX12_isDrawn_32 (by decide) (by exact b2n_inR _) (fun c32 => ?_) (fun c32 => ?_)
    · skip
      first
        | (have q := b2n_f c32
           exact t61 h2 (by omega) f2 ⟨⟨WK, w2⟩, ⟨US, s2⟩⟩ (fun z9 => by rw [q] at z9; cases z9))
        | exact t61 h46 (by omega) (f2.trans f3) ⟨w3, s3⟩ (fun _ => by omega)
    · skip
      refine wa_aload_n hX (i := 0) dX12_isDrawn_35 rfl rfl ?_
      refine wa_aload_n hX (i := 2) dX12_isDrawn_36 rfl rfl ?_
      refine wa_iload_n hX (i := 3) dX12_isDrawn_37 rfl rfl ?_
      refine wa_aload_n hX (i := 1) dX12_isDrawn_38 rfl rfl ?_
      refine wa_get hX 0 (by assumption) (by rfl) (by decide +kernel) dX12_isDrawn_39 ?_
      refine wa_iload hX dX12_isDrawn_42 rfl ?_
      refine wa_iload hX dX12_isDrawn_44 rfl ?_
      refine wa_callV hX (c_X12_rankOf hW d (rows := rows) (cols := e) (set := z) (f := f) (W0 := M) k2 w2 s2 keF (by omega) hre hre hr he (by omega) (by omega) hG hG2) (by assumption) (by rfl) (by rfl) (by omega) (nA := 5) (by rfl) (by decide +kernel) rfl (by exact Nat.le_of_ble_eq_true rfl) dX12_isDrawn_46 (fun r46 h46 p46 => ?_) (fun _ _ q => q.elim)
      obtain ⟨rfl, f3, w3, s3⟩ := p46
      have g1L := f3 _ _ _ g1F (by omega)
      have g2L := f3 _ _ _ g2F (by omega)
      have hrk := rkM_le (set := z) (show 0 < f by omega) hG2
      have hrz := hM.le10 (s := z) (by omega)
      dsimp only [Option.toList, List.cons_append, List.nil_append]
      refine wa_aload_n hX (i := 1) dX12_isDrawn_49 rfl rfl ?_
      refine wa_get hX 1 (by assumption) (by rfl) (by decide +kernel) dX12_isDrawn_50 ?_
      refine wa_iload hX dX12_isDrawn_53 rfl ?_
      refine wi_iaload hX (by assumption) (by omega) (by omega) (by omega) dX12_isDrawn_55 ?_
      rw [Int.toNat_natCast, g3 z (by omega)]
      refine wi_icmp_eq hX (tgt := 61) dX12_isDrawn_56 (by decide) (by omega) (by omega) (fun c56 => ?_) (fun c56 => ?_)
      · skip
        first
          | (have q := b2n_f c32
             exact t61 h2 (by omega) f2 ⟨⟨WK, w2⟩, ⟨US, s2⟩⟩ (fun z9 => by rw [q] at z9; cases z9))
          | exact t61 h46 (by omega) (f2.trans f3) ⟨w3, s3⟩ (fun _ => by omega)
      · skip
        refine wi_iconst hX dX12_isDrawn_59 ?_
        refine wa_zret hX dX12_isDrawn_60 (by rfl) ?_
        exact ⟨⟨false, rfl, (fun q => nomatch q), fun q => absurd (q z hz0 (by omega) (b2n_t c32)) (by omega)⟩, f2.trans f3, w3, s3⟩
set_option maxHeartbeats 2000000 in
set_option maxRecDepth 100000 in
theorem c_X12_draws (hW : WOK l D S0) {me row brk al wk us kp pt p q lp lq e f eq bs : Nat} {th c0 : Int} {m2 m3 : Value} {l2 l3 : Int} {rk : Nat → Nat} {G : Nat → Int} (g3 : ∀ s, s < 2 ^ e → G s = ((rk s : Nat) : Int)) (hM : Mtr e rk) (hlp : (lp ≠ 125 ∧ lp ≠ 126 ∧ lp ≠ 135) ∧ lq ≠ 125 ∧ lq ≠ 126 ∧ lq ≠ 135) (hf : f = 2 ∨ f = 3) (hbs : bs < 2 ^ e) : ∀ (fu d co : Nat) (h : AH) (Gm : Nat → Int) (wy : Nat → Nat), co + fu = e → h me = some (120, oMod th c0 row brk al wk us kp pt) → ((∃ WK : Nat → Int, h wk = some (125, aI .int 100 WK)) ∧ (∃ US : Nat → Bool, h us = some (126, aI .boolean 10 (fun j => ((b2n (US j) : Nat) : Int))))) → h p = some (lp, oRef e q m2 m3 l2 l3) → h q = some (lq, aI .int 1024 G) → h eq = some (135, aI .int 100 Gm) → RelD e f (rk (2 ^ e - 1)) bs Gm wy co → MA l D S0 yX12_draws cX12_draws 13 (some .boolean) (d + fu + 3) [.ref me, .ref p, .ref eq, I (bs : Int), I (co : Int), I (f : Int)] h 0 0 (fun r h' => ∃ (v : Bool) (Gm' : Nat → Int) (wy' : Nat → Nat), r = some (I ((b2n v : Nat) : Int)) ∧ (Fr (fun x => x = 125 ∨ x = 126 ∨ x = 135) h h' ∧ ((∃ WK : Nat → Int, h' wk = some (125, aI .int 100 WK)) ∧ (∃ US : Nat → Bool, h' us = some (126, aI .boolean 10 (fun j => ((b2n (US j) : Nat) : Int))))) ∧ h' eq = some (135, aI .int 100 Gm') ∧ (∀ x, (rk (2 ^ e - 1)) * e ≤ x → Gm' x = Gm x)) ∧ (v = true → RelD e f (rk (2 ^ e - 1)) bs Gm' wy' e) ∧ (v = false → RelD e f (rk (2 ^ e - 1)) bs Gm' wy co) ∧ GoW rk e f bs co wy v wy') (fun _ _ => False) := by
  have he := hM.1
  have hp := p2_le he
  have hpp := p2_pos e
  have hr9 := hM.le10 (s := 2 ^ e - 1) (by omega)
  have hre : (rk (2 ^ e - 1)) * e ≤ 100 := Nat.mul_le_mul hr9 he
  have hf2 : 2 ≤ f := by omega
  intro fu
  induction fu with
  | zero =>
    intro d co h Gm wy hfu k1 hwu g1 g2 ke hRel
    refine MA.start hW (by decide) [.val (.ref me), .val (.ref p), .val (.ref eq), .val (I (bs : Int)), .val (I (co : Int)), .val (I (f : Int)), .unset, .unset, .unset, .unset, .unset, .unset, .unset] rfl ?_
    rintro X rfl rfl rfl hX
    refine wa_aload_n hX (i := 1) dX12_draws_0 rfl rfl ?_
    refine wa_callV hX (c_X11_rank hW (d + 1) g1 g2 g3 he (fun s hs => hM.le10 hs)) (by assumption) (by rfl) (by rfl) (by omega) (nA := 0) (by rfl) (by decide +kernel) rfl (by exact Nat.le_of_ble_eq_true rfl) dX12_draws_1 (fun r1 h1 p1 => ?_) (fun _ _ q => q.elim)
    obtain ⟨rfl, qq1⟩ := p1; subst h1
    dsimp only [Option.toList, List.cons_append, List.nil_append]
    refine wa_istore hX dX12_draws_4 (by first | rfl | assumption) ?_
    dsimp only [List.set]
    refine wa_iload hX dX12_draws_6 rfl ?_
    refine wa_aload_n hX (i := 1) dX12_draws_8 rfl rfl ?_
    refine wa_get hX 0 (by assumption) (by rfl) (by decide +kernel) dX12_draws_9 ?_
    refine wi_icmp_ne hX (tgt := 17) dX12_draws_12 (by decide) (by omega) (by omega) (fun c12 => ?_) (fun c12 => ?_)
    · skip
      exfalso; omega
    · skip
      refine wi_iconst hX dX12_draws_15 ?_
      refine wa_zret hX dX12_draws_16 (by rfl) ?_
      have hce : co = e := by omega
      exact ⟨true, Gm, wy, rfl, ⟨Fr.rf, hwu, ke, fun x hx => rfl⟩, fun _ => by rw [← hce]; rw [hce] at hRel ⊢; exact hRel, (fun q => nomatch q), Or.inl ⟨rfl, fun j hj => rfl, fun k h1 h2 => absurd h2 (by omega), fun wy2 h1 h2 => Or.inl (fun j hj => (h1 j (by omega)).symm)⟩⟩
  | succ fu ih0 =>
    intro d co h Gm wy hfu k1 hwu g1 g2 ke hRel
    have hce : co < e := by omega
    have hbc : 2 ^ co < 2 ^ e := bit_lt hce
    have hp0 := p2_pos co
    have hpr := pow_le3 (show f ≤ 3 by omega) hr9
    have hba := bc_le (bs &&& (2 ^ co - 1))
    have hwn : wayN f (rk (2 ^ e - 1)) bs co ≤ 59049 := by
      unfold wayN
      split <;> omega
    refine MA.start hW (by decide) [.val (.ref me), .val (.ref p), .val (.ref eq), .val (I (bs : Int)), .val (I (co : Int)), .val (I (f : Int)), .unset, .unset, .unset, .unset, .unset, .unset, .unset] rfl ?_
    rintro X rfl rfl rfl hX
    have t76 : WA X h 0 0 76 [.val (.ref me), .val (.ref p), .val (.ref eq), .val (I (bs : Int)), .val (I (co : Int)), .val (I (f : Int)), .val (I (((rk (2 ^ e - 1)) : Nat) : Int)), .val (I ((f ^ (rk (2 ^ e - 1)) : Nat) : Int)), .val (I ((b2n (bs.testBit co) : Nat) : Int)), .val (I ((bc (bs &&& (2 ^ co - 1)) : Nat) : Int)), .val (I (((0 : Nat)) : Int)), .unset, .unset] [] := by
      refine WA.loop (σ := Nat × AH × (Nat → Int) × Slot × Slot) (fun z => 60000 - z.1) (fun z => z.1 ≤ wayN f (rk (2 ^ e - 1)) bs co ∧ (Fr (fun x => x = 125 ∨ x = 126 ∨ x = 135) h z.2.1 ∧ ((∃ WK : Nat → Int, z.2.1 wk = some (125, aI .int 100 WK)) ∧ (∃ US : Nat → Bool, z.2.1 us = some (126, aI .boolean 10 (fun j => ((b2n (US j) : Nat) : Int))))) ∧ z.2.1 eq = some (135, aI .int 100 z.2.2.1) ∧ (∀ x, (rk (2 ^ e - 1)) * e ≤ x → z.2.2.1 x = Gm x)) ∧ (∀ c, c < e → c ≠ co → ∀ r, r < (rk (2 ^ e - 1)) → z.2.2.1 ((rk (2 ^ e - 1)) * c + r) = ((mW f (rk (2 ^ e - 1)) bs wy (co) c r : Nat) : Int)) ∧ (∀ wy2 : Nat → Nat, (∀ j, j < co → wy2 j = wy j) → ExtW rk e f bs co wy2 → z.1 ≤ wy2 co) ∧ okS [z.2.2.2.1] 0 = true ∧ okS [z.2.2.2.2] 0 = true) (fun z => z.2.1) (fun z => [.val (.ref me), .val (.ref p), .val (.ref eq), .val (I (bs : Int)), .val (I (co : Int)), .val (I (f : Int)), .val (I (((rk (2 ^ e - 1)) : Nat) : Int)), .val (I ((f ^ (rk (2 ^ e - 1)) : Nat) : Int)), .val (I ((b2n (bs.testBit co) : Nat) : Int)), .val (I ((bc (bs &&& (2 ^ co - 1)) : Nat) : Int)), .val (I ((z.1 : Nat) : Int)), z.2.2.2.1, z.2.2.2.2]) ?_ (0, h, Gm, .unset, .unset) ⟨Nat.zero_le _, ⟨Fr.rf, hwu, ke, fun x hx => rfl⟩, fun c hc _ r hr => hRel c hc r hr, fun wy2 h1 h2 => Nat.zero_le _, rfl, rfl⟩
      rintro ⟨way, h2, Gx, u11, u12⟩ ⟨hway, ⟨f2, wu2, ke2, kx2⟩, hPre, hN, hu11, hu12⟩ ih
      dsimp only at hway f2 wu2 ke2 hPre hN hu11 hu12 ⊢
      have k2 := f2 _ _ _ k1 (by omega)
      have t190 : ∀ (h3 : AH) (G3 : Nat → Int) (u11 u12 : Slot), okS [u11] 0 = true → okS [u12] 0 = true → way < wayN f (rk (2 ^ e - 1)) bs co → (Fr (fun x => x = 125 ∨ x = 126 ∨ x = 135) h h3 ∧ ((∃ WK : Nat → Int, h3 wk = some (125, aI .int 100 WK)) ∧ (∃ US : Nat → Bool, h3 us = some (126, aI .boolean 10 (fun j => ((b2n (US j) : Nat) : Int))))) ∧ h3 eq = some (135, aI .int 100 G3) ∧ (∀ x, (rk (2 ^ e - 1)) * e ≤ x → G3 x = Gm x)) → (∀ c, c < e → c ≠ co → ∀ r, r < (rk (2 ^ e - 1)) → G3 ((rk (2 ^ e - 1)) * c + r) = ((mW f (rk (2 ^ e - 1)) bs wy (co) c r : Nat) : Int)) → (∀ wy2 : Nat → Nat, (∀ j, j < co → wy2 j = wy j) → ExtW rk e f bs co wy2 → wy2 co ≠ way) → WA X h3 0 0 190 [.val (.ref me), .val (.ref p), .val (.ref eq), .val (I (bs : Int)), .val (I (co : Int)), .val (I (f : Int)), .val (I (((rk (2 ^ e - 1)) : Nat) : Int)), .val (I ((f ^ (rk (2 ^ e - 1)) : Nat) : Int)), .val (I ((b2n (bs.testBit co) : Nat) : Int)), .val (I ((bc (bs &&& (2 ^ co - 1)) : Nat) : Int)), .val (I ((way : Nat) : Int)), u11, u12] [] := by
        intro h3 G3 u11 u12 hu11 hu12 hwl hb3 hp3 hn3
        refine wi_iinc hX dX12_draws_190 rfl ?_
        dsimp only [List.set]
        refine wa_goto hX (tgt := 76) dX12_draws_193 (by decide) ?_
        refine ih (way + 1, h3, G3, u11, u12) ⟨by show way + 1 ≤ _; omega, hb3, hp3, fun wy2 h1 h2 => ?_, hu11, hu12⟩ (by show 60000 - (way + 1) < 60000 - way; omega)
        have q1 := hN wy2 h1 h2
        have q2 := hn3 wy2 h1 h2
        show way + 1 ≤ wy2 co
        omega
      have t89 : WA X h2 0 0 89 [.val (.ref me), .val (.ref p), .val (.ref eq), .val (I (bs : Int)), .val (I (co : Int)), .val (I (f : Int)), .val (I (((rk (2 ^ e - 1)) : Nat) : Int)), .val (I ((f ^ (rk (2 ^ e - 1)) : Nat) : Int)), .val (I ((b2n (bs.testBit co) : Nat) : Int)), .val (I ((bc (bs &&& (2 ^ co - 1)) : Nat) : Int)), .val (I ((way : Nat) : Int)), u11, u12] [I ((wayN f (rk (2 ^ e - 1)) bs co : Nat) : Int), I (way : Int)] := by
        refine wi_icmp_ge hX (tgt := 196) dX12_draws_89 (by decide) (by omega) (by omega) (fun c89 => ?_) (fun c89 => ?_)
        · skip
          have t199 : ∀ (h3 : AH) (r : Nat) (G3 : Nat → Int), r ≤ (rk (2 ^ e - 1)) → (Fr (fun x => x = 125 ∨ x = 126 ∨ x = 135) h h3 ∧ ((∃ WK : Nat → Int, h3 wk = some (125, aI .int 100 WK)) ∧ (∃ US : Nat → Bool, h3 us = some (126, aI .boolean 10 (fun j => ((b2n (US j) : Nat) : Int))))) ∧ h3 eq = some (135, aI .int 100 G3) ∧ (∀ x, (rk (2 ^ e - 1)) * e ≤ x → G3 x = Gm x)) → (∀ c, c < e → c ≠ co → ∀ r, r < (rk (2 ^ e - 1)) → G3 ((rk (2 ^ e - 1)) * c + r) = ((mW f (rk (2 ^ e - 1)) bs wy (co) c r : Nat) : Int)) → (∀ j, j < r → G3 ((rk (2 ^ e - 1)) * co + j) = 0) → WA X h3 0 0 199 [.val (.ref me), .val (.ref p), .val (.ref eq), .val (I (bs : Int)), .val (I (co : Int)), .val (I (f : Int)), .val (I (((rk (2 ^ e - 1)) : Nat) : Int)), .val (I ((f ^ (rk (2 ^ e - 1)) : Nat) : Int)), .val (I ((b2n (bs.testBit co) : Nat) : Int)), .val (I ((bc (bs &&& (2 ^ co - 1)) : Nat) : Int)), .val (I ((r : Nat) : Int)), u11, u12] [] := by
            intro h3 r G3 hr hb3 hp3 hz3
            refine WA.loop (σ := Nat × AH × (Nat → Int)) (fun y => (rk (2 ^ e - 1)) - y.1) (fun y => y.1 ≤ (rk (2 ^ e - 1)) ∧ (Fr (fun x => x = 125 ∨ x = 126 ∨ x = 135) h y.2.1 ∧ ((∃ WK : Nat → Int, y.2.1 wk = some (125, aI .int 100 WK)) ∧ (∃ US : Nat → Bool, y.2.1 us = some (126, aI .boolean 10 (fun j => ((b2n (US j) : Nat) : Int))))) ∧ y.2.1 eq = some (135, aI .int 100 y.2.2) ∧ (∀ x, (rk (2 ^ e - 1)) * e ≤ x → y.2.2 x = Gm x)) ∧ (∀ c, c < e → c ≠ co → ∀ r, r < (rk (2 ^ e - 1)) → y.2.2 ((rk (2 ^ e - 1)) * c + r) = ((mW f (rk (2 ^ e - 1)) bs wy (co) c r : Nat) : Int)) ∧ (∀ j, j < y.1 → y.2.2 ((rk (2 ^ e - 1)) * co + j) = 0)) (fun y => y.2.1) (fun y => [.val (.ref me), .val (.ref p), .val (.ref eq), .val (I (bs : Int)), .val (I (co : Int)), .val (I (f : Int)), .val (I (((rk (2 ^ e - 1)) : Nat) : Int)), .val (I ((f ^ (rk (2 ^ e - 1)) : Nat) : Int)), .val (I ((b2n (bs.testBit co) : Nat) : Int)), .val (I ((bc (bs &&& (2 ^ co - 1)) : Nat) : Int)), .val (I ((y.1 : Nat) : Int)), u11, u12]) ?_ (r, h3, G3) ⟨hr, hb3, hp3, hz3⟩
            clear hr hb3 hp3 hz3 h3 r G3
            rintro ⟨r, h3, G3⟩ ⟨hr, ⟨f3, wu3, ke3, kx3⟩, hp3, hz3⟩ ih2
            dsimp only at hr f3 wu3 ke3 hp3 hz3 ⊢
            refine wa_iload hX dX12_draws_199 rfl ?_
            refine wa_iload hX dX12_draws_201 rfl ?_
            refine wi_icmp_ge hX (tgt := 223) dX12_draws_203 (by decide) (by omega) (by omega) (fun c203 => ?_) (fun c203 => ?_)
            · skip
              refine wi_iconst hX dX12_draws_223 ?_
              refine wa_zret hX dX12_draws_224 (by rfl) ?_
              refine ⟨false, G3, wy, rfl, ⟨f3, wu3, ke3, kx3⟩, (fun q => nomatch q), fun _ c hc r' hr' => ?_, Or.inr ⟨rfl, fun wy2 h1 h2 => ?_⟩⟩
              · by_cases g : c = co
                · subst g
                  rw [hz3 r' (by omega)]
                  unfold mW
                  rw [if_neg (by omega)]
                  rfl
                · exact hp3 c hc g r' hr'
              · have q1 := hN wy2 h1 h2
                have q2 := (h2 co (Nat.le_refl _) hce).1
                omega
            · skip
              refine wa_aload_n hX (i := 2) dX12_draws_206 rfl rfl ?_
              refine wa_iload hX dX12_draws_207 rfl ?_
              refine wa_iload hX dX12_draws_209 rfl ?_
              refine wi_imul hX dX12_draws_211 ?_
              refine wa_iload hX dX12_draws_212 rfl ?_
              refine wi_iadd hX dX12_draws_214 ?_
              have hix := idx_lt (rows := (rk (2 ^ e - 1))) (cols := e) (c := co) (k := r) hce (by omega)
              rw [← Int.natCast_mul, ← Int.natCast_add]
              refine wi_iconst hX dX12_draws_215 ?_
              refine wi_iastore hX ke3 (by omega) (by omega) (by omega) dX12_draws_216 ?_
              rw [Int.toNat_natCast]
              refine WA.hgq (fun h4 hh4 => ?_)
              have f4 : Fr (fun x => x = 135) h3 h4 := by rw [hh4]; exact Fr.hset Fr.rf ke3 rfl
              have ke4 : h4 eq = some (135, aI .int 100 (up G3 ((rk (2 ^ e - 1)) * co + r) 0)) := by rw [hh4]; exact hset_eq
              have wu4 : (∃ WK : Nat → Int, h4 wk = some (125, aI .int 100 WK)) ∧ (∃ US : Nat → Bool, h4 us = some (126, aI .boolean 10 (fun j => ((b2n (US j) : Nat) : Int)))) := by
                obtain ⟨⟨WK, w3⟩, ⟨US, s3⟩⟩ := wu3
                exact ⟨⟨WK, f4 _ _ _ w3 (by decide)⟩, ⟨US, f4 _ _ _ s3 (by decide)⟩⟩
              clear hh4
              refine wi_iinc hX dX12_draws_217 rfl ?_
              dsimp only [List.set]
              refine wa_goto hX (tgt := 199) dX12_draws_220 (by decide) ?_
              refine ih2 (r + 1, h4, up G3 ((rk (2 ^ e - 1)) * co + r) 0) ⟨by show r + 1 ≤ _; omega, ⟨f3.trans (f4.mono (fun x hx => Or.inr (Or.inr hx))), wu4, ke4, fun x hx => (up_n (by omega)).trans (kx3 x hx)⟩, fun c hc hcc r' hr' => ?_, fun j hj => ?_⟩ (by show _ - (r + 1) < _; omega)
              · show up G3 ((rk (2 ^ e - 1)) * co + r) 0 ((rk (2 ^ e - 1)) * c + r') = _
                rw [up_n (fun e9 => hcc (idx_inj hr' (by omega) e9).1)]
                exact hp3 c hc hcc r' hr'
              · show up G3 ((rk (2 ^ e - 1)) * co + r) 0 ((rk (2 ^ e - 1)) * co + j) = 0
                have hj2 : j < r + 1 := hj
                by_cases g : j = r
                · subst g; rw [up_s]
                · rw [up_n (by omega)]
                  exact hz3 j (by omega)
          refine wi_iconst hX dX12_draws_196 ?_
          refine wa_istore hX dX12_draws_197 (by first | rfl | assumption) ?_
          dsimp only [List.set]
          exact t199 h2 0 Gx (Nat.zero_le _) ⟨f2, wu2, ke2, kx2⟩ hPre (fun j hj => absurd hj (Nat.not_lt_zero j))
        · skip
          refine wa_iload hX dX12_draws_92 rfl ?_
          refine wa_istore hX dX12_draws_94 (by first | rfl | assumption) ?_
          dsimp only [List.set]
          refine wa_iload hX dX12_draws_96 rfl ?_
          refine wi_iconst hX dX12_draws_98 ?_
          refine wi_isub hX dX12_draws_99 ?_
          refine wa_istore hX dX12_draws_100 (by first | rfl | assumption) ?_
          dsimp only [List.set]
          have hwl : way < wayN f (rk (2 ^ e - 1)) bs co := by omega
          have hw9 : way ≤ 59049 := by omega
          have t155 : ∀ (h3 : AH) (G3 : Nat → Int) (u11 u12 : Slot), okS [u11] 0 = true → okS [u12] 0 = true → (Fr (fun x => x = 125 ∨ x = 126 ∨ x = 135) h h3 ∧ ((∃ WK : Nat → Int, h3 wk = some (125, aI .int 100 WK)) ∧ (∃ US : Nat → Bool, h3 us = some (126, aI .boolean 10 (fun j => ((b2n (US j) : Nat) : Int))))) ∧ h3 eq = some (135, aI .int 100 G3) ∧ (∀ x, (rk (2 ^ e - 1)) * e ≤ x → G3 x = Gm x)) → RelD e f (rk (2 ^ e - 1)) bs G3 (up wy co way) (co + 1) → WA X h3 0 0 155 [.val (.ref me), .val (.ref p), .val (.ref eq), .val (I (bs : Int)), .val (I (co : Int)), .val (I (f : Int)), .val (I (((rk (2 ^ e - 1)) : Nat) : Int)), .val (I ((f ^ (rk (2 ^ e - 1)) : Nat) : Int)), .val (I ((b2n (bs.testBit co) : Nat) : Int)), .val (I ((bc (bs &&& (2 ^ co - 1)) : Nat) : Int)), .val (I ((way : Nat) : Int)), u11, u12] [] := by
            intro h3 G3 u11 u12 hu11 hu12 hb3 hR3
            obtain ⟨f3, wu3, ke3, kx3⟩ := hb3
            have k3 := f3 _ _ _ k1 (by omega)
            have g1L := f3 _ _ _ g1 (by omega)
            have g2L := f3 _ _ _ g2 (by omega)
            have hmw : ∀ wy2 : Nat → Nat, (∀ j, j < co → wy2 j = wy j) → wy2 co = way → mW f (rk (2 ^ e - 1)) bs wy2 (co + 1) = mW f (rk (2 ^ e - 1)) bs (up wy co way) (co + 1) := fun wy2 h1 h2 => mW_congr (fun c hc => by
              by_cases g : c = co
              · subst g; rw [up_s, h2]
              · rw [up_n g]; exact h1 c (by omega))
            have hpre3 : ∀ (G4 : Nat → Int), RelD e f (rk (2 ^ e - 1)) bs G4 (up wy co way) (co + 1) → (∀ c, c < e → c ≠ co → ∀ r, r < (rk (2 ^ e - 1)) → G4 ((rk (2 ^ e - 1)) * c + r) = ((mW f (rk (2 ^ e - 1)) bs wy (co) c r : Nat) : Int)) := fun G4 hR c hc hcc r hr => by
              rw [hR c hc r hr]
              unfold mW
              by_cases g : c < co
              · rw [if_pos (by omega), if_pos g, up_n (by omega)]
              · rw [if_neg (by omega), if_neg g]
            refine wa_aload_n hX (i := 0) dX12_draws_155 rfl rfl ?_
            refine wa_aload_n hX (i := 1) dX12_draws_156 rfl rfl ?_
            refine wa_aload_n hX (i := 2) dX12_draws_157 rfl rfl ?_
            refine wa_iload hX dX12_draws_158 rfl ?_
            refine wa_iload hX dX12_draws_160 rfl ?_
            refine wi_iconst hX dX12_draws_162 ?_
            refine wi_iadd hX dX12_draws_163 ?_
            refine wa_iload hX dX12_draws_164 rfl ?_
            rw [show (co : Int) + 1 = ((co + 1 : Nat) : Int) by omega]
            refine wa_callV hX (c_X12_isDrawn hW (d + fu) (co := co) (rows := (rk (2 ^ e - 1))) (M := mW f (rk (2 ^ e - 1)) bs (up wy co way) (co + 1)) k3 wu3 g1L g2L g3 hM (by omega) ke3 hr9 hre hce hf (fun c hc r hr => hR3 c hc r hr) (fun c hc r hr => mW_lt hf2)) (by assumption) (by rfl) (by rfl) (by omega) (nA := 5) (by rfl) (by decide +kernel) rfl (by exact Nat.le_of_ble_eq_true rfl) dX12_draws_166 (fun r166 h166 p166 => ?_) (fun _ _ q => q.elim)
            obtain ⟨⟨bd, rfl, hbd⟩, f4, wu4⟩ := p166
            have k4 := f4 _ _ _ k3 (by omega)
            have g1M := f4 _ _ _ g1L (by omega)
            have g2M := f4 _ _ _ g2L (by omega)
            have ke4 := f4 _ _ _ ke3 (by omega)
            have f34 : Fr (fun x => x = 125 ∨ x = 126 ∨ x = 135) h h166 := f3.trans (f4.mono (fun x hx => by omega))
            dsimp only [Option.toList, List.cons_append, List.nil_append]
            refine wi_if_eq hX (tgt := 190) dX12_draws_169 (by decide) (by exact b2n_inR _) (fun c169 => ?_) (fun c169 => ?_)
            · skip
              first
                | (have q := b2n_f c169
                   refine t190 h166 G3 u11 u12 hu11 hu12 hwl ⟨f34, wu4, ke4, kx3⟩ (hpre3 G3 hR3) (fun wy2 h1 h2 h3 => ?_)
                   have q2 := (h2 co (Nat.le_refl _) hce).2
                   rw [hmw wy2 h1 h3] at q2
                   rw [hbd.mpr q2] at q
                   cases q)
                | (have q := b2n_f c185
                   refine t190 h182 G5 u11 u12 hu11 hu12 hwl ⟨f35, wu5, ke5, fun x hx => (kx5 x hx).trans (kx3 x hx)⟩ (hpre3 G5 (hFa q)) (fun wy2 h1 h2 h3 => ?_)
                   rcases hGo with ⟨z1, _⟩ | ⟨_, z2⟩
                   · rw [z1] at q; cases q
                   · refine z2 wy2 (fun j hj => ?_) (fun k hk hke => h2 k (by omega) hke)
                     by_cases g : j = co
                     · subst g; rw [up_s, h3]
                     · rw [up_n g]; exact h1 j (by omega))
            · skip
              refine wa_aload_n hX (i := 0) dX12_draws_172 rfl rfl ?_
              refine wa_aload_n hX (i := 1) dX12_draws_173 rfl rfl ?_
              refine wa_aload_n hX (i := 2) dX12_draws_174 rfl rfl ?_
              refine wa_iload_n hX (i := 3) dX12_draws_175 rfl rfl ?_
              refine wa_iload hX dX12_draws_176 rfl ?_
              refine wi_iconst hX dX12_draws_178 ?_
              refine wi_iadd hX dX12_draws_179 ?_
              refine wa_iload hX dX12_draws_180 rfl ?_
              rw [show (co : Int) + 1 = ((co + 1 : Nat) : Int) by omega]
              refine wa_callV hX (ih0 d (co + 1) h166 G3 (up wy co way) (by omega) k4 wu4 g1M g2M ke4 hR3) (by assumption) (by rfl) (by rfl) (by omega) (nA := 5) (by rfl) (by decide +kernel) rfl (by exact Nat.le_of_ble_eq_true rfl) dX12_draws_182 (fun r182 h182 p182 => ?_) (fun _ _ q => q.elim)
              obtain ⟨v, G5, wy', rfl, ⟨f5, wu5, ke5, kx5⟩, hT, hFa, hGo⟩ := p182
              have f35 := f34.trans f5
              dsimp only [Option.toList, List.cons_append, List.nil_append]
              refine wi_if_eq hX (tgt := 190) dX12_draws_185 (by decide) (by exact b2n_inR _) (fun c185 => ?_) (fun c185 => ?_)
              · skip
                first
                  | (have q := b2n_f c169
                     refine t190 h166 G3 u11 u12 hu11 hu12 hwl ⟨f34, wu4, ke4, kx3⟩ (hpre3 G3 hR3) (fun wy2 h1 h2 h3 => ?_)
                     have q2 := (h2 co (Nat.le_refl _) hce).2
                     rw [hmw wy2 h1 h3] at q2
                     rw [hbd.mpr q2] at q
                     cases q)
                  | (have q := b2n_f c185
                     refine t190 h182 G5 u11 u12 hu11 hu12 hwl ⟨f35, wu5, ke5, fun x hx => (kx5 x hx).trans (kx3 x hx)⟩ (hpre3 G5 (hFa q)) (fun wy2 h1 h2 h3 => ?_)
                     rcases hGo with ⟨z1, _⟩ | ⟨_, z2⟩
                     · rw [z1] at q; cases q
                     · refine z2 wy2 (fun j hj => ?_) (fun k hk hke => h2 k (by omega) hke)
                       by_cases g : j = co
                       · subst g; rw [up_s, h3]
                       · rw [up_n g]; exact h1 j (by omega))
              · skip
                refine wi_iconst hX dX12_draws_188 ?_
                refine wa_zret hX dX12_draws_189 (by rfl) ?_
                have q := b2n_t c185
                have q3 := hbd.mp (b2n_t c169)
                rcases hGo with ⟨_, z1, z2, z3⟩ | ⟨z1, _⟩
                · have e1 : wy' co = way := by rw [z1 co (by omega), up_s]
                  have e2 : ∀ j, j < co → wy' j = wy j := fun j hj => by rw [z1 j (by omega), up_n (by omega)]
                  refine ⟨true, G5, wy', rfl, ⟨f35, wu5, ke5, fun x hx => (kx5 x hx).trans (kx3 x hx)⟩, fun _ => hT q, (fun q => nomatch q), Or.inl ⟨rfl, e2, fun k hk hke => ?_, fun wy2 h1 h2 => ?_⟩⟩
                  · by_cases g : k = co
                    · subst g
                      refine ⟨by rw [e1]; exact hwl, ?_⟩
                      rw [hmw wy' e2 e1]
                      exact q3
                    · exact z2 k (by omega) hke
                  · have h3 := hN wy2 h1 h2
                    by_cases g : wy2 co = way
                    · refine z3 wy2 (fun j hj => ?_) (fun k hk hke => h2 k (by omega) hke)
                      by_cases g9 : j = co
                      · subst g9; rw [up_s, g]
                      · rw [up_n g9]; exact h1 j (by omega)
                    · exact Or.inr ⟨co, hce, fun j hj => by rw [e2 j hj, h1 j hj], by omega⟩
                · rw [z1] at q; cases q
          have t102 : ∀ (h3 : AH) (j : Nat) (G3 : Nat → Int), j ≤ (rk (2 ^ e - 1)) → (Fr (fun x => x = 125 ∨ x = 126 ∨ x = 135) h h3 ∧ ((∃ WK : Nat → Int, h3 wk = some (125, aI .int 100 WK)) ∧ (∃ US : Nat → Bool, h3 us = some (126, aI .boolean 10 (fun j => ((b2n (US j) : Nat) : Int))))) ∧ h3 eq = some (135, aI .int 100 G3) ∧ (∀ x, (rk (2 ^ e - 1)) * e ≤ x → G3 x = Gm x)) → (∀ c, c < e → c ≠ co → ∀ r, r < (rk (2 ^ e - 1)) → G3 ((rk (2 ^ e - 1)) * c + r) = ((mW f (rk (2 ^ e - 1)) bs wy (co) c r : Nat) : Int)) → (∀ r, (rk (2 ^ e - 1)) - j ≤ r → r < (rk (2 ^ e - 1)) → G3 ((rk (2 ^ e - 1)) * co + r) = ((cV f (rk (2 ^ e - 1)) bs co way r : Nat) : Int)) → WA X h3 0 0 102 [.val (.ref me), .val (.ref p), .val (.ref eq), .val (I (bs : Int)), .val (I (co : Int)), .val (I (f : Int)), .val (I (((rk (2 ^ e - 1)) : Nat) : Int)), .val (I ((f ^ (rk (2 ^ e - 1)) : Nat) : Int)), .val (I ((b2n (bs.testBit co) : Nat) : Int)), .val (I ((bc (bs &&& (2 ^ co - 1)) : Nat) : Int)), .val (I ((way : Nat) : Int)), .val (I ((way / f ^ j : Nat) : Int)), .val (I ((((rk (2 ^ e - 1)) : Nat) : Int) - 1 - (j : Int)))] [] := by
            intro h3 j G3 hj hb3 hp3 hc3
            refine WA.loop (σ := Nat × AH × (Nat → Int)) (fun y => (rk (2 ^ e - 1)) - y.1) (fun y => y.1 ≤ (rk (2 ^ e - 1)) ∧ (Fr (fun x => x = 125 ∨ x = 126 ∨ x = 135) h y.2.1 ∧ ((∃ WK : Nat → Int, y.2.1 wk = some (125, aI .int 100 WK)) ∧ (∃ US : Nat → Bool, y.2.1 us = some (126, aI .boolean 10 (fun j => ((b2n (US j) : Nat) : Int))))) ∧ y.2.1 eq = some (135, aI .int 100 y.2.2) ∧ (∀ x, (rk (2 ^ e - 1)) * e ≤ x → y.2.2 x = Gm x)) ∧ (∀ c, c < e → c ≠ co → ∀ r, r < (rk (2 ^ e - 1)) → y.2.2 ((rk (2 ^ e - 1)) * c + r) = ((mW f (rk (2 ^ e - 1)) bs wy (co) c r : Nat) : Int)) ∧ (∀ r, (rk (2 ^ e - 1)) - y.1 ≤ r → r < (rk (2 ^ e - 1)) → y.2.2 ((rk (2 ^ e - 1)) * co + r) = ((cV f (rk (2 ^ e - 1)) bs co way r : Nat) : Int))) (fun y => y.2.1) (fun y => [.val (.ref me), .val (.ref p), .val (.ref eq), .val (I (bs : Int)), .val (I (co : Int)), .val (I (f : Int)), .val (I (((rk (2 ^ e - 1)) : Nat) : Int)), .val (I ((f ^ (rk (2 ^ e - 1)) : Nat) : Int)), .val (I ((b2n (bs.testBit co) : Nat) : Int)), .val (I ((bc (bs &&& (2 ^ co - 1)) : Nat) : Int)), .val (I ((way : Nat) : Int)), .val (I ((way / f ^ y.1 : Nat) : Int)), .val (I ((((rk (2 ^ e - 1)) : Nat) : Int) - 1 - (y.1 : Int)))]) ?_ (j, h3, G3) ⟨hj, hb3, hp3, hc3⟩
            clear hj hb3 hp3 hc3 h3 j G3
            rintro ⟨j, h3, G3⟩ ⟨hj, ⟨f3, wu3, ke3, kx3⟩, hp3, hc3⟩ ih2
            dsimp only at hj f3 wu3 ke3 hp3 hc3 ⊢
            have hdl : way / f ^ j ≤ way := Nat.div_le_self _ _
            have hdd : way / f ^ (j + 1) = way / f ^ j / f := by rw [Nat.pow_succ, Nat.div_div_eq_div_mul]
            have t141 : ∀ (v r : Nat), j < (rk (2 ^ e - 1)) → r = (rk (2 ^ e - 1)) - 1 - j → v = cV f (rk (2 ^ e - 1)) bs co way r → WA X h3 0 0 141 [.val (.ref me), .val (.ref p), .val (.ref eq), .val (I (bs : Int)), .val (I (co : Int)), .val (I (f : Int)), .val (I (((rk (2 ^ e - 1)) : Nat) : Int)), .val (I ((f ^ (rk (2 ^ e - 1)) : Nat) : Int)), .val (I ((b2n (bs.testBit co) : Nat) : Int)), .val (I ((bc (bs &&& (2 ^ co - 1)) : Nat) : Int)), .val (I ((way : Nat) : Int)), .val (I ((way / f ^ j : Nat) : Int)), .val (I ((((rk (2 ^ e - 1)) : Nat) : Int) - 1 - (j : Int)))] [I (v : Int), I (((rk (2 ^ e - 1)) * co + r : Nat) : Int), .ref eq] := by
              intro v r hjr hr hv
              have hix := idx_lt (rows := (rk (2 ^ e - 1))) (cols := e) (c := co) (k := r) hce (by omega)
              have hvl : v < f := by rw [hv]; exact cV_lt hf2
              refine wi_iastore hX ke3 (by omega) (by omega) (by omega) dX12_draws_141 ?_
              rw [Int.toNat_natCast]
              refine WA.hgq (fun h4 hh4 => ?_)
              have f4 : Fr (fun x => x = 135) h3 h4 := by rw [hh4]; exact Fr.hset Fr.rf ke3 rfl
              have ke4 : h4 eq = some (135, aI .int 100 (up G3 ((rk (2 ^ e - 1)) * co + r) (v : Int))) := by rw [hh4]; exact hset_eq
              have wu4 : (∃ WK : Nat → Int, h4 wk = some (125, aI .int 100 WK)) ∧ (∃ US : Nat → Bool, h4 us = some (126, aI .boolean 10 (fun j => ((b2n (US j) : Nat) : Int)))) := by
                obtain ⟨⟨WK, w3⟩, ⟨US, s3⟩⟩ := wu3
                exact ⟨⟨WK, f4 _ _ _ w3 (by decide)⟩, ⟨US, f4 _ _ _ s3 (by decide)⟩⟩
              clear hh4
              refine wa_iload hX dX12_draws_142 rfl ?_
              refine wa_iload hX dX12_draws_144 rfl ?_
              refine wn_idiv hX (a := way / f ^ j) (b := f) dX12_draws_146 rfl rfl (by omega) (by omega) (by omega) ?_
              rw [← hdd]
              refine wa_istore hX dX12_draws_147 (by first | rfl | assumption) ?_
              dsimp only [List.set]
              refine wi_iinc hX dX12_draws_149 rfl ?_
              dsimp only [List.set]
              refine wa_goto hX (tgt := 102) dX12_draws_152 (by decide) ?_
              refine WA.eq rfl (by rw [show (((rk (2 ^ e - 1)) : Nat) : Int) - 1 - (j : Int) + -1 = (((rk (2 ^ e - 1)) : Nat) : Int) - 1 - ((j + 1 : Nat) : Int) by omega]) rfl (ih2 (j + 1, h4, up G3 ((rk (2 ^ e - 1)) * co + r) (v : Int)) ⟨by show j + 1 ≤ _; omega, ⟨f3.trans (f4.mono (fun x hx => Or.inr (Or.inr hx))), wu4, ke4, fun x hx => (up_n (by omega)).trans (kx3 x hx)⟩, fun c hc hcc r' hr' => ?_, fun r' h1 h2 => ?_⟩ (by show _ - (j + 1) < _; omega))
              · show up G3 ((rk (2 ^ e - 1)) * co + r) (v : Int) ((rk (2 ^ e - 1)) * c + r') = _
                rw [up_n (fun e9 => hcc (idx_inj hr' (by omega) e9).1)]
                exact hp3 c hc hcc r' hr'
              · show up G3 ((rk (2 ^ e - 1)) * co + r) (v : Int) ((rk (2 ^ e - 1)) * co + r') = _
                have h3 : (rk (2 ^ e - 1)) - (j + 1) ≤ r' := h1
                by_cases g : r' = r
                · subst g; rw [up_s, hv]
                · rw [up_n (by omega)]
                  exact hc3 r' (by omega) h2
            refine wa_iload hX dX12_draws_102 rfl ?_
            refine wi_if_lt hX (tgt := 155) dX12_draws_104 (by decide) (by omega) (fun c104 => ?_) (fun c104 => ?_)
            · skip
              have hjr : j = (rk (2 ^ e - 1)) := by omega
              refine t155 h3 G3 _ _ rfl rfl ⟨f3, wu3, ke3, kx3⟩ (fun c hc r hr => ?_)
              unfold mW
              by_cases g : c = co
              · subst g
                rw [if_pos (by omega), up_s]
                exact hc3 r (by omega) hr
              · rw [hp3 c hc g r hr]
                unfold mW
                by_cases g2 : c < co
                · rw [if_pos g2, if_pos (by omega), up_n g]
                · rw [if_neg g2, if_neg (by omega)]
            · skip
              refine wa_aload_n hX (i := 2) dX12_draws_107 rfl rfl ?_
              refine wa_iload hX dX12_draws_108 rfl ?_
              refine wa_iload hX dX12_draws_110 rfl ?_
              refine wi_imul hX dX12_draws_112 ?_
              refine wa_iload hX dX12_draws_113 rfl ?_
              have hjr : j < (rk (2 ^ e - 1)) := by omega
              rw [show (((rk (2 ^ e - 1)) : Nat) : Int) - 1 - (j : Int) = (((rk (2 ^ e - 1)) - 1 - j : Nat) : Int) by omega]
              refine wi_iadd hX dX12_draws_115 ?_
              rw [← Int.natCast_mul, ← Int.natCast_add]
              refine wa_iload hX dX12_draws_116 rfl ?_
              refine wi_if_eq hX (tgt := 136) dX12_draws_118 (by decide) (by exact b2n_inR _) (fun c118 => ?_) (fun c118 => ?_)
              · skip
                refine wa_iload hX dX12_draws_136 rfl ?_
                refine wa_iload hX dX12_draws_138 rfl ?_
                refine wn_irem hX (a := way / f ^ j) (b := f) dX12_draws_140 rfl rfl (by omega) (by omega) (by omega) ?_
                first
                  | (have q := b2n_t c118
                     refine WA.eq rfl (by rw [show (((rk (2 ^ e - 1)) : Nat) : Int) - 1 - (j : Int) = (((rk (2 ^ e - 1)) - 1 - j : Nat) : Int) by omega]) rfl (t141 1 ((rk (2 ^ e - 1)) - 1 - j) hjr rfl ?_)
                     unfold cV
                     rw [if_pos q, if_pos (by omega)])
                  | (have q := b2n_t c118
                     refine WA.eq rfl (by rw [show (((rk (2 ^ e - 1)) : Nat) : Int) - 1 - (j : Int) = (((rk (2 ^ e - 1)) - 1 - j : Nat) : Int) by omega]) rfl (t141 0 ((rk (2 ^ e - 1)) - 1 - j) hjr rfl ?_)
                     unfold cV
                     rw [if_pos q, if_neg (by omega)])
                  | (have q := b2n_f c118
                     refine WA.eq rfl (by rw [show (((rk (2 ^ e - 1)) : Nat) : Int) - 1 - (j : Int) = (((rk (2 ^ e - 1)) - 1 - j : Nat) : Int) by omega]) rfl (t141 (way / f ^ j % f) ((rk (2 ^ e - 1)) - 1 - j) hjr rfl ?_)
                     unfold cV
                     rw [if_neg (by rw [q]; exact Bool.false_ne_true), show (rk (2 ^ e - 1)) - 1 - ((rk (2 ^ e - 1)) - 1 - j) = j by omega])
              · skip
                refine wa_iload hX dX12_draws_121 rfl ?_
                refine wa_iload hX dX12_draws_123 rfl ?_
                refine wi_icmp_ne hX (tgt := 132) dX12_draws_125 (by decide) (by omega) (by omega) (fun c125 => ?_) (fun c125 => ?_)
                · skip
                  refine wi_iconst hX dX12_draws_132 ?_
                  refine wa_goto hX (tgt := 141) dX12_draws_133 (by decide) ?_
                  first
                    | (have q := b2n_t c118
                       refine WA.eq rfl (by rw [show (((rk (2 ^ e - 1)) : Nat) : Int) - 1 - (j : Int) = (((rk (2 ^ e - 1)) - 1 - j : Nat) : Int) by omega]) rfl (t141 1 ((rk (2 ^ e - 1)) - 1 - j) hjr rfl ?_)
                       unfold cV
                       rw [if_pos q, if_pos (by omega)])
                    | (have q := b2n_t c118
                       refine WA.eq rfl (by rw [show (((rk (2 ^ e - 1)) : Nat) : Int) - 1 - (j : Int) = (((rk (2 ^ e - 1)) - 1 - j : Nat) : Int) by omega]) rfl (t141 0 ((rk (2 ^ e - 1)) - 1 - j) hjr rfl ?_)
                       unfold cV
                       rw [if_pos q, if_neg (by omega)])
                    | (have q := b2n_f c118
                       refine WA.eq rfl (by rw [show (((rk (2 ^ e - 1)) : Nat) : Int) - 1 - (j : Int) = (((rk (2 ^ e - 1)) - 1 - j : Nat) : Int) by omega]) rfl (t141 (way / f ^ j % f) ((rk (2 ^ e - 1)) - 1 - j) hjr rfl ?_)
                       unfold cV
                       rw [if_neg (by rw [q]; exact Bool.false_ne_true), show (rk (2 ^ e - 1)) - 1 - ((rk (2 ^ e - 1)) - 1 - j) = j by omega])
                · skip
                  refine wi_iconst hX dX12_draws_128 ?_
                  refine wa_goto hX (tgt := 141) dX12_draws_129 (by decide) ?_
                  first
                    | (have q := b2n_t c118
                       refine WA.eq rfl (by rw [show (((rk (2 ^ e - 1)) : Nat) : Int) - 1 - (j : Int) = (((rk (2 ^ e - 1)) - 1 - j : Nat) : Int) by omega]) rfl (t141 1 ((rk (2 ^ e - 1)) - 1 - j) hjr rfl ?_)
                       unfold cV
                       rw [if_pos q, if_pos (by omega)])
                    | (have q := b2n_t c118
                       refine WA.eq rfl (by rw [show (((rk (2 ^ e - 1)) : Nat) : Int) - 1 - (j : Int) = (((rk (2 ^ e - 1)) - 1 - j : Nat) : Int) by omega]) rfl (t141 0 ((rk (2 ^ e - 1)) - 1 - j) hjr rfl ?_)
                       unfold cV
                       rw [if_pos q, if_neg (by omega)])
                    | (have q := b2n_f c118
                       refine WA.eq rfl (by rw [show (((rk (2 ^ e - 1)) : Nat) : Int) - 1 - (j : Int) = (((rk (2 ^ e - 1)) - 1 - j : Nat) : Int) by omega]) rfl (t141 (way / f ^ j % f) ((rk (2 ^ e - 1)) - 1 - j) hjr rfl ?_)
                       unfold cV
                       rw [if_neg (by rw [q]; exact Bool.false_ne_true), show (rk (2 ^ e - 1)) - 1 - ((rk (2 ^ e - 1)) - 1 - j) = j by omega])
          refine WA.eq rfl (by rw [show (((rk (2 ^ e - 1)) : Nat) : Int) - 1 - ((0 : Nat) : Int) = (((rk (2 ^ e - 1)) : Nat) : Int) - 1 by omega, Nat.pow_zero, Nat.div_one]) rfl (t102 h2 0 Gx (Nat.zero_le _) ⟨f2, wu2, ke2, kx2⟩ hPre (fun r h1 h2 => absurd h2 (by omega)))
      refine wa_iload hX dX12_draws_76 rfl ?_
      refine wa_iload hX dX12_draws_78 rfl ?_
      refine wi_if_eq hX (tgt := 87) dX12_draws_80 (by decide) (by exact b2n_inR _) (fun c80 => ?_) (fun c80 => ?_)
      · skip
        refine wa_iload hX dX12_draws_87 rfl ?_
        first
          | (have q := b2n_f c80
             refine WA.eq rfl rfl ?_ t89
             rw [show wayN f (rk (2 ^ e - 1)) bs co = f ^ (rk (2 ^ e - 1)) by unfold wayN; rw [if_neg (by rw [q]; exact Bool.false_ne_true)]])
          | (have q := b2n_t c80
             refine WA.eq rfl rfl ?_ t89
             rw [show wayN f (rk (2 ^ e - 1)) bs co = 1 by unfold wayN; rw [if_pos q]]
             rfl)
      · skip
        refine wi_iconst hX dX12_draws_83 ?_
        refine wa_goto hX (tgt := 89) dX12_draws_84 (by decide) ?_
        first
          | (have q := b2n_f c80
             refine WA.eq rfl rfl ?_ t89
             rw [show wayN f (rk (2 ^ e - 1)) bs co = f ^ (rk (2 ^ e - 1)) by unfold wayN; rw [if_neg (by rw [q]; exact Bool.false_ne_true)]])
          | (have q := b2n_t c80
             refine WA.eq rfl rfl ?_ t89
             rw [show wayN f (rk (2 ^ e - 1)) bs co = 1 by unfold wayN; rw [if_pos q]]
             rfl)
    have t58 : WA X h 0 0 58 [.val (.ref me), .val (.ref p), .val (.ref eq), .val (I (bs : Int)), .val (I (co : Int)), .val (I (f : Int)), .val (I (((rk (2 ^ e - 1)) : Nat) : Int)), .val (I ((f ^ (rk (2 ^ e - 1)) : Nat) : Int)), .val (I (((rk (2 ^ e - 1)) : Nat) : Int)), .unset, .unset, .unset, .unset] [I ((b2n (bs.testBit co) : Nat) : Int)] := by
      refine wa_istore hX dX12_draws_58 (by first | rfl | assumption) ?_
      dsimp only [List.set]
      refine wa_iload_n hX (i := 3) dX12_draws_60 rfl rfl ?_
      refine wi_iconst hX dX12_draws_61 ?_
      refine wa_iload hX dX12_draws_62 rfl ?_
      refine wn_shl1 hX dX12_draws_64 (by rfl) (by omega) ?_
      refine wi_iconst hX dX12_draws_65 ?_
      refine wi_isub hX dX12_draws_66 ?_
      rw [show ((2 ^ co : Nat) : Int) - 1 = ((2 ^ co - 1 : Nat) : Int) by omega]
      have hal : bs &&& (2 ^ co - 1) ≤ bs := Nat.and_le_left
      refine wn_iand hX dX12_draws_67 (by rfl) (by rfl) ?_
      refine wa_callS hX (c_J6_bitCount hW d (s := bs &&& (2 ^ co - 1)) (by omega)) (by rfl) (by omega) (nA := 1) (by rfl) (by decide +kernel) rfl (by exact Nat.le_of_ble_eq_true rfl) dX12_draws_68 (fun r68 h68 p68 => ?_) (fun _ _ q => q.elim)
      obtain ⟨rfl, qq68⟩ := p68; subst h68
      dsimp only [Option.toList, List.cons_append, List.nil_append]
      refine wa_istore hX dX12_draws_71 (by first | rfl | assumption) ?_
      dsimp only [List.set]
      refine wi_iconst hX dX12_draws_73 ?_
      refine wa_istore hX dX12_draws_74 (by first | rfl | assumption) ?_
      dsimp only [List.set]
      exact t76
    refine wa_aload_n hX (i := 1) dX12_draws_0 rfl rfl ?_
    refine wa_callV hX (c_X11_rank hW (d + 1) g1 g2 g3 he (fun s hs => hM.le10 hs)) (by assumption) (by rfl) (by rfl) (by omega) (nA := 0) (by rfl) (by decide +kernel) rfl (by exact Nat.le_of_ble_eq_true rfl) dX12_draws_1 (fun r1 h1 p1 => ?_) (fun _ _ q => q.elim)
    obtain ⟨rfl, qq1⟩ := p1; subst h1
    dsimp only [Option.toList, List.cons_append, List.nil_append]
    refine wa_istore hX dX12_draws_4 (by first | rfl | assumption) ?_
    dsimp only [List.set]
    refine wa_iload hX dX12_draws_6 rfl ?_
    refine wa_aload_n hX (i := 1) dX12_draws_8 rfl rfl ?_
    refine wa_get hX 0 (by assumption) (by rfl) (by decide +kernel) dX12_draws_9 ?_
    refine wi_icmp_ne hX (tgt := 17) dX12_draws_12 (by decide) (by omega) (by omega) (fun c12 => ?_) (fun c12 => ?_)
    · skip
      refine wi_iconst hX dX12_draws_17 ?_
      refine wa_istore hX dX12_draws_18 (by first | rfl | assumption) ?_
      dsimp only [List.set]
      refine wi_iconst hX dX12_draws_20 ?_
      refine wa_istore hX dX12_draws_21 (by first | rfl | assumption) ?_
      dsimp only [List.set]
      refine WA.loop (σ := Nat) (fun k => (rk (2 ^ e - 1)) - k) (fun k => k ≤ (rk (2 ^ e - 1))) (fun _ => h) (fun k => [.val (.ref me), .val (.ref p), .val (.ref eq), .val (I (bs : Int)), .val (I (co : Int)), .val (I (f : Int)), .val (I (((rk (2 ^ e - 1)) : Nat) : Int)), .val (I ((f ^ k : Nat) : Int)), .val (I ((k : Nat) : Int)), .unset, .unset, .unset, .unset]) ?_ 0 (Nat.zero_le _)
      intro k hk ih
      have hpk : f ^ (k + 1) = f ^ k * f := Nat.pow_succ f k
      refine wa_iload hX dX12_draws_23 rfl ?_
      refine wa_iload hX dX12_draws_25 rfl ?_
      refine wi_icmp_ge hX (tgt := 43) dX12_draws_27 (by decide) (by omega) (by omega) (fun c27 => ?_) (fun c27 => ?_)
      · skip
        have hkr : k = (rk (2 ^ e - 1)) := by omega
        rw [hkr]
        refine wa_iload_n hX (i := 3) dX12_draws_43 rfl rfl ?_
        refine wa_iload hX dX12_draws_44 rfl ?_
        refine wn_ishr hX dX12_draws_46 (by rfl) (by rfl) (by omega) (by omega) ?_
        refine wi_iconst hX dX12_draws_47 ?_
        refine wn_iand hX dX12_draws_48 (by rfl) (by rfl) ?_
        rw [bit1]
        refine wi_iconst hX dX12_draws_49 ?_
        refine wi_icmp_ne hX (tgt := 57) dX12_draws_50 (by decide) (by first | exact b2n_inR _ | decide +kernel) (by first | exact b2n_inR _ | decide +kernel) (fun c50 => ?_) (fun c50 => ?_)
        · skip
          refine wi_iconst hX dX12_draws_57 ?_
          first
            | (have q1 : bs.testBit co = true := b2n_1 c50
               refine WA.eq rfl rfl ?_ t58
               rw [q1]
               rfl)
            | (have q1 : bs.testBit co = false := by
                 cases hb : bs.testBit co
                 · rfl
                 · rw [hb] at c50; exact absurd rfl c50
               refine WA.eq rfl rfl ?_ t58
               rw [q1]
               rfl)
        · skip
          refine wi_iconst hX dX12_draws_53 ?_
          refine wa_goto hX (tgt := 58) dX12_draws_54 (by decide) ?_
          first
            | (have q1 : bs.testBit co = true := b2n_1 c50
               refine WA.eq rfl rfl ?_ t58
               rw [q1]
               rfl)
            | (have q1 : bs.testBit co = false := by
                 cases hb : bs.testBit co
                 · rfl
                 · rw [hb] at c50; exact absurd rfl c50
               refine WA.eq rfl rfl ?_ t58
               rw [q1]
               rfl)
      · skip
        refine wa_iload hX dX12_draws_30 rfl ?_
        refine wa_iload hX dX12_draws_32 rfl ?_
        refine wi_imul hX dX12_draws_34 ?_
        rw [← Int.natCast_mul, ← hpk]
        refine wa_istore hX dX12_draws_35 (by first | rfl | assumption) ?_
        dsimp only [List.set]
        refine wi_iinc hX dX12_draws_37 rfl ?_
        dsimp only [List.set]
        refine wa_goto hX (tgt := 23) dX12_draws_40 (by decide) ?_
        exact ih (k + 1) (by omega) (by omega)
    · skip
      exfalso; omega
end C9k
