/-! The reference (X12): floorMod of what is below 0; rankOf -/
theorem fm_rem : ∀ n : Nat, n < 41 → ∀ f : Nat, f < 6 → 2 ≤ f → Int32.ofInt (-(n : Int)) - Int32.ofInt (-(n : Int)) / Int32.ofInt (f : Int) * Int32.ofInt (f : Int) = Int32.ofInt ((-(n : Int)).tmod (f : Int)) := by decide +kernel
theorem fm_xor : ∀ n : Nat, n < 41 → 1 ≤ n → ∀ f : Nat, f < 6 → 2 ≤ f → ¬ 0 ≤ (Int32.ofInt (-(n : Int)) ^^^ Int32.ofInt (f : Int)) := by decide +kernel
theorem fm_va : ∀ n : Nat, n < 41 → ∀ f : Nat, f < 6 → 2 ≤ f → ((-(n : Int)).tmod (f : Int) = 0 → (-(n : Int)) % (f : Int) = 0) := by decide +kernel
theorem fm_vb : ∀ n : Nat, n < 41 → ∀ f : Nat, f < 6 → 2 ≤ f → ((-(n : Int)).tmod (f : Int) = 0 ∨ (-(n : Int)) % (f : Int) = (-(n : Int)).tmod (f : Int) + (f : Int)) := by decide +kernel
theorem fm_vc : ∀ n : Nat, n < 41 → ∀ f : Nat, f < 6 → -50 ≤ (-(n : Int)).tmod (f : Int) ∧ (-(n : Int)).tmod (f : Int) ≤ 50 := by decide +kernel
theorem inv2 : ∀ z : Nat, z < 2 → 0 < z → 1 ≤ invN 2 z ∧ invN 2 z < 2 ∧ z * invN 2 z % 2 = 1 := by decide +kernel
theorem inv3 : ∀ z : Nat, z < 3 → 0 < z → 1 ≤ invN 3 z ∧ invN 3 z < 3 ∧ z * invN 3 z % 3 = 1 := by decide +kernel
theorem inv5 : ∀ z : Nat, z < 5 → 0 < z → 1 ≤ invN 5 z ∧ invN 5 z < 5 ∧ z * invN 5 z % 5 = 1 := by decide +kernel
theorem inu2 : ∀ z : Nat, z < 2 → ∀ t : Nat, t < 2 → z * t % 2 = 1 → t = invN 2 z := by decide +kernel
theorem inu3 : ∀ z : Nat, z < 3 → ∀ t : Nat, t < 3 → z * t % 3 = 1 → t = invN 3 z := by decide +kernel
theorem inu5 : ∀ z : Nat, z < 5 → ∀ t : Nat, t < 5 → z * t % 5 = 1 → t = invN 5 z := by decide +kernel
theorem inv_ex (f : Nat) (hf : f = 2 ∨ f = 3 ∨ f = 5) (z : Nat) (hz : z < f) (h0 : 0 < z) : (1 ≤ invN f z ∧ invN f z < f ∧ z * invN f z % f = 1) ∧ ∀ t, t < f → z * t % f = 1 → t = invN f z := by
  rcases hf with rfl | rfl | rfl
  · exact ⟨inv2 z hz h0, inu2 z hz⟩
  · exact ⟨inv3 z hz h0, inu3 z hz⟩
  · exact ⟨inv5 z hz h0, inu5 z hz⟩
theorem up_b2n {B : Nat → Bool} {k : Nat} (b : Bool) : up (fun j => ((b2n (B j) : Nat) : Int)) k ((b2n b : Nat) : Int) = fun j => ((b2n (up B k b j) : Nat) : Int) := by
  funext j
  by_cases g : j = k
  · subst g; rw [up_s, up_s]
  · rw [up_n g, up_n g]
/-- the pivot of row j -/
def pvM (W : Nat → Nat → Nat) (U : Nat → Bool) (set j : Nat) : Nat → Int
  | 0 => -1
  | c + 1 => if pvM W U set j c = -1 ∧ set.testBit c = true ∧ U c = false ∧ W c j ≠ 0 then (c : Int) else pvM W U set j c
def tmM (f : Nat) (W : Nat → Nat → Nat) (j p c : Nat) : Nat := W c j * invN f (W p j) % f
def clM (f : Nat) (W : Nat → Nat → Nat) (j p c k : Nat) : Nat := if c = p then W c k else (((W c k : Nat) : Int) - ((tmM f W j p c : Nat) : Int) * ((W p k : Nat) : Int)) % (f : Int) |>.toNat
def elM (f cols set : Nat) (W0 : Nat → Nat → Nat) : Nat → (Nat → Nat → Nat) × (Nat → Bool) × Nat
  | 0 => (W0, fun _ => false, 0)
  | j + 1 => if pvM (elM f cols set W0 j).1 (elM f cols set W0 j).2.1 set j cols = -1 then elM f cols set W0 j else (clM f (elM f cols set W0 j).1 j (pvM (elM f cols set W0 j).1 (elM f cols set W0 j).2.1 set j cols).toNat, up (elM f cols set W0 j).2.1 (pvM (elM f cols set W0 j).1 (elM f cols set W0 j).2.1 set j cols).toNat true, (elM f cols set W0 j).2.2 + 1)
def rkM (f rows cols set : Nat) (W0 : Nat → Nat → Nat) : Nat := (elM f cols set W0 rows).2.2
theorem pvM_ok {W : Nat → Nat → Nat} {U : Nat → Bool} {set j : Nat} : ∀ c, pvM W U set j c = -1 ∨ (0 ≤ pvM W U set j c ∧ pvM W U set j c < (c : Int) ∧ W (pvM W U set j c).toNat j ≠ 0) := by
  intro c
  induction c with
  | zero => exact Or.inl rfl
  | succ c ih =>
    unfold pvM
    split
    · rename_i h
      exact Or.inr ⟨by omega, by omega, by rw [Int.toNat_natCast]; exact h.2.2.2⟩
    · rcases ih with h | ⟨h1, h2, h3⟩
      · exact Or.inl h
      · exact Or.inr ⟨h1, by omega, h3⟩
theorem pvM_congr {W : Nat → Nat → Nat} {U U' : Nat → Bool} {set j : Nat} : ∀ c, (∀ i, i < c → U i = U' i) → pvM W U set j c = pvM W U' set j c := by
  intro c
  induction c with
  | zero => intro _; rfl
  | succ c ih =>
    intro h
    unfold pvM
    rw [ih (fun i hi => h i (by omega)), h c (by omega)]
theorem clM_lt {f j p c k : Nat} {W : Nat → Nat → Nat} (hf : 0 < f) (h : W c k < f) : clM f W j p c k < f := by
  unfold clM
  split
  · exact h
  · have h1 := Int.emod_nonneg (((W c k : Nat) : Int) - ((tmM f W j p c : Nat) : Int) * ((W p k : Nat) : Int)) (show (f : Int) ≠ 0 by omega)
    have h2 := Int.emod_lt_of_pos (((W c k : Nat) : Int) - ((tmM f W j p c : Nat) : Int) * ((W p k : Nat) : Int)) (show (0 : Int) < (f : Int) by omega)
    show Int.toNat _ < f
    omega
theorem elM_ok {f cols rows set : Nat} {W0 : Nat → Nat → Nat} (hf : 0 < f) (h : ∀ c, c < cols → ∀ k, k < rows → W0 c k < f) : ∀ j, (∀ c, c < cols → ∀ k, k < rows → (elM f cols set W0 j).1 c k < f) ∧ (elM f cols set W0 j).2.2 ≤ j := by
  intro j
  induction j with
  | zero => exact ⟨h, Nat.le_refl _⟩
  | succ j ih =>
    unfold elM
    split
    · exact ⟨ih.1, by omega⟩
    · exact ⟨fun c hc k hk => clM_lt hf (ih.1 c hc k hk), by show _ + 1 ≤ _; omega⟩
theorem idx_lt {rows cols c k : Nat} (hc : c < cols) (hk : k < rows) : rows * c + k < rows * cols := by
  have h1 : rows * (c + 1) ≤ rows * cols := Nat.mul_le_mul_left rows hc
  rw [Nat.mul_succ] at h1
  omega
theorem idx_inj {rows c k c' k' : Nat} (hk : k < rows) (hk' : k' < rows) (h : rows * c + k = rows * c' + k') : c = c' ∧ k = k' := by
  have h1 : c = c' := by
    have e1 : (rows * c + k) / rows = c := by rw [Nat.mul_add_div (by omega), Nat.div_eq_of_lt hk, Nat.add_zero]
    have e2 : (rows * c' + k') / rows = c' := by rw [Nat.mul_add_div (by omega), Nat.div_eq_of_lt hk', Nat.add_zero]
    rw [← e1, h, e2]
  subst h1
  exact ⟨rfl, by omega⟩
section C9g
variable {l : Launch} {D : va_G} {S0 : State}
set_option maxRecDepth 100000 in
theorem c_J9_floorModN (hW : WOK l D S0) (d : Nat) {h : AH} {n f : Nat} (hn : n < 41) (hn1 : 1 ≤ n) (hf : f < 6) (hf2 : 2 ≤ f) : MA l D S0 yJ9_floorMod_7cf53 cJ9_floorMod_7cf53 3 (some .int) d [I (-(n : Int)), I (f : Int)] h 0 0 (fun r h' => r = some (I ((-(n : Int)) % (f : Int))) ∧ h' = h) (fun _ _ => False) := by
  have v1 := fm_va n hn f hf hf2
  have v2 : ¬ (-(n : Int)).tmod (f : Int) = 0 → (-(n : Int)) % (f : Int) = (-(n : Int)).tmod (f : Int) + (f : Int) := fun q => (fm_vb n hn f hf hf2).resolve_left q
  obtain ⟨v3, v4⟩ := fm_vc n hn f hf
  refine MA.startF hW (by decide +kernel) [.val (I (-(n : Int))), .val (I (f : Int)), .unset] rfl ?_
  rintro X rfl rfl rfl hX
  refine wa_iload_n hX (i := 0) dJ9_floorMod_7cf53_0 rfl rfl ?_
  refine wa_iload_n hX (i := 1) dJ9_floorMod_7cf53_1 rfl rfl ?_
  refine wv_irem hX (z := (-(n : Int)).tmod (f : Int)) dJ9_floorMod_7cf53_2 ?_ (fm_rem n hn f hf hf2) ?_
  · rcases (by omega : f = 2 ∨ f = 3 ∨ f = 4 ∨ f = 5) with rfl | rfl | rfl | rfl <;> decide
  refine wa_istore_n hX (i := 2) dJ9_floorMod_7cf53_3 rfl rfl ?_
  dsimp only [List.set]
  refine wa_iload_n hX (i := 0) dJ9_floorMod_7cf53_4 rfl rfl ?_
  refine wa_iload_n hX (i := 1) dJ9_floorMod_7cf53_5 rfl rfl ?_
  refine wa_ixor hX dJ9_floorMod_7cf53_6 ?_
  refine wr_if_ge hX (tgt := 18) dJ9_floorMod_7cf53_7 (by decide) (fun q => absurd q (fm_xor n hn hn1 f hf hf2)) (fun _ => ?_)
  refine wa_iload_n hX (i := 2) dJ9_floorMod_7cf53_10 rfl rfl ?_
  refine wi_if_eq hX (tgt := 18) dJ9_floorMod_7cf53_11 (by decide) (by omega) (fun c11 => ?_) (fun c11 => ?_)
  · skip
    refine wa_iload_n hX (i := 2) dJ9_floorMod_7cf53_18 rfl rfl ?_
    refine wa_iret hX dJ9_floorMod_7cf53_19 ?_
    exact ⟨by rw [v1 c11, c11], rfl⟩
  · skip
    refine wa_iload_n hX (i := 2) dJ9_floorMod_7cf53_14 rfl rfl ?_
    refine wa_iload_n hX (i := 1) dJ9_floorMod_7cf53_15 rfl rfl ?_
    refine wi_iadd hX dJ9_floorMod_7cf53_16 ?_
    refine wa_iret hX dJ9_floorMod_7cf53_17 ?_
    exact ⟨by rw [v2 c11], rfl⟩
theorem c_J9_floorModZ (hW : WOK l D S0) (d : Nat) {h : AH} {x : Int} {f : Nat} (h1 : -40 ≤ x) (h2 : x < 1000) (hf : f < 6) (hf2 : 2 ≤ f) : MA l D S0 yJ9_floorMod_7cf53 cJ9_floorMod_7cf53 3 (some .int) d [I x, I (f : Int)] h 0 0 (fun r h' => r = some (I (x % (f : Int))) ∧ h' = h) (fun _ _ => False) := by
  by_cases g : 0 ≤ x
  · obtain ⟨a, rfl⟩ := Int.eq_ofNat_of_zero_le g
    have q := c_J9_floorMod hW d (h := h) (a := a) (b := f) (by omega) (by omega) (by omega)
    rw [Int.natCast_emod] at q
    exact q
  · obtain ⟨n, hn⟩ := Int.eq_ofNat_of_zero_le (show 0 ≤ -x by omega)
    have e : x = -(n : Int) := by omega
    rw [e]
    exact c_J9_floorModN hW d (by omega) (by omega) hf hf2
set_option maxHeartbeats 2000000 in
set_option maxRecDepth 100000 in
theorem c_X12_rankOf (hW : WOK l D S0) (d : Nat) {h : AH} {me row brk al wk us kp pt eq le NE rows cols set f : Nat} {th c0 : Int} {G WK : Nat → Int} {US : Nat → Bool} {W0 : Nat → Nat → Nat} (k1 : h me = some (120, oMod th c0 row brk al wk us kp pt)) (kw : h wk = some (125, aI .int 100 WK)) (ku : h us = some (126, aI .boolean 10 (fun j => ((b2n (US j) : Nat) : Int)))) (ke : h eq = some (le, aI .int NE G)) (hle : le ≠ 125 ∧ le ≠ 126) (hNE : rows * cols ≤ NE) (hn : rows * cols ≤ 100) (hr : rows ≤ 10) (hc : cols ≤ 10) (hset : set < 1024) (hf : f = 2 ∨ f = 3 ∨ f = 5) (hG : ∀ c, c < cols → ∀ k, k < rows → G (rows * c + k) = ((W0 c k : Nat) : Int)) (hG2 : ∀ c, c < cols → ∀ k, k < rows → W0 c k < f) : MA l D S0 yX12_rankOf cX12_rankOf 13 (some .int) (d + 1) [.ref me, .ref eq, I (rows : Int), I (cols : Int), I (set : Int), I (f : Int)] h 0 0 (fun r h' => r = some (I (rkM f rows cols set W0 : Nat)) ∧ Fr (fun x => x = 125 ∨ x = 126) h h' ∧ (∃ WK : Nat → Int, h' wk = some (125, aI .int 100 WK)) ∧ ∃ US : Nat → Bool, h' us = some (126, aI .boolean 10 (fun j => ((b2n (US j) : Nat) : Int)))) (fun _ _ => False) := by
  obtain ⟨n, hn9⟩ : ∃ n, rows * cols = n := ⟨_, rfl⟩
  have hf0 : 0 < f := by omega
  have hsp : ∀ x, x < n → 0 < rows ∧ x / rows < cols ∧ x % rows < rows ∧ rows * (x / rows) + x % rows = x := fun x hx => by
    have hr0 : 0 < rows := by
      apply Classical.byContradiction
      intro q
      have : rows = 0 := by omega
      rw [this, Nat.zero_mul] at hn9
      omega
    exact ⟨hr0, Nat.div_lt_of_lt_mul (by omega), Nat.mod_lt _ hr0, Nat.div_add_mod x rows⟩
  refine MA.start hW (by decide) [.val (.ref me), .val (.ref eq), .val (I (rows : Int)), .val (I (cols : Int)), .val (I (set : Int)), .val (I (f : Int)), .unset, .unset, .unset, .unset, .unset, .unset, .unset] rfl ?_
  rintro X rfl rfl rfl hX
  have t57 : ∀ (h2 : AH) (F : Nat → Int) (Us : Nat → Bool), (Fr (fun x => x = 125 ∨ x = 126) h h2 ∧ h2 wk = some (125, aI .int 100 F) ∧ h2 us = some (126, aI .boolean 10 (fun j => ((b2n (Us j) : Nat) : Int))) ∧ (∀ c, c < cols → ∀ k, k < rows → F (rows * c + k) = ((W0 c k : Nat) : Int)) ∧ (∀ c, c < cols → Us c = (fun _ => false) c)) → WA X h2 0 0 57 [.val (.ref me), .val (.ref eq), .val (I (rows : Int)), .val (I (cols : Int)), .val (I (set : Int)), .val (I (f : Int)), .val (I (((0 : Nat)) : Int)), .val (I (((0 : Nat)) : Int)), .unset, .unset, .unset, .unset, .unset] [] := by
    intro h2 F Us hinv
    refine WA.loop (σ := Nat × AH × (Nat → Int) × (Nat → Bool) × Slot × Slot × Slot × Slot × Slot) (fun z => rows - z.1) (fun z => z.1 ≤ rows ∧ (Fr (fun x => x = 125 ∨ x = 126) h z.2.1 ∧ z.2.1 wk = some (125, aI .int 100 z.2.2.1) ∧ z.2.1 us = some (126, aI .boolean 10 (fun j => ((b2n (z.2.2.2.1 j) : Nat) : Int))) ∧ (∀ c, c < cols → ∀ k, k < rows → z.2.2.1 (rows * c + k) = (((elM f cols set W0 z.1).1 c k : Nat) : Int)) ∧ (∀ c, c < cols → z.2.2.2.1 c = (elM f cols set W0 z.1).2.1 c)) ∧ okS [z.2.2.2.2.1] 0 = true ∧ okS [z.2.2.2.2.2.1] 0 = true ∧ okS [z.2.2.2.2.2.2.1] 0 = true ∧ okS [z.2.2.2.2.2.2.2.1] 0 = true ∧ okS [z.2.2.2.2.2.2.2.2] 0 = true) (fun z => z.2.1) (fun z => [.val (.ref me), .val (.ref eq), .val (I (rows : Int)), .val (I (cols : Int)), .val (I (set : Int)), .val (I (f : Int)), .val (I ((elM f cols set W0 z.1).2.2 : Nat)), .val (I (z.1 : Nat)), z.2.2.2.2.1, z.2.2.2.2.2.1, z.2.2.2.2.2.2.1, z.2.2.2.2.2.2.2.1, z.2.2.2.2.2.2.2.2]) ?_ (0, h2, F, Us, .unset, .unset, .unset, .unset, .unset) ⟨Nat.zero_le _, hinv, rfl, rfl, rfl, rfl, rfl⟩
    clear hinv h2 F Us
    rintro ⟨j, h2, F, Us, u8, u9, u10, u11, u12⟩ ⟨hj, ⟨f2, w2, s2, hF, hU⟩, hu8, hu9, hu10, hu11, hu12⟩ ih
    dsimp only at hj f2 w2 s2 hF hU hu8 hu9 hu10 hu11 hu12 ⊢
    have k2 := f2 _ _ _ k1 (by omega)
    obtain ⟨hel, her⟩ := elM_ok (set := set) hf0 hG2 j
    have hst : elM f cols set W0 (j + 1) = if pvM (elM f cols set W0 j).1 (elM f cols set W0 j).2.1 set j cols = -1 then elM f cols set W0 j else (clM f (elM f cols set W0 j).1 j (pvM (elM f cols set W0 j).1 (elM f cols set W0 j).2.1 set j cols).toNat, up (elM f cols set W0 j).2.1 (pvM (elM f cols set W0 j).1 (elM f cols set W0 j).2.1 set j cols).toNat true, (elM f cols set W0 j).2.2 + 1) := rfl
    have t270 : ∀ (h3 : AH) (F3 : Nat → Int) (Us3 : Nat → Bool) (rk : Nat) (u8 u9 u10 u11 u12 : Slot), okS [u8] 0 = true → okS [u9] 0 = true → okS [u10] 0 = true → okS [u11] 0 = true → okS [u12] 0 = true → j < rows → (Fr (fun x => x = 125 ∨ x = 126) h h3 ∧ h3 wk = some (125, aI .int 100 F3) ∧ h3 us = some (126, aI .boolean 10 (fun j => ((b2n (Us3 j) : Nat) : Int))) ∧ (∀ c, c < cols → ∀ k, k < rows → F3 (rows * c + k) = (((elM f cols set W0 (j + 1)).1 c k : Nat) : Int)) ∧ (∀ c, c < cols → Us3 c = (elM f cols set W0 (j + 1)).2.1 c)) → rk = (elM f cols set W0 (j + 1)).2.2 → WA X h3 0 0 270 [.val (.ref me), .val (.ref eq), .val (I (rows : Int)), .val (I (cols : Int)), .val (I (set : Int)), .val (I (f : Int)), .val (I (rk : Nat)), .val (I (j : Nat)), u8, u9, u10, u11, u12] [] := by
      intro h3 F3 Us3 rk u8 u9 u10 u11 u12 hu8 hu9 hu10 hu11 hu12 hjr hinv hrk
      subst hrk
      refine wi_iinc hX dX12_rankOf_270 rfl ?_
      dsimp only [List.set]
      refine wa_goto hX (tgt := 57) dX12_rankOf_273 (by decide) ?_
      exact ih (j + 1, h3, F3, Us3, u8, u9, u10, u11, u12) ⟨by show j + 1 ≤ rows; omega, hinv, hu8, hu9, hu10, hu11, hu12⟩ (by show rows - (j + 1) < rows - j; omega)
    have t69 : j < rows → ∀ u9, okS [u9] 0 = true → WA X h2 0 0 69 [.val (.ref me), .val (.ref eq), .val (I (rows : Int)), .val (I (cols : Int)), .val (I (set : Int)), .val (I (f : Int)), .val (I ((elM f cols set W0 j).2.2 : Nat)), .val (I (j : Nat)), .val (I (-1)), .val (I (((0 : Nat)) : Int)), u10, u11, u12] [] := by
      intro hjr u9 hu9
      refine WA.loop (σ := Nat) (fun c => cols - c) (fun c => c ≤ cols) (fun _ => h2) (fun c => [.val (.ref me), .val (.ref eq), .val (I (rows : Int)), .val (I (cols : Int)), .val (I (set : Int)), .val (I (f : Int)), .val (I ((elM f cols set W0 j).2.2 : Nat)), .val (I (j : Nat)), .val (I (pvM (elM f cols set W0 j).1 (elM f cols set W0 j).2.1 set j c)), .val (I (c : Nat)), u10, u11, u12]) ?_ 0 (Nat.zero_le _)
      intro c hcc ih2
      have hpv := pvM_ok (W := (elM f cols set W0 j).1) (U := (elM f cols set W0 j).2.1) (set := set) (j := j) c
      have hsc : pvM (elM f cols set W0 j).1 (elM f cols set W0 j).2.1 set j (c + 1) = if pvM (elM f cols set W0 j).1 (elM f cols set W0 j).2.1 set j c = -1 ∧ set.testBit c = true ∧ (elM f cols set W0 j).2.1 c = false ∧ (elM f cols set W0 j).1 c j ≠ 0 then (c : Int) else pvM (elM f cols set W0 j).1 (elM f cols set W0 j).2.1 set j c := rfl
      have t124 : ∀ v : Int, c < cols → v = pvM (elM f cols set W0 j).1 (elM f cols set W0 j).2.1 set j (c + 1) → WA X h2 0 0 124 [.val (.ref me), .val (.ref eq), .val (I (rows : Int)), .val (I (cols : Int)), .val (I (set : Int)), .val (I (f : Int)), .val (I ((elM f cols set W0 j).2.2 : Nat)), .val (I (j : Nat)), .val (I (pvM (elM f cols set W0 j).1 (elM f cols set W0 j).2.1 set j c)), .val (I (c : Nat)), u10, u11, u12] [I v] := by
        intro v hcl hv
        subst hv
        refine wa_istore hX dX12_rankOf_124 (by first | rfl | assumption) ?_
        dsimp only [List.set]
        refine wi_iinc hX dX12_rankOf_126 rfl ?_
        dsimp only [List.set]
        refine wa_goto hX (tgt := 69) dX12_rankOf_129 (by decide) ?_
        exact ih2 (c + 1) (by omega) (by omega)
      refine wa_iload hX dX12_rankOf_69 rfl ?_
      refine wa_iload_n hX (i := 3) dX12_rankOf_71 rfl rfl ?_
      refine wi_icmp_ge hX (tgt := 132) dX12_rankOf_72 (by decide) (by omega) (by omega) (fun c72 => ?_) (fun c72 => ?_)
      · skip
        have hce : c = cols := by omega
        rw [hce] at hpv ⊢
        clear ih2 hsc t124 hce hcc
        refine wa_iload hX dX12_rankOf_132 rfl ?_
        refine wi_iconst hX dX12_rankOf_134 ?_
        refine wi_icmp_eq hX (tgt := 270) dX12_rankOf_135 (by decide) (by omega) (by omega) (fun c135 => ?_) (fun c135 => ?_)
        · skip
          have hm1 : pvM (elM f cols set W0 j).1 (elM f cols set W0 j).2.1 set j cols = -1 := by omega
          rw [if_pos hm1] at hst
          exact t270 h2 F Us _ _ _ u10 u11 u12 rfl rfl hu10 hu11 hu12 hjr (by rw [hst]; exact ⟨f2, w2, s2, hF, hU⟩) (by rw [hst])
        · skip
          have hm1 : pvM (elM f cols set W0 j).1 (elM f cols set W0 j).2.1 set j cols ≠ -1 := by omega
          rw [if_neg hm1] at hst
          obtain ⟨p, hp⟩ : ∃ p : Nat, pvM (elM f cols set W0 j).1 (elM f cols set W0 j).2.1 set j cols = (p : Int) := by
            rcases hpv with q | ⟨q, _⟩
            · exact absurd q hm1
            · exact Int.eq_ofNat_of_zero_le q
          rw [hp] at hst hpv ⊢
          rw [Int.toNat_natCast] at hst hpv
          obtain ⟨hpc, hpn⟩ : p < cols ∧ (elM f cols set W0 j).1 p j ≠ 0 := by
            rcases hpv with q | ⟨_, q1, q2⟩
            · omega
            · exact ⟨by omega, q2⟩
          have hpj := hel p hpc j hjr
          have hixp := idx_lt (rows := rows) (cols := cols) (c := p) (k := j) hpc hjr
          obtain ⟨⟨i1, i2, i3⟩, i4⟩ := inv_ex f hf ((elM f cols set W0 j).1 p j) hpj (by omega)
          refine wa_aload_n hX (i := 0) dX12_rankOf_138 rfl rfl ?_
          refine wa_get hX 6 (by assumption) (by rfl) (by decide +kernel) dX12_rankOf_139 ?_
          refine wa_iload hX dX12_rankOf_142 rfl ?_
          refine wi_iconst hX dX12_rankOf_144 ?_
          refine wi_zastore hX s2 (by omega) (by omega) (by omega) (by rfl) dX12_rankOf_145 ?_
          rw [Int.toNat_natCast]
          refine WA.hgq (fun h3 hh3 => ?_)
          have f3 : Fr (fun x => x = 126) h2 h3 := by rw [hh3]; exact Fr.hset Fr.rf s2 rfl
          have s3 : h3 us = some (126, aI .boolean 10 (fun j => ((b2n (up Us p true j) : Nat) : Int))) := by rw [hh3, ← up_b2n]; exact hset_eq
          have w3 := f3 _ _ _ w2 (by decide)
          have k3 := f3 _ _ _ k2 (by decide)
          have f23 : Fr (fun x => x = 125 ∨ x = 126) h h3 := f2.trans (f3.mono (fun x hx => Or.inr hx))
          clear hh3
          refine wi_iinc hX dX12_rankOf_146 rfl ?_
          dsimp only [List.set]
          refine wa_aload_n hX (i := 0) dX12_rankOf_149 rfl rfl ?_
          refine wa_get hX 5 (by assumption) (by rfl) (by decide +kernel) dX12_rankOf_150 ?_
          refine wa_iload_n hX (i := 2) dX12_rankOf_153 rfl rfl ?_
          refine wa_iload hX dX12_rankOf_154 rfl ?_
          refine wi_imul hX dX12_rankOf_156 ?_
          refine wa_iload hX dX12_rankOf_157 rfl ?_
          refine wi_iadd hX dX12_rankOf_159 ?_
          rw [← Int.natCast_mul, ← Int.natCast_add]
          refine wi_iaload hX w3 (by omega) (by omega) (by omega) dX12_rankOf_160 ?_
          rw [Int.toNat_natCast, hF p hpc j hjr]
          refine wa_iload hX dX12_rankOf_161 rfl ?_
          refine wa_callS hX (c_X12_inverse hW d (z := (elM f cols set W0 j).1 p j) (f := f) (t0 := invN f ((elM f cols set W0 j).1 p j)) (by omega) (by omega) (by omega) ⟨i1, i2, i3⟩) (by rfl) (by omega) (nA := 2) (by rfl) (by decide +kernel) rfl (by exact Nat.le_of_ble_eq_true rfl) dX12_rankOf_163 (fun r163 h163 p163 => ?_) (fun _ _ q => q.elim)
          obtain ⟨hh163, t, rfl, -, t2, t3, -⟩ := p163
          subst h163
          have htv := i4 t t2 t3
          subst htv
          dsimp only [Option.toList, List.cons_append, List.nil_append]
          refine wa_istore hX dX12_rankOf_166 (by first | rfl | assumption) ?_
          dsimp only [List.set]
          refine wi_iconst hX dX12_rankOf_168 ?_
          refine wa_istore hX dX12_rankOf_169 (by first | rfl | assumption) ?_
          dsimp only [List.set]
          have t171 : ∀ (h4 : AH) (c : Nat) (F4 : Nat → Int) (u11 u12 : Slot), okS [u11] 0 = true → okS [u12] 0 = true → c ≤ cols → Fr (fun x => x = 125 ∨ x = 126) h h4 → h4 wk = some (125, aI .int 100 F4) → h4 us = some (126, aI .boolean 10 (fun j => ((b2n (up Us p true j) : Nat) : Int))) → (∀ c', c' < cols → ∀ k', k' < rows → F4 (rows * c' + k') = (((if c' < c ∨ (c' = c ∧ k' < 0) then clM f (elM f cols set W0 j).1 j p c' k' else (elM f cols set W0 j).1 c' k' : Nat)) : Int)) → WA X h4 0 0 171 [.val (.ref me), .val (.ref eq), .val (I (rows : Int)), .val (I (cols : Int)), .val (I (set : Int)), .val (I (f : Int)), .val (I ((elM f cols set W0 j).2.2 + 1 : Nat)), .val (I (j : Nat)), .val (I (p : Nat)), .val (I (invN f ((elM f cols set W0 j).1 p j) : Nat)), .val (I (c : Nat)), u11, u12] [] := by
            intro h4 c F4 u11 u12 hu11 hu12 hcc f4 w4 s4 hR
            refine WA.loop (σ := Nat × AH × (Nat → Int) × Slot × Slot) (fun y => cols - y.1) (fun y => y.1 ≤ cols ∧ Fr (fun x => x = 125 ∨ x = 126) h y.2.1 ∧ y.2.1 wk = some (125, aI .int 100 y.2.2.1) ∧ y.2.1 us = some (126, aI .boolean 10 (fun j => ((b2n (up Us p true j) : Nat) : Int))) ∧ (∀ c', c' < cols → ∀ k', k' < rows → y.2.2.1 (rows * c' + k') = (((if c' < y.1 ∨ (c' = y.1 ∧ k' < 0) then clM f (elM f cols set W0 j).1 j p c' k' else (elM f cols set W0 j).1 c' k' : Nat)) : Int)) ∧ okS [y.2.2.2.1] 0 = true ∧ okS [y.2.2.2.2] 0 = true) (fun y => y.2.1) (fun y => [.val (.ref me), .val (.ref eq), .val (I (rows : Int)), .val (I (cols : Int)), .val (I (set : Int)), .val (I (f : Int)), .val (I ((elM f cols set W0 j).2.2 + 1 : Nat)), .val (I (j : Nat)), .val (I (p : Nat)), .val (I (invN f ((elM f cols set W0 j).1 p j) : Nat)), .val (I (y.1 : Nat)), y.2.2.2.1, y.2.2.2.2]) ?_ (c, h4, F4, u11, u12) ⟨hcc, f4, w4, s4, hR, hu11, hu12⟩
            clear hcc f4 w4 s4 hR hu11 hu12 h4 c F4 u11 u12
            rintro ⟨c, h4, F4, u11, u12⟩ ⟨hcc, f4, w4, s4, hR, hu11, hu12⟩ ih3
            dsimp only at hcc f4 w4 s4 hR hu11 hu12 ⊢
            have k4 := f4 _ _ _ k1 (by omega)
            refine wa_iload hX dX12_rankOf_171 rfl ?_
            refine wa_iload_n hX (i := 3) dX12_rankOf_173 rfl rfl ?_
            refine wi_icmp_ge hX (tgt := 270) dX12_rankOf_174 (by decide) (by omega) (by omega) (fun c174 => ?_) (fun c174 => ?_)
            · skip
              have hce : c = cols := by omega
              refine t270 h4 F4 (up Us p true) _ _ _ _ u11 u12 rfl rfl rfl hu11 hu12 hjr ?_ (by rw [hst])
              rw [hst]
              refine ⟨f4, w4, s4, fun c' hc' k' hk' => ?_, fun c' hc' => ?_⟩
              · rw [hR c' hc' k' hk', if_pos (Or.inl (by omega))]
              · show up Us p true c' = up (elM f cols set W0 j).2.1 p true c'
                by_cases g : c' = p
                · subst g; rw [up_s, up_s]
                · rw [up_n g, up_n g]; exact hU c' hc'
            · skip
              have hcl : c < cols := by omega
              have hixc := idx_lt (rows := rows) (cols := cols) (c := c) (k := j) hcl hjr
              have hcj := hel c hcl j hjr
              have hF4 : F4 (rows * c + j) = (((elM f cols set W0 j).1 c j : Nat) : Int) := by rw [hR c hcl j hjr, if_neg (by omega)]
              have htl : tmM f (elM f cols set W0 j).1 j p c < f := Nat.mod_lt _ hf0
              have hml : (elM f cols set W0 j).1 c j * invN f ((elM f cols set W0 j).1 p j) ≤ 25 := Nat.mul_le_mul (show _ ≤ 5 by omega) (show _ ≤ 5 by omega)
              refine wa_aload_n hX (i := 0) dX12_rankOf_177 rfl rfl ?_
              refine wa_get hX 5 (by assumption) (by rfl) (by decide +kernel) dX12_rankOf_178 ?_
              refine wa_iload_n hX (i := 2) dX12_rankOf_181 rfl rfl ?_
              refine wa_iload hX dX12_rankOf_182 rfl ?_
              refine wi_imul hX dX12_rankOf_184 ?_
              refine wa_iload hX dX12_rankOf_185 rfl ?_
              refine wi_iadd hX dX12_rankOf_187 ?_
              rw [← Int.natCast_mul, ← Int.natCast_add]
              refine wi_iaload hX w4 (by omega) (by omega) (by omega) dX12_rankOf_188 ?_
              rw [Int.toNat_natCast, hF4]
              refine wa_iload hX dX12_rankOf_189 rfl ?_
              refine wi_imul hX dX12_rankOf_191 ?_
              refine wa_iload hX dX12_rankOf_192 rfl ?_
              rw [← Int.natCast_mul]
              refine wn_irem hX (a := (elM f cols set W0 j).1 c j * invN f ((elM f cols set W0 j).1 p j)) (b := f) dX12_rankOf_194 rfl rfl (by omega) (by omega) (by omega) ?_
              rw [show (elM f cols set W0 j).1 c j * invN f ((elM f cols set W0 j).1 p j) % f = tmM f (elM f cols set W0 j).1 j p c from rfl]
              refine wa_istore hX dX12_rankOf_195 (by first | rfl | assumption) ?_
              dsimp only [List.set]
              refine wi_iconst hX dX12_rankOf_197 ?_
              refine wa_istore hX dX12_rankOf_198 (by first | rfl | assumption) ?_
              dsimp only [List.set]
              refine WA.loop (σ := Nat × AH × (Nat → Int)) (fun y => rows - y.1) (fun y => y.1 ≤ rows ∧ Fr (fun x => x = 125 ∨ x = 126) h y.2.1 ∧ y.2.1 wk = some (125, aI .int 100 y.2.2) ∧ y.2.1 us = some (126, aI .boolean 10 (fun j => ((b2n (up Us p true j) : Nat) : Int))) ∧ (∀ c', c' < cols → ∀ k', k' < rows → y.2.2 (rows * c' + k') = (((if c' < c ∨ (c' = c ∧ k' < y.1) then clM f (elM f cols set W0 j).1 j p c' k' else (elM f cols set W0 j).1 c' k' : Nat)) : Int))) (fun y => y.2.1) (fun y => [.val (.ref me), .val (.ref eq), .val (I (rows : Int)), .val (I (cols : Int)), .val (I (set : Int)), .val (I (f : Int)), .val (I ((elM f cols set W0 j).2.2 + 1 : Nat)), .val (I (j : Nat)), .val (I (p : Nat)), .val (I (invN f ((elM f cols set W0 j).1 p j) : Nat)), .val (I (c : Nat)), .val (I (tmM f (elM f cols set W0 j).1 j p c : Nat)), .val (I (y.1 : Nat))]) ?_ (0, h4, F4) ⟨Nat.zero_le _, f4, w4, s4, hR⟩
              rintro ⟨k, h5, F5⟩ ⟨hk, f5, w5, s5, hR5⟩ ih4
              dsimp only at hk f5 w5 s5 hR5 ⊢
              have k5 := f5 _ _ _ k1 (by omega)
              have t264 : ∀ u12 : Slot, okS [u12] 0 = true → (k = rows ∨ c = p) → WA X h5 0 0 264 [.val (.ref me), .val (.ref eq), .val (I (rows : Int)), .val (I (cols : Int)), .val (I (set : Int)), .val (I (f : Int)), .val (I ((elM f cols set W0 j).2.2 + 1 : Nat)), .val (I (j : Nat)), .val (I (p : Nat)), .val (I (invN f ((elM f cols set W0 j).1 p j) : Nat)), .val (I (c : Nat)), .val (I (tmM f (elM f cols set W0 j).1 j p c : Nat)), u12] [] := by
                intro u12 hu12 hor
                refine wi_iinc hX dX12_rankOf_264 rfl ?_
                dsimp only [List.set]
                refine wa_goto hX (tgt := 171) dX12_rankOf_267 (by decide) ?_
                refine ih3 (c + 1, h5, F5, .val (I ((tmM f (elM f cols set W0 j).1 j p c : Nat) : Int)), u12) ⟨by show c + 1 ≤ cols; omega, f5, w5, s5, fun c' hc' k' hk' => ?_, rfl, hu12⟩ (by show cols - (c + 1) < cols - c; omega)
                show F5 (rows * c' + k') = _
                rw [hR5 c' hc' k' hk']
                by_cases g1 : c' < c
                · rw [if_pos (Or.inl g1), if_pos (Or.inl (show c' < c + 1 by omega))]
                · by_cases g2 : c' = c
                  · subst g2
                    rw [if_pos (Or.inl (show c' < c' + 1 by omega))]
                    rcases hor with q | q
                    · rw [if_pos (Or.inr ⟨rfl, by omega⟩)]
                    · have e9 : clM f (elM f cols set W0 j).1 j p c' k' = (elM f cols set W0 j).1 c' k' := by
                        unfold clM
                        rw [if_pos q]
                      split
                      · rfl
                      · rw [e9]
                  · rw [if_neg (by omega), if_neg (by show ¬ (c' < c + 1 ∨ (c' = c + 1 ∧ k' < 0)); omega)]
              refine wa_iload hX dX12_rankOf_200 rfl ?_
              refine wa_iload_n hX (i := 2) dX12_rankOf_202 rfl rfl ?_
              refine wi_icmp_ge hX (tgt := 264) dX12_rankOf_203 (by decide) (by omega) (by omega) (fun c203 => ?_) (fun c203 => ?_)
              · skip
                first
                  | exact t264 _ rfl (Or.inl (by omega))
                  | exact t264 _ rfl (Or.inr (by omega))
              · skip
                refine wa_iload hX dX12_rankOf_206 rfl ?_
                refine wa_iload hX dX12_rankOf_208 rfl ?_
                refine wi_icmp_eq hX (tgt := 264) dX12_rankOf_210 (by decide) (by omega) (by omega) (fun c210 => ?_) (fun c210 => ?_)
                · skip
                  first
                    | exact t264 _ rfl (Or.inl (by omega))
                    | exact t264 _ rfl (Or.inr (by omega))
                · skip
                  have hkr : k < rows := by omega
                  have hcp : c ≠ p := by omega
                  have hixa := idx_lt (rows := rows) (cols := cols) (c := c) (k := k) hcl hkr
                  have hixb := idx_lt (rows := rows) (cols := cols) (c := p) (k := k) hpc hkr
                  have hv1 : F5 (rows * c + k) = (((elM f cols set W0 j).1 c k : Nat) : Int) := by rw [hR5 c hcl k hkr, if_neg (by omega)]
                  have hv2 : F5 (rows * p + k) = (((elM f cols set W0 j).1 p k : Nat) : Int) := by
                    rw [hR5 p hpc k hkr]
                    split
                    · unfold clM
                      rw [if_pos rfl]
                    · rfl
                  have hl1 := hel c hcl k hkr
                  have hl2 := hel p hpc k hkr
                  have hml2 : tmM f (elM f cols set W0 j).1 j p c * (elM f cols set W0 j).1 p k ≤ 25 := Nat.mul_le_mul (show _ ≤ 5 by omega) (show _ ≤ 5 by omega)
                  have hcv : clM f (elM f cols set W0 j).1 j p c k = (((((elM f cols set W0 j).1 c k : Nat) : Int) - ((tmM f (elM f cols set W0 j).1 j p c : Nat) : Int) * (((elM f cols set W0 j).1 p k : Nat) : Int)) % (f : Int)).toNat := by
                    unfold clM
                    rw [if_neg hcp]
                  have hcz := Int.emod_nonneg ((((elM f cols set W0 j).1 c k : Nat) : Int) - ((tmM f (elM f cols set W0 j).1 j p c : Nat) : Int) * (((elM f cols set W0 j).1 p k : Nat) : Int)) (show (f : Int) ≠ 0 by omega)
                  refine wa_aload_n hX (i := 0) dX12_rankOf_213 rfl rfl ?_
                  refine wa_get hX 5 (by assumption) (by rfl) (by decide +kernel) dX12_rankOf_214 ?_
                  refine wa_iload_n hX (i := 2) dX12_rankOf_217 rfl rfl ?_
                  refine wa_iload hX dX12_rankOf_218 rfl ?_
                  refine wi_imul hX dX12_rankOf_220 ?_
                  refine wa_iload hX dX12_rankOf_221 rfl ?_
                  refine wi_iadd hX dX12_rankOf_223 ?_
                  rw [← Int.natCast_mul, ← Int.natCast_add]
                  refine wa_aload_n hX (i := 0) dX12_rankOf_224 rfl rfl ?_
                  refine wa_get hX 5 (by assumption) (by rfl) (by decide +kernel) dX12_rankOf_225 ?_
                  refine wa_iload_n hX (i := 2) dX12_rankOf_228 rfl rfl ?_
                  refine wa_iload hX dX12_rankOf_229 rfl ?_
                  refine wi_imul hX dX12_rankOf_231 ?_
                  refine wa_iload hX dX12_rankOf_232 rfl ?_
                  refine wi_iadd hX dX12_rankOf_234 ?_
                  rw [← Int.natCast_mul, ← Int.natCast_add]
                  refine wi_iaload hX w5 (by omega) (by omega) (by omega) dX12_rankOf_235 ?_
                  rw [Int.toNat_natCast, hv1]
                  refine wa_iload hX dX12_rankOf_236 rfl ?_
                  refine wa_aload_n hX (i := 0) dX12_rankOf_238 rfl rfl ?_
                  refine wa_get hX 5 (by assumption) (by rfl) (by decide +kernel) dX12_rankOf_239 ?_
                  refine wa_iload_n hX (i := 2) dX12_rankOf_242 rfl rfl ?_
                  refine wa_iload hX dX12_rankOf_243 rfl ?_
                  refine wi_imul hX dX12_rankOf_245 ?_
                  refine wa_iload hX dX12_rankOf_246 rfl ?_
                  refine wi_iadd hX dX12_rankOf_248 ?_
                  rw [← Int.natCast_mul, ← Int.natCast_add]
                  refine wi_iaload hX w5 (by omega) (by omega) (by omega) dX12_rankOf_249 ?_
                  rw [Int.toNat_natCast, hv2]
                  refine wi_imul hX dX12_rankOf_250 ?_
                  refine wi_isub hX dX12_rankOf_251 ?_
                  refine wa_iload hX dX12_rankOf_252 rfl ?_
                  have hmn : ((tmM f (elM f cols set W0 j).1 j p c : Nat) : Int) * (((elM f cols set W0 j).1 p k : Nat) : Int) = ((tmM f (elM f cols set W0 j).1 j p c * (elM f cols set W0 j).1 p k : Nat) : Int) := (Int.natCast_mul _ _).symm
                  refine wa_callS hX (c_J9_floorModZ hW d (x := (((elM f cols set W0 j).1 c k : Nat) : Int) - ((tmM f (elM f cols set W0 j).1 j p c : Nat) : Int) * (((elM f cols set W0 j).1 p k : Nat) : Int)) (f := f) (by rw [hmn]; omega) (by rw [hmn]; omega) (by omega) (by omega)) (by rfl) (by omega) (nA := 2) (by rfl) (by decide +kernel) rfl (by exact Nat.le_of_ble_eq_true rfl) dX12_rankOf_254 (fun r254 h254 p254 => ?_) (fun _ _ q => q.elim)
                  obtain ⟨rfl, qq254⟩ := p254; subst h254
                  dsimp only [Option.toList, List.cons_append, List.nil_append]
                  rw [show ((((elM f cols set W0 j).1 c k : Nat) : Int) - ((tmM f (elM f cols set W0 j).1 j p c : Nat) : Int) * (((elM f cols set W0 j).1 p k : Nat) : Int)) % (f : Int) = ((clM f (elM f cols set W0 j).1 j p c k : Nat) : Int) by rw [hcv]; exact (Int.toNat_of_nonneg hcz).symm]
                  refine wi_iastore hX w5 (by omega) (by omega) (by omega) dX12_rankOf_257 ?_
                  rw [Int.toNat_natCast]
                  refine WA.hgq (fun h6 hh6 => ?_)
                  have f6 : Fr (fun x => x = 125) h5 h6 := by rw [hh6]; exact Fr.hset Fr.rf w5 rfl
                  have w6 : h6 wk = some (125, aI .int 100 (up F5 (rows * c + k) ((clM f (elM f cols set W0 j).1 j p c k : Nat) : Int))) := by rw [hh6]; exact hset_eq
                  have s6 := f6 _ _ _ s5 (by decide)
                  clear hh6
                  refine wi_iinc hX dX12_rankOf_258 rfl ?_
                  dsimp only [List.set]
                  refine wa_goto hX (tgt := 200) dX12_rankOf_261 (by decide) ?_
                  refine ih4 (k + 1, h6, up F5 (rows * c + k) ((clM f (elM f cols set W0 j).1 j p c k : Nat) : Int)) ⟨by show k + 1 ≤ rows; omega, f5.trans (f6.mono (fun x hx => Or.inl hx)), w6, s6, fun c' hc' k' hk' => ?_⟩ (by show rows - (k + 1) < rows - k; omega)
                  show up F5 (rows * c + k) ((clM f (elM f cols set W0 j).1 j p c k : Nat) : Int) (rows * c' + k') = _
                  by_cases g : rows * c' + k' = rows * c + k
                  · obtain ⟨rfl, rfl⟩ := idx_inj hk' hkr g
                    rw [up_s, if_pos (Or.inr ⟨rfl, Nat.lt_succ_self _⟩)]
                  · rw [up_n g, hR5 c' hc' k' hk']
                    by_cases g1 : c' < c ∨ (c' = c ∧ k' < k)
                    · rw [if_pos g1, if_pos (by rcases g1 with q | ⟨q1, q2⟩; exact Or.inl q; exact Or.inr ⟨q1, by omega⟩)]
                    · rw [if_neg g1, if_neg]
                      rintro (q | ⟨q1, q2⟩)
                      · exact g1 (Or.inl q)
                      · subst q1
                        have : k' = k := by omega
                        subst this
                        exact g rfl
          exact t171 h3 0 F u11 u12 hu11 hu12 (Nat.zero_le _) f23 w3 s3 (fun c' hc' k' hk' => by rw [hF c' hc' k' hk', if_neg (by omega)])
      · skip
        refine wa_iload hX dX12_rankOf_75 rfl ?_
        refine wi_iconst hX dX12_rankOf_77 ?_
        refine wi_icmp_ne hX (tgt := 122) dX12_rankOf_78 (by decide) (by omega) (by omega) (fun c78 => ?_) (fun c78 => ?_)
        · skip
          refine wa_iload hX dX12_rankOf_122 rfl ?_
          first
            | (have q1 : set.testBit c = true := b2n_1 c89
               have q2 := b2n_f c99
               refine t124 (c : Int) (by omega) ?_
               rw [hsc, if_pos ⟨by omega, q1, q2, by omega⟩])
            | (refine t124 _ (by omega) ?_
               rw [hsc, if_neg]
               rintro ⟨y1, y2, y3, y4⟩
               first
                 | (rw [y2] at c89; exact c89 rfl)
                 | (rw [y3] at c99; exact c99 rfl)
                 | omega)
        · skip
          have hix := idx_lt (rows := rows) (cols := cols) (c := c) (k := j) (by omega) hjr
          have hel9 := hel c (by omega) j hjr
          refine wa_iload hX dX12_rankOf_81 rfl ?_
          refine wa_iload hX dX12_rankOf_83 rfl ?_
          refine wn_ishr hX dX12_rankOf_85 (by rfl) (by rfl) (by omega) (by omega) ?_
          refine wi_iconst hX dX12_rankOf_86 ?_
          refine wn_iand hX dX12_rankOf_87 (by rfl) (by rfl) ?_
          rw [bit1]
          refine wi_iconst hX dX12_rankOf_88 ?_
          refine wi_icmp_ne hX (tgt := 122) dX12_rankOf_89 (by decide) (by first | exact b2n_inR _ | decide +kernel) (by first | exact b2n_inR _ | decide +kernel) (fun c89 => ?_) (fun c89 => ?_)
          · skip
            refine wa_iload hX dX12_rankOf_122 rfl ?_
            first
              | (have q1 : set.testBit c = true := b2n_1 c89
                 have q2 := b2n_f c99
                 refine t124 (c : Int) (by omega) ?_
                 rw [hsc, if_pos ⟨by omega, q1, q2, by omega⟩])
              | (refine t124 _ (by omega) ?_
                 rw [hsc, if_neg]
                 rintro ⟨y1, y2, y3, y4⟩
                 first
                   | (rw [y2] at c89; exact c89 rfl)
                   | (rw [y3] at c99; exact c99 rfl)
                   | omega)
          · skip
            refine wa_aload_n hX (i := 0) dX12_rankOf_92 rfl rfl ?_
            refine wa_get hX 6 (by assumption) (by rfl) (by decide +kernel) dX12_rankOf_93 ?_
            refine wa_iload hX dX12_rankOf_96 rfl ?_
            refine wi_zaload hX s2 (by omega) (by omega) (by omega) dX12_rankOf_98 ?_
            rw [Int.toNat_natCast, hU c (by omega)]
            refine wi_if_ne hX (tgt := 122) dX12_rankOf_99 (by decide) (by exact b2n_inR _) (fun c99 => ?_) (fun c99 => ?_)
            · skip
              refine wa_iload hX dX12_rankOf_122 rfl ?_
              first
                | (have q1 : set.testBit c = true := b2n_1 c89
                   have q2 := b2n_f c99
                   refine t124 (c : Int) (by omega) ?_
                   rw [hsc, if_pos ⟨by omega, q1, q2, by omega⟩])
                | (refine t124 _ (by omega) ?_
                   rw [hsc, if_neg]
                   rintro ⟨y1, y2, y3, y4⟩
                   first
                     | (rw [y2] at c89; exact c89 rfl)
                     | (rw [y3] at c99; exact c99 rfl)
                     | omega)
            · skip
              refine wa_aload_n hX (i := 0) dX12_rankOf_102 rfl rfl ?_
              refine wa_get hX 5 (by assumption) (by rfl) (by decide +kernel) dX12_rankOf_103 ?_
              refine wa_iload_n hX (i := 2) dX12_rankOf_106 rfl rfl ?_
              refine wa_iload hX dX12_rankOf_107 rfl ?_
              refine wi_imul hX dX12_rankOf_109 ?_
              refine wa_iload hX dX12_rankOf_110 rfl ?_
              refine wi_iadd hX dX12_rankOf_112 ?_
              rw [← Int.natCast_mul, ← Int.natCast_add]
              refine wi_iaload hX w2 (by omega) (by omega) (by omega) dX12_rankOf_113 ?_
              rw [Int.toNat_natCast, hF c (by omega) j hjr]
              refine wi_if_eq hX (tgt := 122) dX12_rankOf_114 (by decide) (by omega) (fun c114 => ?_) (fun c114 => ?_)
              · skip
                refine wa_iload hX dX12_rankOf_122 rfl ?_
                first
                  | (have q1 : set.testBit c = true := b2n_1 c89
                     have q2 := b2n_f c99
                     refine t124 (c : Int) (by omega) ?_
                     rw [hsc, if_pos ⟨by omega, q1, q2, by omega⟩])
                  | (refine t124 _ (by omega) ?_
                     rw [hsc, if_neg]
                     rintro ⟨y1, y2, y3, y4⟩
                     first
                       | (rw [y2] at c89; exact c89 rfl)
                       | (rw [y3] at c99; exact c99 rfl)
                       | omega)
              · skip
                refine wa_iload hX dX12_rankOf_117 rfl ?_
                refine wa_goto hX (tgt := 124) dX12_rankOf_119 (by decide) ?_
                first
                  | (have q1 : set.testBit c = true := b2n_1 c89
                     have q2 := b2n_f c99
                     refine t124 (c : Int) (by omega) ?_
                     rw [hsc, if_pos ⟨by omega, q1, q2, by omega⟩])
                  | (refine t124 _ (by omega) ?_
                     rw [hsc, if_neg]
                     rintro ⟨y1, y2, y3, y4⟩
                     first
                       | (rw [y2] at c89; exact c89 rfl)
                       | (rw [y3] at c99; exact c99 rfl)
                       | omega)
    refine wa_iload hX dX12_rankOf_57 rfl ?_
    refine wa_iload_n hX (i := 2) dX12_rankOf_59 rfl rfl ?_
    refine wi_icmp_ge hX (tgt := 276) dX12_rankOf_60 (by decide) (by omega) (by omega) (fun c60 => ?_) (fun c60 => ?_)
    · skip
      refine wa_iload hX dX12_rankOf_276 rfl ?_
      refine wa_iret hX dX12_rankOf_278 ?_
      have hje : j = rows := by omega
      refine ⟨by rw [hje]; rfl, f2, ⟨_, w2⟩, ⟨_, s2⟩⟩
    · skip
      refine wi_iconst hX dX12_rankOf_63 ?_
      refine wa_istore hX dX12_rankOf_64 (by first | rfl | assumption) ?_
      dsimp only [List.set]
      refine wi_iconst hX dX12_rankOf_66 ?_
      refine wa_istore hX dX12_rankOf_67 (by first | rfl | assumption) ?_
      dsimp only [List.set]
      exact t69 (by omega) u9 hu9
  refine wi_iconst hX dX12_rankOf_0 ?_
  refine wa_istore hX dX12_rankOf_1 (by first | rfl | assumption) ?_
  dsimp only [List.set]
  refine WA.loop (σ := Nat × AH × (Nat → Int)) (fun z => n - z.1) (fun z => z.1 ≤ n ∧ Fr (fun x => x = 125 ∨ x = 126) h z.2.1 ∧ z.2.1 wk = some (125, aI .int 100 z.2.2) ∧ z.2.1 us = some (126, aI .boolean 10 (fun j => ((b2n (US j) : Nat) : Int))) ∧ ∀ x, x < z.1 → z.2.2 x = G x) (fun z => z.2.1) (fun z => [.val (.ref me), .val (.ref eq), .val (I (rows : Int)), .val (I (cols : Int)), .val (I (set : Int)), .val (I (f : Int)), .val (I (z.1 : Nat)), .unset, .unset, .unset, .unset, .unset, .unset]) ?_ (0, h, WK) ⟨Nat.zero_le _, Fr.rf, kw, ku, fun x hx => absurd hx (Nat.not_lt_zero x)⟩
  rintro ⟨z, h2, F⟩ ⟨hz, f2, w2, s2, hF⟩ ih
  dsimp only at hz f2 w2 s2 hF ⊢
  have k2 := f2 _ _ _ k1 (by omega)
  have e2 := f2 _ _ _ ke (by omega)
  refine wa_iload hX dX12_rankOf_3 rfl ?_
  refine wa_iload_n hX (i := 2) dX12_rankOf_5 rfl rfl ?_
  refine wa_iload_n hX (i := 3) dX12_rankOf_6 rfl rfl ?_
  refine wi_imul hX dX12_rankOf_7 ?_
  rw [← Int.natCast_mul, hn9]
  refine wi_icmp_ge hX (tgt := 28) dX12_rankOf_8 (by decide) (by omega) (by omega) (fun c8 => ?_) (fun c8 => ?_)
  · skip
    refine wi_iconst hX dX12_rankOf_28 ?_
    refine wa_istore hX dX12_rankOf_29 (by first | rfl | assumption) ?_
    dsimp only [List.set]
    have hFG : ∀ c, c < cols → ∀ k, k < rows → F (rows * c + k) = ((W0 c k : Nat) : Int) := fun c hc k hk => by
      have := idx_lt (rows := rows) (cols := cols) hc hk
      rw [hF _ (by omega)]
      exact hG c hc k hk
    refine WA.loop (σ := Nat × AH × (Nat → Bool)) (fun y => cols - y.1) (fun y => y.1 ≤ cols ∧ Fr (fun x => x = 125 ∨ x = 126) h y.2.1 ∧ y.2.1 wk = some (125, aI .int 100 F) ∧ y.2.1 us = some (126, aI .boolean 10 (fun j => ((b2n (y.2.2 j) : Nat) : Int))) ∧ ∀ c, c < y.1 → y.2.2 c = false) (fun y => y.2.1) (fun y => [.val (.ref me), .val (.ref eq), .val (I (rows : Int)), .val (I (cols : Int)), .val (I (set : Int)), .val (I (f : Int)), .val (I (y.1 : Nat)), .unset, .unset, .unset, .unset, .unset, .unset]) ?_ (0, h2, US) ⟨Nat.zero_le _, f2, w2, s2, fun c hc => absurd hc (Nat.not_lt_zero c)⟩
    clear ih f2 w2 s2 k2 e2 hF h2 hz
    rintro ⟨c, h2, Us⟩ ⟨hcc, f2, w2, s2, hU⟩ ih2
    dsimp only at hcc f2 w2 s2 hU ⊢
    have k2 := f2 _ _ _ k1 (by omega)
    refine wa_iload hX dX12_rankOf_31 rfl ?_
    refine wa_iload_n hX (i := 3) dX12_rankOf_33 rfl rfl ?_
    refine wi_icmp_ge hX (tgt := 51) dX12_rankOf_34 (by decide) (by omega) (by omega) (fun c34 => ?_) (fun c34 => ?_)
    · skip
      refine wi_iconst hX dX12_rankOf_51 ?_
      refine wa_istore hX dX12_rankOf_52 (by first | rfl | assumption) ?_
      dsimp only [List.set]
      refine wi_iconst hX dX12_rankOf_54 ?_
      refine wa_istore hX dX12_rankOf_55 (by first | rfl | assumption) ?_
      dsimp only [List.set]
      exact t57 h2 F Us ⟨f2, w2, s2, hFG, fun c' hc' => hU c' (by omega)⟩
    · skip
      refine wa_aload_n hX (i := 0) dX12_rankOf_37 rfl rfl ?_
      refine wa_get hX 6 (by assumption) (by rfl) (by decide +kernel) dX12_rankOf_38 ?_
      refine wa_iload hX dX12_rankOf_41 rfl ?_
      refine wi_iconst hX dX12_rankOf_43 ?_
      refine wi_zastore hX s2 (by omega) (by omega) (by omega) (by rfl) dX12_rankOf_44 ?_
      rw [Int.toNat_natCast]
      refine WA.hgq (fun h3 hh3 => ?_)
      have f3 : Fr (fun x => x = 126) h2 h3 := by rw [hh3]; exact Fr.hset Fr.rf s2 rfl
      have s3 : h3 us = some (126, aI .boolean 10 (fun j => ((b2n (up Us c false j) : Nat) : Int))) := by rw [hh3, ← up_b2n]; exact hset_eq
      have w3 := f3 _ _ _ w2 (by decide)
      clear hh3
      refine wi_iinc hX dX12_rankOf_45 rfl ?_
      dsimp only [List.set]
      refine wa_goto hX (tgt := 31) dX12_rankOf_48 (by decide) ?_
      refine ih2 (c + 1, h3, up Us c false) ⟨by show c + 1 ≤ cols; omega, f2.trans (f3.mono (fun x hx => Or.inr hx)), w3, s3, fun c' hc' => ?_⟩ (by show cols - (c + 1) < cols - c; omega)
      have hc2 : c' < c + 1 := hc'
      show up Us c false c' = false
      by_cases g : c' = c
      · subst g; rw [up_s]
      · rw [up_n g]; exact hU c' (by omega)
  · skip
    refine wa_aload_n hX (i := 0) dX12_rankOf_11 rfl rfl ?_
    refine wa_get hX 5 (by assumption) (by rfl) (by decide +kernel) dX12_rankOf_12 ?_
    have hzn : z < n := by omega
    obtain ⟨y1, y2, y3, y4⟩ := hsp z hzn
    have hGz := hG _ y2 _ y3
    rw [y4] at hGz
    have hGl := hG2 _ y2 _ y3
    refine wa_iload hX dX12_rankOf_15 rfl ?_
    refine wa_aload_n hX (i := 1) dX12_rankOf_17 rfl rfl ?_
    refine wa_iload hX dX12_rankOf_18 rfl ?_
    refine wi_iaload hX e2 (by omega) (by omega) (by omega) dX12_rankOf_20 ?_
    rw [Int.toNat_natCast]
    refine wi_iastore hX w2 (by omega) (by omega) (by omega) dX12_rankOf_21 ?_
    rw [Int.toNat_natCast]
    refine WA.hgq (fun h3 hh3 => ?_)
    have f3 : Fr (fun x => x = 125) h2 h3 := by rw [hh3]; exact Fr.hset Fr.rf w2 rfl
    have w3 : h3 wk = some (125, aI .int 100 (up F z (G z))) := by rw [hh3]; exact hset_eq
    have s3 := f3 _ _ _ s2 (by decide)
    clear hh3
    refine wi_iinc hX dX12_rankOf_22 rfl ?_
    dsimp only [List.set]
    refine wa_goto hX (tgt := 3) dX12_rankOf_25 (by decide) ?_
    exact ih (z + 1, h3, up F z (G z)) ⟨by show z + 1 ≤ n; omega, f2.trans (f3.mono (fun x hx => Or.inl hx)), w3, s3, fill_step (spec := G) hF⟩ (by show n - (z + 1) < n - z; omega)
end C9g
