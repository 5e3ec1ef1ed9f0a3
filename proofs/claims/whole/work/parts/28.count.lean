/-! Circuitfold$Counting (X1); Circuitfold$Matroid's constructor (X6) -/
abbrev Lg (z : Int) : Value := .long (Int64.ofInt z)
theorem i2l_I {z : Int} (hz : inR z) : (Int32.ofInt z).toInt64 = Int64.ofInt z := by
  have e1 : (Int32.ofInt z).toInt = z := by
    obtain ⟨h1, h2⟩ := hz
    exact Int32.toInt_ofInt_of_le h1 (by omega)
  rw [← Int64.ofInt_toInt (Int32.ofInt z).toInt64, Int32.toInt_toInt64, e1]
section LY9
variable {X : Cx} {own : String} {cc : ByteArray} {nL : Nat} {ret : Option FieldType} {nm : String} {d : Nat} {post : Option Value → AH → Prop} {px : String → AH → Prop} {h : AH} {k sl pc : Nat} {ls : List Slot} {rest : List Value}
theorem wl_add (hX : Ok X own cc nL ret nm d post px) {x y : Int} (dg : decode cc pc = .ok (.ladd, 1)) (k' : WA X h k sl (pc + 1) ls (Lg (x + y) :: rest)) : WA X h k sl pc ls (Lg y :: Lg x :: rest) :=
  wa_ladd hX dg (by rw [← Int64.ofInt_add]; exact k')
theorem wl_mul (hX : Ok X own cc nL ret nm d post px) {x y : Int} (dg : decode cc pc = .ok (.lmul, 1)) (k' : WA X h k sl (pc + 1) ls (Lg (x * y) :: rest)) : WA X h k sl pc ls (Lg y :: Lg x :: rest) :=
  wa_lmul hX dg (by rw [← Int64.ofInt_mul]; exact k')
theorem wl_i2l (hX : Ok X own cc nL ret nm d post px) {x : Int} (dg : decode cc pc = .ok (.i2l, 1)) (hx : inR x) (k' : WA X h k sl (pc + 1) ls (Lg x :: rest)) : WA X h k sl pc ls (I x :: rest) :=
  wa_i2l hX dg (by rw [i2l_I hx]; exact k')
theorem wl_const0 (hX : Ok X own cc nL ret nm d post px) (dg : decode cc pc = .ok (.lconst 0, 1)) (k' : WA X h k sl (pc + 1) ls (Lg 0 :: rest)) : WA X h k sl pc ls rest := wa_lconst hX dg k'
theorem wl_const1 (hX : Ok X own cc nL ret nm d post px) (dg : decode cc pc = .ok (.lconst 1, 1)) (k' : WA X h k sl (pc + 1) ls (Lg 1 :: rest)) : WA X h k sl pc ls rest := wa_lconst hX dg k'
theorem rem2_ok : ∀ n : Nat, n < 64 → Int32.ofInt ((n : Int) - 32) - Int32.ofInt ((n : Int) - 32) / Int32.ofInt 2 * Int32.ofInt 2 = Int32.ofInt (((n : Int) - 32).tmod 2) := by decide +kernel
theorem wi_rem2 (hX : Ok X own cc nL ret nm d post px) {x : Int} (dg : decode cc pc = .ok (.irem, 1)) (hx : -32 ≤ x ∧ x < 32) (k' : WA X h k sl (pc + 1) ls (I (x.tmod 2) :: rest)) : WA X h k sl pc ls (I 2 :: I x :: rest) := by
  refine wv_irem hX (z := x.tmod 2) dg (by decide) ?_ k'
  have h1 := rem2_ok (x + 32).toNat (by omega)
  rw [show (((x + 32).toNat : Int) - 32) = x by omega] at h1
  exact h1
end LY9
theorem tm2 (z : Int) : -1 ≤ z.tmod 2 ∧ z.tmod 2 ≤ 1 := by
  cases z with
  | ofNat n =>
    show -1 ≤ ((n % 2 : Nat) : Int) ∧ ((n % 2 : Nat) : Int) ≤ 1
    omega
  | negSucc n =>
    show -1 ≤ -(((n + 1) % 2 : Nat) : Int) ∧ -(((n + 1) % 2 : Nat) : Int) ≤ 1
    omega
/-- a sum -/
def sumI (f : Nat → Int) : Nat → Int
  | 0 => 0
  | n + 1 => sumI f n + f n
def shpN (rk : Nat → Nat) (e j : Nat) : Nat := cnt (fun s => decide ((rk (2 ^ e - 1) - rk s) * 11 + (bc s - rk s) = j)) (2 ^ e)
theorem shpN_le {rk : Nat → Nat} {e j : Nat} (he : e ≤ 10) : shpN rk e j ≤ 1024 := Nat.le_trans (cnt_le _ _) (p2_le he)
abbrev aS (sh : Nat → Nat) : Ob := aI .int 121 (fun j => ((sh j : Nat) : Int))
def pwN (part : Nat) : Nat → Nat
  | 0 => 1
  | k + 1 => pwN part k * (part + (k + 1)) / (k + 1)
theorem pwN_le : ∀ part, part < 11 → ∀ k, k < 11 → part + k ≤ 10 → pwN part k ≤ 252 := by decide +kernel
def ppN (p x : Nat) : Int := if (p - x) % 2 = 0 then (pwN x (p - x) : Nat) else -((pwN x (p - x) : Nat) : Int)
def coefN (sh : Nat → Nat) (x y : Nat) : Int := sumI (fun t => sumI (fun u => (sh ((x + t) * 11 + (y + u)) : Nat) * ppN (x + t) x * ppN (y + u) y) (11 - y)) (11 - x)
def ipow (b : Int) : Nat → Int
  | 0 => 1
  | n + 1 => ipow b n * b
def valN (sh : Nat → Nat) (x y : Int) : Int := sumI (fun t => sumI (fun u => (sh (t * 11 + u) : Nat) * (ipow (x - 1) t * ipow (y - 1) u)) 11) 11
def othN (sh : Nat → Nat) (f t : Nat) : Int := sumI (fun u => if ((f : Int) - t + u).tmod 2 = 0 then ((sh (t * 11 + u) : Nat) : Int) else -((sh (t * 11 + u) : Nat) : Int)) 11
section C28
variable {l : Launch} {D : va_G} {S0 : State}
set_option maxRecDepth 100000 in
theorem c_X1_shapeAt (hW : WOK l D S0) (d : Nat) {h : AH} {x y : Int} : MA l D S0 yX1_shapeAt cX1_shapeAt 2 (some .int) d [I x, I y] h 0 0 (fun r h' => r = some (I (x * 11 + y)) ∧ h' = h) (fun _ _ => False) := by
  refine MA.start hW (by decide) [.val (I x), .val (I y)] rfl ?_
  rintro X rfl rfl rfl hX
  refine wa_iload_n hX (i := 0) dX1_shapeAt_0 rfl rfl ?_
  refine wi_bipush hX dX1_shapeAt_1 (by decide) ?_
  refine wi_imul hX dX1_shapeAt_3 ?_
  refine wa_iload_n hX (i := 1) dX1_shapeAt_4 rfl rfl ?_
  refine wi_iadd hX dX1_shapeAt_5 ?_
  refine wa_iret hX dX1_shapeAt_6 ?_
  exact ⟨rfl, rfl⟩
set_option maxRecDepth 100000 in
theorem c_X1_countAt (hW : WOK l D S0) (d : Nat) {h : AH} {q lq x y : Nat} {sh : Nat → Nat} (h1 : h q = some (lq, aS sh)) (hx : x ≤ 10) (hy : y ≤ 10) : MA l D S0 yX1_countAt cX1_countAt 4 (some .int) (d + 1) [.ref q, I (x : Int), I (y : Int)] h 0 0 (fun r h' => r = some (I (sh (x * 11 + y) : Nat)) ∧ h' = h) (fun _ _ => False) := by
  refine MA.start hW (by decide) [.val (.ref q), .val (I (x : Int)), .val (I (y : Int)), .unset] rfl ?_
  rintro X rfl rfl rfl hX
  refine wa_iload_n hX (i := 1) dX1_countAt_0 rfl rfl ?_
  refine wa_iload_n hX (i := 2) dX1_countAt_1 rfl rfl ?_
  refine wa_callS hX (c_X1_shapeAt hW d) (by rfl) (by omega) (nA := 2) (by rfl) (by decide +kernel) rfl (by exact Nat.le_of_ble_eq_true rfl) dX1_countAt_2 (fun r2 h2 p2 => ?_) (fun _ _ q => q.elim)
  obtain ⟨rfl, qq2⟩ := p2; subst h2
  rw [show ((x : Int) * 11 + (y : Int)) = ((x * 11 + y : Nat) : Int) by omega]
  dsimp only [Option.toList, List.cons_append, List.nil_append]
  refine wa_istore_n hX (i := 3) dX1_countAt_5 rfl rfl ?_
  dsimp only [List.set]
  refine wa_iload_n hX (i := 3) dX1_countAt_6 rfl rfl ?_
  refine wi_if_lt hX (tgt := 22) dX1_countAt_7 (by decide) (by omega) (fun c7 => ?_) (fun c7 => ?_)
  · skip
    refine wi_iconst hX dX1_countAt_22 ?_
    refine wa_iret hX dX1_countAt_23 ?_
    first | (exfalso; omega) | exact ⟨rfl, rfl⟩
  · skip
    refine wa_iload_n hX (i := 3) dX1_countAt_10 rfl rfl ?_
    refine wa_aload_n hX (i := 0) dX1_countAt_11 rfl rfl ?_
    refine wa_len hX (by assumption) dX1_countAt_12 ?_
    refine wi_icmp_ge hX (tgt := 22) dX1_countAt_13 (by decide) (by omega) (by omega) (fun c13 => ?_) (fun c13 => ?_)
    · skip
      refine wi_iconst hX dX1_countAt_22 ?_
      refine wa_iret hX dX1_countAt_23 ?_
      first | (exfalso; omega) | exact ⟨rfl, rfl⟩
    · skip
      refine wa_aload_n hX (i := 0) dX1_countAt_16 rfl rfl ?_
      refine wa_iload_n hX (i := 3) dX1_countAt_17 rfl rfl ?_
      refine wi_iaload hX (by assumption) (by omega) (by omega) (by omega) dX1_countAt_18 ?_
      refine wa_goto hX (tgt := 23) dX1_countAt_19 (by decide) ?_
      refine wa_iret hX dX1_countAt_23 ?_
      first | (exfalso; omega) | exact ⟨rfl, rfl⟩
set_option maxRecDepth 100000 in
theorem c_X1_partOfPower (hW : WOK l D S0) (d : Nat) {h : AH} {p x : Nat} (hp : p ≤ 10) (hx : x ≤ p) : MA l D S0 yX1_partOfPower cX1_partOfPower 4 (some .int) d [I (p : Int), I (x : Int)] h 0 0 (fun r h' => r = some (I (ppN p x)) ∧ h' = h) (fun _ _ => False) := by
  refine MA.start hW (by decide) [.val (I (p : Int)), .val (I (x : Int)), .unset, .unset] rfl ?_
  rintro X rfl rfl rfl hX
  refine wi_iconst hX dX1_partOfPower_0 ?_
  refine wa_istore_n hX (i := 2) dX1_partOfPower_1 rfl rfl ?_
  dsimp only [List.set]
  refine wi_iconst hX dX1_partOfPower_2 ?_
  refine wa_istore_n hX (i := 3) dX1_partOfPower_3 rfl rfl ?_
  dsimp only [List.set]
  refine WA.loop (σ := Nat) (fun k => 11 - k) (fun k => k ≤ p - x) (fun _ => h) (fun k => [.val (I (p : Int)), .val (I (x : Int)), .val (I (pwN x k : Nat)), .val (I ((k + 1 : Nat) : Int))]) ?_ 0 (Nat.zero_le _)
  intro k hk ih
  have hw := pwN_le x (by omega) k (by omega) (by omega)
  refine wa_iload_n hX (i := 3) dX1_partOfPower_4 rfl rfl ?_
  refine wa_iload_n hX (i := 0) dX1_partOfPower_5 rfl rfl ?_
  refine wa_iload_n hX (i := 1) dX1_partOfPower_6 rfl rfl ?_
  refine wi_isub hX dX1_partOfPower_7 ?_
  refine wi_icmp_gt hX (tgt := 25) dX1_partOfPower_8 (by decide) (by omega) (by omega) (fun c8 => ?_) (fun c8 => ?_)
  · skip
    refine wa_iload_n hX (i := 0) dX1_partOfPower_25 rfl rfl ?_
    refine wa_iload_n hX (i := 1) dX1_partOfPower_26 rfl rfl ?_
    refine wi_isub hX dX1_partOfPower_27 ?_
    have hkk : k = p - x := by omega
    subst hkk
    rw [show ((p : Int) - (x : Int)) = ((p - x : Nat) : Int) by omega]
    refine wi_iconst hX dX1_partOfPower_28 ?_
    refine wn_irem hX (a := p - x) (b := 2) dX1_partOfPower_29 rfl rfl (by omega) (by omega) (by omega) ?_
    refine wi_if_ne hX (tgt := 37) dX1_partOfPower_30 (by decide) (by omega) (fun c30 => ?_) (fun c30 => ?_)
    · skip
      refine wa_iload_n hX (i := 2) dX1_partOfPower_37 rfl rfl ?_
      refine wi_ineg hX dX1_partOfPower_38 ?_
      refine wa_iret hX dX1_partOfPower_39 ?_
      refine ⟨?_, rfl⟩
      unfold ppN
      first
        | rw [if_pos (by omega)]
        | rw [if_neg (by omega)]
    · skip
      refine wa_iload_n hX (i := 2) dX1_partOfPower_33 rfl rfl ?_
      refine wa_goto hX (tgt := 39) dX1_partOfPower_34 (by decide) ?_
      refine wa_iret hX dX1_partOfPower_39 ?_
      refine ⟨?_, rfl⟩
      unfold ppN
      first
        | rw [if_pos (by omega)]
        | rw [if_neg (by omega)]
  · skip
    refine wa_iload_n hX (i := 2) dX1_partOfPower_11 rfl rfl ?_
    refine wa_iload_n hX (i := 1) dX1_partOfPower_12 rfl rfl ?_
    refine wa_iload_n hX (i := 3) dX1_partOfPower_13 rfl rfl ?_
    refine wi_iadd hX dX1_partOfPower_14 ?_
    rw [show ((x : Int) + ((k + 1 : Nat) : Int)) = ((x + (k + 1) : Nat) : Int) by omega]
    have hmul : pwN x k * (x + (k + 1)) ≤ 252 * 10 := Nat.mul_le_mul hw (by omega)
    refine wi_imul hX dX1_partOfPower_15 ?_
    refine wa_iload_n hX (i := 3) dX1_partOfPower_16 rfl rfl ?_
    refine wn_idiv hX (a := pwN x k * (x + (k + 1))) (b := k + 1) dX1_partOfPower_17 (by rw [Int.natCast_mul]) rfl (by omega) (by omega) (by omega) ?_
    refine wa_istore_n hX (i := 2) dX1_partOfPower_18 rfl rfl ?_
    dsimp only [List.set]
    refine wi_iinc hX dX1_partOfPower_19 rfl ?_
    dsimp only [List.set]
    refine wa_goto hX (tgt := 4) dX1_partOfPower_22 (by decide) ?_
    exact ih (k + 1) (by omega) (by omega)
set_option maxRecDepth 100000 in
theorem c_X1_coefficientOf (hW : WOK l D S0) (d : Nat) {h : AH} {q lq x y : Nat} {sh : Nat → Nat} (h1 : h q = some (lq, aS sh)) (hx : x ≤ 10) (hy : y ≤ 10) (hsh : ∀ j, sh j ≤ 1024) : MA l D S0 yX1_coefficientOf cX1_coefficientOf 7 (some .int) (d + 2) [.ref q, I (x : Int), I (y : Int)] h 0 0 (fun r h' => r = some (I (coefN sh x y)) ∧ h' = h) (fun _ _ => False) := by
  refine MA.start hW (by decide) [.val (.ref q), .val (I (x : Int)), .val (I (y : Int)), .unset, .unset, .unset, .unset] rfl ?_
  rintro X rfl rfl rfl hX
  refine wi_iconst hX dX1_coefficientOf_0 ?_
  refine wa_istore_n hX (i := 3) dX1_coefficientOf_1 rfl (by first | rfl | exact hu1 | exact hu2 | exact hu3 | exact hu4) ?_
  dsimp only [List.set]
  refine wa_iload_n hX (i := 1) dX1_coefficientOf_2 rfl rfl ?_
  refine wa_istore hX dX1_coefficientOf_3 (by first | rfl | exact hu1 | exact hu2 | exact hu3 | exact hu4) ?_
  dsimp only [List.set]
  refine WA.loop (σ := Nat × Slot × Slot) (fun z => 11 - x - z.1) (fun z => z.1 ≤ 11 - x ∧ okS [z.2.1] 0 = true ∧ okS [z.2.2] 0 = true) (fun _ => h) (fun z => [.val (.ref q), .val (I (x : Int)), .val (I (y : Int)), .val (I (sumI (fun t => sumI (fun u => (sh ((x + t) * 11 + (y + u)) : Nat) * ppN (x + t) x * ppN (y + u) y) (11 - y)) z.1)), .val (I ((x + z.1 : Nat) : Int)), z.2.1, z.2.2]) ?_ (0, .unset, .unset) ⟨Nat.zero_le _, rfl, rfl⟩
  rintro ⟨t, u1, u2⟩ ⟨ht, hu1, hu2⟩ ih
  dsimp only at ht hu1 hu2 ⊢
  refine wa_iload hX dX1_coefficientOf_5 rfl ?_
  refine wi_bipush hX dX1_coefficientOf_7 (by decide) ?_
  refine wi_icmp_gt hX (tgt := 68) dX1_coefficientOf_9 (by decide) (by omega) (by omega) (fun c9 => ?_) (fun c9 => ?_)
  · skip
    refine wa_iload_n hX (i := 3) dX1_coefficientOf_68 rfl rfl ?_
    refine wa_iret hX dX1_coefficientOf_69 ?_
    refine ⟨?_, rfl⟩
    rw [show t = 11 - x by omega]
    rfl
  · skip
    refine wa_iload_n hX (i := 2) dX1_coefficientOf_12 rfl rfl ?_
    refine wa_istore hX dX1_coefficientOf_13 (by first | rfl | exact hu1 | exact hu2 | exact hu3 | exact hu4) ?_
    dsimp only [List.set]
    refine WA.eq rfl (by simp [sumI]) rfl (WA.loop (σ := Nat × Slot) (fun z => 11 - y - z.1) (fun z => z.1 ≤ 11 - y ∧ okS [z.2] 0 = true) (fun _ => h) (fun z => [.val (.ref q), .val (I (x : Int)), .val (I (y : Int)), .val (I (sumI (fun t => sumI (fun u => (sh ((x + t) * 11 + (y + u)) : Nat) * ppN (x + t) x * ppN (y + u) y) (11 - y)) t + sumI (fun u => (sh ((x + t) * 11 + (y + u)) : Nat) * ppN (x + t) x * ppN (y + u) y) z.1)), .val (I ((x + t : Nat) : Int)), .val (I ((y + z.1 : Nat) : Int)), z.2]) ?_ (0, u2) ⟨Nat.zero_le _, hu2⟩)
    rintro ⟨u, u1⟩ ⟨hu, hu1⟩ ih2
    dsimp only at hu hu1 ⊢
    have hs9 := hsh ((x + t) * 11 + (y + u))
    refine wa_iload hX dX1_coefficientOf_15 rfl ?_
    refine wi_bipush hX dX1_coefficientOf_17 (by decide) ?_
    refine wi_icmp_gt hX (tgt := 62) dX1_coefficientOf_19 (by decide) (by omega) (by omega) (fun c19 => ?_) (fun c19 => ?_)
    · skip
      refine wi_iinc hX dX1_coefficientOf_62 rfl ?_
      dsimp only [List.set]
      refine wa_goto hX (tgt := 5) dX1_coefficientOf_65 (by decide) ?_
      have hue : u = 11 - y := by omega
      subst hue
      refine ih (t + 1, _, u1) ⟨by show t + 1 ≤ 11 - x; omega, rfl, hu1⟩ (by show 11 - x - (t + 1) < 11 - x - t; omega)
    · skip
      refine wa_aload_n hX (i := 0) dX1_coefficientOf_22 rfl rfl ?_
      refine wa_iload hX dX1_coefficientOf_23 rfl ?_
      refine wa_iload hX dX1_coefficientOf_25 rfl ?_
      refine wa_callS hX (c_X1_countAt hW d h1 (x := x + t) (y := y + u) (by omega) (by omega)) (by rfl) (by omega) (nA := 3) (by rfl) (by decide +kernel) rfl (by exact Nat.le_of_ble_eq_true rfl) dX1_coefficientOf_27 (fun r27 h27 p27 => ?_) (fun _ _ q => q.elim)
      obtain ⟨rfl, qq27⟩ := p27; subst h27
      dsimp only [Option.toList, List.cons_append, List.nil_append]
      refine wa_istore hX dX1_coefficientOf_30 (by first | rfl | exact hu1 | exact hu2 | exact hu3 | exact hu4) ?_
      dsimp only [List.set]
      refine wa_iload hX dX1_coefficientOf_32 rfl ?_
      refine wi_if_eq hX (tgt := 56) dX1_coefficientOf_34 (by decide) (by omega) (fun c34 => ?_) (fun c34 => ?_)
      · skip
        refine wi_iinc hX dX1_coefficientOf_56 rfl ?_
        dsimp only [List.set]
        refine wa_goto hX (tgt := 15) dX1_coefficientOf_59 (by decide) ?_
        refine WA.eq rfl ?_ rfl (ih2 (u + 1, .val (I ((sh ((x + t) * 11 + (y + u)) : Nat) : Int))) ⟨by show u + 1 ≤ 11 - y; omega, rfl⟩ (by show 11 - y - (u + 1) < 11 - y - u; omega))
        have e9 : sumI (fun u => (sh ((x + t) * 11 + (y + u)) : Nat) * ppN (x + t) x * ppN (y + u) y) (u + 1) = sumI (fun u => (sh ((x + t) * 11 + (y + u)) : Nat) * ppN (x + t) x * ppN (y + u) y) u + (sh ((x + t) * 11 + (y + u)) : Nat) * ppN (x + t) x * ppN (y + u) y := rfl
        dsimp only
        rw [e9]
        first
          | (rw [show ((sh ((x + t) * 11 + (y + u)) : Nat) : Int) = 0 from c34, Int.zero_mul, Int.zero_mul, Int.add_zero]; rfl)
          | (rw [Int.add_assoc]; rfl)
      · skip
        refine wa_iload_n hX (i := 3) dX1_coefficientOf_37 rfl rfl ?_
        refine wa_iload hX dX1_coefficientOf_38 rfl ?_
        refine wa_iload hX dX1_coefficientOf_40 rfl ?_
        refine wa_iload_n hX (i := 1) dX1_coefficientOf_42 rfl rfl ?_
        refine wa_callS hX (c_X1_partOfPower hW (d + 1) (p := x + t) (x := x) (by omega) (by omega)) (by rfl) (by omega) (nA := 2) (by rfl) (by decide +kernel) rfl (by exact Nat.le_of_ble_eq_true rfl) dX1_coefficientOf_43 (fun r43 h43 p43 => ?_) (fun _ _ q => q.elim)
        obtain ⟨rfl, qq43⟩ := p43; subst h43
        dsimp only [Option.toList, List.cons_append, List.nil_append]
        refine wi_imul hX dX1_coefficientOf_46 ?_
        refine wa_iload hX dX1_coefficientOf_47 rfl ?_
        refine wa_iload_n hX (i := 2) dX1_coefficientOf_49 rfl rfl ?_
        refine wa_callS hX (c_X1_partOfPower hW (d + 1) (p := y + u) (x := y) (by omega) (by omega)) (by rfl) (by omega) (nA := 2) (by rfl) (by decide +kernel) rfl (by exact Nat.le_of_ble_eq_true rfl) dX1_coefficientOf_50 (fun r50 h50 p50 => ?_) (fun _ _ q => q.elim)
        obtain ⟨rfl, qq50⟩ := p50; subst h50
        dsimp only [Option.toList, List.cons_append, List.nil_append]
        refine wi_imul hX dX1_coefficientOf_53 ?_
        refine wi_iadd hX dX1_coefficientOf_54 ?_
        refine wa_istore_n hX (i := 3) dX1_coefficientOf_55 rfl (by first | rfl | exact hu1 | exact hu2 | exact hu3 | exact hu4) ?_
        dsimp only [List.set]
        refine wi_iinc hX dX1_coefficientOf_56 rfl ?_
        dsimp only [List.set]
        refine wa_goto hX (tgt := 15) dX1_coefficientOf_59 (by decide) ?_
        refine WA.eq rfl ?_ rfl (ih2 (u + 1, .val (I ((sh ((x + t) * 11 + (y + u)) : Nat) : Int))) ⟨by show u + 1 ≤ 11 - y; omega, rfl⟩ (by show 11 - y - (u + 1) < 11 - y - u; omega))
        have e9 : sumI (fun u => (sh ((x + t) * 11 + (y + u)) : Nat) * ppN (x + t) x * ppN (y + u) y) (u + 1) = sumI (fun u => (sh ((x + t) * 11 + (y + u)) : Nat) * ppN (x + t) x * ppN (y + u) y) u + (sh ((x + t) * 11 + (y + u)) : Nat) * ppN (x + t) x * ppN (y + u) y := rfl
        dsimp only
        rw [e9]
        first
          | (rw [show ((sh ((x + t) * 11 + (y + u)) : Nat) : Int) = 0 from c34, Int.zero_mul, Int.zero_mul, Int.add_zero]; rfl)
          | (rw [Int.add_assoc]; rfl)
set_option maxRecDepth 100000 in
theorem c_X1_signedCount (hW : WOK l D S0) (d : Nat) {h : AH} {q lq f t : Nat} {sh : Nat → Nat} (h1 : h q = some (lq, aS sh)) (hf : f ≤ 10) (ht : t ≤ 10) (hsh : ∀ j, sh j ≤ 1024) : MA l D S0 yX1_signedCount cX1_signedCount 7 (some .int) (d + 2) [.ref q, I (f : Int), I (t : Int)] h 0 0 (fun r h' => r = some (I (othN sh f t)) ∧ h' = h) (fun _ _ => False) := by
  refine MA.start hW (by decide) [.val (.ref q), .val (I (f : Int)), .val (I (t : Int)), .unset, .unset, .unset, .unset] rfl ?_
  rintro X rfl rfl rfl hX
  refine wi_iconst hX dX1_signedCount_0 ?_
  refine wa_istore_n hX (i := 3) dX1_signedCount_1 rfl (by first | rfl | exact hu1 | exact hu2 | exact hu3 | exact hu4) ?_
  dsimp only [List.set]
  refine wi_iconst hX dX1_signedCount_2 ?_
  refine wa_istore hX dX1_signedCount_3 (by first | rfl | exact hu1 | exact hu2 | exact hu3 | exact hu4) ?_
  dsimp only [List.set]
  refine WA.loop (σ := Nat × Slot × Slot) (fun z => 11 - z.1) (fun z => z.1 ≤ 11 ∧ okS [z.2.1] 0 = true ∧ okS [z.2.2] 0 = true) (fun _ => h) (fun z => [.val (.ref q), .val (I (f : Int)), .val (I (t : Int)), .val (I (sumI (fun u => if ((f : Int) - t + u).tmod 2 = 0 then ((sh (t * 11 + u) : Nat) : Int) else -((sh (t * 11 + u) : Nat) : Int)) z.1)), .val (I (z.1 : Nat)), z.2.1, z.2.2]) ?_ (0, .unset, .unset) ⟨Nat.zero_le _, rfl, rfl⟩
  rintro ⟨u, u1, u2⟩ ⟨hu, hu1, hu2⟩ ih
  dsimp only at hu hu1 hu2 ⊢
  have hs9 := hsh (t * 11 + u)
  have hrm : -1 ≤ ((f : Int) - t + u).tmod 2 ∧ ((f : Int) - t + u).tmod 2 ≤ 1 := tm2 _
  refine wa_iload hX dX1_signedCount_5 rfl ?_
  refine wi_bipush hX dX1_signedCount_7 (by decide) ?_
  refine wi_icmp_gt hX (tgt := 61) dX1_signedCount_9 (by decide) (by omega) (by omega) (fun c9 => ?_) (fun c9 => ?_)
  · skip
    refine wa_iload_n hX (i := 3) dX1_signedCount_61 rfl rfl ?_
    refine wa_iret hX dX1_signedCount_62 ?_
    refine ⟨?_, rfl⟩
    rw [show u = 11 by omega]
    rfl
  · skip
    refine wa_aload_n hX (i := 0) dX1_signedCount_12 rfl rfl ?_
    refine wa_iload_n hX (i := 2) dX1_signedCount_13 rfl rfl ?_
    refine wa_iload hX dX1_signedCount_14 rfl ?_
    refine wa_callS hX (c_X1_countAt hW d h1 (x := t) (y := u) (by omega) (by omega)) (by rfl) (by omega) (nA := 3) (by rfl) (by decide +kernel) rfl (by exact Nat.le_of_ble_eq_true rfl) dX1_signedCount_16 (fun r16 h16 p16 => ?_) (fun _ _ q => q.elim)
    obtain ⟨rfl, qq16⟩ := p16; subst h16
    dsimp only [Option.toList, List.cons_append, List.nil_append]
    refine wa_istore hX dX1_signedCount_19 (by first | rfl | exact hu1 | exact hu2 | exact hu3 | exact hu4) ?_
    dsimp only [List.set]
    refine wa_iload_n hX (i := 1) dX1_signedCount_21 rfl rfl ?_
    refine wa_iload_n hX (i := 2) dX1_signedCount_22 rfl rfl ?_
    refine wi_isub hX dX1_signedCount_23 ?_
    refine wa_iload hX dX1_signedCount_24 rfl ?_
    refine wi_iadd hX dX1_signedCount_26 ?_
    refine wi_iconst hX dX1_signedCount_27 ?_
    refine wi_rem2 hX dX1_signedCount_28 (by omega) ?_
    refine wi_if_eq hX (tgt := 36) dX1_signedCount_29 (by decide) (by omega) (fun c29 => ?_) (fun c29 => ?_)
    · skip
      refine wi_iconst hX dX1_signedCount_36 ?_
      refine wa_istore hX dX1_signedCount_37 (by first | rfl | exact hu1 | exact hu2 | exact hu3 | exact hu4) ?_
      dsimp only [List.set]
      refine wa_iload_n hX (i := 3) dX1_signedCount_39 rfl rfl ?_
      refine wa_iload hX dX1_signedCount_40 rfl ?_
      refine wi_if_eq hX (tgt := 51) dX1_signedCount_42 (by decide) (by omega) (fun c42 => ?_) (fun c42 => ?_)
      · skip
        refine wa_iload hX dX1_signedCount_51 rfl ?_
        refine wi_iadd hX dX1_signedCount_53 ?_
        refine wa_istore_n hX (i := 3) dX1_signedCount_54 rfl (by first | rfl | exact hu1 | exact hu2 | exact hu3 | exact hu4) ?_
        dsimp only [List.set]
        refine wi_iinc hX dX1_signedCount_55 rfl ?_
        dsimp only [List.set]
        refine wa_goto hX (tgt := 5) dX1_signedCount_58 (by decide) ?_
        have e9 : sumI (fun u => if ((f : Int) - t + u).tmod 2 = 0 then ((sh (t * 11 + u) : Nat) : Int) else -((sh (t * 11 + u) : Nat) : Int)) (u + 1) = sumI (fun u => if ((f : Int) - t + u).tmod 2 = 0 then ((sh (t * 11 + u) : Nat) : Int) else -((sh (t * 11 + u) : Nat) : Int)) u + (if ((f : Int) - t + u).tmod 2 = 0 then ((sh (t * 11 + u) : Nat) : Int) else -((sh (t * 11 + u) : Nat) : Int)) := rfl
        first
          | (exfalso; omega)
          | (rw [if_pos c29] at e9
             refine WA.eq rfl ?_ rfl (ih (u + 1, .val (I ((sh (t * 11 + u) : Nat) : Int)), .val (I 0)) ⟨by show u + 1 ≤ 11; omega, rfl, rfl⟩ (by show 11 - (u + 1) < 11 - u; omega))
             dsimp only
             rw [e9]; rfl)
          | (rw [if_neg c29] at e9
             refine WA.eq rfl ?_ rfl (ih (u + 1, .val (I ((sh (t * 11 + u) : Nat) : Int)), .val (I 1)) ⟨by show u + 1 ≤ 11; omega, rfl, rfl⟩ (by show 11 - (u + 1) < 11 - u; omega))
             dsimp only
             rw [e9]; rfl)
      · skip
        refine wa_iload hX dX1_signedCount_45 rfl ?_
        refine wi_ineg hX dX1_signedCount_47 ?_
        refine wa_goto hX (tgt := 53) dX1_signedCount_48 (by decide) ?_
        refine wi_iadd hX dX1_signedCount_53 ?_
        refine wa_istore_n hX (i := 3) dX1_signedCount_54 rfl (by first | rfl | exact hu1 | exact hu2 | exact hu3 | exact hu4) ?_
        dsimp only [List.set]
        refine wi_iinc hX dX1_signedCount_55 rfl ?_
        dsimp only [List.set]
        refine wa_goto hX (tgt := 5) dX1_signedCount_58 (by decide) ?_
        have e9 : sumI (fun u => if ((f : Int) - t + u).tmod 2 = 0 then ((sh (t * 11 + u) : Nat) : Int) else -((sh (t * 11 + u) : Nat) : Int)) (u + 1) = sumI (fun u => if ((f : Int) - t + u).tmod 2 = 0 then ((sh (t * 11 + u) : Nat) : Int) else -((sh (t * 11 + u) : Nat) : Int)) u + (if ((f : Int) - t + u).tmod 2 = 0 then ((sh (t * 11 + u) : Nat) : Int) else -((sh (t * 11 + u) : Nat) : Int)) := rfl
        first
          | (exfalso; omega)
          | (rw [if_pos c29] at e9
             refine WA.eq rfl ?_ rfl (ih (u + 1, .val (I ((sh (t * 11 + u) : Nat) : Int)), .val (I 0)) ⟨by show u + 1 ≤ 11; omega, rfl, rfl⟩ (by show 11 - (u + 1) < 11 - u; omega))
             dsimp only
             rw [e9]; rfl)
          | (rw [if_neg c29] at e9
             refine WA.eq rfl ?_ rfl (ih (u + 1, .val (I ((sh (t * 11 + u) : Nat) : Int)), .val (I 1)) ⟨by show u + 1 ≤ 11; omega, rfl, rfl⟩ (by show 11 - (u + 1) < 11 - u; omega))
             dsimp only
             rw [e9]; rfl)
    · skip
      refine wi_iconst hX dX1_signedCount_32 ?_
      refine wa_goto hX (tgt := 37) dX1_signedCount_33 (by decide) ?_
      refine wa_istore hX dX1_signedCount_37 (by first | rfl | exact hu1 | exact hu2 | exact hu3 | exact hu4) ?_
      dsimp only [List.set]
      refine wa_iload_n hX (i := 3) dX1_signedCount_39 rfl rfl ?_
      refine wa_iload hX dX1_signedCount_40 rfl ?_
      refine wi_if_eq hX (tgt := 51) dX1_signedCount_42 (by decide) (by omega) (fun c42 => ?_) (fun c42 => ?_)
      · skip
        refine wa_iload hX dX1_signedCount_51 rfl ?_
        refine wi_iadd hX dX1_signedCount_53 ?_
        refine wa_istore_n hX (i := 3) dX1_signedCount_54 rfl (by first | rfl | exact hu1 | exact hu2 | exact hu3 | exact hu4) ?_
        dsimp only [List.set]
        refine wi_iinc hX dX1_signedCount_55 rfl ?_
        dsimp only [List.set]
        refine wa_goto hX (tgt := 5) dX1_signedCount_58 (by decide) ?_
        have e9 : sumI (fun u => if ((f : Int) - t + u).tmod 2 = 0 then ((sh (t * 11 + u) : Nat) : Int) else -((sh (t * 11 + u) : Nat) : Int)) (u + 1) = sumI (fun u => if ((f : Int) - t + u).tmod 2 = 0 then ((sh (t * 11 + u) : Nat) : Int) else -((sh (t * 11 + u) : Nat) : Int)) u + (if ((f : Int) - t + u).tmod 2 = 0 then ((sh (t * 11 + u) : Nat) : Int) else -((sh (t * 11 + u) : Nat) : Int)) := rfl
        first
          | (exfalso; omega)
          | (rw [if_pos c29] at e9
             refine WA.eq rfl ?_ rfl (ih (u + 1, .val (I ((sh (t * 11 + u) : Nat) : Int)), .val (I 0)) ⟨by show u + 1 ≤ 11; omega, rfl, rfl⟩ (by show 11 - (u + 1) < 11 - u; omega))
             dsimp only
             rw [e9]; rfl)
          | (rw [if_neg c29] at e9
             refine WA.eq rfl ?_ rfl (ih (u + 1, .val (I ((sh (t * 11 + u) : Nat) : Int)), .val (I 1)) ⟨by show u + 1 ≤ 11; omega, rfl, rfl⟩ (by show 11 - (u + 1) < 11 - u; omega))
             dsimp only
             rw [e9]; rfl)
      · skip
        refine wa_iload hX dX1_signedCount_45 rfl ?_
        refine wi_ineg hX dX1_signedCount_47 ?_
        refine wa_goto hX (tgt := 53) dX1_signedCount_48 (by decide) ?_
        refine wi_iadd hX dX1_signedCount_53 ?_
        refine wa_istore_n hX (i := 3) dX1_signedCount_54 rfl (by first | rfl | exact hu1 | exact hu2 | exact hu3 | exact hu4) ?_
        dsimp only [List.set]
        refine wi_iinc hX dX1_signedCount_55 rfl ?_
        dsimp only [List.set]
        refine wa_goto hX (tgt := 5) dX1_signedCount_58 (by decide) ?_
        have e9 : sumI (fun u => if ((f : Int) - t + u).tmod 2 = 0 then ((sh (t * 11 + u) : Nat) : Int) else -((sh (t * 11 + u) : Nat) : Int)) (u + 1) = sumI (fun u => if ((f : Int) - t + u).tmod 2 = 0 then ((sh (t * 11 + u) : Nat) : Int) else -((sh (t * 11 + u) : Nat) : Int)) u + (if ((f : Int) - t + u).tmod 2 = 0 then ((sh (t * 11 + u) : Nat) : Int) else -((sh (t * 11 + u) : Nat) : Int)) := rfl
        first
          | (exfalso; omega)
          | (rw [if_pos c29] at e9
             refine WA.eq rfl ?_ rfl (ih (u + 1, .val (I ((sh (t * 11 + u) : Nat) : Int)), .val (I 0)) ⟨by show u + 1 ≤ 11; omega, rfl, rfl⟩ (by show 11 - (u + 1) < 11 - u; omega))
             dsimp only
             rw [e9]; rfl)
          | (rw [if_neg c29] at e9
             refine WA.eq rfl ?_ rfl (ih (u + 1, .val (I ((sh (t * 11 + u) : Nat) : Int)), .val (I 1)) ⟨by show u + 1 ≤ 11; omega, rfl, rfl⟩ (by show 11 - (u + 1) < 11 - u; omega))
             dsimp only
             rw [e9]; rfl)
set_option maxRecDepth 100000 in
theorem c_X1_valueAt (hW : WOK l D S0) (d : Nat) {h : AH} {q lq : Nat} {x y : Int} {sh : Nat → Nat} (h1 : h q = some (lq, aS sh)) (hx : -9 ≤ x ∧ x ≤ 9) (hy : -9 ≤ y ∧ y ≤ 9) (hsh : ∀ j, sh j ≤ 1024) : MA l D S0 yX1_valueAt cX1_valueAt 11 (some .long) (d + 2) [.ref q, I x, I y] h 0 0 (fun r h' => r = some (Lg (valN sh x y)) ∧ h' = h) (fun _ _ => False) := by
  refine MA.start hW (by decide) [.val (.ref q), .val (I x), .val (I y), .unset, .unset, .unset, .unset, .unset, .unset, .unset, .unset] rfl ?_
  rintro X rfl rfl rfl hX
  refine wl_const0 hX dX1_valueAt_0 ?_
  refine wa_lstore_n hX (i := 3) dX1_valueAt_1 rfl rfl ?_
  dsimp only [List.set]
  refine wl_const1 hX dX1_valueAt_2 ?_
  refine wa_lstore hX dX1_valueAt_3 rfl ?_
  dsimp only [List.set]
  refine wi_iconst hX dX1_valueAt_5 ?_
  refine wa_istore hX dX1_valueAt_6 rfl ?_
  dsimp only [List.set]
  refine WA.loop (σ := Nat × List Slot) (fun z => 11 - z.1) (fun z => z.1 ≤ 11 ∧ (z.2 = [.unset, .unset, .unset] ∨ ∃ a b, z.2 = [.val (.long a), .second, .val (.int b)])) (fun _ => h) (fun z => [.val (.ref q), .val (I x), .val (I y), .val (Lg (sumI (fun t => sumI (fun u => (sh (t * 11 + u) : Nat) * (ipow (x - 1) t * ipow (y - 1) u)) 11) z.1)), .second, .val (Lg (ipow (x - 1) z.1)), .second, .val (I (z.1 : Nat))] ++ z.2) ?_ (0, [.unset, .unset, .unset]) ⟨Nat.zero_le _, Or.inl rfl⟩
  rintro ⟨t, lj⟩ ⟨ht, hj⟩ ih
  dsimp only at ht hj ⊢
  have hj1 : ∃ u1 u2 u3, lj = [u1, u2, u3] ∧ okS2 [u1, u2] 0 = true ∧ okS [u3] 0 = true := by
    rcases hj with q | ⟨a, b, q⟩
    · exact ⟨_, _, _, q, rfl, rfl⟩
    · exact ⟨_, _, _, q, rfl, rfl⟩
  obtain ⟨u1, u2, u3, q, hu1, hu3⟩ := hj1
  subst q
  clear hj
  dsimp only [List.cons_append, List.nil_append]
  refine wa_iload hX dX1_valueAt_8 rfl ?_
  refine wi_bipush hX dX1_valueAt_10 (by decide) ?_
  refine wi_icmp_gt hX (tgt := 74) dX1_valueAt_12 (by decide) (by omega) (by omega) (fun c12 => ?_) (fun c12 => ?_)
  · skip
    refine wa_lload_n hX (i := 3) dX1_valueAt_74 rfl rfl ?_
    refine wa_lret hX dX1_valueAt_75 ?_
    refine ⟨?_, rfl⟩
    rw [show t = 11 by omega]
    rfl
  · skip
    refine wa_lload hX dX1_valueAt_15 rfl ?_
    refine wa_lstore hX dX1_valueAt_17 hu1 ?_
    dsimp only [List.set]
    refine wi_iconst hX dX1_valueAt_19 ?_
    refine wa_istore hX dX1_valueAt_20 hu3 ?_
    dsimp only [List.set]
    refine WA.eq rfl (by simp [sumI, ipow]) rfl (WA.loop (σ := Nat) (fun z => 11 - z) (fun z => z ≤ 11) (fun _ => h) (fun z => [.val (.ref q), .val (I x), .val (I y), .val (Lg (sumI (fun t => sumI (fun u => (sh (t * 11 + u) : Nat) * (ipow (x - 1) t * ipow (y - 1) u)) 11) t + sumI (fun u => (sh (t * 11 + u) : Nat) * (ipow (x - 1) t * ipow (y - 1) u)) z)), .second, .val (Lg (ipow (x - 1) t)), .second, .val (I (t : Nat)), .val (Lg (ipow (x - 1) t * ipow (y - 1) z)), .second, .val (I (z : Nat))]) ?_ 0 (Nat.zero_le _))
    intro u hu ih2
    have hs9 := hsh (t * 11 + u)
    refine wa_iload hX dX1_valueAt_22 rfl ?_
    refine wi_bipush hX dX1_valueAt_24 (by decide) ?_
    refine wi_icmp_gt hX (tgt := 59) dX1_valueAt_26 (by decide) (by omega) (by omega) (fun c26 => ?_) (fun c26 => ?_)
    · skip
      refine wa_lload hX dX1_valueAt_59 rfl ?_
      refine wa_iload_n hX (i := 1) dX1_valueAt_61 rfl rfl ?_
      refine wi_iconst hX dX1_valueAt_62 ?_
      refine wi_isub hX dX1_valueAt_63 ?_
      refine wl_i2l hX dX1_valueAt_64 (by omega) ?_
      refine wl_mul hX dX1_valueAt_65 ?_
      refine wa_lstore hX dX1_valueAt_66 rfl ?_
      dsimp only [List.set]
      refine wi_iinc hX dX1_valueAt_68 rfl ?_
      dsimp only [List.set]
      refine wa_goto hX (tgt := 8) dX1_valueAt_71 (by decide) ?_
      have hue : u = 11 := by omega
      subst hue
      exact ih (t + 1, [_, _, _]) ⟨by show t + 1 ≤ 11; omega, Or.inr ⟨_, _, rfl⟩⟩ (by show 11 - (t + 1) < 11 - t; omega)
    · skip
      refine wa_lload_n hX (i := 3) dX1_valueAt_29 rfl rfl ?_
      refine wa_aload_n hX (i := 0) dX1_valueAt_30 rfl rfl ?_
      refine wa_iload hX dX1_valueAt_31 rfl ?_
      refine wa_iload hX dX1_valueAt_33 rfl ?_
      refine wa_callS hX (c_X1_countAt hW d h1 (x := t) (y := u) (by omega) (by omega)) (by rfl) (by omega) (nA := 3) (by rfl) (by decide +kernel) rfl (by exact Nat.le_of_ble_eq_true rfl) dX1_valueAt_35 (fun r35 h35 p35 => ?_) (fun _ _ q => q.elim)
      obtain ⟨rfl, qq35⟩ := p35; subst h35
      dsimp only [Option.toList, List.cons_append, List.nil_append]
      refine wl_i2l hX dX1_valueAt_38 (by omega) ?_
      refine wa_lload hX dX1_valueAt_39 rfl ?_
      refine wl_mul hX dX1_valueAt_41 ?_
      refine wl_add hX dX1_valueAt_42 ?_
      refine wa_lstore_n hX (i := 3) dX1_valueAt_43 rfl rfl ?_
      dsimp only [List.set]
      refine wa_lload hX dX1_valueAt_44 rfl ?_
      refine wa_iload_n hX (i := 2) dX1_valueAt_46 rfl rfl ?_
      refine wi_iconst hX dX1_valueAt_47 ?_
      refine wi_isub hX dX1_valueAt_48 ?_
      refine wl_i2l hX dX1_valueAt_49 (by omega) ?_
      refine wl_mul hX dX1_valueAt_50 ?_
      refine wa_lstore hX dX1_valueAt_51 rfl ?_
      dsimp only [List.set]
      refine wi_iinc hX dX1_valueAt_53 rfl ?_
      dsimp only [List.set]
      refine wa_goto hX (tgt := 22) dX1_valueAt_56 (by decide) ?_
      refine WA.eq rfl ?_ rfl (ih2 (u + 1) (by omega) (by omega))
      have e9 : sumI (fun u => (sh (t * 11 + u) : Nat) * (ipow (x - 1) t * ipow (y - 1) u)) (u + 1) = sumI (fun u => (sh (t * 11 + u) : Nat) * (ipow (x - 1) t * ipow (y - 1) u)) u + (sh (t * 11 + u) : Nat) * (ipow (x - 1) t * ipow (y - 1) u) := rfl
      have e8 : ipow (y - 1) (u + 1) = ipow (y - 1) u * (y - 1) := rfl
      rw [e9, e8, Int.add_assoc, Int.mul_assoc (ipow (x - 1) t)]
      rfl
set_option maxRecDepth 100000 in
theorem c_X1_shapesOf (hW : WOK l D S0) (d : Nat) {h : AH} {q lq e : Nat} {rk : Nat → Nat} (h1 : h q = some (lq, aB e rk)) (he : e ≤ 10) (hb : ∀ s, s < 2 ^ e → rk s ≤ bc s ∧ rk s ≤ rk (2 ^ e - 1)) : MA l D S0 yX1_shapesOf cX1_shapesOf 5 (some (.array .int)) (d + 1) [.ref q] h 1 1024 (postNew h 2 (aS (shpN rk e))) (fun _ _ => False) := by
  have hp := p2_le he
  have hp0 := p2_pos e
  refine MA.start hW (by decide) [.val (.ref q), .unset, .unset, .unset, .unset] rfl ?_
  rintro X rfl rfl rfl hX
  refine wi_bipush hX dX1_shapesOf_0 (by decide) ?_
  refine WA.room (k2 := 0 + 1) (sl2 := 0 + 121) (by omega) (by omega) ?_
  refine wa_newa hX 121 2 .int (.inl (fun j => Int32.ofInt ((fun _ => 0 : Nat → Int) j))) rfl (by rfl) (by omega) (fun cA => by rfl) (by decide +kernel) dX1_shapesOf_2 (fun a an => ?_)
  have h1i := hset_new (x := (2, aI .int 121 (fun _ => 0))) an h1
  refine wa_astore_n hX (i := 1) dX1_shapesOf_4 rfl (by first | rfl | exact hu1 | exact hu2 | exact hu3 | exact hu4) ?_
  dsimp only [List.set]
  refine wa_aload_n hX (i := 0) dX1_shapesOf_5 rfl rfl ?_
  refine wa_aload_n hX (i := 0) dX1_shapesOf_6 rfl rfl ?_
  refine wa_len hX (by assumption) dX1_shapesOf_7 ?_
  refine wi_iconst hX dX1_shapesOf_8 ?_
  refine wi_isub hX dX1_shapesOf_9 ?_
  rw [show (((2 ^ e : Nat) : Int) - 1) = ((2 ^ e - 1 : Nat) : Int) by omega]
  refine wa_callS hX (c_X9_rk hW d h1i he (s := 2 ^ e - 1) (by omega)) (by rfl) (by omega) (nA := 2) (by rfl) (by decide +kernel) rfl (by exact Nat.le_of_ble_eq_true rfl) dX1_shapesOf_10 (fun r10 h10 p10 => ?_) (fun _ _ q => q.elim)
  obtain ⟨rfl, qq10⟩ := p10; subst h10
  dsimp only [Option.toList, List.cons_append, List.nil_append]
  refine wa_istore_n hX (i := 2) dX1_shapesOf_13 rfl (by first | rfl | exact hu1 | exact hu2 | exact hu3 | exact hu4) ?_
  dsimp only [List.set]
  refine wi_iconst hX dX1_shapesOf_14 ?_
  refine wa_istore_n hX (i := 3) dX1_shapesOf_15 rfl (by first | rfl | exact hu1 | exact hu2 | exact hu3 | exact hu4) ?_
  dsimp only [List.set]
  clear h1i
  refine WA.loop (σ := Nat × (Nat → Int) × Slot) (fun z => 2 ^ e - z.1) (fun z => z.1 ≤ 2 ^ e ∧ okS [z.2.2] 0 = true ∧ ∀ j, j < 121 → z.2.1 j = ((cnt (fun s => decide ((rk (2 ^ e - 1) - rk s) * 11 + (bc s - rk s) = j)) z.1 : Nat) : Int)) (fun z => hset h a (2, aI .int 121 z.2.1)) (fun z => [.val (.ref q), .val (.ref a), .val (I (rk (2 ^ e - 1) : Nat)), .val (I (z.1 : Nat)), z.2.2]) ?_ (0, (fun _ => 0), .unset) ⟨Nat.zero_le _, rfl, fun j hj => rfl⟩
  rintro ⟨i, F, u1⟩ ⟨hi, hu1, hF⟩ ih
  dsimp only at hi hu1 hF ⊢
  have h2 : hset h a (2, aI .int 121 F) a = some (2, aI .int 121 F) := hset_eq
  have h1i := hset_new (x := (2, aI .int 121 F)) an h1
  have hbi := bc_le i
  have hbj := bc_le (2 ^ e - 1)
  have hbk := hb (2 ^ e - 1) (by omega)
  refine wa_iload_n hX (i := 3) dX1_shapesOf_16 rfl rfl ?_
  refine wa_aload_n hX (i := 0) dX1_shapesOf_17 rfl rfl ?_
  refine wa_len hX (by assumption) dX1_shapesOf_18 ?_
  refine wi_icmp_ge hX (tgt := 66) dX1_shapesOf_19 (by decide) (by omega) (by omega) (fun c19 => ?_) (fun c19 => ?_)
  · skip
    have hie : i = 2 ^ e := by omega
    refine WA.ext9 (fun j => ((shpN rk e j : Nat) : Int)) h2 (fun j hj => by rw [hF j hj, hie]; rfl) ?_
    rw [hset_hset]
    refine wa_aload_n hX (i := 1) dX1_shapesOf_66 rfl rfl ?_
    refine wa_aretR hX dX1_shapesOf_67 (by first | exact Or.inl ⟨_, rfl⟩ | exact Or.inr ⟨_, rfl⟩) ?_
    exact ⟨a, rfl, an, rfl⟩
  · skip
    refine wa_iload_n hX (i := 2) dX1_shapesOf_22 rfl rfl ?_
    refine wa_aload_n hX (i := 0) dX1_shapesOf_23 rfl rfl ?_
    refine wa_iload_n hX (i := 3) dX1_shapesOf_24 rfl rfl ?_
    have hbl := hb i (by omega)
    refine wi_baload hX (by assumption) (by omega) (by omega) (by omega) dX1_shapesOf_25 ?_
    refine wi_isub hX dX1_shapesOf_26 ?_
    refine wa_iload_n hX (i := 3) dX1_shapesOf_27 rfl rfl ?_
    refine wa_callS hX (c_J6_bitCount hW d (s := i) (by omega)) (by rfl) (by omega) (nA := 1) (by rfl) (by decide +kernel) rfl (by exact Nat.le_of_ble_eq_true rfl) dX1_shapesOf_28 (fun r28 h28 p28 => ?_) (fun _ _ q => q.elim)
    obtain ⟨rfl, qq28⟩ := p28; subst h28
    dsimp only [Option.toList, List.cons_append, List.nil_append]
    refine wa_aload_n hX (i := 0) dX1_shapesOf_31 rfl rfl ?_
    refine wa_iload_n hX (i := 3) dX1_shapesOf_32 rfl rfl ?_
    refine wi_baload hX (by assumption) (by omega) (by omega) (by omega) dX1_shapesOf_33 ?_
    refine wi_isub hX dX1_shapesOf_34 ?_
    refine wa_callS hX (c_X1_shapeAt hW d) (by rfl) (by omega) (nA := 2) (by rfl) (by decide +kernel) rfl (by exact Nat.le_of_ble_eq_true rfl) dX1_shapesOf_35 (fun r35 h35 p35 => ?_) (fun _ _ q => q.elim)
    obtain ⟨rfl, qq35⟩ := p35; subst h35
    rw [show ((((rk (2 ^ e - 1) : Nat) : Int) - ((rk ((i : Int).toNat) : Nat) : Int)) * 11 + (((bc i : Nat) : Int) - ((rk ((i : Int).toNat) : Nat) : Int))) = (((rk (2 ^ e - 1) - rk i) * 11 + (bc i - rk i) : Nat) : Int) by rw [Int.toNat_natCast]; omega]
    dsimp only [Option.toList, List.cons_append, List.nil_append]
    refine wa_istore hX dX1_shapesOf_38 (by first | rfl | exact hu1 | exact hu2 | exact hu3 | exact hu4) ?_
    dsimp only [List.set]
    refine wa_iload hX dX1_shapesOf_40 rfl ?_
    refine wi_if_lt hX (tgt := 60) dX1_shapesOf_42 (by decide) (by omega) (fun c42 => ?_) (fun c42 => ?_)
    · skip
      refine wi_iinc hX dX1_shapesOf_60 rfl ?_
      dsimp only [List.set]
      refine wa_goto hX (tgt := 16) dX1_shapesOf_63 (by decide) ?_
      first
        | (exfalso; omega)
        | (refine ih (i + 1, up F (((rk (2 ^ e - 1) - rk i) * 11 + (bc i - rk i) : Nat) : Int).toNat (F (((rk (2 ^ e - 1) - rk i) * 11 + (bc i - rk i) : Nat) : Int).toNat + 1), .val (I (((rk (2 ^ e - 1) - rk i) * 11 + (bc i - rk i) : Nat) : Int))) ⟨by show i + 1 ≤ 2 ^ e; omega, rfl, fun j hj => ?_⟩ (by show 2 ^ e - (i + 1) < 2 ^ e - i; omega)
           dsimp only
           rw [up_is, Int.toNat_natCast]
           by_cases e5 : j = (rk (2 ^ e - 1) - rk i) * 11 + (bc i - rk i)
           · subst e5
             rw [if_pos rfl, hF _ hj, cnt_y (decide_eq_true rfl)]
             omega
           · rw [if_neg e5, hF j hj, cnt_n (by simp; omega)])
    · skip
      refine wa_iload hX dX1_shapesOf_45 rfl ?_
      refine wa_aload_n hX (i := 1) dX1_shapesOf_47 rfl rfl ?_
      refine wa_len hX (by assumption) dX1_shapesOf_48 ?_
      refine wi_icmp_ge hX (tgt := 60) dX1_shapesOf_49 (by decide) (by omega) (by omega) (fun c49 => ?_) (fun c49 => ?_)
      · skip
        refine wi_iinc hX dX1_shapesOf_60 rfl ?_
        dsimp only [List.set]
        refine wa_goto hX (tgt := 16) dX1_shapesOf_63 (by decide) ?_
        first
          | (exfalso; omega)
          | (refine ih (i + 1, up F (((rk (2 ^ e - 1) - rk i) * 11 + (bc i - rk i) : Nat) : Int).toNat (F (((rk (2 ^ e - 1) - rk i) * 11 + (bc i - rk i) : Nat) : Int).toNat + 1), .val (I (((rk (2 ^ e - 1) - rk i) * 11 + (bc i - rk i) : Nat) : Int))) ⟨by show i + 1 ≤ 2 ^ e; omega, rfl, fun j hj => ?_⟩ (by show 2 ^ e - (i + 1) < 2 ^ e - i; omega)
             dsimp only
             rw [up_is, Int.toNat_natCast]
             by_cases e5 : j = (rk (2 ^ e - 1) - rk i) * 11 + (bc i - rk i)
             · subst e5
               rw [if_pos rfl, hF _ hj, cnt_y (decide_eq_true rfl)]
               omega
             · rw [if_neg e5, hF j hj, cnt_n (by simp; omega)])
      · skip
        refine wa_aload_n hX (i := 1) dX1_shapesOf_52 rfl rfl ?_
        refine wa_iload hX dX1_shapesOf_53 rfl ?_
        refine wa_dup2 hX dX1_shapesOf_55 rfl rfl ?_
        refine wi_iaload hX (by assumption) (by omega) (by omega) (by omega) dX1_shapesOf_56 ?_
        refine wi_iconst hX dX1_shapesOf_57 ?_
        refine wi_iadd hX dX1_shapesOf_58 ?_
        refine wi_iastore hX h2 (by omega) (by omega) (by omega) dX1_shapesOf_59 ?_
        rw [hset_hset]
        refine wi_iinc hX dX1_shapesOf_60 rfl ?_
        dsimp only [List.set]
        refine wa_goto hX (tgt := 16) dX1_shapesOf_63 (by decide) ?_
        first
          | (exfalso; omega)
          | (refine ih (i + 1, up F (((rk (2 ^ e - 1) - rk i) * 11 + (bc i - rk i) : Nat) : Int).toNat (F (((rk (2 ^ e - 1) - rk i) * 11 + (bc i - rk i) : Nat) : Int).toNat + 1), .val (I (((rk (2 ^ e - 1) - rk i) * 11 + (bc i - rk i) : Nat) : Int))) ⟨by show i + 1 ≤ 2 ^ e; omega, rfl, fun j hj => ?_⟩ (by show 2 ^ e - (i + 1) < 2 ^ e - i; omega)
             dsimp only
             rw [up_is, Int.toNat_natCast]
             by_cases e5 : j = (rk (2 ^ e - 1) - rk i) * 11 + (bc i - rk i)
             · subst e5
               rw [if_pos rfl, hF _ hj, cnt_y (decide_eq_true rfl)]
               omega
             · rw [if_neg e5, hF j hj, cnt_n (by simp; omega)])
end C28
