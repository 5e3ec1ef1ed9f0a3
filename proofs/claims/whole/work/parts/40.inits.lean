/-! Constructors of Circuitfold$Row (X8), Exchange (X4), Likeness (X5), Minors (X7); reads of Exchange, Minors -/
abbrev z0 : Nat → Int := fun _ => 0
abbrev oLik (r1 r2 r3 r4 r5 r6 : Nat) (e n : Int) : Ob := oF 7 [.ref r1, .ref r2, .ref r3, .ref r4, .ref r5, .ref r6, I e, I n]
abbrev oMin (lk dq : Nat) (listed : Int) (lw lp : Value) (fo co de : Int) : Ob := oF 9 [.ref lk, .ref dq, I listed, lw, lp, I fo, I co, I de]
section C40
variable {l : Launch} {D : va_G} {S0 : State}
set_option maxRecDepth 100000 in
theorem c_X8_init (hW : WOK l D S0) (d : Nat) {h : AH} {a la : Nat} (lq : Nat) (h1 : h a = some (la, oF 10 [.null, I 0])) (hl : lq ≠ la) : MA l D S0 yX8_init cX8_init 1 none d [.ref a] h 1 60 (fun r h' => r = none ∧ (∃ q, h' a = some (la, oRow q 0) ∧ h' q = some (lq, aI .int 60 z0)) ∧ Fr (fun x => x = la) h h') (fun _ _ => False) := by
  have fr : Fr (fun x => x = la) h h := Fr.rf
  refine MA.start hW (by decide) [.val (.ref a)] rfl ?_
  rintro X rfl rfl rfl hX
  refine wa_aload_n hX (i := 0) dX8_init_0 rfl rfl ?_
  refine wa_obj hX (by decide +kernel) rfl (by exact Nat.le_of_ble_eq_true rfl) dX8_init_1 ?_
  refine wa_aload_n hX (i := 0) dX8_init_4 rfl rfl ?_
  refine wi_bipush hX dX8_init_5 (by decide) ?_
  refine wa_newa hX 60 lq .int (.inl (fun j => Int32.ofInt ((fun _ => 0 : Nat → Int) j))) rfl (by omega) (by omega) (fun cA => by rfl) (by decide +kernel) dX8_init_7 (fun q qn => ?_)
  refine WA.hnew qn (fun hh1 hN hK => ?_)
  replace fr := Fr.mk9 fr hK
  replace h1 := hK _ _ _ h1
  have Hq := hN
  clear hN hK
  refine wa_putF hX 0 h1 (Nat.le_of_ble_eq_true rfl) (by decide +kernel) (by rfl) rfl (by rfl) (by rfl) (by rfl) dX8_init_9 ?_
  refine WA.hgen h1 (fun hh2 hN hK => ?_)
  replace fr := Fr.put fr h1 hK (by first | decide | omega | simp)
  replace Hq := (hK _ (lab_ne h1 Hq (by first | decide | omega))).trans Hq
  replace h1 := hN
  clear hN hK
  refine wa_vret hX dX8_init_12 ?_
  exact ⟨rfl, ⟨q, h1, Hq⟩, fr⟩
set_option maxRecDepth 100000 in
theorem c_X4_init (hW : WOK l D S0) (d : Nat) {h : AH} {a la : Nat} (lm ls lw : Nat) (h1 : h a = some (la, oF 6 [.null, .null, .null, I 0, I 0, I 0, I 0, I 0])) (hl1 : lm ≠ la) (hl2 : ls ≠ la) (hl3 : lw ≠ la) : MA l D S0 yX4_init cX4_init 1 none d [.ref a] h 3 2058 (fun r h' => r = none ∧ (∃ mq sq wq, h' a = some (la, oExc mq sq wq 0 0 0 0 0) ∧ h' mq = some (lm, aI .byte 1024 z0) ∧ h' sq = some (ls, aI .byte 1024 z0) ∧ h' wq = some (lw, aI .int 10 z0)) ∧ Fr (fun x => x = la) h h') (fun _ _ => False) := by
  have fr : Fr (fun x => x = la) h h := Fr.rf
  refine MA.start hW (by decide) [.val (.ref a)] rfl ?_
  rintro X rfl rfl rfl hX
  refine wa_aload_n hX (i := 0) dX4_init_0 rfl rfl ?_
  refine wa_obj hX (by decide +kernel) rfl (by exact Nat.le_of_ble_eq_true rfl) dX4_init_1 ?_
  refine wa_aload_n hX (i := 0) dX4_init_4 rfl rfl ?_
  refine wi_sipush hX dX4_init_5 (by decide) ?_
  refine wa_newa hX 1024 lm .byte (.inl (fun j => Int32.ofInt ((fun _ => 0 : Nat → Int) j))) rfl (by omega) (by omega) (fun cA => by rfl) (by decide +kernel) dX4_init_8 (fun mq mqn => ?_)
  refine WA.hnew mqn (fun hh3 hN hK => ?_)
  replace fr := Fr.mk9 fr hK
  replace h1 := hK _ _ _ h1
  have Hmq := hN
  clear hN hK
  refine wa_putF hX 0 h1 (Nat.le_of_ble_eq_true rfl) (by decide +kernel) (by rfl) rfl (by rfl) (by rfl) (by rfl) dX4_init_10 ?_
  refine WA.hgen h1 (fun hh4 hN hK => ?_)
  replace fr := Fr.put fr h1 hK (by first | decide | omega | simp)
  replace Hmq := (hK _ (lab_ne h1 Hmq (by first | decide | omega))).trans Hmq
  replace h1 := hN
  clear hN hK
  refine wa_aload_n hX (i := 0) dX4_init_13 rfl rfl ?_
  refine wi_sipush hX dX4_init_14 (by decide) ?_
  refine wa_newa hX 1024 ls .byte (.inl (fun j => Int32.ofInt ((fun _ => 0 : Nat → Int) j))) rfl (by omega) (by omega) (fun cA => by rfl) (by decide +kernel) dX4_init_17 (fun sq sqn => ?_)
  refine WA.hnew sqn (fun hh5 hN hK => ?_)
  replace fr := Fr.mk9 fr hK
  replace h1 := hK _ _ _ h1
  replace Hmq := hK _ _ _ Hmq
  have Hsq := hN
  clear hN hK
  refine wa_putF hX 1 h1 (Nat.le_of_ble_eq_true rfl) (by decide +kernel) (by rfl) rfl (by rfl) (by rfl) (by rfl) dX4_init_19 ?_
  refine WA.hgen h1 (fun hh6 hN hK => ?_)
  replace fr := Fr.put fr h1 hK (by first | decide | omega | simp)
  replace Hmq := (hK _ (lab_ne h1 Hmq (by first | decide | omega))).trans Hmq
  replace Hsq := (hK _ (lab_ne h1 Hsq (by first | decide | omega))).trans Hsq
  replace h1 := hN
  clear hN hK
  refine wa_aload_n hX (i := 0) dX4_init_22 rfl rfl ?_
  refine wi_bipush hX dX4_init_23 (by decide) ?_
  refine wa_newa hX 10 lw .int (.inl (fun j => Int32.ofInt ((fun _ => 0 : Nat → Int) j))) rfl (by omega) (by omega) (fun cA => by rfl) (by decide +kernel) dX4_init_25 (fun wq wqn => ?_)
  refine WA.hnew wqn (fun hh7 hN hK => ?_)
  replace fr := Fr.mk9 fr hK
  replace h1 := hK _ _ _ h1
  replace Hmq := hK _ _ _ Hmq
  replace Hsq := hK _ _ _ Hsq
  have Hwq := hN
  clear hN hK
  refine wa_putF hX 2 h1 (Nat.le_of_ble_eq_true rfl) (by decide +kernel) (by rfl) rfl (by rfl) (by rfl) (by rfl) dX4_init_27 ?_
  refine WA.hgen h1 (fun hh8 hN hK => ?_)
  replace fr := Fr.put fr h1 hK (by first | decide | omega | simp)
  replace Hmq := (hK _ (lab_ne h1 Hmq (by first | decide | omega))).trans Hmq
  replace Hsq := (hK _ (lab_ne h1 Hsq (by first | decide | omega))).trans Hsq
  replace Hwq := (hK _ (lab_ne h1 Hwq (by first | decide | omega))).trans Hwq
  replace h1 := hN
  clear hN hK
  refine wa_vret hX dX4_init_30 ?_
  exact ⟨rfl, ⟨mq, sq, wq, h1, Hmq, Hsq, Hwq⟩, fr⟩
set_option maxRecDepth 100000 in
theorem c_X5_init (hW : WOK l D S0) (d : Nat) {h : AH} {a b : Nat} (h1 : h a = some (b, oF 7 [.null, .null, .null, .null, .null, .null, I 0, I 0])) : MA l D S0 yX5_init cX5_init 1 none d [.ref a] h 6 4116 (fun r h' => r = none ∧ (∃ r1 r2 r3 r4 r5 r6, h' a = some (b, oLik r1 r2 r3 r4 r5 r6 0 0) ∧ h' r1 = some (b + 1, aI .int 1024 z0) ∧ h' r2 = some (b + 2, aI .int 1024 z0) ∧ h' r3 = some (b + 3, aI .int 1024 z0) ∧ h' r4 = some (b + 4, aI .int 1024 z0) ∧ h' r5 = some (b + 5, aI .int 10 z0) ∧ h' r6 = some (b + 6, aI .int 10 z0)) ∧ Fr (fun x => x = b) h h') (fun _ _ => False) := by
  have fr : Fr (fun x => x = b) h h := Fr.rf
  refine MA.start hW (by decide) [.val (.ref a)] rfl ?_
  rintro X rfl rfl rfl hX
  refine wa_aload_n hX (i := 0) dX5_init_0 rfl rfl ?_
  refine wa_obj hX (by decide +kernel) rfl (by exact Nat.le_of_ble_eq_true rfl) dX5_init_1 ?_
  refine wa_aload_n hX (i := 0) dX5_init_4 rfl rfl ?_
  refine wi_sipush hX dX5_init_5 (by decide) ?_
  refine wa_newa hX 1024 (b+1) .int (.inl (fun j => Int32.ofInt ((fun _ => 0 : Nat → Int) j))) rfl (by omega) (by omega) (fun cA => by rfl) (by decide +kernel) dX5_init_8 (fun r1 r1n => ?_)
  refine WA.hnew r1n (fun hh9 hN hK => ?_)
  replace fr := Fr.mk9 fr hK
  replace h1 := hK _ _ _ h1
  have Hr1 := hN
  clear hN hK
  refine wa_putF hX 0 h1 (Nat.le_of_ble_eq_true rfl) (by decide +kernel) (by rfl) rfl (by rfl) (by rfl) (by rfl) dX5_init_10 ?_
  refine WA.hgen h1 (fun hh10 hN hK => ?_)
  replace fr := Fr.put fr h1 hK (by first | decide | omega | simp)
  replace Hr1 := (hK _ (lab_ne h1 Hr1 (by first | decide | omega))).trans Hr1
  replace h1 := hN
  clear hN hK
  refine wa_aload_n hX (i := 0) dX5_init_13 rfl rfl ?_
  refine wi_sipush hX dX5_init_14 (by decide) ?_
  refine wa_newa hX 1024 (b+2) .int (.inl (fun j => Int32.ofInt ((fun _ => 0 : Nat → Int) j))) rfl (by omega) (by omega) (fun cA => by rfl) (by decide +kernel) dX5_init_17 (fun r2 r2n => ?_)
  refine WA.hnew r2n (fun hh11 hN hK => ?_)
  replace fr := Fr.mk9 fr hK
  replace h1 := hK _ _ _ h1
  replace Hr1 := hK _ _ _ Hr1
  have Hr2 := hN
  clear hN hK
  refine wa_putF hX 1 h1 (Nat.le_of_ble_eq_true rfl) (by decide +kernel) (by rfl) rfl (by rfl) (by rfl) (by rfl) dX5_init_19 ?_
  refine WA.hgen h1 (fun hh12 hN hK => ?_)
  replace fr := Fr.put fr h1 hK (by first | decide | omega | simp)
  replace Hr1 := (hK _ (lab_ne h1 Hr1 (by first | decide | omega))).trans Hr1
  replace Hr2 := (hK _ (lab_ne h1 Hr2 (by first | decide | omega))).trans Hr2
  replace h1 := hN
  clear hN hK
  refine wa_aload_n hX (i := 0) dX5_init_22 rfl rfl ?_
  refine wi_sipush hX dX5_init_23 (by decide) ?_
  refine wa_newa hX 1024 (b+3) .int (.inl (fun j => Int32.ofInt ((fun _ => 0 : Nat → Int) j))) rfl (by omega) (by omega) (fun cA => by rfl) (by decide +kernel) dX5_init_26 (fun r3 r3n => ?_)
  refine WA.hnew r3n (fun hh13 hN hK => ?_)
  replace fr := Fr.mk9 fr hK
  replace h1 := hK _ _ _ h1
  replace Hr1 := hK _ _ _ Hr1
  replace Hr2 := hK _ _ _ Hr2
  have Hr3 := hN
  clear hN hK
  refine wa_putF hX 2 h1 (Nat.le_of_ble_eq_true rfl) (by decide +kernel) (by rfl) rfl (by rfl) (by rfl) (by rfl) dX5_init_28 ?_
  refine WA.hgen h1 (fun hh14 hN hK => ?_)
  replace fr := Fr.put fr h1 hK (by first | decide | omega | simp)
  replace Hr1 := (hK _ (lab_ne h1 Hr1 (by first | decide | omega))).trans Hr1
  replace Hr2 := (hK _ (lab_ne h1 Hr2 (by first | decide | omega))).trans Hr2
  replace Hr3 := (hK _ (lab_ne h1 Hr3 (by first | decide | omega))).trans Hr3
  replace h1 := hN
  clear hN hK
  refine wa_aload_n hX (i := 0) dX5_init_31 rfl rfl ?_
  refine wi_sipush hX dX5_init_32 (by decide) ?_
  refine wa_newa hX 1024 (b+4) .int (.inl (fun j => Int32.ofInt ((fun _ => 0 : Nat → Int) j))) rfl (by omega) (by omega) (fun cA => by rfl) (by decide +kernel) dX5_init_35 (fun r4 r4n => ?_)
  refine WA.hnew r4n (fun hh15 hN hK => ?_)
  replace fr := Fr.mk9 fr hK
  replace h1 := hK _ _ _ h1
  replace Hr1 := hK _ _ _ Hr1
  replace Hr2 := hK _ _ _ Hr2
  replace Hr3 := hK _ _ _ Hr3
  have Hr4 := hN
  clear hN hK
  refine wa_putF hX 3 h1 (Nat.le_of_ble_eq_true rfl) (by decide +kernel) (by rfl) rfl (by rfl) (by rfl) (by rfl) dX5_init_37 ?_
  refine WA.hgen h1 (fun hh16 hN hK => ?_)
  replace fr := Fr.put fr h1 hK (by first | decide | omega | simp)
  replace Hr1 := (hK _ (lab_ne h1 Hr1 (by first | decide | omega))).trans Hr1
  replace Hr2 := (hK _ (lab_ne h1 Hr2 (by first | decide | omega))).trans Hr2
  replace Hr3 := (hK _ (lab_ne h1 Hr3 (by first | decide | omega))).trans Hr3
  replace Hr4 := (hK _ (lab_ne h1 Hr4 (by first | decide | omega))).trans Hr4
  replace h1 := hN
  clear hN hK
  refine wa_aload_n hX (i := 0) dX5_init_40 rfl rfl ?_
  refine wi_bipush hX dX5_init_41 (by decide) ?_
  refine wa_newa hX 10 (b+5) .int (.inl (fun j => Int32.ofInt ((fun _ => 0 : Nat → Int) j))) rfl (by omega) (by omega) (fun cA => by rfl) (by decide +kernel) dX5_init_43 (fun r5 r5n => ?_)
  refine WA.hnew r5n (fun hh17 hN hK => ?_)
  replace fr := Fr.mk9 fr hK
  replace h1 := hK _ _ _ h1
  replace Hr1 := hK _ _ _ Hr1
  replace Hr2 := hK _ _ _ Hr2
  replace Hr3 := hK _ _ _ Hr3
  replace Hr4 := hK _ _ _ Hr4
  have Hr5 := hN
  clear hN hK
  refine wa_putF hX 4 h1 (Nat.le_of_ble_eq_true rfl) (by decide +kernel) (by rfl) rfl (by rfl) (by rfl) (by rfl) dX5_init_45 ?_
  refine WA.hgen h1 (fun hh18 hN hK => ?_)
  replace fr := Fr.put fr h1 hK (by first | decide | omega | simp)
  replace Hr1 := (hK _ (lab_ne h1 Hr1 (by first | decide | omega))).trans Hr1
  replace Hr2 := (hK _ (lab_ne h1 Hr2 (by first | decide | omega))).trans Hr2
  replace Hr3 := (hK _ (lab_ne h1 Hr3 (by first | decide | omega))).trans Hr3
  replace Hr4 := (hK _ (lab_ne h1 Hr4 (by first | decide | omega))).trans Hr4
  replace Hr5 := (hK _ (lab_ne h1 Hr5 (by first | decide | omega))).trans Hr5
  replace h1 := hN
  clear hN hK
  refine wa_aload_n hX (i := 0) dX5_init_48 rfl rfl ?_
  refine wi_bipush hX dX5_init_49 (by decide) ?_
  refine wa_newa hX 10 (b+6) .int (.inl (fun j => Int32.ofInt ((fun _ => 0 : Nat → Int) j))) rfl (by omega) (by omega) (fun cA => by rfl) (by decide +kernel) dX5_init_51 (fun r6 r6n => ?_)
  refine WA.hnew r6n (fun hh19 hN hK => ?_)
  replace fr := Fr.mk9 fr hK
  replace h1 := hK _ _ _ h1
  replace Hr1 := hK _ _ _ Hr1
  replace Hr2 := hK _ _ _ Hr2
  replace Hr3 := hK _ _ _ Hr3
  replace Hr4 := hK _ _ _ Hr4
  replace Hr5 := hK _ _ _ Hr5
  have Hr6 := hN
  clear hN hK
  refine wa_putF hX 5 h1 (Nat.le_of_ble_eq_true rfl) (by decide +kernel) (by rfl) rfl (by rfl) (by rfl) (by rfl) dX5_init_53 ?_
  refine WA.hgen h1 (fun hh20 hN hK => ?_)
  replace fr := Fr.put fr h1 hK (by first | decide | omega | simp)
  replace Hr1 := (hK _ (lab_ne h1 Hr1 (by first | decide | omega))).trans Hr1
  replace Hr2 := (hK _ (lab_ne h1 Hr2 (by first | decide | omega))).trans Hr2
  replace Hr3 := (hK _ (lab_ne h1 Hr3 (by first | decide | omega))).trans Hr3
  replace Hr4 := (hK _ (lab_ne h1 Hr4 (by first | decide | omega))).trans Hr4
  replace Hr5 := (hK _ (lab_ne h1 Hr5 (by first | decide | omega))).trans Hr5
  replace Hr6 := (hK _ (lab_ne h1 Hr6 (by first | decide | omega))).trans Hr6
  replace h1 := hN
  clear hN hK
  refine wa_vret hX dX5_init_56 ?_
  exact ⟨rfl, ⟨r1, r2, r3, r4, r5, r6, h1, Hr1, Hr2, Hr3, Hr4, Hr5, Hr6⟩, fr⟩
set_option maxRecDepth 100000 in
theorem c_X7_init (hW : WOK l D S0) (d : Nat) {h : AH} {a la lk lb : Nat} {vs : List Value} (ld : Nat) (h1 : h a = some (la, oF 9 [.null, .null, I 0, .null, .null, I 0, I 0, I 0])) (h2 : h lk = some (lb, oF 7 vs)) (hl1 : ld ≠ la) (hl2 : lb ≠ la) : MA l D S0 yX7_init cX7_init 2 none d [.ref a, .ref lk] h 1 1024 (fun r h' => r = none ∧ (∃ dq, h' a = some (la, oMin lk dq 0 .null .null 0 0 0) ∧ h' dq = some (ld, aI .int 1024 z0)) ∧ Fr (fun x => x = la) h h') (fun _ _ => False) := by
  have fr : Fr (fun x => x = la) h h := Fr.rf
  refine MA.start hW (by decide) [.val (.ref a), .val (.ref lk)] rfl ?_
  rintro X rfl rfl rfl hX
  refine wa_aload_n hX (i := 0) dX7_init_0 rfl rfl ?_
  refine wa_obj hX (by decide +kernel) rfl (by exact Nat.le_of_ble_eq_true rfl) dX7_init_1 ?_
  refine wa_aload_n hX (i := 0) dX7_init_4 rfl rfl ?_
  refine wi_sipush hX dX7_init_5 (by decide) ?_
  refine wa_newa hX 1024 ld .int (.inl (fun j => Int32.ofInt ((fun _ => 0 : Nat → Int) j))) rfl (by omega) (by omega) (fun cA => by rfl) (by decide +kernel) dX7_init_8 (fun dq dqn => ?_)
  refine WA.hnew dqn (fun hh21 hN hK => ?_)
  replace fr := Fr.mk9 fr hK
  replace h1 := hK _ _ _ h1
  replace h2 := hK _ _ _ h2
  have Hdq := hN
  clear hN hK
  refine wa_putF hX 1 h1 (Nat.le_of_ble_eq_true rfl) (by decide +kernel) (by rfl) rfl (by rfl) (by rfl) (by rfl) dX7_init_10 ?_
  refine WA.hgen h1 (fun hh22 hN hK => ?_)
  replace fr := Fr.put fr h1 hK (by first | decide | omega | simp)
  replace h2 := (hK _ (lab_ne h1 h2 (by first | decide | omega))).trans h2
  replace Hdq := (hK _ (lab_ne h1 Hdq (by first | decide | omega))).trans Hdq
  replace h1 := hN
  clear hN hK
  refine wa_aload_n hX (i := 0) dX7_init_13 rfl rfl ?_
  refine wa_aload_n hX (i := 1) dX7_init_14 rfl rfl ?_
  refine wa_putF hX 0 h1 (Nat.le_of_ble_eq_true rfl) (by decide +kernel) (by rfl) rfl (by rfl) (by rfl) (by rfl) dX7_init_15 ?_
  refine WA.hgen h1 (fun hh23 hN hK => ?_)
  replace fr := Fr.put fr h1 hK (by first | decide | omega | simp)
  replace h2 := (hK _ (lab_ne h1 h2 (by first | decide | omega))).trans h2
  replace Hdq := (hK _ (lab_ne h1 Hdq (by first | decide | omega))).trans Hdq
  replace h1 := hN
  clear hN hK
  refine wa_vret hX dX7_init_18 ?_
  exact ⟨rfl, ⟨dq, h1, Hdq⟩, fr⟩
set_option maxRecDepth 100000 in
theorem c_X4_isBroken (hW : WOK l D S0) (d : Nat) {h : AH} {a la mq sq wq : Nat} {all br bf bs be : Int} (h1 : h a = some (la, oExc mq sq wq all br bf bs be)) (hb : br = 0 ∨ br = 1) : MA l D S0 yX4_isBroken cX4_isBroken 1 (some .boolean) d [.ref a] h 0 0 (fun r h' => r = some (I br) ∧ h' = h) (fun _ _ => False) := by
  refine MA.start hW (by decide) [.val (.ref a)] rfl ?_
  rintro X rfl rfl rfl hX
  refine wa_aload_n hX (i := 0) dX4_isBroken_0 rfl rfl ?_
  refine wa_get hX 4 (by assumption) (by rfl) (by decide +kernel) dX4_isBroken_1 ?_
  refine wa_zret hX dX4_isBroken_4 (by rcases hb with q | q <;> subst q <;> rfl) ?_
  exact ⟨rfl, rfl⟩
set_option maxRecDepth 100000 in
theorem c_X4_brokenFirst (hW : WOK l D S0) (d : Nat) {h : AH} {a la mq sq wq : Nat} {all br bf bs be : Int} (h1 : h a = some (la, oExc mq sq wq all br bf bs be)) : MA l D S0 yX4_brokenFirst cX4_brokenFirst 1 (some .int) d [.ref a] h 0 0 (fun r h' => r = some (I bf) ∧ h' = h) (fun _ _ => False) := by
  refine MA.start hW (by decide) [.val (.ref a)] rfl ?_
  rintro X rfl rfl rfl hX
  refine wa_aload_n hX (i := 0) dX4_brokenFirst_0 rfl rfl ?_
  refine wa_get hX 5 (by assumption) (by rfl) (by decide +kernel) dX4_brokenFirst_1 ?_
  refine wa_iret hX dX4_brokenFirst_4 ?_
  exact ⟨rfl, rfl⟩
set_option maxRecDepth 100000 in
theorem c_X4_brokenSecond (hW : WOK l D S0) (d : Nat) {h : AH} {a la mq sq wq : Nat} {all br bf bs be : Int} (h1 : h a = some (la, oExc mq sq wq all br bf bs be)) : MA l D S0 yX4_brokenSecond cX4_brokenSecond 1 (some .int) d [.ref a] h 0 0 (fun r h' => r = some (I bs) ∧ h' = h) (fun _ _ => False) := by
  refine MA.start hW (by decide) [.val (.ref a)] rfl ?_
  rintro X rfl rfl rfl hX
  refine wa_aload_n hX (i := 0) dX4_brokenSecond_0 rfl rfl ?_
  refine wa_get hX 6 (by assumption) (by rfl) (by decide +kernel) dX4_brokenSecond_1 ?_
  refine wa_iret hX dX4_brokenSecond_4 ?_
  exact ⟨rfl, rfl⟩
set_option maxRecDepth 100000 in
theorem c_X4_brokenElement (hW : WOK l D S0) (d : Nat) {h : AH} {a la mq sq wq : Nat} {all br bf bs be : Int} (h1 : h a = some (la, oExc mq sq wq all br bf bs be)) : MA l D S0 yX4_brokenElement cX4_brokenElement 1 (some .int) d [.ref a] h 0 0 (fun r h' => r = some (I be) ∧ h' = h) (fun _ _ => False) := by
  refine MA.start hW (by decide) [.val (.ref a)] rfl ?_
  rintro X rfl rfl rfl hX
  refine wa_aload_n hX (i := 0) dX4_brokenElement_0 rfl rfl ?_
  refine wa_get hX 7 (by assumption) (by rfl) (by decide +kernel) dX4_brokenElement_1 ?_
  refine wa_iret hX dX4_brokenElement_4 ?_
  exact ⟨rfl, rfl⟩
set_option maxRecDepth 100000 in
theorem c_X7_contracted (hW : WOK l D S0) (d : Nat) {h : AH} {a la lk dq : Nat} {li fo co de : Int} {lw lp : Value} (h1 : h a = some (la, oMin lk dq li lw lp fo co de)) : MA l D S0 yX7_contracted cX7_contracted 1 (some .int) d [.ref a] h 0 0 (fun r h' => r = some (I co) ∧ h' = h) (fun _ _ => False) := by
  refine MA.start hW (by decide) [.val (.ref a)] rfl ?_
  rintro X rfl rfl rfl hX
  refine wa_aload_n hX (i := 0) dX7_contracted_0 rfl rfl ?_
  refine wa_get hX 6 (by assumption) (by rfl) (by decide +kernel) dX7_contracted_1 ?_
  refine wa_iret hX dX7_contracted_4 ?_
  exact ⟨rfl, rfl⟩
set_option maxRecDepth 100000 in
theorem c_X7_deleted (hW : WOK l D S0) (d : Nat) {h : AH} {a la lk dq : Nat} {li fo co de : Int} {lw lp : Value} (h1 : h a = some (la, oMin lk dq li lw lp fo co de)) : MA l D S0 yX7_deleted cX7_deleted 1 (some .int) d [.ref a] h 0 0 (fun r h' => r = some (I de) ∧ h' = h) (fun _ _ => False) := by
  refine MA.start hW (by decide) [.val (.ref a)] rfl ?_
  rintro X rfl rfl rfl hX
  refine wa_aload_n hX (i := 0) dX7_deleted_0 rfl rfl ?_
  refine wa_get hX 7 (by assumption) (by rfl) (by decide +kernel) dX7_deleted_1 ?_
  refine wa_iret hX dX7_deleted_4 ?_
  exact ⟨rfl, rfl⟩
end C40
