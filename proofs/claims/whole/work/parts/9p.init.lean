/-! The reference (X12): its constructor; ArrayList's -/
section C9p
variable {l : Launch} {D : va_G} {S0 : State}
set_option maxRecDepth 100000 in
theorem c_AC_init (hW : WOK l D S0) (d : Nat) {h : AH} {a : Nat} : MA l D S0 yJxa1e45_init_da8c8 cJxa1e45_init_da8c8 1 none d [.ref a] h 0 0 (fun r h' => r = none ∧ h' = h) (fun _ _ => False) := by
  refine MA.start hW (by decide) [.val (.ref a)] rfl ?_
  rintro X rfl rfl rfl hX
  refine wa_aload_n hX (i := 0) dJxa1e45_init_da8c8_0 rfl rfl ?_
  refine wa_obj hX (by decide +kernel) rfl (by exact Nat.le_of_ble_eq_true rfl) dJxa1e45_init_da8c8_1 ?_
  refine wa_vret hX dJxa1e45_init_da8c8_4 ?_
  exact ⟨rfl, rfl⟩
set_option maxRecDepth 100000 in
theorem c_ALs_init (hW : WOK l D S0) (d : Nat) {h : AH} {a la : Nat} {x y : Value} (h1 : h a = some (la, oF 3 [I 0, x, y])) : MA l D S0 yJxc12de_init_da8c8 cJxc12de_init_da8c8 1 none (d + 1) [.ref a] h 0 0 (fun r h' => r = none ∧ h' = h) (fun _ _ => False) := by
  refine MA.start hW (by decide) [.val (.ref a)] rfl ?_
  rintro X rfl rfl rfl hX
  refine wa_aload_n hX (i := 0) dJxc12de_init_da8c8_0 rfl rfl ?_
  refine wa_callI hX (c_AC_init hW d) (by rfl) (by omega) (nA := 0) (by rfl) (by decide +kernel) rfl (by exact Nat.le_of_ble_eq_true rfl) dJxc12de_init_da8c8_1 (fun r1 h9 p1 => ?_) (fun _ _ q => q.elim)
  obtain ⟨rfl, hq⟩ := p1
  subst h9
  dsimp only [Option.toList, List.cons_append, List.nil_append]
  refine wa_aload_n hX (i := 0) dJxc12de_init_da8c8_4 rfl rfl ?_
  refine wi_iconst hX dJxc12de_init_da8c8_5 ?_
  refine wa_put hX 0 h1 (Nat.le_of_ble_eq_true rfl) (by decide +kernel) (by rfl) (by rfl) (by rfl) dJxc12de_init_da8c8_6 ?_
  refine WA.heap (h2 := h) (hset_self h1) ?_
  refine wa_vret hX dJxc12de_init_da8c8_9 ?_
  exact ⟨rfl, rfl⟩
set_option maxRecDepth 100000 in
theorem c_AL_init (hW : WOK l D S0) (d : Nat) {h : AH} {a la : Nat} (h1 : h a = some (la, oF 3 [I 0, .null, I 0])) : MA l D S0 yJx4a65c_init_da8c8 cJx4a65c_init_da8c8 1 none (d + 2) [.ref a] h 0 0 (fun r h' => r = none ∧ ∃ z, zA S0 z ∧ h' = hset h a (la, oAL 0 z 0)) (fun _ _ => False) := by
  obtain ⟨z, hz⟩ := zA_of hW
  refine MA.start hW (by decide) [.val (.ref a)] rfl ?_
  rintro X rfl rfl rfl hX
  refine wa_aload_n hX (i := 0) dJx4a65c_init_da8c8_0 rfl rfl ?_
  refine wa_callI hX (c_ALs_init hW d h1) (by rfl) (by omega) (nA := 0) (by rfl) (by decide +kernel) rfl (by exact Nat.le_of_ble_eq_true rfl) dJx4a65c_init_da8c8_1 (fun r1 h9 p1 => ?_) (fun _ _ q => q.elim)
  obtain ⟨rfl, hq⟩ := p1
  subst h9
  dsimp only [Option.toList, List.cons_append, List.nil_append]
  refine wa_aload_n hX (i := 0) dJx4a65c_init_da8c8_4 rfl rfl ?_
  refine wa_getsZ hX hz (by decide +kernel) dJx4a65c_init_da8c8_5 ?_
  refine wa_put hX 1 h1 (Nat.le_of_ble_eq_true rfl) (by decide +kernel) (by rfl) (by rfl) (by rfl) dJx4a65c_init_da8c8_8 ?_
  refine WA.heap (h2 := hset h a (la, oAL 0 z 0)) rfl ?_
  refine wa_vret hX dJx4a65c_init_da8c8_11 ?_
  exact ⟨rfl, z, hz, rfl⟩
set_option maxHeartbeats 4000000 in
set_option maxRecDepth 100000 in
theorem c_X12_init (hW : WOK l D S0) (d : Nat) (DR : (Nat → Nat) → Nat → Nat → Option (Nat → Nat) → Prop) {h : AH} {a : Nat} (E : Nat → Nat) (R : Nat → Nat → Nat) (k1 : h a = some (120, oF 13 [I 0, I 0, .null, .null, .null, .null, .null, .null, .null])) : MA l D S0 yX12_init cX12_init 1 none (d + 3) [.ref a] h 8 1216 (fun r h' => r = none ∧ RI (zA S0) DR h' a 0 0 (fun _ => 0) 0 E R (-1) (-1) (-1) ∧ Fr (fun x => 119 ≤ x ∧ x ≤ 139) h h') (fun _ _ => False) := by
  have ff : Fr (fun x => 119 ≤ x ∧ x ≤ 139) h h := Fr.rf
  refine MA.start hW (by decide) [.val (.ref a)] rfl ?_
  rintro X rfl rfl rfl hX
  refine wa_aload_n hX (i := 0) dX12_init_0 rfl rfl ?_
  refine wa_obj hX (by decide +kernel) rfl (by exact Nat.le_of_ble_eq_true rfl) dX12_init_1 ?_
  refine wa_aload_n hX (i := 0) dX12_init_4 rfl rfl ?_
  refine wi_bipush hX dX12_init_5 (by decide) ?_
  refine WA.room (k2 := 7 + 1) (sl2 := 1156 + 60) (by omega) (by omega) ?_
  refine wa_newa hX 60 121 .int (.inl (fun j => Int32.ofInt ((fun _ => 0 : Nat → Int) j))) rfl (by rfl) (by omega) (fun cA => by rfl) (by decide +kernel) dX12_init_7 (fun row rown => ?_)
  refine WA.hgq (fun hA1 hh1 => ?_)
  have f1 : Fr (fun x => x = 119) h hA1 := by rw [hh1]; exact fun b lb ob z _ => hset_new rown z
  have Hrow : hA1 row = some (121, aI .int 60 (fun _ => 0)) := by rw [hh1]; exact hset_eq
  clear hh1
  have k1 := f1 _ _ _ k1 (by decide)
  have ff := ff.trans (f1.mono (fun x hx => by omega))
  refine wa_putF hX 2 k1 (Nat.le_of_ble_eq_true rfl) (by decide +kernel) (by rfl) rfl (by rfl) (by rfl) (by rfl) dX12_init_9 ?_
  refine WA.heap (h2 := hset hA1 a (120, oF 13 [I 0, I 0, .ref row, .null, .null, .null, .null, .null, .null])) rfl ?_
  refine WA.hgq (fun hA2 hh2 => ?_)
  have f2 : Fr (fun x => x = 120) hA1 hA2 := by rw [hh2]; exact Fr.hset Fr.rf k1 rfl
  have Hrow := f2 _ _ _ Hrow (by decide)
  have ff := ff.trans (f2.mono (fun x hx => by omega))
  have k1 : hA2 a = some (120, oF 13 [I 0, I 0, .ref row, .null, .null, .null, .null, .null, .null]) := by rw [hh2]; exact hset_eq
  clear hh2
  refine wa_aload_n hX (i := 0) dX12_init_12 rfl rfl ?_
  refine wi_iconst hX dX12_init_13 ?_
  refine WA.room (k2 := 6 + 1) (sl2 := 1153 + 3) (by omega) (by omega) ?_
  refine wa_newa hX 3 122 .int (.inl (fun j => Int32.ofInt ((fun _ => 0 : Nat → Int) j))) rfl (by rfl) (by omega) (fun cA => by rfl) (by decide +kernel) dX12_init_14 (fun brk brkn => ?_)
  refine WA.hgq (fun hA3 hh3 => ?_)
  have f3 : Fr (fun x => x = 119) hA2 hA3 := by rw [hh3]; exact fun b lb ob z _ => hset_new brkn z
  have Hbrk : hA3 brk = some (122, aI .int 3 (fun _ => 0)) := by rw [hh3]; exact hset_eq
  clear hh3
  have k1 := f3 _ _ _ k1 (by decide)
  have Hrow := f3 _ _ _ Hrow (by decide)
  have ff := ff.trans (f3.mono (fun x hx => by omega))
  refine wa_dup hX dX12_init_16 rfl ?_
  refine wi_iconst hX dX12_init_17 ?_
  refine wi_iconst hX dX12_init_18 ?_
  refine wi_iastore hX Hbrk (by omega) (by omega) (by omega) dX12_init_19 ?_
  refine WA.heap (h2 := hset hA3 brk (122, aI .int 3 (up (fun _ => 0) 0 (-1)))) rfl ?_
  refine WA.hgq (fun hA4 hh4 => ?_)
  have f4 : Fr (fun x => x = 122) hA3 hA4 := by rw [hh4]; exact Fr.hset Fr.rf Hbrk rfl
  have k1 := f4 _ _ _ k1 (by decide)
  have Hrow := f4 _ _ _ Hrow (by decide)
  have ff := ff.trans (f4.mono (fun x hx => by omega))
  have Hbrk : hA4 brk = some (122, aI .int 3 (up (fun _ => 0) 0 (-1))) := by rw [hh4]; exact hset_eq
  clear hh4
  refine wa_dup hX dX12_init_20 rfl ?_
  refine wi_iconst hX dX12_init_21 ?_
  refine wi_iconst hX dX12_init_22 ?_
  refine wi_iastore hX Hbrk (by omega) (by omega) (by omega) dX12_init_23 ?_
  refine WA.heap (h2 := hset hA4 brk (122, aI .int 3 (up (up (fun _ => 0) 0 (-1)) 1 (-1)))) rfl ?_
  refine WA.hgq (fun hA5 hh5 => ?_)
  have f5 : Fr (fun x => x = 122) hA4 hA5 := by rw [hh5]; exact Fr.hset Fr.rf Hbrk rfl
  have k1 := f5 _ _ _ k1 (by decide)
  have Hrow := f5 _ _ _ Hrow (by decide)
  have ff := ff.trans (f5.mono (fun x hx => by omega))
  have Hbrk : hA5 brk = some (122, aI .int 3 (up (up (fun _ => 0) 0 (-1)) 1 (-1))) := by rw [hh5]; exact hset_eq
  clear hh5
  refine wa_dup hX dX12_init_24 rfl ?_
  refine wi_iconst hX dX12_init_25 ?_
  refine wi_iconst hX dX12_init_26 ?_
  refine wi_iastore hX Hbrk (by omega) (by omega) (by omega) dX12_init_27 ?_
  refine WA.heap (h2 := hset hA5 brk (122, aI .int 3 (up (up (up (fun _ => 0) 0 (-1)) 1 (-1)) 2 (-1)))) rfl ?_
  refine WA.hgq (fun hA6 hh6 => ?_)
  have f6 : Fr (fun x => x = 122) hA5 hA6 := by rw [hh6]; exact Fr.hset Fr.rf Hbrk rfl
  have k1 := f6 _ _ _ k1 (by decide)
  have Hrow := f6 _ _ _ Hrow (by decide)
  have ff := ff.trans (f6.mono (fun x hx => by omega))
  have Hbrk : hA6 brk = some (122, aI .int 3 (up (up (up (fun _ => 0) 0 (-1)) 1 (-1)) 2 (-1))) := by rw [hh6]; exact hset_eq
  clear hh6
  refine WA.ext9 (fun j => if j = 0 then (-1 : Int) else if j = 1 then (-1 : Int) else (-1 : Int)) Hbrk (fun j hj => by rcases (by omega : j = 0 ∨ j = 1 ∨ j = 2) with rfl | rfl | rfl <;> rfl) ?_
  refine WA.hgq (fun hA7 hh7 => ?_)
  have f7 : Fr (fun x => x = 122) hA6 hA7 := by rw [hh7]; exact Fr.hset Fr.rf Hbrk rfl
  have k1 := f7 _ _ _ k1 (by decide)
  have Hrow := f7 _ _ _ Hrow (by decide)
  have ff := ff.trans (f7.mono (fun x hx => by omega))
  have Hbrk : hA7 brk = some (122, aI .int 3 (fun j => if j = 0 then (-1 : Int) else if j = 1 then (-1 : Int) else (-1 : Int))) := by rw [hh7]; exact hset_eq
  clear hh7
  refine wa_putF hX 3 k1 (Nat.le_of_ble_eq_true rfl) (by decide +kernel) (by rfl) rfl (by rfl) (by rfl) (by rfl) dX12_init_28 ?_
  refine WA.heap (h2 := hset hA7 a (120, oF 13 [I 0, I 0, .ref row, .ref brk, .null, .null, .null, .null, .null])) rfl ?_
  refine WA.hgq (fun hA8 hh8 => ?_)
  have f8 : Fr (fun x => x = 120) hA7 hA8 := by rw [hh8]; exact Fr.hset Fr.rf k1 rfl
  have Hrow := f8 _ _ _ Hrow (by decide)
  have Hbrk := f8 _ _ _ Hbrk (by decide)
  have ff := ff.trans (f8.mono (fun x hx => by omega))
  have k1 : hA8 a = some (120, oF 13 [I 0, I 0, .ref row, .ref brk, .null, .null, .null, .null, .null]) := by rw [hh8]; exact hset_eq
  clear hh8
  refine wa_aload_n hX (i := 0) dX12_init_31 rfl rfl ?_
  refine WA.room (k2 := 5 + 1) (sl2 := 1150 + 3) (by omega) (by omega) ?_
  refine wa_new hX 3 123 3 [I 0, .null, I 0] (by decide +kernel) (by decide +kernel) rfl dX12_init_32 (fun al aln => ?_)
  refine WA.hgq (fun hA9 hh9 => ?_)
  have f9 : Fr (fun x => x = 119) hA8 hA9 := by rw [hh9]; exact fun b lb ob z _ => hset_new aln z
  have Hal : hA9 al = some (123, oF 3 [I 0, .null, I 0]) := by rw [hh9]; exact hset_eq
  clear hh9
  have k1 := f9 _ _ _ k1 (by decide)
  have Hrow := f9 _ _ _ Hrow (by decide)
  have Hbrk := f9 _ _ _ Hbrk (by decide)
  have ff := ff.trans (f9.mono (fun x hx => by omega))
  refine wa_dup hX dX12_init_35 rfl ?_
  refine wa_callI hX (c_AL_init hW d Hal) (by rfl) (by omega) (nA := 0) (by rfl) (by decide +kernel) rfl (by exact Nat.le_of_ble_eq_true rfl) dX12_init_36 (fun r36 h36 p36 => ?_) (fun _ _ q => q.elim)
  obtain ⟨rfl, z, hz, hh36⟩ := p36
  dsimp only [Option.toList, List.cons_append, List.nil_append]
  have f36 : Fr (fun x => x = 123) hA9 h36 := by rw [hh36]; exact Fr.hset Fr.rf Hal rfl
  have k1 := f36 _ _ _ k1 (by decide)
  have Hrow := f36 _ _ _ Hrow (by decide)
  have Hbrk := f36 _ _ _ Hbrk (by decide)
  have ff := ff.trans (f36.mono (fun x hx => by omega))
  have Hal : h36 al = some (123, oAL 0 z 0) := by rw [hh36]; exact hset_eq
  clear hh36
  refine wa_putF hX 4 k1 (Nat.le_of_ble_eq_true rfl) (by decide +kernel) (by rfl) rfl (by rfl) (by rfl) (by rfl) dX12_init_39 ?_
  refine WA.heap (h2 := hset h36 a (120, oF 13 [I 0, I 0, .ref row, .ref brk, .ref al, .null, .null, .null, .null])) rfl ?_
  refine WA.hgq (fun hA10 hh10 => ?_)
  have f10 : Fr (fun x => x = 120) h36 hA10 := by rw [hh10]; exact Fr.hset Fr.rf k1 rfl
  have Hrow := f10 _ _ _ Hrow (by decide)
  have Hbrk := f10 _ _ _ Hbrk (by decide)
  have Hal := f10 _ _ _ Hal (by decide)
  have ff := ff.trans (f10.mono (fun x hx => by omega))
  have k1 : hA10 a = some (120, oF 13 [I 0, I 0, .ref row, .ref brk, .ref al, .null, .null, .null, .null]) := by rw [hh10]; exact hset_eq
  clear hh10
  refine wa_aload_n hX (i := 0) dX12_init_42 rfl rfl ?_
  refine wi_bipush hX dX12_init_43 (by decide) ?_
  refine WA.room (k2 := 4 + 1) (sl2 := 1050 + 100) (by omega) (by omega) ?_
  refine wa_newa hX 100 125 .int (.inl (fun j => Int32.ofInt ((fun _ => 0 : Nat → Int) j))) rfl (by rfl) (by omega) (fun cA => by rfl) (by decide +kernel) dX12_init_45 (fun wk wkn => ?_)
  refine WA.hgq (fun hA11 hh11 => ?_)
  have f11 : Fr (fun x => x = 119) hA10 hA11 := by rw [hh11]; exact fun b lb ob z _ => hset_new wkn z
  have Hwk : hA11 wk = some (125, aI .int 100 (fun _ => 0)) := by rw [hh11]; exact hset_eq
  clear hh11
  have k1 := f11 _ _ _ k1 (by decide)
  have Hrow := f11 _ _ _ Hrow (by decide)
  have Hbrk := f11 _ _ _ Hbrk (by decide)
  have Hal := f11 _ _ _ Hal (by decide)
  have ff := ff.trans (f11.mono (fun x hx => by omega))
  refine wa_putF hX 5 k1 (Nat.le_of_ble_eq_true rfl) (by decide +kernel) (by rfl) rfl (by rfl) (by rfl) (by rfl) dX12_init_47 ?_
  refine WA.heap (h2 := hset hA11 a (120, oF 13 [I 0, I 0, .ref row, .ref brk, .ref al, .ref wk, .null, .null, .null])) rfl ?_
  refine WA.hgq (fun hA12 hh12 => ?_)
  have f12 : Fr (fun x => x = 120) hA11 hA12 := by rw [hh12]; exact Fr.hset Fr.rf k1 rfl
  have Hrow := f12 _ _ _ Hrow (by decide)
  have Hbrk := f12 _ _ _ Hbrk (by decide)
  have Hal := f12 _ _ _ Hal (by decide)
  have Hwk := f12 _ _ _ Hwk (by decide)
  have ff := ff.trans (f12.mono (fun x hx => by omega))
  have k1 : hA12 a = some (120, oF 13 [I 0, I 0, .ref row, .ref brk, .ref al, .ref wk, .null, .null, .null]) := by rw [hh12]; exact hset_eq
  clear hh12
  refine wa_aload_n hX (i := 0) dX12_init_50 rfl rfl ?_
  refine wi_bipush hX dX12_init_51 (by decide) ?_
  refine WA.room (k2 := 3 + 1) (sl2 := 1040 + 10) (by omega) (by omega) ?_
  refine wa_newa hX 10 126 .boolean (.inl (fun j => Int32.ofInt ((fun _ => 0 : Nat → Int) j))) rfl (by rfl) (by omega) (fun cA => by rfl) (by decide +kernel) dX12_init_53 (fun us usn => ?_)
  refine WA.hgq (fun hA13 hh13 => ?_)
  have f13 : Fr (fun x => x = 119) hA12 hA13 := by rw [hh13]; exact fun b lb ob z _ => hset_new usn z
  have Hus : hA13 us = some (126, aI .boolean 10 (fun _ => 0)) := by rw [hh13]; exact hset_eq
  clear hh13
  have k1 := f13 _ _ _ k1 (by decide)
  have Hrow := f13 _ _ _ Hrow (by decide)
  have Hbrk := f13 _ _ _ Hbrk (by decide)
  have Hal := f13 _ _ _ Hal (by decide)
  have Hwk := f13 _ _ _ Hwk (by decide)
  have ff := ff.trans (f13.mono (fun x hx => by omega))
  refine wa_putF hX 6 k1 (Nat.le_of_ble_eq_true rfl) (by decide +kernel) (by rfl) rfl (by rfl) (by rfl) (by rfl) dX12_init_55 ?_
  refine WA.heap (h2 := hset hA13 a (120, oF 13 [I 0, I 0, .ref row, .ref brk, .ref al, .ref wk, .ref us, .null, .null])) rfl ?_
  refine WA.hgq (fun hA14 hh14 => ?_)
  have f14 : Fr (fun x => x = 120) hA13 hA14 := by rw [hh14]; exact Fr.hset Fr.rf k1 rfl
  have Hrow := f14 _ _ _ Hrow (by decide)
  have Hbrk := f14 _ _ _ Hbrk (by decide)
  have Hal := f14 _ _ _ Hal (by decide)
  have Hwk := f14 _ _ _ Hwk (by decide)
  have Hus := f14 _ _ _ Hus (by decide)
  have ff := ff.trans (f14.mono (fun x hx => by omega))
  have k1 : hA14 a = some (120, oF 13 [I 0, I 0, .ref row, .ref brk, .ref al, .ref wk, .ref us, .null, .null]) := by rw [hh14]; exact hset_eq
  clear hh14
  refine wa_aload_n hX (i := 0) dX12_init_58 rfl rfl ?_
  refine wi_bipush hX dX12_init_59 (by decide) ?_
  refine WA.room (k2 := 2 + 1) (sl2 := 1030 + 10) (by omega) (by omega) ?_
  refine wa_newa hX 10 127 .int (.inl (fun j => Int32.ofInt ((fun _ => 0 : Nat → Int) j))) rfl (by rfl) (by omega) (fun cA => by rfl) (by decide +kernel) dX12_init_61 (fun kp kpn => ?_)
  refine WA.hgq (fun hA15 hh15 => ?_)
  have f15 : Fr (fun x => x = 119) hA14 hA15 := by rw [hh15]; exact fun b lb ob z _ => hset_new kpn z
  have Hkp : hA15 kp = some (127, aI .int 10 (fun _ => 0)) := by rw [hh15]; exact hset_eq
  clear hh15
  have k1 := f15 _ _ _ k1 (by decide)
  have Hrow := f15 _ _ _ Hrow (by decide)
  have Hbrk := f15 _ _ _ Hbrk (by decide)
  have Hal := f15 _ _ _ Hal (by decide)
  have Hwk := f15 _ _ _ Hwk (by decide)
  have Hus := f15 _ _ _ Hus (by decide)
  have ff := ff.trans (f15.mono (fun x hx => by omega))
  refine wa_putF hX 7 k1 (Nat.le_of_ble_eq_true rfl) (by decide +kernel) (by rfl) rfl (by rfl) (by rfl) (by rfl) dX12_init_63 ?_
  refine WA.heap (h2 := hset hA15 a (120, oF 13 [I 0, I 0, .ref row, .ref brk, .ref al, .ref wk, .ref us, .ref kp, .null])) rfl ?_
  refine WA.hgq (fun hA16 hh16 => ?_)
  have f16 : Fr (fun x => x = 120) hA15 hA16 := by rw [hh16]; exact Fr.hset Fr.rf k1 rfl
  have Hrow := f16 _ _ _ Hrow (by decide)
  have Hbrk := f16 _ _ _ Hbrk (by decide)
  have Hal := f16 _ _ _ Hal (by decide)
  have Hwk := f16 _ _ _ Hwk (by decide)
  have Hus := f16 _ _ _ Hus (by decide)
  have Hkp := f16 _ _ _ Hkp (by decide)
  have ff := ff.trans (f16.mono (fun x hx => by omega))
  have k1 : hA16 a = some (120, oF 13 [I 0, I 0, .ref row, .ref brk, .ref al, .ref wk, .ref us, .ref kp, .null]) := by rw [hh16]; exact hset_eq
  clear hh16
  refine wa_aload_n hX (i := 0) dX12_init_66 rfl rfl ?_
  refine WA.room (k2 := 1 + 1) (sl2 := 1024 + 6) (by omega) (by omega) ?_
  refine wa_new hX 12 128 6 [I 0, .null, .null, .null, I 0, I 0] (by decide +kernel) (by decide +kernel) rfl dX12_init_67 (fun pt ptn => ?_)
  refine WA.hgq (fun hA17 hh17 => ?_)
  have f17 : Fr (fun x => x = 119) hA16 hA17 := by rw [hh17]; exact fun b lb ob z _ => hset_new ptn z
  have Hpt : hA17 pt = some (128, oF 12 [I 0, .null, .null, .null, I 0, I 0]) := by rw [hh17]; exact hset_eq
  clear hh17
  have k1 := f17 _ _ _ k1 (by decide)
  have Hrow := f17 _ _ _ Hrow (by decide)
  have Hbrk := f17 _ _ _ Hbrk (by decide)
  have Hal := f17 _ _ _ Hal (by decide)
  have Hwk := f17 _ _ _ Hwk (by decide)
  have Hus := f17 _ _ _ Hus (by decide)
  have Hkp := f17 _ _ _ Hkp (by decide)
  have ff := ff.trans (f17.mono (fun x hx => by omega))
  refine wa_dup hX dX12_init_70 rfl ?_
  refine WA.room (k2 := 0 + 1) (sl2 := 0 + 1024) (by omega) (by omega) ?_
  refine wa_callIN hX "CircuitfoldModel" (c_X11_made hW d 129 Hpt) (by rfl) (by omega) (nA := 0) (by rfl) (by decide +kernel) rfl (by exact Nat.le_of_ble_eq_true rfl) dX12_init_71 (fun r71 h71 p71 => ?_) (fun _ _ q => q.elim)
  obtain ⟨rfl, rq, rqn, hh71⟩ := p71
  dsimp only [Option.toList, List.cons_append, List.nil_append]
  have g71 : Fr (fun x => x = 119) hA17 (hset hA17 rq (129, aI .int 1024 (fun _ => 0))) := fun b lb ob z _ => hset_new rqn z
  have Hpt9 := g71 _ _ _ Hpt (by decide)
  have f71 : Fr (fun x => x = 119 ∨ x = 128) hA17 h71 := by rw [hh71]; exact (g71.mono (fun x hx => Or.inl hx)).trans ((Fr.hset Fr.rf Hpt9 rfl : Fr (fun x => x = 128) _ _).mono (fun x hx => Or.inr hx))
  have Hrq : h71 rq = some (129, aI .int 1024 (fun _ => 0)) := by rw [hh71]; exact hset_lab Hpt9 hset_eq (by decide)
  have k1 := f71 _ _ _ k1 (by decide)
  have Hrow := f71 _ _ _ Hrow (by decide)
  have Hbrk := f71 _ _ _ Hbrk (by decide)
  have Hal := f71 _ _ _ Hal (by decide)
  have Hwk := f71 _ _ _ Hwk (by decide)
  have Hus := f71 _ _ _ Hus (by decide)
  have Hkp := f71 _ _ _ Hkp (by decide)
  have ff := ff.trans (f71.mono (fun x hx => by omega))
  have Hpt : h71 pt = some (128, oRef 0 rq .null .null 0 0) := by rw [hh71]; exact hset_eq
  clear hh71
  refine wa_putF hX 8 k1 (Nat.le_of_ble_eq_true rfl) (by decide +kernel) (by rfl) rfl (by rfl) (by rfl) (by rfl) dX12_init_74 ?_
  refine WA.heap (h2 := hset h71 a (120, oF 13 [I 0, I 0, .ref row, .ref brk, .ref al, .ref wk, .ref us, .ref kp, .ref pt])) rfl ?_
  refine WA.hgq (fun hA18 hh18 => ?_)
  have f18 : Fr (fun x => x = 120) h71 hA18 := by rw [hh18]; exact Fr.hset Fr.rf k1 rfl
  have Hrow := f18 _ _ _ Hrow (by decide)
  have Hbrk := f18 _ _ _ Hbrk (by decide)
  have Hal := f18 _ _ _ Hal (by decide)
  have Hwk := f18 _ _ _ Hwk (by decide)
  have Hus := f18 _ _ _ Hus (by decide)
  have Hkp := f18 _ _ _ Hkp (by decide)
  have Hpt := f18 _ _ _ Hpt (by decide)
  have Hrq := f18 _ _ _ Hrq (by decide)
  have ff := ff.trans (f18.mono (fun x hx => by omega))
  have k1 : hA18 a = some (120, oF 13 [I 0, I 0, .ref row, .ref brk, .ref al, .ref wk, .ref us, .ref kp, .ref pt]) := by rw [hh18]; exact hset_eq
  clear hh18
  refine wa_vret hX dX12_init_77 ?_
  refine ⟨rfl, ⟨row, brk, al, wk, us, kp, pt, k1, ⟨Nat.zero_le _, fun j => (by decide : 0 < 1024), Nat.zero_le _, fun j hj => absurd hj (Nat.not_lt_zero j)⟩, Hrow, ?_, ⟨_, Hwk⟩, ⟨fun _ => false, Hus⟩, ⟨_, Hkp⟩, ⟨0, rq, .null, .null, 0, 0, _, Hpt, Hrq⟩, z, 0, fun _ => 0, Hal, Or.inl ⟨rfl, hz⟩, fun i j hi => absurd hi (Nat.not_lt_zero i), fun j hj => absurd hj (Nat.not_lt_zero j)⟩, ff⟩
  exact Hbrk
end C9p
