/-! The house (X10): its constructor -/
theorem likI_new {h : AH} {x b r1 r2 r3 r4 r5 r6 : Nat} (q0 : h x = some (b, oLik r1 r2 r3 r4 r5 r6 0 0)) (q1 : h r1 = some (b + 1, aI .int 1024 z0)) (q2 : h r2 = some (b + 2, aI .int 1024 z0)) (q3 : h r3 = some (b + 3, aI .int 1024 z0)) (q4 : h r4 = some (b + 4, aI .int 1024 z0)) (q5 : h r5 = some (b + 5, aI .int 10 z0)) (q6 : h r6 = some (b + 6, aI .int 10 z0)) : LikI h x b :=
  ⟨fun t => if t = 1 then r1 else if t = 2 then r2 else if t = 3 then r3 else if t = 4 then r4 else if t = 5 then r5 else r6, 0, 0, z0, fun _ => 0, fun _ => 0, fun _ => 0, fun _ => Int32.ofInt 0, fun _ => Int32.ofInt 0, q0, q1, q2, q3, q4, q5, q6, fun _ => Nat.zero_le _, fun _ => Nat.zero_le _, fun _ _ => Nat.zero_lt_succ 1023, rfl⟩
section C77
variable {l : Launch} {D : va_G} {S0 : State}
set_option maxHeartbeats 4000000 in
set_option maxRecDepth 100000 in
theorem c_X10_init (hW : WOK l D S0) (d : Nat) {h : AH} {a : Nat} (E : Nat → Nat) (R : Nat → Nat → Nat) (k1 : h a = some (10, oF 11 [.null, .null, I 0, .null, .null, .null, .null, .null, I 0, I 0, I 0, I 0])) : MA l D S0 yX10_init cX10_init 1 none (d + 1) [.ref a] h 40 20000 (fun r h' => r = none ∧ HI h' a (fun _ => 0) 0 0 E R 0 0 0 0 (fun _ => false) (fun _ => false) 0 ∧ Fr HF h h') (fun _ _ => False) := by
  have ff : Fr HF h h := Fr.rf
  refine MA.start hW (by decide) [.val (.ref a)] rfl ?_
  rintro X rfl rfl rfl hX
  refine wa_aload_n hX (i := 0) dX10_init_0 rfl rfl ?_
  refine wa_obj hX (by decide +kernel) rfl (by exact Nat.le_of_ble_eq_true rfl) dX10_init_1 ?_
  refine wa_aload_n hX (i := 0) dX10_init_4 rfl rfl ?_
  refine wa_new hX 10 11 2 [.null, I 0] (by decide +kernel) (by decide +kernel) rfl dX10_init_5 (fun row rown => ?_)
  refine WA.hgq (fun hA1 hh1 => ?_)
  have f1 : Fr (fun x => x = 99) h hA1 := by rw [hh1]; exact fun b lb ob z _ => hset_new rown z
  have Hrow : hA1 row = some (11, oF 10 [.null, I 0]) := by rw [hh1]; exact hset_eq
  clear hh1
  replace k1 := f1 _ _ _ k1 (by omega)
  replace ff := ff.trans (f1.mono (fun x hx => by omega))
  refine wa_dup hX dX10_init_8 rfl ?_
  refine wa_callIN hX "Circuitfold" (c_X8_init hW d 12 Hrow (by decide)) (by rfl) (by omega) (nA := 0) (by rfl) (by decide +kernel) rfl (by exact Nat.le_of_ble_eq_true rfl) dX10_init_9 (fun r9 h9 p9 => ?_) (fun _ _ q => q.elim)
  obtain ⟨rfl, ⟨rq, r1, r2⟩, f2⟩ := p9
  dsimp only [Option.toList, List.cons_append, List.nil_append]
  replace k1 := f2 _ _ _ k1 (by omega)
  replace ff := ff.trans (f2.mono (fun x hx => by omega))
  have KR : RowI h9 row 0 (fun _ => 0) := ⟨rq, r1, r2⟩
  clear Hrow r1 r2
  refine wa_putF hX 0 k1 (Nat.le_of_ble_eq_true rfl) (by decide +kernel) (by rfl) rfl (by rfl) (by rfl) (by rfl) dX10_init_12 ?_
  refine WA.heap (h2 := hset h9 a (10, oF 11 [.ref row, .null, I 0, .null, .null, .null, .null, .null, I 0, I 0, I 0, I 0])) rfl ?_
  refine WA.hgq (fun hA3 hh3 => ?_)
  have f3 : Fr (fun x => x = 10) h9 hA3 := by rw [hh3]; exact Fr.hset Fr.rf k1 rfl
  replace k1 : hA3 a = some (10, oF 11 [.ref row, .null, I 0, .null, .null, .null, .null, .null, I 0, I 0, I 0, I 0]) := by rw [hh3]; exact hset_eq
  clear hh3
  replace KR := KR.fr f3 (by omega) (by omega)
  replace ff := ff.trans (f3.mono (fun x hx => by omega))
  refine wa_aload_n hX (i := 0) dX10_init_15 rfl rfl ?_
  refine wi_bipush hX dX10_init_16 (by decide) ?_
  refine wa_ana hX (N := 24) "Circuitfold$Matroid" 13 (by omega) (by decide +kernel) dX10_init_18 (fun kept keptn => ?_)
  refine WA.hgq (fun hA4 hh4 => ?_)
  have f4 : Fr (fun x => x = 99) hA3 hA4 := by rw [hh4]; exact fun b lb ob z _ => hset_new keptn z
  have K3 : hA4 kept = some (13, aR (.object "Circuitfold$Matroid") 24 (fun _ => none)) := by rw [hh4]; exact hset_eq
  clear hh4
  replace k1 := f4 _ _ _ k1 (by omega)
  replace KR := KR.fr f4 (by omega) (by omega)
  replace ff := ff.trans (f4.mono (fun x hx => by omega))
  refine wa_putF hX 1 k1 (Nat.le_of_ble_eq_true rfl) (by decide +kernel) (by rfl) rfl (by rfl) (by rfl) (by rfl) dX10_init_21 ?_
  refine WA.heap (h2 := hset hA4 a (10, oF 11 [.ref row, .ref kept, I 0, .null, .null, .null, .null, .null, I 0, I 0, I 0, I 0])) rfl ?_
  refine WA.hgq (fun hA5 hh5 => ?_)
  have f5 : Fr (fun x => x = 10) hA4 hA5 := by rw [hh5]; exact Fr.hset Fr.rf k1 rfl
  replace k1 : hA5 a = some (10, oF 11 [.ref row, .ref kept, I 0, .null, .null, .null, .null, .null, I 0, I 0, I 0, I 0]) := by rw [hh5]; exact hset_eq
  clear hh5
  replace KR := KR.fr f5 (by omega) (by omega)
  replace K3 := f5 _ _ _ K3 (by omega)
  replace ff := ff.trans (f5.mono (fun x hx => by omega))
  refine wa_aload_n hX (i := 0) dX10_init_24 rfl rfl ?_
  refine wa_new hX 6 14 8 [.null, .null, .null, I 0, I 0, I 0, I 0, I 0] (by decide +kernel) (by decide +kernel) rfl dX10_init_25 (fun tb tbn => ?_)
  refine WA.hgq (fun hA6 hh6 => ?_)
  have f6 : Fr (fun x => x = 99) hA5 hA6 := by rw [hh6]; exact fun b lb ob z _ => hset_new tbn z
  have Htb : hA6 tb = some (14, oF 6 [.null, .null, .null, I 0, I 0, I 0, I 0, I 0]) := by rw [hh6]; exact hset_eq
  clear hh6
  replace k1 := f6 _ _ _ k1 (by omega)
  replace KR := KR.fr f6 (by omega) (by omega)
  replace K3 := f6 _ _ _ K3 (by omega)
  replace ff := ff.trans (f6.mono (fun x hx => by omega))
  refine wa_dup hX dX10_init_28 rfl ?_
  refine wa_callIN hX "Circuitfold" (c_X4_init hW d 15 16 17 Htb (by decide) (by decide) (by decide)) (by rfl) (by omega) (nA := 0) (by rfl) (by decide +kernel) rfl (by exact Nat.le_of_ble_eq_true rfl) dX10_init_29 (fun r29 h29 p29 => ?_) (fun _ _ q => q.elim)
  obtain ⟨rfl, ⟨mq, sq, wq, r1, r2, r3, r4⟩, f7⟩ := p29
  dsimp only [Option.toList, List.cons_append, List.nil_append]
  replace k1 := f7 _ _ _ k1 (by omega)
  replace KR := KR.fr f7 (by omega) (by omega)
  replace K3 := f7 _ _ _ K3 (by omega)
  replace ff := ff.trans (f7.mono (fun x hx => by omega))
  have KT : ExcI h29 tb 14 0 0 0 0 := ⟨mq, sq, wq, _, _, _, _, r1, r2, r3, r4⟩
  clear Htb r1 r2 r3 r4
  refine wa_putF hX 3 k1 (Nat.le_of_ble_eq_true rfl) (by decide +kernel) (by rfl) rfl (by rfl) (by rfl) (by rfl) dX10_init_32 ?_
  refine WA.heap (h2 := hset h29 a (10, oF 11 [.ref row, .ref kept, I 0, .ref tb, .null, .null, .null, .null, I 0, I 0, I 0, I 0])) rfl ?_
  refine WA.hgq (fun hA8 hh8 => ?_)
  have f8 : Fr (fun x => x = 10) h29 hA8 := by rw [hh8]; exact Fr.hset Fr.rf k1 rfl
  replace k1 : hA8 a = some (10, oF 11 [.ref row, .ref kept, I 0, .ref tb, .null, .null, .null, .null, I 0, I 0, I 0, I 0]) := by rw [hh8]; exact hset_eq
  clear hh8
  replace KR := KR.fr f8 (by omega) (by omega)
  replace K3 := f8 _ _ _ K3 (by omega)
  replace KT := KT.fr f8 (fun y hy => by omega)
  replace ff := ff.trans (f8.mono (fun x hx => by omega))
  refine wa_aload_n hX (i := 0) dX10_init_35 rfl rfl ?_
  refine wa_new hX 6 18 8 [.null, .null, .null, I 0, I 0, I 0, I 0, I 0] (by decide +kernel) (by decide +kernel) rfl dX10_init_36 (fun cb cbn => ?_)
  refine WA.hgq (fun hA9 hh9 => ?_)
  have f9 : Fr (fun x => x = 99) hA8 hA9 := by rw [hh9]; exact fun b lb ob z _ => hset_new cbn z
  have Hcb : hA9 cb = some (18, oF 6 [.null, .null, .null, I 0, I 0, I 0, I 0, I 0]) := by rw [hh9]; exact hset_eq
  clear hh9
  replace k1 := f9 _ _ _ k1 (by omega)
  replace KR := KR.fr f9 (by omega) (by omega)
  replace K3 := f9 _ _ _ K3 (by omega)
  replace KT := KT.fr f9 (fun y hy => by omega)
  replace ff := ff.trans (f9.mono (fun x hx => by omega))
  refine wa_dup hX dX10_init_39 rfl ?_
  refine wa_callIN hX "Circuitfold" (c_X4_init hW d 19 20 21 Hcb (by decide) (by decide) (by decide)) (by rfl) (by omega) (nA := 0) (by rfl) (by decide +kernel) rfl (by exact Nat.le_of_ble_eq_true rfl) dX10_init_40 (fun r40 h40 p40 => ?_) (fun _ _ q => q.elim)
  obtain ⟨rfl, ⟨mq, sq, wq, r1, r2, r3, r4⟩, f10⟩ := p40
  dsimp only [Option.toList, List.cons_append, List.nil_append]
  replace k1 := f10 _ _ _ k1 (by omega)
  replace KR := KR.fr f10 (by omega) (by omega)
  replace K3 := f10 _ _ _ K3 (by omega)
  replace KT := KT.fr f10 (fun y hy => by omega)
  replace ff := ff.trans (f10.mono (fun x hx => by omega))
  have KC : ExcI h40 cb 18 0 0 0 0 := ⟨mq, sq, wq, _, _, _, _, r1, r2, r3, r4⟩
  clear Hcb r1 r2 r3 r4
  refine wa_putF hX 4 k1 (Nat.le_of_ble_eq_true rfl) (by decide +kernel) (by rfl) rfl (by rfl) (by rfl) (by rfl) dX10_init_43 ?_
  refine WA.heap (h2 := hset h40 a (10, oF 11 [.ref row, .ref kept, I 0, .ref tb, .ref cb, .null, .null, .null, I 0, I 0, I 0, I 0])) rfl ?_
  refine WA.hgq (fun hA11 hh11 => ?_)
  have f11 : Fr (fun x => x = 10) h40 hA11 := by rw [hh11]; exact Fr.hset Fr.rf k1 rfl
  replace k1 : hA11 a = some (10, oF 11 [.ref row, .ref kept, I 0, .ref tb, .ref cb, .null, .null, .null, I 0, I 0, I 0, I 0]) := by rw [hh11]; exact hset_eq
  clear hh11
  replace KR := KR.fr f11 (by omega) (by omega)
  replace K3 := f11 _ _ _ K3 (by omega)
  replace KT := KT.fr f11 (fun y hy => by omega)
  replace KC := KC.fr f11 (fun y hy => by omega)
  replace ff := ff.trans (f11.mono (fun x hx => by omega))
  refine wa_aload_n hX (i := 0) dX10_init_46 rfl rfl ?_
  refine wa_new hX 7 50 8 [.null, .null, .null, .null, .null, .null, I 0, I 0] (by decide +kernel) (by decide +kernel) rfl dX10_init_47 (fun pr prn => ?_)
  refine WA.hgq (fun hA12 hh12 => ?_)
  have f12 : Fr (fun x => x = 99) hA11 hA12 := by rw [hh12]; exact fun b lb ob z _ => hset_new prn z
  have Hpr : hA12 pr = some (50, oF 7 [.null, .null, .null, .null, .null, .null, I 0, I 0]) := by rw [hh12]; exact hset_eq
  clear hh12
  replace k1 := f12 _ _ _ k1 (by omega)
  replace KR := KR.fr f12 (by omega) (by omega)
  replace K3 := f12 _ _ _ K3 (by omega)
  replace KT := KT.fr f12 (fun y hy => by omega)
  replace KC := KC.fr f12 (fun y hy => by omega)
  replace ff := ff.trans (f12.mono (fun x hx => by omega))
  refine wa_dup hX dX10_init_50 rfl ?_
  refine wa_callIN hX "Circuitfold" (c_X5_init hW d Hpr) (by rfl) (by omega) (nA := 0) (by rfl) (by decide +kernel) rfl (by exact Nat.le_of_ble_eq_true rfl) dX10_init_51 (fun r51 h51 p51 => ?_) (fun _ _ q => q.elim)
  obtain ⟨rfl, ⟨q1, q2, q3, q4, q5, q6, r0, r1, r2, r3, r4, r5, r6⟩, f13⟩ := p51
  dsimp only [Option.toList, List.cons_append, List.nil_append]
  replace k1 := f13 _ _ _ k1 (by omega)
  replace KR := KR.fr f13 (by omega) (by omega)
  replace K3 := f13 _ _ _ K3 (by omega)
  replace KT := KT.fr f13 (fun y hy => by omega)
  replace KC := KC.fr f13 (fun y hy => by omega)
  replace ff := ff.trans (f13.mono (fun x hx => by omega))
  have KP : LikI h51 pr 50 := likI_new r0 r1 r2 r3 r4 r5 r6
  clear Hpr r0 r1 r2 r3 r4 r5 r6
  refine wa_putF hX 5 k1 (Nat.le_of_ble_eq_true rfl) (by decide +kernel) (by rfl) rfl (by rfl) (by rfl) (by rfl) dX10_init_54 ?_
  refine WA.heap (h2 := hset h51 a (10, oF 11 [.ref row, .ref kept, I 0, .ref tb, .ref cb, .ref pr, .null, .null, I 0, I 0, I 0, I 0])) rfl ?_
  refine WA.hgq (fun hA14 hh14 => ?_)
  have f14 : Fr (fun x => x = 10) h51 hA14 := by rw [hh14]; exact Fr.hset Fr.rf k1 rfl
  replace k1 : hA14 a = some (10, oF 11 [.ref row, .ref kept, I 0, .ref tb, .ref cb, .ref pr, .null, .null, I 0, I 0, I 0, I 0]) := by rw [hh14]; exact hset_eq
  clear hh14
  replace KR := KR.fr f14 (by omega) (by omega)
  replace K3 := f14 _ _ _ K3 (by omega)
  replace KT := KT.fr f14 (fun y hy => by omega)
  replace KC := KC.fr f14 (fun y hy => by omega)
  replace KP := KP.fr f14 (fun y hy => by omega)
  replace ff := ff.trans (f14.mono (fun x hx => by omega))
  refine wa_aload_n hX (i := 0) dX10_init_57 rfl rfl ?_
  refine wa_new hX 7 60 8 [.null, .null, .null, .null, .null, .null, I 0, I 0] (by decide +kernel) (by decide +kernel) rfl dX10_init_58 (fun inn innn => ?_)
  refine WA.hgq (fun hA15 hh15 => ?_)
  have f15 : Fr (fun x => x = 99) hA14 hA15 := by rw [hh15]; exact fun b lb ob z _ => hset_new innn z
  have Hinn : hA15 inn = some (60, oF 7 [.null, .null, .null, .null, .null, .null, I 0, I 0]) := by rw [hh15]; exact hset_eq
  clear hh15
  replace k1 := f15 _ _ _ k1 (by omega)
  replace KR := KR.fr f15 (by omega) (by omega)
  replace K3 := f15 _ _ _ K3 (by omega)
  replace KT := KT.fr f15 (fun y hy => by omega)
  replace KC := KC.fr f15 (fun y hy => by omega)
  replace KP := KP.fr f15 (fun y hy => by omega)
  replace ff := ff.trans (f15.mono (fun x hx => by omega))
  refine wa_dup hX dX10_init_61 rfl ?_
  refine wa_callIN hX "Circuitfold" (c_X5_init hW d Hinn) (by rfl) (by omega) (nA := 0) (by rfl) (by decide +kernel) rfl (by exact Nat.le_of_ble_eq_true rfl) dX10_init_62 (fun r62 h62 p62 => ?_) (fun _ _ q => q.elim)
  obtain ⟨rfl, ⟨q1, q2, q3, q4, q5, q6, r0, r1, r2, r3, r4, r5, r6⟩, f16⟩ := p62
  dsimp only [Option.toList, List.cons_append, List.nil_append]
  replace k1 := f16 _ _ _ k1 (by omega)
  replace KR := KR.fr f16 (by omega) (by omega)
  replace K3 := f16 _ _ _ K3 (by omega)
  replace KT := KT.fr f16 (fun y hy => by omega)
  replace KC := KC.fr f16 (fun y hy => by omega)
  replace KP := KP.fr f16 (fun y hy => by omega)
  replace ff := ff.trans (f16.mono (fun x hx => by omega))
  have KL : LikI h62 inn 60 := likI_new r0 r1 r2 r3 r4 r5 r6
  clear Hinn r0 r1 r2 r3 r4 r5 r6
  refine wa_putF hX 6 k1 (Nat.le_of_ble_eq_true rfl) (by decide +kernel) (by rfl) rfl (by rfl) (by rfl) (by rfl) dX10_init_65 ?_
  refine WA.heap (h2 := hset h62 a (10, oF 11 [.ref row, .ref kept, I 0, .ref tb, .ref cb, .ref pr, .ref inn, .null, I 0, I 0, I 0, I 0])) rfl ?_
  refine WA.hgq (fun hA17 hh17 => ?_)
  have f17 : Fr (fun x => x = 10) h62 hA17 := by rw [hh17]; exact Fr.hset Fr.rf k1 rfl
  replace k1 : hA17 a = some (10, oF 11 [.ref row, .ref kept, I 0, .ref tb, .ref cb, .ref pr, .ref inn, .null, I 0, I 0, I 0, I 0]) := by rw [hh17]; exact hset_eq
  clear hh17
  replace KR := KR.fr f17 (by omega) (by omega)
  replace K3 := f17 _ _ _ K3 (by omega)
  replace KT := KT.fr f17 (fun y hy => by omega)
  replace KC := KC.fr f17 (fun y hy => by omega)
  replace KP := KP.fr f17 (fun y hy => by omega)
  replace KL := KL.fr f17 (fun y hy => by omega)
  replace ff := ff.trans (f17.mono (fun x hx => by omega))
  refine wa_aload_n hX (i := 0) dX10_init_68 rfl rfl ?_
  refine wa_new hX 9 22 8 [.null, .null, I 0, .null, .null, I 0, I 0, I 0] (by decide +kernel) (by decide +kernel) rfl dX10_init_69 (fun mn mnn => ?_)
  refine WA.hgq (fun hA18 hh18 => ?_)
  have f18 : Fr (fun x => x = 99) hA17 hA18 := by rw [hh18]; exact fun b lb ob z _ => hset_new mnn z
  have Hmn : hA18 mn = some (22, oF 9 [.null, .null, I 0, .null, .null, I 0, I 0, I 0]) := by rw [hh18]; exact hset_eq
  clear hh18
  replace k1 := f18 _ _ _ k1 (by omega)
  replace KR := KR.fr f18 (by omega) (by omega)
  replace K3 := f18 _ _ _ K3 (by omega)
  replace KT := KT.fr f18 (fun y hy => by omega)
  replace KC := KC.fr f18 (fun y hy => by omega)
  replace KP := KP.fr f18 (fun y hy => by omega)
  replace KL := KL.fr f18 (fun y hy => by omega)
  replace ff := ff.trans (f18.mono (fun x hx => by omega))
  refine wa_dup hX dX10_init_72 rfl ?_
  refine wa_aload_n hX (i := 0) dX10_init_73 rfl rfl ?_
  refine wa_get hX 6 (by assumption) (by rfl) (by decide +kernel) dX10_init_74 ?_
  obtain ⟨rI, eI, nI, FI, CI, WI, II, PI, QI, hLI⟩ := id KL
  have hl0 := hLI.1
  refine wa_callI hX (c_X7_init hW d 23 Hmn hl0 (by decide) (by decide)) (by rfl) (by omega) (nA := 1) (by rfl) (by decide +kernel) rfl (by exact Nat.le_of_ble_eq_true rfl) dX10_init_77 (fun r77 h77 p77 => ?_) (fun _ _ q => q.elim)
  obtain ⟨rfl, ⟨dq, r1, r2⟩, f19⟩ := p77
  replace k1 := f19 _ _ _ k1 (by omega)
  replace KR := KR.fr f19 (by omega) (by omega)
  replace K3 := f19 _ _ _ K3 (by omega)
  replace KT := KT.fr f19 (fun y hy => by omega)
  replace KC := KC.fr f19 (fun y hy => by omega)
  replace KP := KP.fr f19 (fun y hy => by omega)
  replace KL := KL.fr f19 (fun y hy => by omega)
  replace ff := ff.trans (f19.mono (fun x hx => by omega))
  have KM : MinI h77 mn inn 0 (fun _ => 0) E R := ⟨dq, 0, none, none, 0, 0, 0, z0, r1, r2, Or.inl rfl, fun y hy => (by cases hy), fun y hy => (by cases hy), fun i j hi => absurd hi (Nat.not_lt_zero i)⟩
  clear Hmn r1 r2 hl0 hLI
  dsimp only [Option.toList, List.cons_append, List.nil_append]
  refine wa_putF hX 7 k1 (Nat.le_of_ble_eq_true rfl) (by decide +kernel) (by rfl) rfl (by rfl) (by rfl) (by rfl) dX10_init_80 ?_
  refine WA.heap (h2 := hset h77 a (10, oF 11 [.ref row, .ref kept, I 0, .ref tb, .ref cb, .ref pr, .ref inn, .ref mn, I 0, I 0, I 0, I 0])) rfl ?_
  refine WA.hgq (fun hA20 hh20 => ?_)
  have f20 : Fr (fun x => x = 10) h77 hA20 := by rw [hh20]; exact Fr.hset Fr.rf k1 rfl
  replace k1 : hA20 a = some (10, oF 11 [.ref row, .ref kept, I 0, .ref tb, .ref cb, .ref pr, .ref inn, .ref mn, I 0, I 0, I 0, I 0]) := by rw [hh20]; exact hset_eq
  clear hh20
  replace KR := KR.fr f20 (by omega) (by omega)
  replace K3 := f20 _ _ _ K3 (by omega)
  replace KT := KT.fr f20 (fun y hy => by omega)
  replace KC := KC.fr f20 (fun y hy => by omega)
  replace KP := KP.fr f20 (fun y hy => by omega)
  replace KL := KL.fr f20 (fun y hy => by omega)
  replace KM := KM.fr f20 (by omega) (by omega)
  replace ff := ff.trans (f20.mono (fun x hx => by omega))
  refine wa_aload_n hX (i := 0) dX10_init_83 rfl rfl ?_
  refine wi_iconst hX dX10_init_84 ?_
  refine wa_put hX 8 k1 (Nat.le_of_ble_eq_true rfl) (by decide +kernel) (by rfl) (by rfl) (by rfl) dX10_init_85 ?_
  refine WA.heap (h2 := hset hA20 a (10, oF 11 [.ref row, .ref kept, I 0, .ref tb, .ref cb, .ref pr, .ref inn, .ref mn, I (-1), I 0, I 0, I 0])) rfl ?_
  refine WA.hgq (fun hA21 hh21 => ?_)
  have f21 : Fr (fun x => x = 10) hA20 hA21 := by rw [hh21]; exact Fr.hset Fr.rf k1 rfl
  replace k1 : hA21 a = some (10, oF 11 [.ref row, .ref kept, I 0, .ref tb, .ref cb, .ref pr, .ref inn, .ref mn, I (-1), I 0, I 0, I 0]) := by rw [hh21]; exact hset_eq
  clear hh21
  replace KR := KR.fr f21 (by omega) (by omega)
  replace K3 := f21 _ _ _ K3 (by omega)
  replace KT := KT.fr f21 (fun y hy => by omega)
  replace KC := KC.fr f21 (fun y hy => by omega)
  replace KP := KP.fr f21 (fun y hy => by omega)
  replace KL := KL.fr f21 (fun y hy => by omega)
  replace KM := KM.fr f21 (by omega) (by omega)
  replace ff := ff.trans (f21.mono (fun x hx => by omega))
  refine wa_aload_n hX (i := 0) dX10_init_88 rfl rfl ?_
  refine wi_iconst hX dX10_init_89 ?_
  refine wa_put hX 9 k1 (Nat.le_of_ble_eq_true rfl) (by decide +kernel) (by rfl) (by rfl) (by rfl) dX10_init_90 ?_
  refine WA.heap (h2 := hset hA21 a (10, oF 11 [.ref row, .ref kept, I 0, .ref tb, .ref cb, .ref pr, .ref inn, .ref mn, I (-1), I (-1), I 0, I 0])) rfl ?_
  refine WA.hgq (fun hA22 hh22 => ?_)
  have f22 : Fr (fun x => x = 10) hA21 hA22 := by rw [hh22]; exact Fr.hset Fr.rf k1 rfl
  replace k1 : hA22 a = some (10, oF 11 [.ref row, .ref kept, I 0, .ref tb, .ref cb, .ref pr, .ref inn, .ref mn, I (-1), I (-1), I 0, I 0]) := by rw [hh22]; exact hset_eq
  clear hh22
  replace KR := KR.fr f22 (by omega) (by omega)
  replace K3 := f22 _ _ _ K3 (by omega)
  replace KT := KT.fr f22 (fun y hy => by omega)
  replace KC := KC.fr f22 (fun y hy => by omega)
  replace KP := KP.fr f22 (fun y hy => by omega)
  replace KL := KL.fr f22 (fun y hy => by omega)
  replace KM := KM.fr f22 (by omega) (by omega)
  replace ff := ff.trans (f22.mono (fun x hx => by omega))
  refine wa_vret hX dX10_init_93 ?_
  refine ⟨rfl, ⟨⟨Nat.zero_le _, fun _ => Nat.zero_lt_succ 1023, Nat.zero_le _, Nat.le_refl 0, Or.inl rfl, fun _ _ => ⟨rfl, rfl⟩, fun j hj => absurd hj (Nat.not_lt_zero j)⟩, row, kept, tb, cb, pr, inn, mn, -1, -1, 0, 0, 0, 0, 0, fun _ => 0, k1, KR, ?_, KT, KC, Or.inl ⟨rfl, rfl, Or.inl rfl, KP⟩, KL, KM, fun i j hi => absurd hi (Nat.not_lt_zero i), fun j hj => absurd hj (Nat.not_lt_zero j)⟩, ff⟩
  rw [show (fun j => if j < 0 then some ((fun _ => 0) j) else none) = (fun _ => (none : Option Nat)) from funext (fun j => if_neg (Nat.not_lt_zero j))]
  exact K3
end C77
