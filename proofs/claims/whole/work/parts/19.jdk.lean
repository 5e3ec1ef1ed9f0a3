/-! the JDK's own small methods: bitCount, numberOfTrailingZeros, floorMod, fill -/
/-- how many elements a set of at most ten has -/
def bc (s : Nat) : Nat := s % 2 + s / 2 % 2 + s / 4 % 2 + s / 8 % 2 + s / 16 % 2 + s / 32 % 2 + s / 64 % 2 + s / 128 % 2 + s / 256 % 2 + s / 512 % 2
/-- its lowest element; 32 of the empty one -/
def ntz (s : Nat) : Nat := if s = 0 then 32 else if s % 2 = 1 then 0 else if s / 2 % 2 = 1 then 1 else if s / 4 % 2 = 1 then 2 else if s / 8 % 2 = 1 then 3 else if s / 16 % 2 = 1 then 4 else if s / 32 % 2 = 1 then 5 else if s / 64 % 2 = 1 then 6 else if s / 128 % 2 = 1 then 7 else if s / 256 % 2 = 1 then 8 else 9
section C19
variable {l : Launch} {D : va_G} {S0 : State}
def bcE (i0 : Int32) : Int32 :=
  let u (x : Int32) (y : Int32) : Int32 := (x.toUInt32 >>> (y.toUInt32 &&& Int32.toUInt32 31)).toInt32
  let i1 := i0 - (u i0 (Int32.ofInt 1) &&& 1431655765)
  let i2 := (i1 &&& 858993459) + (u i1 (Int32.ofInt 2) &&& 858993459)
  let i3 := (i2 + u i2 (Int32.ofInt 4)) &&& 252645135
  let i4 := i3 + u i3 (Int32.ofInt 8)
  let i5 := i4 + u i4 (Int32.ofInt 16)
  i5 &&& Int32.ofInt 63
theorem bcE_ok : ∀ s, s < 1024 → bcE (Int32.ofInt ((s : Nat) : Int)) = Int32.ofInt ((bc s : Nat) : Int) := by decide +kernel
set_option maxRecDepth 100000 in
theorem c_J6_bitCount (hW : WOK l D S0) (d : Nat) {h : AH} {s : Nat} (hs : s < 1024) : MA l D S0 yJ6_bitCount_0f7a4 cJ6_bitCount_0f7a4 1 (some .int) d [I s] h 0 0 (fun r h' => r = some (I (bc s : Nat)) ∧ h' = h) (fun _ _ => False) := by
  refine MA.start hW (by decide) [.val (I s)] rfl ?_
  rintro X rfl rfl rfl hX
  refine wa_iload_n hX (i := 0) dJ6_bitCount_0f7a4_0 rfl rfl ?_
  refine wa_iload_n hX (i := 0) dJ6_bitCount_0f7a4_1 rfl rfl ?_
  refine wi_iconst hX dJ6_bitCount_0f7a4_2 ?_
  refine wa_iushr hX dJ6_bitCount_0f7a4_3 ?_
  refine wa_ldc_w hX (1431655765) (by decide +kernel) dJ6_bitCount_0f7a4_4 ?_
  refine wa_iand hX dJ6_bitCount_0f7a4_7 ?_
  refine wa_isub hX dJ6_bitCount_0f7a4_8 ?_
  refine wa_istore_n hX (i := 0) dJ6_bitCount_0f7a4_9 rfl rfl ?_
  dsimp only [List.set]
  refine wa_iload_n hX (i := 0) dJ6_bitCount_0f7a4_10 rfl rfl ?_
  refine wa_ldc_w hX (858993459) (by decide +kernel) dJ6_bitCount_0f7a4_11 ?_
  refine wa_iand hX dJ6_bitCount_0f7a4_14 ?_
  refine wa_iload_n hX (i := 0) dJ6_bitCount_0f7a4_15 rfl rfl ?_
  refine wi_iconst hX dJ6_bitCount_0f7a4_16 ?_
  refine wa_iushr hX dJ6_bitCount_0f7a4_17 ?_
  refine wa_ldc_w hX (858993459) (by decide +kernel) dJ6_bitCount_0f7a4_18 ?_
  refine wa_iand hX dJ6_bitCount_0f7a4_21 ?_
  refine wa_iadd hX dJ6_bitCount_0f7a4_22 ?_
  refine wa_istore_n hX (i := 0) dJ6_bitCount_0f7a4_23 rfl rfl ?_
  dsimp only [List.set]
  refine wa_iload_n hX (i := 0) dJ6_bitCount_0f7a4_24 rfl rfl ?_
  refine wa_iload_n hX (i := 0) dJ6_bitCount_0f7a4_25 rfl rfl ?_
  refine wi_iconst hX dJ6_bitCount_0f7a4_26 ?_
  refine wa_iushr hX dJ6_bitCount_0f7a4_27 ?_
  refine wa_iadd hX dJ6_bitCount_0f7a4_28 ?_
  refine wa_ldc_w hX (252645135) (by decide +kernel) dJ6_bitCount_0f7a4_29 ?_
  refine wa_iand hX dJ6_bitCount_0f7a4_32 ?_
  refine wa_istore_n hX (i := 0) dJ6_bitCount_0f7a4_33 rfl rfl ?_
  dsimp only [List.set]
  refine wa_iload_n hX (i := 0) dJ6_bitCount_0f7a4_34 rfl rfl ?_
  refine wa_iload_n hX (i := 0) dJ6_bitCount_0f7a4_35 rfl rfl ?_
  refine wi_bipush hX dJ6_bitCount_0f7a4_36 (by decide) ?_
  refine wa_iushr hX dJ6_bitCount_0f7a4_38 ?_
  refine wa_iadd hX dJ6_bitCount_0f7a4_39 ?_
  refine wa_istore_n hX (i := 0) dJ6_bitCount_0f7a4_40 rfl rfl ?_
  dsimp only [List.set]
  refine wa_iload_n hX (i := 0) dJ6_bitCount_0f7a4_41 rfl rfl ?_
  refine wa_iload_n hX (i := 0) dJ6_bitCount_0f7a4_42 rfl rfl ?_
  refine wi_bipush hX dJ6_bitCount_0f7a4_43 (by decide) ?_
  refine wa_iushr hX dJ6_bitCount_0f7a4_45 ?_
  refine wa_iadd hX dJ6_bitCount_0f7a4_46 ?_
  refine wa_istore_n hX (i := 0) dJ6_bitCount_0f7a4_47 rfl rfl ?_
  dsimp only [List.set]
  refine wa_iload_n hX (i := 0) dJ6_bitCount_0f7a4_48 rfl rfl ?_
  refine wi_bipush hX dJ6_bitCount_0f7a4_49 (by decide) ?_
  refine wa_iand hX dJ6_bitCount_0f7a4_51 ?_
  refine wa_iret hX dJ6_bitCount_0f7a4_52 ?_
  refine ⟨?_, rfl⟩
  rw [I, ← bcE_ok s hs]
  rfl
def ntzE (x : Int32) : Int32 :=
  let u (x : Int32) (y : Int32) : Int32 := (x.toUInt32 >>> (y.toUInt32 &&& Int32.toUInt32 31)).toInt32
  let i := (x ^^^ Int32.ofInt (-1)) &&& (x - Int32.ofInt 1)
  if 0 < i then
    let n1 := Int32.ofInt 1
    let f16 (n i : Int32) : Int32 × Int32 := if i ≤ 65536 then (n, i) else (n + Int32.ofInt 16, u i (Int32.ofInt 16))
    let f8 (q : Int32 × Int32) : Int32 × Int32 := if q.2 ≤ Int32.ofInt 256 then q else (q.1 + Int32.ofInt 8, u q.2 (Int32.ofInt 8))
    let f4 (q : Int32 × Int32) : Int32 × Int32 := if q.2 ≤ Int32.ofInt 16 then q else (q.1 + Int32.ofInt 4, u q.2 (Int32.ofInt 4))
    let f2 (q : Int32 × Int32) : Int32 × Int32 := if q.2 ≤ Int32.ofInt 4 then q else (q.1 + Int32.ofInt 2, u q.2 (Int32.ofInt 2))
    let q := f2 (f4 (f8 (f16 n1 i)))
    q.1 + u q.2 (Int32.ofInt 1)
  else i &&& Int32.ofInt 32
theorem ntzE_ok : ∀ s, s < 1024 → ntzE (Int32.ofInt ((s : Nat) : Int)) = Int32.ofInt ((ntz s : Nat) : Int) := by decide +kernel
set_option maxRecDepth 100000 in
theorem c_J6_ntz (hW : WOK l D S0) (d : Nat) {h : AH} (s : Nat) (hs : s < 1024) : MA l D S0 yJ6_numberOfTrailingZeros_0f7a4 cJ6_numberOfTrailingZeros_0f7a4 2 (some .int) d [I s] h 0 0 (fun r h' => r = some (I (ntz s : Nat)) ∧ h' = h) (fun _ _ => False) := by
  refine MA.start hW (by decide) [.val (I s), .unset] rfl ?_
  rintro X rfl rfl rfl hX
  refine wa_iload_n hX (i := 0) dJ6_numberOfTrailingZeros_0f7a4_0 rfl rfl ?_
  refine wi_iconst hX dJ6_numberOfTrailingZeros_0f7a4_1 ?_
  refine wa_ixor hX dJ6_numberOfTrailingZeros_0f7a4_2 ?_
  refine wa_iload_n hX (i := 0) dJ6_numberOfTrailingZeros_0f7a4_3 rfl rfl ?_
  refine wi_iconst hX dJ6_numberOfTrailingZeros_0f7a4_4 ?_
  refine wa_isub hX dJ6_numberOfTrailingZeros_0f7a4_5 ?_
  refine wa_iand hX dJ6_numberOfTrailingZeros_0f7a4_6 ?_
  refine wa_istore_n hX (i := 0) dJ6_numberOfTrailingZeros_0f7a4_7 rfl rfl ?_
  dsimp only [List.set]
  refine wa_iload_n hX (i := 0) dJ6_numberOfTrailingZeros_0f7a4_8 rfl rfl ?_
  refine wr_if_gt hX (tgt := 17) dJ6_numberOfTrailingZeros_0f7a4_9 (by decide) (fun c9 => ?_) (fun c9 => ?_)
  · skip
    refine wi_iconst hX dJ6_numberOfTrailingZeros_0f7a4_17 ?_
    refine wa_istore_n hX (i := 1) dJ6_numberOfTrailingZeros_0f7a4_18 rfl rfl ?_
    dsimp only [List.set]
    refine wa_iload_n hX (i := 0) dJ6_numberOfTrailingZeros_0f7a4_19 rfl rfl ?_
    refine wa_ldc_w hX (65536) (by decide +kernel) dJ6_numberOfTrailingZeros_0f7a4_20 ?_
    refine wr_icmp_le hX (tgt := 34) dJ6_numberOfTrailingZeros_0f7a4_23 (by decide) (fun c23 => ?_) (fun c23 => ?_)
    · skip
      refine wa_iload_n hX (i := 0) dJ6_numberOfTrailingZeros_0f7a4_34 rfl rfl ?_
      refine wi_sipush hX dJ6_numberOfTrailingZeros_0f7a4_35 (by decide) ?_
      refine wr_icmp_le hX (tgt := 49) dJ6_numberOfTrailingZeros_0f7a4_38 (by decide) (fun c38 => ?_) (fun c38 => ?_)
      · skip
        refine wa_iload_n hX (i := 0) dJ6_numberOfTrailingZeros_0f7a4_49 rfl rfl ?_
        refine wi_bipush hX dJ6_numberOfTrailingZeros_0f7a4_50 (by decide) ?_
        refine wr_icmp_le hX (tgt := 62) dJ6_numberOfTrailingZeros_0f7a4_52 (by decide) (fun c52 => ?_) (fun c52 => ?_)
        · skip
          refine wa_iload_n hX (i := 0) dJ6_numberOfTrailingZeros_0f7a4_62 rfl rfl ?_
          refine wi_iconst hX dJ6_numberOfTrailingZeros_0f7a4_63 ?_
          refine wr_icmp_le hX (tgt := 74) dJ6_numberOfTrailingZeros_0f7a4_64 (by decide) (fun c64 => ?_) (fun c64 => ?_)
          · skip
            refine wa_iload_n hX (i := 1) dJ6_numberOfTrailingZeros_0f7a4_74 rfl rfl ?_
            refine wa_iload_n hX (i := 0) dJ6_numberOfTrailingZeros_0f7a4_75 rfl rfl ?_
            refine wi_iconst hX dJ6_numberOfTrailingZeros_0f7a4_76 ?_
            refine wa_iushr hX dJ6_numberOfTrailingZeros_0f7a4_77 ?_
            refine wa_iadd hX dJ6_numberOfTrailingZeros_0f7a4_78 ?_
            refine wa_iret hX dJ6_numberOfTrailingZeros_0f7a4_79 ?_
            refine ⟨?_, rfl⟩
            rw [I]
            rw [← ntzE_ok s hs]
            simp only [ntzE, *, if_true, if_false]
          · skip
            refine wr_iinc hX dJ6_numberOfTrailingZeros_0f7a4_67 rfl ?_
            dsimp only [List.set]
            refine wa_iload_n hX (i := 0) dJ6_numberOfTrailingZeros_0f7a4_70 rfl rfl ?_
            refine wi_iconst hX dJ6_numberOfTrailingZeros_0f7a4_71 ?_
            refine wa_iushr hX dJ6_numberOfTrailingZeros_0f7a4_72 ?_
            refine wa_istore_n hX (i := 0) dJ6_numberOfTrailingZeros_0f7a4_73 rfl rfl ?_
            dsimp only [List.set]
            refine wa_iload_n hX (i := 1) dJ6_numberOfTrailingZeros_0f7a4_74 rfl rfl ?_
            refine wa_iload_n hX (i := 0) dJ6_numberOfTrailingZeros_0f7a4_75 rfl rfl ?_
            refine wi_iconst hX dJ6_numberOfTrailingZeros_0f7a4_76 ?_
            refine wa_iushr hX dJ6_numberOfTrailingZeros_0f7a4_77 ?_
            refine wa_iadd hX dJ6_numberOfTrailingZeros_0f7a4_78 ?_
            refine wa_iret hX dJ6_numberOfTrailingZeros_0f7a4_79 ?_
            refine ⟨?_, rfl⟩
            rw [I]
            rw [← ntzE_ok s hs]
            simp only [ntzE, *, if_true, if_false]
        · skip
          refine wr_iinc hX dJ6_numberOfTrailingZeros_0f7a4_55 rfl ?_
          dsimp only [List.set]
          refine wa_iload_n hX (i := 0) dJ6_numberOfTrailingZeros_0f7a4_58 rfl rfl ?_
          refine wi_iconst hX dJ6_numberOfTrailingZeros_0f7a4_59 ?_
          refine wa_iushr hX dJ6_numberOfTrailingZeros_0f7a4_60 ?_
          refine wa_istore_n hX (i := 0) dJ6_numberOfTrailingZeros_0f7a4_61 rfl rfl ?_
          dsimp only [List.set]
          refine wa_iload_n hX (i := 0) dJ6_numberOfTrailingZeros_0f7a4_62 rfl rfl ?_
          refine wi_iconst hX dJ6_numberOfTrailingZeros_0f7a4_63 ?_
          refine wr_icmp_le hX (tgt := 74) dJ6_numberOfTrailingZeros_0f7a4_64 (by decide) (fun c64 => ?_) (fun c64 => ?_)
          · skip
            refine wa_iload_n hX (i := 1) dJ6_numberOfTrailingZeros_0f7a4_74 rfl rfl ?_
            refine wa_iload_n hX (i := 0) dJ6_numberOfTrailingZeros_0f7a4_75 rfl rfl ?_
            refine wi_iconst hX dJ6_numberOfTrailingZeros_0f7a4_76 ?_
            refine wa_iushr hX dJ6_numberOfTrailingZeros_0f7a4_77 ?_
            refine wa_iadd hX dJ6_numberOfTrailingZeros_0f7a4_78 ?_
            refine wa_iret hX dJ6_numberOfTrailingZeros_0f7a4_79 ?_
            refine ⟨?_, rfl⟩
            rw [I]
            rw [← ntzE_ok s hs]
            simp only [ntzE, *, if_true, if_false]
          · skip
            refine wr_iinc hX dJ6_numberOfTrailingZeros_0f7a4_67 rfl ?_
            dsimp only [List.set]
            refine wa_iload_n hX (i := 0) dJ6_numberOfTrailingZeros_0f7a4_70 rfl rfl ?_
            refine wi_iconst hX dJ6_numberOfTrailingZeros_0f7a4_71 ?_
            refine wa_iushr hX dJ6_numberOfTrailingZeros_0f7a4_72 ?_
            refine wa_istore_n hX (i := 0) dJ6_numberOfTrailingZeros_0f7a4_73 rfl rfl ?_
            dsimp only [List.set]
            refine wa_iload_n hX (i := 1) dJ6_numberOfTrailingZeros_0f7a4_74 rfl rfl ?_
            refine wa_iload_n hX (i := 0) dJ6_numberOfTrailingZeros_0f7a4_75 rfl rfl ?_
            refine wi_iconst hX dJ6_numberOfTrailingZeros_0f7a4_76 ?_
            refine wa_iushr hX dJ6_numberOfTrailingZeros_0f7a4_77 ?_
            refine wa_iadd hX dJ6_numberOfTrailingZeros_0f7a4_78 ?_
            refine wa_iret hX dJ6_numberOfTrailingZeros_0f7a4_79 ?_
            refine ⟨?_, rfl⟩
            rw [I]
            rw [← ntzE_ok s hs]
            simp only [ntzE, *, if_true, if_false]
      · skip
        refine wr_iinc hX dJ6_numberOfTrailingZeros_0f7a4_41 rfl ?_
        dsimp only [List.set]
        refine wa_iload_n hX (i := 0) dJ6_numberOfTrailingZeros_0f7a4_44 rfl rfl ?_
        refine wi_bipush hX dJ6_numberOfTrailingZeros_0f7a4_45 (by decide) ?_
        refine wa_iushr hX dJ6_numberOfTrailingZeros_0f7a4_47 ?_
        refine wa_istore_n hX (i := 0) dJ6_numberOfTrailingZeros_0f7a4_48 rfl rfl ?_
        dsimp only [List.set]
        refine wa_iload_n hX (i := 0) dJ6_numberOfTrailingZeros_0f7a4_49 rfl rfl ?_
        refine wi_bipush hX dJ6_numberOfTrailingZeros_0f7a4_50 (by decide) ?_
        refine wr_icmp_le hX (tgt := 62) dJ6_numberOfTrailingZeros_0f7a4_52 (by decide) (fun c52 => ?_) (fun c52 => ?_)
        · skip
          refine wa_iload_n hX (i := 0) dJ6_numberOfTrailingZeros_0f7a4_62 rfl rfl ?_
          refine wi_iconst hX dJ6_numberOfTrailingZeros_0f7a4_63 ?_
          refine wr_icmp_le hX (tgt := 74) dJ6_numberOfTrailingZeros_0f7a4_64 (by decide) (fun c64 => ?_) (fun c64 => ?_)
          · skip
            refine wa_iload_n hX (i := 1) dJ6_numberOfTrailingZeros_0f7a4_74 rfl rfl ?_
            refine wa_iload_n hX (i := 0) dJ6_numberOfTrailingZeros_0f7a4_75 rfl rfl ?_
            refine wi_iconst hX dJ6_numberOfTrailingZeros_0f7a4_76 ?_
            refine wa_iushr hX dJ6_numberOfTrailingZeros_0f7a4_77 ?_
            refine wa_iadd hX dJ6_numberOfTrailingZeros_0f7a4_78 ?_
            refine wa_iret hX dJ6_numberOfTrailingZeros_0f7a4_79 ?_
            refine ⟨?_, rfl⟩
            rw [I]
            rw [← ntzE_ok s hs]
            simp only [ntzE, *, if_true, if_false]
          · skip
            refine wr_iinc hX dJ6_numberOfTrailingZeros_0f7a4_67 rfl ?_
            dsimp only [List.set]
            refine wa_iload_n hX (i := 0) dJ6_numberOfTrailingZeros_0f7a4_70 rfl rfl ?_
            refine wi_iconst hX dJ6_numberOfTrailingZeros_0f7a4_71 ?_
            refine wa_iushr hX dJ6_numberOfTrailingZeros_0f7a4_72 ?_
            refine wa_istore_n hX (i := 0) dJ6_numberOfTrailingZeros_0f7a4_73 rfl rfl ?_
            dsimp only [List.set]
            refine wa_iload_n hX (i := 1) dJ6_numberOfTrailingZeros_0f7a4_74 rfl rfl ?_
            refine wa_iload_n hX (i := 0) dJ6_numberOfTrailingZeros_0f7a4_75 rfl rfl ?_
            refine wi_iconst hX dJ6_numberOfTrailingZeros_0f7a4_76 ?_
            refine wa_iushr hX dJ6_numberOfTrailingZeros_0f7a4_77 ?_
            refine wa_iadd hX dJ6_numberOfTrailingZeros_0f7a4_78 ?_
            refine wa_iret hX dJ6_numberOfTrailingZeros_0f7a4_79 ?_
            refine ⟨?_, rfl⟩
            rw [I]
            rw [← ntzE_ok s hs]
            simp only [ntzE, *, if_true, if_false]
        · skip
          refine wr_iinc hX dJ6_numberOfTrailingZeros_0f7a4_55 rfl ?_
          dsimp only [List.set]
          refine wa_iload_n hX (i := 0) dJ6_numberOfTrailingZeros_0f7a4_58 rfl rfl ?_
          refine wi_iconst hX dJ6_numberOfTrailingZeros_0f7a4_59 ?_
          refine wa_iushr hX dJ6_numberOfTrailingZeros_0f7a4_60 ?_
          refine wa_istore_n hX (i := 0) dJ6_numberOfTrailingZeros_0f7a4_61 rfl rfl ?_
          dsimp only [List.set]
          refine wa_iload_n hX (i := 0) dJ6_numberOfTrailingZeros_0f7a4_62 rfl rfl ?_
          refine wi_iconst hX dJ6_numberOfTrailingZeros_0f7a4_63 ?_
          refine wr_icmp_le hX (tgt := 74) dJ6_numberOfTrailingZeros_0f7a4_64 (by decide) (fun c64 => ?_) (fun c64 => ?_)
          · skip
            refine wa_iload_n hX (i := 1) dJ6_numberOfTrailingZeros_0f7a4_74 rfl rfl ?_
            refine wa_iload_n hX (i := 0) dJ6_numberOfTrailingZeros_0f7a4_75 rfl rfl ?_
            refine wi_iconst hX dJ6_numberOfTrailingZeros_0f7a4_76 ?_
            refine wa_iushr hX dJ6_numberOfTrailingZeros_0f7a4_77 ?_
            refine wa_iadd hX dJ6_numberOfTrailingZeros_0f7a4_78 ?_
            refine wa_iret hX dJ6_numberOfTrailingZeros_0f7a4_79 ?_
            refine ⟨?_, rfl⟩
            rw [I]
            rw [← ntzE_ok s hs]
            simp only [ntzE, *, if_true, if_false]
          · skip
            refine wr_iinc hX dJ6_numberOfTrailingZeros_0f7a4_67 rfl ?_
            dsimp only [List.set]
            refine wa_iload_n hX (i := 0) dJ6_numberOfTrailingZeros_0f7a4_70 rfl rfl ?_
            refine wi_iconst hX dJ6_numberOfTrailingZeros_0f7a4_71 ?_
            refine wa_iushr hX dJ6_numberOfTrailingZeros_0f7a4_72 ?_
            refine wa_istore_n hX (i := 0) dJ6_numberOfTrailingZeros_0f7a4_73 rfl rfl ?_
            dsimp only [List.set]
            refine wa_iload_n hX (i := 1) dJ6_numberOfTrailingZeros_0f7a4_74 rfl rfl ?_
            refine wa_iload_n hX (i := 0) dJ6_numberOfTrailingZeros_0f7a4_75 rfl rfl ?_
            refine wi_iconst hX dJ6_numberOfTrailingZeros_0f7a4_76 ?_
            refine wa_iushr hX dJ6_numberOfTrailingZeros_0f7a4_77 ?_
            refine wa_iadd hX dJ6_numberOfTrailingZeros_0f7a4_78 ?_
            refine wa_iret hX dJ6_numberOfTrailingZeros_0f7a4_79 ?_
            refine ⟨?_, rfl⟩
            rw [I]
            rw [← ntzE_ok s hs]
            simp only [ntzE, *, if_true, if_false]
    · skip
      refine wr_iinc hX dJ6_numberOfTrailingZeros_0f7a4_26 rfl ?_
      dsimp only [List.set]
      refine wa_iload_n hX (i := 0) dJ6_numberOfTrailingZeros_0f7a4_29 rfl rfl ?_
      refine wi_bipush hX dJ6_numberOfTrailingZeros_0f7a4_30 (by decide) ?_
      refine wa_iushr hX dJ6_numberOfTrailingZeros_0f7a4_32 ?_
      refine wa_istore_n hX (i := 0) dJ6_numberOfTrailingZeros_0f7a4_33 rfl rfl ?_
      dsimp only [List.set]
      refine wa_iload_n hX (i := 0) dJ6_numberOfTrailingZeros_0f7a4_34 rfl rfl ?_
      refine wi_sipush hX dJ6_numberOfTrailingZeros_0f7a4_35 (by decide) ?_
      refine wr_icmp_le hX (tgt := 49) dJ6_numberOfTrailingZeros_0f7a4_38 (by decide) (fun c38 => ?_) (fun c38 => ?_)
      · skip
        refine wa_iload_n hX (i := 0) dJ6_numberOfTrailingZeros_0f7a4_49 rfl rfl ?_
        refine wi_bipush hX dJ6_numberOfTrailingZeros_0f7a4_50 (by decide) ?_
        refine wr_icmp_le hX (tgt := 62) dJ6_numberOfTrailingZeros_0f7a4_52 (by decide) (fun c52 => ?_) (fun c52 => ?_)
        · skip
          refine wa_iload_n hX (i := 0) dJ6_numberOfTrailingZeros_0f7a4_62 rfl rfl ?_
          refine wi_iconst hX dJ6_numberOfTrailingZeros_0f7a4_63 ?_
          refine wr_icmp_le hX (tgt := 74) dJ6_numberOfTrailingZeros_0f7a4_64 (by decide) (fun c64 => ?_) (fun c64 => ?_)
          · skip
            refine wa_iload_n hX (i := 1) dJ6_numberOfTrailingZeros_0f7a4_74 rfl rfl ?_
            refine wa_iload_n hX (i := 0) dJ6_numberOfTrailingZeros_0f7a4_75 rfl rfl ?_
            refine wi_iconst hX dJ6_numberOfTrailingZeros_0f7a4_76 ?_
            refine wa_iushr hX dJ6_numberOfTrailingZeros_0f7a4_77 ?_
            refine wa_iadd hX dJ6_numberOfTrailingZeros_0f7a4_78 ?_
            refine wa_iret hX dJ6_numberOfTrailingZeros_0f7a4_79 ?_
            refine ⟨?_, rfl⟩
            rw [I]
            rw [← ntzE_ok s hs]
            simp only [ntzE, *, if_true, if_false]
          · skip
            refine wr_iinc hX dJ6_numberOfTrailingZeros_0f7a4_67 rfl ?_
            dsimp only [List.set]
            refine wa_iload_n hX (i := 0) dJ6_numberOfTrailingZeros_0f7a4_70 rfl rfl ?_
            refine wi_iconst hX dJ6_numberOfTrailingZeros_0f7a4_71 ?_
            refine wa_iushr hX dJ6_numberOfTrailingZeros_0f7a4_72 ?_
            refine wa_istore_n hX (i := 0) dJ6_numberOfTrailingZeros_0f7a4_73 rfl rfl ?_
            dsimp only [List.set]
            refine wa_iload_n hX (i := 1) dJ6_numberOfTrailingZeros_0f7a4_74 rfl rfl ?_
            refine wa_iload_n hX (i := 0) dJ6_numberOfTrailingZeros_0f7a4_75 rfl rfl ?_
            refine wi_iconst hX dJ6_numberOfTrailingZeros_0f7a4_76 ?_
            refine wa_iushr hX dJ6_numberOfTrailingZeros_0f7a4_77 ?_
            refine wa_iadd hX dJ6_numberOfTrailingZeros_0f7a4_78 ?_
            refine wa_iret hX dJ6_numberOfTrailingZeros_0f7a4_79 ?_
            refine ⟨?_, rfl⟩
            rw [I]
            rw [← ntzE_ok s hs]
            simp only [ntzE, *, if_true, if_false]
        · skip
          refine wr_iinc hX dJ6_numberOfTrailingZeros_0f7a4_55 rfl ?_
          dsimp only [List.set]
          refine wa_iload_n hX (i := 0) dJ6_numberOfTrailingZeros_0f7a4_58 rfl rfl ?_
          refine wi_iconst hX dJ6_numberOfTrailingZeros_0f7a4_59 ?_
          refine wa_iushr hX dJ6_numberOfTrailingZeros_0f7a4_60 ?_
          refine wa_istore_n hX (i := 0) dJ6_numberOfTrailingZeros_0f7a4_61 rfl rfl ?_
          dsimp only [List.set]
          refine wa_iload_n hX (i := 0) dJ6_numberOfTrailingZeros_0f7a4_62 rfl rfl ?_
          refine wi_iconst hX dJ6_numberOfTrailingZeros_0f7a4_63 ?_
          refine wr_icmp_le hX (tgt := 74) dJ6_numberOfTrailingZeros_0f7a4_64 (by decide) (fun c64 => ?_) (fun c64 => ?_)
          · skip
            refine wa_iload_n hX (i := 1) dJ6_numberOfTrailingZeros_0f7a4_74 rfl rfl ?_
            refine wa_iload_n hX (i := 0) dJ6_numberOfTrailingZeros_0f7a4_75 rfl rfl ?_
            refine wi_iconst hX dJ6_numberOfTrailingZeros_0f7a4_76 ?_
            refine wa_iushr hX dJ6_numberOfTrailingZeros_0f7a4_77 ?_
            refine wa_iadd hX dJ6_numberOfTrailingZeros_0f7a4_78 ?_
            refine wa_iret hX dJ6_numberOfTrailingZeros_0f7a4_79 ?_
            refine ⟨?_, rfl⟩
            rw [I]
            rw [← ntzE_ok s hs]
            simp only [ntzE, *, if_true, if_false]
          · skip
            refine wr_iinc hX dJ6_numberOfTrailingZeros_0f7a4_67 rfl ?_
            dsimp only [List.set]
            refine wa_iload_n hX (i := 0) dJ6_numberOfTrailingZeros_0f7a4_70 rfl rfl ?_
            refine wi_iconst hX dJ6_numberOfTrailingZeros_0f7a4_71 ?_
            refine wa_iushr hX dJ6_numberOfTrailingZeros_0f7a4_72 ?_
            refine wa_istore_n hX (i := 0) dJ6_numberOfTrailingZeros_0f7a4_73 rfl rfl ?_
            dsimp only [List.set]
            refine wa_iload_n hX (i := 1) dJ6_numberOfTrailingZeros_0f7a4_74 rfl rfl ?_
            refine wa_iload_n hX (i := 0) dJ6_numberOfTrailingZeros_0f7a4_75 rfl rfl ?_
            refine wi_iconst hX dJ6_numberOfTrailingZeros_0f7a4_76 ?_
            refine wa_iushr hX dJ6_numberOfTrailingZeros_0f7a4_77 ?_
            refine wa_iadd hX dJ6_numberOfTrailingZeros_0f7a4_78 ?_
            refine wa_iret hX dJ6_numberOfTrailingZeros_0f7a4_79 ?_
            refine ⟨?_, rfl⟩
            rw [I]
            rw [← ntzE_ok s hs]
            simp only [ntzE, *, if_true, if_false]
      · skip
        refine wr_iinc hX dJ6_numberOfTrailingZeros_0f7a4_41 rfl ?_
        dsimp only [List.set]
        refine wa_iload_n hX (i := 0) dJ6_numberOfTrailingZeros_0f7a4_44 rfl rfl ?_
        refine wi_bipush hX dJ6_numberOfTrailingZeros_0f7a4_45 (by decide) ?_
        refine wa_iushr hX dJ6_numberOfTrailingZeros_0f7a4_47 ?_
        refine wa_istore_n hX (i := 0) dJ6_numberOfTrailingZeros_0f7a4_48 rfl rfl ?_
        dsimp only [List.set]
        refine wa_iload_n hX (i := 0) dJ6_numberOfTrailingZeros_0f7a4_49 rfl rfl ?_
        refine wi_bipush hX dJ6_numberOfTrailingZeros_0f7a4_50 (by decide) ?_
        refine wr_icmp_le hX (tgt := 62) dJ6_numberOfTrailingZeros_0f7a4_52 (by decide) (fun c52 => ?_) (fun c52 => ?_)
        · skip
          refine wa_iload_n hX (i := 0) dJ6_numberOfTrailingZeros_0f7a4_62 rfl rfl ?_
          refine wi_iconst hX dJ6_numberOfTrailingZeros_0f7a4_63 ?_
          refine wr_icmp_le hX (tgt := 74) dJ6_numberOfTrailingZeros_0f7a4_64 (by decide) (fun c64 => ?_) (fun c64 => ?_)
          · skip
            refine wa_iload_n hX (i := 1) dJ6_numberOfTrailingZeros_0f7a4_74 rfl rfl ?_
            refine wa_iload_n hX (i := 0) dJ6_numberOfTrailingZeros_0f7a4_75 rfl rfl ?_
            refine wi_iconst hX dJ6_numberOfTrailingZeros_0f7a4_76 ?_
            refine wa_iushr hX dJ6_numberOfTrailingZeros_0f7a4_77 ?_
            refine wa_iadd hX dJ6_numberOfTrailingZeros_0f7a4_78 ?_
            refine wa_iret hX dJ6_numberOfTrailingZeros_0f7a4_79 ?_
            refine ⟨?_, rfl⟩
            rw [I]
            rw [← ntzE_ok s hs]
            simp only [ntzE, *, if_true, if_false]
          · skip
            refine wr_iinc hX dJ6_numberOfTrailingZeros_0f7a4_67 rfl ?_
            dsimp only [List.set]
            refine wa_iload_n hX (i := 0) dJ6_numberOfTrailingZeros_0f7a4_70 rfl rfl ?_
            refine wi_iconst hX dJ6_numberOfTrailingZeros_0f7a4_71 ?_
            refine wa_iushr hX dJ6_numberOfTrailingZeros_0f7a4_72 ?_
            refine wa_istore_n hX (i := 0) dJ6_numberOfTrailingZeros_0f7a4_73 rfl rfl ?_
            dsimp only [List.set]
            refine wa_iload_n hX (i := 1) dJ6_numberOfTrailingZeros_0f7a4_74 rfl rfl ?_
            refine wa_iload_n hX (i := 0) dJ6_numberOfTrailingZeros_0f7a4_75 rfl rfl ?_
            refine wi_iconst hX dJ6_numberOfTrailingZeros_0f7a4_76 ?_
            refine wa_iushr hX dJ6_numberOfTrailingZeros_0f7a4_77 ?_
            refine wa_iadd hX dJ6_numberOfTrailingZeros_0f7a4_78 ?_
            refine wa_iret hX dJ6_numberOfTrailingZeros_0f7a4_79 ?_
            refine ⟨?_, rfl⟩
            rw [I]
            rw [← ntzE_ok s hs]
            simp only [ntzE, *, if_true, if_false]
        · skip
          refine wr_iinc hX dJ6_numberOfTrailingZeros_0f7a4_55 rfl ?_
          dsimp only [List.set]
          refine wa_iload_n hX (i := 0) dJ6_numberOfTrailingZeros_0f7a4_58 rfl rfl ?_
          refine wi_iconst hX dJ6_numberOfTrailingZeros_0f7a4_59 ?_
          refine wa_iushr hX dJ6_numberOfTrailingZeros_0f7a4_60 ?_
          refine wa_istore_n hX (i := 0) dJ6_numberOfTrailingZeros_0f7a4_61 rfl rfl ?_
          dsimp only [List.set]
          refine wa_iload_n hX (i := 0) dJ6_numberOfTrailingZeros_0f7a4_62 rfl rfl ?_
          refine wi_iconst hX dJ6_numberOfTrailingZeros_0f7a4_63 ?_
          refine wr_icmp_le hX (tgt := 74) dJ6_numberOfTrailingZeros_0f7a4_64 (by decide) (fun c64 => ?_) (fun c64 => ?_)
          · skip
            refine wa_iload_n hX (i := 1) dJ6_numberOfTrailingZeros_0f7a4_74 rfl rfl ?_
            refine wa_iload_n hX (i := 0) dJ6_numberOfTrailingZeros_0f7a4_75 rfl rfl ?_
            refine wi_iconst hX dJ6_numberOfTrailingZeros_0f7a4_76 ?_
            refine wa_iushr hX dJ6_numberOfTrailingZeros_0f7a4_77 ?_
            refine wa_iadd hX dJ6_numberOfTrailingZeros_0f7a4_78 ?_
            refine wa_iret hX dJ6_numberOfTrailingZeros_0f7a4_79 ?_
            refine ⟨?_, rfl⟩
            rw [I]
            rw [← ntzE_ok s hs]
            simp only [ntzE, *, if_true, if_false]
          · skip
            refine wr_iinc hX dJ6_numberOfTrailingZeros_0f7a4_67 rfl ?_
            dsimp only [List.set]
            refine wa_iload_n hX (i := 0) dJ6_numberOfTrailingZeros_0f7a4_70 rfl rfl ?_
            refine wi_iconst hX dJ6_numberOfTrailingZeros_0f7a4_71 ?_
            refine wa_iushr hX dJ6_numberOfTrailingZeros_0f7a4_72 ?_
            refine wa_istore_n hX (i := 0) dJ6_numberOfTrailingZeros_0f7a4_73 rfl rfl ?_
            dsimp only [List.set]
            refine wa_iload_n hX (i := 1) dJ6_numberOfTrailingZeros_0f7a4_74 rfl rfl ?_
            refine wa_iload_n hX (i := 0) dJ6_numberOfTrailingZeros_0f7a4_75 rfl rfl ?_
            refine wi_iconst hX dJ6_numberOfTrailingZeros_0f7a4_76 ?_
            refine wa_iushr hX dJ6_numberOfTrailingZeros_0f7a4_77 ?_
            refine wa_iadd hX dJ6_numberOfTrailingZeros_0f7a4_78 ?_
            refine wa_iret hX dJ6_numberOfTrailingZeros_0f7a4_79 ?_
            refine ⟨?_, rfl⟩
            rw [I]
            rw [← ntzE_ok s hs]
            simp only [ntzE, *, if_true, if_false]
  · skip
    refine wa_iload_n hX (i := 0) dJ6_numberOfTrailingZeros_0f7a4_12 rfl rfl ?_
    refine wi_bipush hX dJ6_numberOfTrailingZeros_0f7a4_13 (by decide) ?_
    refine wa_iand hX dJ6_numberOfTrailingZeros_0f7a4_15 ?_
    refine wa_iret hX dJ6_numberOfTrailingZeros_0f7a4_16 ?_
    refine ⟨?_, rfl⟩
    rw [I]
    rw [← ntzE_ok s hs]
    simp only [ntzE, *, if_true, if_false]
set_option maxRecDepth 100000 in
theorem c_J9_floorMod (hW : WOK l D S0) (d : Nat) {h : AH} {a b : Nat} (ha : a < 2147483648) (h0 : 0 < b) (hb : b < 2147483648) : MA l D S0 yJ9_floorMod_7cf53 cJ9_floorMod_7cf53 3 (some .int) d [I a, I b] h 0 0 (fun r h' => r = some (I (a % b : Nat)) ∧ h' = h) (fun _ _ => False) := by
  refine MA.startF hW (by decide +kernel) [.val (I a), .val (I b), .unset] rfl ?_
  rintro X rfl rfl rfl hX
  refine wa_iload_n hX (i := 0) dJ9_floorMod_7cf53_0 rfl rfl ?_
  refine wa_iload_n hX (i := 1) dJ9_floorMod_7cf53_1 rfl rfl ?_
  refine wn_irem hX dJ9_floorMod_7cf53_2 (by rfl) (by rfl) ‹_› ‹_› ‹_› ?_
  refine wa_istore_n hX (i := 2) dJ9_floorMod_7cf53_3 rfl rfl ?_
  dsimp only [List.set]
  refine wa_iload_n hX (i := 0) dJ9_floorMod_7cf53_4 rfl rfl ?_
  refine wa_iload_n hX (i := 1) dJ9_floorMod_7cf53_5 rfl rfl ?_
  refine wn_ixor hX dJ9_floorMod_7cf53_6 (by rfl) (by rfl) ?_
  have hx9 : a ^^^ b < 2147483648 := Nat.xor_lt_two_pow (n := 31) ha hb
  refine wi_if_ge hX (tgt := 18) dJ9_floorMod_7cf53_7 (by decide) (by omega) (fun c7 => ?_) (fun c7 => ?_)
  · skip
    refine wa_iload_n hX (i := 2) dJ9_floorMod_7cf53_18 rfl rfl ?_
    refine wa_iret hX dJ9_floorMod_7cf53_19 ?_
    exact ⟨rfl, rfl⟩
  · skip
    exact absurd c7 (by omega)
set_option maxRecDepth 100000 in
theorem c_J7_fillB (hW : WOK l D S0) (d : Nat) {h : AH} {q lq n : Nat} {g : Nat → Int} {z : Int} (h1 : h q = some (lq, aI .byte n g)) (hn : n < 2147483648) (hz : narrow .byte (I z) = I z) : MA l D S0 yJ7_fill_031fb cJ7_fill_031fb 4 none d [.ref q, I z] h 0 0 (fun r h' => r = none ∧ h' = hset h q (lq, aI .byte n (fun _ => z))) (fun _ _ => False) := by
  refine MA.start hW (by decide) [.val (.ref q), .val (I z), .unset, .unset] rfl ?_
  rintro X rfl rfl rfl hX
  refine wi_iconst hX dJ7_fill_031fb_0 ?_
  refine wa_istore_n hX (i := 2) dJ7_fill_031fb_1 rfl rfl ?_
  dsimp only [List.set]
  refine wa_aload_n hX (i := 0) dJ7_fill_031fb_2 rfl rfl ?_
  refine wa_len hX (by assumption) dJ7_fill_031fb_3 ?_
  refine wa_istore_n hX (i := 3) dJ7_fill_031fb_4 rfl rfl ?_
  dsimp only [List.set]
  skip
  refine WA.heap (hset_self h1).symm ?_
  refine WA.loop (σ := Nat × (Nat → Int)) (fun s => n - s.1) (fun s => s.1 ≤ n ∧ ∀ j, j < s.1 → s.2 j = z) (fun s => hset h q (lq, aI .byte n s.2)) (fun s => [.val (.ref q), .val (I z), .val (I (s.1 : Nat)), .val (I (n : Nat))]) ?_ (0, g) ⟨Nat.zero_le _, fun j hj => absurd hj (Nat.not_lt_zero j)⟩
  rintro ⟨i, f⟩ ⟨hi, hf⟩ ih
  dsimp only at hi hf ⊢
  have h2 : hset h q (lq, aI .byte n f) q = some (lq, aI .byte n f) := hset_eq
  refine wa_iload_n hX (i := 2) dJ7_fill_031fb_5 rfl rfl ?_
  refine wa_iload_n hX (i := 3) dJ7_fill_031fb_6 rfl rfl ?_
  refine wi_icmp_ge hX (tgt := 20) dJ7_fill_031fb_7 (by decide) (by omega) (by omega) (fun c7 => ?_) (fun c7 => ?_)
  · skip
    refine WA.ext9 (fun _ => z) h2 (fun j hj => hf j (by omega)) ?_
    rw [hset_hset]
    refine wa_vret hX dJ7_fill_031fb_20 ?_
    exact ⟨rfl, rfl⟩
  · skip
    refine wa_aload_n hX (i := 0) dJ7_fill_031fb_10 rfl rfl ?_
    refine wa_iload_n hX (i := 2) dJ7_fill_031fb_11 rfl rfl ?_
    refine wa_iload_n hX (i := 1) dJ7_fill_031fb_12 rfl rfl ?_
    refine wi_bastore hX h2 (by omega) (by omega) (by omega) hz dJ7_fill_031fb_13 ?_
    rw [hset_hset]
    refine wi_iinc hX dJ7_fill_031fb_14 rfl ?_
    dsimp only [List.set]
    refine wa_goto hX (tgt := 5) dJ7_fill_031fb_17 (by decide) ?_
    exact ih (i + 1, up f i z) ⟨by show i + 1 ≤ n; omega, fun j hj => by
        show up f i z j = z
        by_cases e : j = i
        · subst e; exact up_s
        · rw [up_n e]; exact hf j (by change j < i + 1 at hj; omega)⟩ (by show n - (i + 1) < n - i; omega)
end C19
