/-! The law: its cases, Bj -/
section Bj
set_option maxHeartbeats 1000000 in
set_option maxRecDepth 100000 in
theorem w_sum {X : Cx} {d : Nat} {post : Option Value → AH → Prop} {px : String → AH → Prop} {h : AH} {k sl sc x mo out oD i0 n : Nat} {u6 u7 u8 : Slot} {f : Nat → Int} {th pc ps : Nat} {g : Nat → Int64} {G : Nat → UInt64} (hW : WOK (cxL X) (cxD X) (cxS X)) (hX : Ok X yL_law.cls cL_law 9 (some .boolean) yL_law.name (d + 20) post px) (hS : LST (cxS X) h sc n f x mo out oD th g G pc ps) (hf : ∀ j, inR (f j)) (hn : n ≤ 2560) (hb : i0 + 4 < n) (j6 : oc1 u6) (j7 : jk7 u7 u8) (K : LwK X k sl sc n f x mo out oD i0 pc ps) : WA X h (k + 65 + pc) (sl + 7400 + ps) 851 (lwL sc x mo out oD ((i0 : Nat) : Int) u6 u7 u8) [] := by
  obtain ⟨⟨w, c, m, E, R, br, bf, bs, be, D2, D3, so, b0, b1, b2, hI, hR, hB, rfl, rfl⟩, ho, hoD, hsc⟩ := hS
  obtain ⟨fs, hobj⟩ := hI.obj
  have hM := hI.mtr.2.2.2.2.2.2
  refine WA.room (k2 := (k + 25 + pC so D2) + 40) (sl2 := (sl + 3200 + pS so D2) + 4200) (by omega) (by omega) ?_
  refine wa_aload_n hX (i := 1) dL_law_851 rfl rfl ?_
  refine lw_arg hX (j := 1) rfl hsc (by omega) hn dL_law_852 dL_law_853 dL_law_855 dL_law_856 dL_law_857 ?_
  refine lw_arg hX (j := 2) rfl hsc (by omega) hn dL_law_858 dL_law_859 dL_law_861 dL_law_862 dL_law_863 ?_
  refine wa_aload_n hX (i := 3) dL_law_864 rfl rfl ?_
  refine wa_callSH hX (c_L_sum hW _ (P1 := PC_sum h x w c m E R br bf bs be D2 D3 so (f (i0 + 1)) (f (i0 + 2))) (PX := XC_sum h x w c m E R br bf bs be D2 D3 so (f (i0 + 1)) (f (i0 + 2))) hobj (c_X10_sum hW 0 hI (hf (i0 + 1)) (hf (i0 + 2)) (mN_sumC hM)) (fun r9 h9 q => ⟨vP_sum q, fP_sum q _ _ _ ho HF200⟩) (fun e9 h9 q => eX_sum q)) (by rfl) (by omega) (nA := 4) (by rfl) (by decide +kernel) rfl (by exact Nat.le_of_ble_eq_true rfl) dL_law_865 (fun r1 hh p1 => ?_)
  obtain ⟨kk, h1, g1, rfl, rfl, fr1, hc⟩ := wr3 (P1 := PC_sum h x w c m E R br bf bs be D2 D3 so (f (i0 + 1)) (f (i0 + 2))) (PX := XC_sum h x w c m E R br bf bs be D2 D3 so (f (i0 + 1)) (f (i0 + 2))) ho (fun r9 h9 q => fP_sum q) (fun e9 h9 q => fX_sum q) p1
  dsimp only [Option.toList, List.cons_append, List.nil_append]
  refine lw_i6 hX dL_law_868 j6 ?_
  obtain ⟨hR1, hsc1⟩ := lw_mid (g1 := g1) fr1 ho hR hsc
  obtain ⟨row, brk, al, wk, us, kp, pt, hmo⟩ := hR1.obj
  refine WA.room (k2 := (k + pC so D2) + 25) (sl2 := (sl + pS so D2) + 3200) (by omega) (by omega) ?_
  refine wa_aload_n hX (i := 2) dL_law_870 rfl rfl ?_
  refine lw_arg hX (j := 1) rfl hsc1 (by omega) hn dL_law_871 dL_law_872 dL_law_874 dL_law_875 dL_law_876 ?_
  refine lw_arg hX (j := 2) rfl hsc1 (by omega) hn dL_law_877 dL_law_878 dL_law_880 dL_law_881 dL_law_882 ?_
  refine wa_callV hX (c_X12_sum hW 0 hR1 (hf (i0 + 1)) (hf (i0 + 2)) (mN_sumC hM) (rmc := 25) (rms := 3200) (fun _ => by omega)) hmo (by rfl) (by rfl) (by omega) (nA := 2) (by rfl) (by decide +kernel) rfl (by exact Nat.le_of_ble_eq_true rfl) dL_law_883 (fun r2 h2 p2 => ?_) (fun _ _ q => q.elim)
  have p3 : PR_sum (cxS X) (hset h1 out (200, aL 1 g1)) mo w c m E R b0 b1 b2 (f (i0 + 1)) (f (i0 + 2)) r2 h2 := p2
  have frR := fR_sum p3
  obtain ⟨z2, rfl, hz, hk4, w', c', m', E', R', br', bf', bs', be', D2', D3', so', b0', b1', b2', hI', hR', hB', l1, l2⟩ := op_sum hI hB hc p3
  dsimp only [Option.toList, List.cons_append, List.nil_append]
  refine lw_i7 hX dL_law_886 j7 (fun v8 j8 => ?_)
  have hout2 := lw_outs frR
  obtain ⟨row2, brk2, al2, wk2, us2, kp2, pt2, hmo2⟩ := hR'.obj
  refine tail_i hW hX (by omega) hk4 ⟨_, _, _, _, _, _, _, _, hmo2⟩ hout2 hz (by decide) dL_law_888 dL_law_889 dL_law_892 dL_law_894 dL_law_899 dL_law_901 dL_law_904 dL_law_905 dL_law_906 dL_law_907 dL_law_909 dL_law_910 dL_law_911 dL_law_916 ?_
  refine WA.room (k2 := k + pC so' D2') (sl2 := sl + pS so' D2') (by omega) (by omega) ?_
  exact K h2 kk g1 G _ _ _ _ _ ⟨⟨w', c', m', E', R', br', bf', bs', be', D2', D3', so', b0', b1', b2', lw_house fr1 ho frR hI', hR', hB', rfl, rfl⟩, hout2, lw_after fr1 ho frR hoD (Or.inl rfl), hsc1⟩ l1 l2 (Or.inr ⟨_, rfl, rfl⟩) (Or.inl ⟨Or.inr ⟨_, rfl, rfl⟩, j8⟩)
set_option maxHeartbeats 1000000 in
set_option maxRecDepth 100000 in
theorem w_union {X : Cx} {d : Nat} {post : Option Value → AH → Prop} {px : String → AH → Prop} {h : AH} {k sl sc x mo out oD i0 n : Nat} {u6 u7 u8 : Slot} {f : Nat → Int} {th pc ps : Nat} {g : Nat → Int64} {G : Nat → UInt64} (hW : WOK (cxL X) (cxD X) (cxS X)) (hX : Ok X yL_law.cls cL_law 9 (some .boolean) yL_law.name (d + 20) post px) (hS : LST (cxS X) h sc n f x mo out oD th g G pc ps) (hf : ∀ j, inR (f j)) (hn : n ≤ 2560) (hb : i0 + 4 < n) (j6 : oc1 u6) (j7 : jk7 u7 u8) (K : LwK X k sl sc n f x mo out oD i0 pc ps) : WA X h (k + 65 + pc) (sl + 7400 + ps) 919 (lwL sc x mo out oD ((i0 : Nat) : Int) u6 u7 u8) [] := by
  obtain ⟨⟨w, c, m, E, R, br, bf, bs, be, D2, D3, so, b0, b1, b2, hI, hR, hB, rfl, rfl⟩, ho, hoD, hsc⟩ := hS
  obtain ⟨fs, hobj⟩ := hI.obj
  have hM := hI.mtr.2.2.2.2.2.2
  refine WA.room (k2 := (k + 25 + pC so D2) + 40) (sl2 := (sl + 3200 + pS so D2) + 4200) (by omega) (by omega) ?_
  refine wa_aload_n hX (i := 1) dL_law_919 rfl rfl ?_
  refine lw_arg hX (j := 1) rfl hsc (by omega) hn dL_law_920 dL_law_921 dL_law_923 dL_law_924 dL_law_925 ?_
  refine lw_arg hX (j := 2) rfl hsc (by omega) hn dL_law_926 dL_law_927 dL_law_929 dL_law_930 dL_law_931 ?_
  refine wa_aload_n hX (i := 3) dL_law_932 rfl rfl ?_
  refine wa_callSH hX (c_L_union hW _ (P1 := PC_union h x w c m E R br bf bs be D2 D3 so (f (i0 + 1)) (f (i0 + 2))) (PX := XC_union h x w c m E R br bf bs be D2 D3 so (f (i0 + 1)) (f (i0 + 2))) hobj (c_X10_union hW 0 hI (hf (i0 + 1)) (hf (i0 + 2)) (mN_unionC hM)) (fun r9 h9 q => ⟨vP_union q, fP_union q _ _ _ ho HF200⟩) (fun e9 h9 q => eX_union q)) (by rfl) (by omega) (nA := 4) (by rfl) (by decide +kernel) rfl (by exact Nat.le_of_ble_eq_true rfl) dL_law_933 (fun r1 hh p1 => ?_)
  obtain ⟨kk, h1, g1, rfl, rfl, fr1, hc⟩ := wr3 (P1 := PC_union h x w c m E R br bf bs be D2 D3 so (f (i0 + 1)) (f (i0 + 2))) (PX := XC_union h x w c m E R br bf bs be D2 D3 so (f (i0 + 1)) (f (i0 + 2))) ho (fun r9 h9 q => fP_union q) (fun e9 h9 q => fX_union q) p1
  dsimp only [Option.toList, List.cons_append, List.nil_append]
  refine lw_i6 hX dL_law_936 j6 ?_
  obtain ⟨hR1, hsc1⟩ := lw_mid (g1 := g1) fr1 ho hR hsc
  obtain ⟨row, brk, al, wk, us, kp, pt, hmo⟩ := hR1.obj
  refine WA.room (k2 := (k + pC so D2) + 25) (sl2 := (sl + pS so D2) + 3200) (by omega) (by omega) ?_
  refine wa_aload_n hX (i := 2) dL_law_938 rfl rfl ?_
  refine lw_arg hX (j := 1) rfl hsc1 (by omega) hn dL_law_939 dL_law_940 dL_law_942 dL_law_943 dL_law_944 ?_
  refine lw_arg hX (j := 2) rfl hsc1 (by omega) hn dL_law_945 dL_law_946 dL_law_948 dL_law_949 dL_law_950 ?_
  refine wa_callV hX (c_X12_union hW 0 hR1 (hf (i0 + 1)) (hf (i0 + 2)) (mN_unionR hM) (rmc := 25) (rms := 3200) (fun _ => by omega)) hmo (by rfl) (by rfl) (by omega) (nA := 2) (by rfl) (by decide +kernel) rfl (by exact Nat.le_of_ble_eq_true rfl) dL_law_951 (fun r2 h2 p2 => ?_) (fun _ _ q => q.elim)
  have p3 : PR_union (cxS X) (hset h1 out (200, aL 1 g1)) mo w c m E R b0 b1 b2 (f (i0 + 1)) (f (i0 + 2)) r2 h2 := p2
  have frR := fR_union p3
  obtain ⟨z2, rfl, hz, hk4, w', c', m', E', R', br', bf', bs', be', D2', D3', so', b0', b1', b2', hI', hR', hB', l1, l2⟩ := op_union hI hB hc p3
  dsimp only [Option.toList, List.cons_append, List.nil_append]
  refine lw_i7 hX dL_law_954 j7 (fun v8 j8 => ?_)
  have hout2 := lw_outs frR
  obtain ⟨row2, brk2, al2, wk2, us2, kp2, pt2, hmo2⟩ := hR'.obj
  refine tail_i hW hX (by omega) hk4 ⟨_, _, _, _, _, _, _, _, hmo2⟩ hout2 hz (by decide) dL_law_956 dL_law_957 dL_law_960 dL_law_962 dL_law_967 dL_law_969 dL_law_972 dL_law_973 dL_law_974 dL_law_975 dL_law_977 dL_law_978 dL_law_979 dL_law_984 ?_
  refine WA.room (k2 := k + pC so' D2') (sl2 := sl + pS so' D2') (by omega) (by omega) ?_
  exact K h2 kk g1 G _ _ _ _ _ ⟨⟨w', c', m', E', R', br', bf', bs', be', D2', D3', so', b0', b1', b2', lw_house fr1 ho frR hI', hR', hB', rfl, rfl⟩, hout2, lw_after fr1 ho frR hoD (Or.inl rfl), hsc1⟩ l1 l2 (Or.inr ⟨_, rfl, rfl⟩) (Or.inl ⟨Or.inr ⟨_, rfl, rfl⟩, j8⟩)
set_option maxHeartbeats 1000000 in
set_option maxRecDepth 100000 in
theorem w_truncate {X : Cx} {d : Nat} {post : Option Value → AH → Prop} {px : String → AH → Prop} {h : AH} {k sl sc x mo out oD i0 n : Nat} {u6 u7 u8 : Slot} {f : Nat → Int} {th pc ps : Nat} {g : Nat → Int64} {G : Nat → UInt64} (hW : WOK (cxL X) (cxD X) (cxS X)) (hX : Ok X yL_law.cls cL_law 9 (some .boolean) yL_law.name (d + 20) post px) (hS : LST (cxS X) h sc n f x mo out oD th g G pc ps) (hf : ∀ j, inR (f j)) (hn : n ≤ 2560) (hb : i0 + 4 < n) (j6 : oc1 u6) (j7 : jk7 u7 u8) (K : LwK X k sl sc n f x mo out oD i0 pc ps) : WA X h (k + 65 + pc) (sl + 7400 + ps) 987 (lwL sc x mo out oD ((i0 : Nat) : Int) u6 u7 u8) [] := by
  obtain ⟨⟨w, c, m, E, R, br, bf, bs, be, D2, D3, so, b0, b1, b2, hI, hR, hB, rfl, rfl⟩, ho, hoD, hsc⟩ := hS
  obtain ⟨fs, hobj⟩ := hI.obj
  have hM := hI.mtr.2.2.2.2.2.2
  refine WA.room (k2 := (k + 25 + pC so D2) + 40) (sl2 := (sl + 3200 + pS so D2) + 4200) (by omega) (by omega) ?_
  refine wa_aload_n hX (i := 1) dL_law_987 rfl rfl ?_
  refine lw_arg hX (j := 1) rfl hsc (by omega) hn dL_law_988 dL_law_989 dL_law_991 dL_law_992 dL_law_993 ?_
  refine wa_aload_n hX (i := 3) dL_law_994 rfl rfl ?_
  refine wa_callSH hX (c_L_truncate hW _ (P1 := PC_truncate h x w c m E R br bf bs be D2 D3 so (f (i0 + 1))) (PX := XC_truncate h x w c m E R br bf bs be D2 D3 so (f (i0 + 1))) hobj (c_X10_truncate hW 0 hI (hf (i0 + 1)) (mN_truncateC hM)) (fun r9 h9 q => ⟨vP_truncate q, fP_truncate q _ _ _ ho HF200⟩) (fun e9 h9 q => eX_truncate q)) (by rfl) (by omega) (nA := 3) (by rfl) (by decide +kernel) rfl (by exact Nat.le_of_ble_eq_true rfl) dL_law_995 (fun r1 hh p1 => ?_)
  obtain ⟨kk, h1, g1, rfl, rfl, fr1, hc⟩ := wr3 (P1 := PC_truncate h x w c m E R br bf bs be D2 D3 so (f (i0 + 1))) (PX := XC_truncate h x w c m E R br bf bs be D2 D3 so (f (i0 + 1))) ho (fun r9 h9 q => fP_truncate q) (fun e9 h9 q => fX_truncate q) p1
  dsimp only [Option.toList, List.cons_append, List.nil_append]
  refine lw_i6 hX dL_law_998 j6 ?_
  obtain ⟨hR1, hsc1⟩ := lw_mid (g1 := g1) fr1 ho hR hsc
  obtain ⟨row, brk, al, wk, us, kp, pt, hmo⟩ := hR1.obj
  refine WA.room (k2 := (k + pC so D2) + 25) (sl2 := (sl + pS so D2) + 3200) (by omega) (by omega) ?_
  refine wa_aload_n hX (i := 2) dL_law_1000 rfl rfl ?_
  refine lw_arg hX (j := 1) rfl hsc1 (by omega) hn dL_law_1001 dL_law_1002 dL_law_1004 dL_law_1005 dL_law_1006 ?_
  refine wa_callV hX (c_X12_truncate hW 0 hR1 (hf (i0 + 1)) (mN_truncateC hM) (rmc := 25) (rms := 3200) (fun _ => by omega)) hmo (by rfl) (by rfl) (by omega) (nA := 1) (by rfl) (by decide +kernel) rfl (by exact Nat.le_of_ble_eq_true rfl) dL_law_1007 (fun r2 h2 p2 => ?_) (fun _ _ q => q.elim)
  have p3 : PR_truncate (cxS X) (hset h1 out (200, aL 1 g1)) mo w c m E R b0 b1 b2 (f (i0 + 1)) r2 h2 := p2
  have frR := fR_truncate p3
  obtain ⟨z2, rfl, hz, hk4, w', c', m', E', R', br', bf', bs', be', D2', D3', so', b0', b1', b2', hI', hR', hB', l1, l2⟩ := op_truncate hI hB hc p3
  dsimp only [Option.toList, List.cons_append, List.nil_append]
  refine lw_i7 hX dL_law_1010 j7 (fun v8 j8 => ?_)
  have hout2 := lw_outs frR
  obtain ⟨row2, brk2, al2, wk2, us2, kp2, pt2, hmo2⟩ := hR'.obj
  refine tail_i hW hX (by omega) hk4 ⟨_, _, _, _, _, _, _, _, hmo2⟩ hout2 hz (by decide) dL_law_1012 dL_law_1013 dL_law_1016 dL_law_1018 dL_law_1023 dL_law_1025 dL_law_1028 dL_law_1029 dL_law_1030 dL_law_1031 dL_law_1033 dL_law_1034 dL_law_1035 dL_law_1040 ?_
  refine WA.room (k2 := k + pC so' D2') (sl2 := sl + pS so' D2') (by omega) (by omega) ?_
  exact K h2 kk g1 G _ _ _ _ _ ⟨⟨w', c', m', E', R', br', bf', bs', be', D2', D3', so', b0', b1', b2', lw_house fr1 ho frR hI', hR', hB', rfl, rfl⟩, hout2, lw_after fr1 ho frR hoD (Or.inl rfl), hsc1⟩ l1 l2 (Or.inr ⟨_, rfl, rfl⟩) (Or.inl ⟨Or.inr ⟨_, rfl, rfl⟩, j8⟩)
set_option maxHeartbeats 1000000 in
set_option maxRecDepth 100000 in
theorem w_relax {X : Cx} {d : Nat} {post : Option Value → AH → Prop} {px : String → AH → Prop} {h : AH} {k sl sc x mo out oD i0 n : Nat} {u6 u7 u8 : Slot} {f : Nat → Int} {th pc ps : Nat} {g : Nat → Int64} {G : Nat → UInt64} (hW : WOK (cxL X) (cxD X) (cxS X)) (hX : Ok X yL_law.cls cL_law 9 (some .boolean) yL_law.name (d + 20) post px) (hS : LST (cxS X) h sc n f x mo out oD th g G pc ps) (hf : ∀ j, inR (f j)) (hn : n ≤ 2560) (hb : i0 + 4 < n) (j6 : oc1 u6) (j7 : jk7 u7 u8) (K : LwK X k sl sc n f x mo out oD i0 pc ps) : WA X h (k + 65 + pc) (sl + 7400 + ps) 1043 (lwL sc x mo out oD ((i0 : Nat) : Int) u6 u7 u8) [] := by
  obtain ⟨⟨w, c, m, E, R, br, bf, bs, be, D2, D3, so, b0, b1, b2, hI, hR, hB, rfl, rfl⟩, ho, hoD, hsc⟩ := hS
  obtain ⟨fs, hobj⟩ := hI.obj
  have hM := hI.mtr.2.2.2.2.2.2
  refine WA.room (k2 := (k + 25 + pC so D2) + 40) (sl2 := (sl + 3200 + pS so D2) + 4200) (by omega) (by omega) ?_
  refine wa_aload_n hX (i := 1) dL_law_1043 rfl rfl ?_
  refine lw_arg hX (j := 1) rfl hsc (by omega) hn dL_law_1044 dL_law_1045 dL_law_1047 dL_law_1048 dL_law_1049 ?_
  refine lw_arg hX (j := 2) rfl hsc (by omega) hn dL_law_1050 dL_law_1051 dL_law_1053 dL_law_1054 dL_law_1055 ?_
  refine wa_aload_n hX (i := 3) dL_law_1056 rfl rfl ?_
  refine wa_callSH hX (c_L_relax hW _ (P1 := PC_relax h x w c m E R br bf bs be D2 D3 so (f (i0 + 1)) (f (i0 + 2))) (PX := XC_relax h x w c m E R br bf bs be D2 D3 so (f (i0 + 1)) (f (i0 + 2))) hobj (c_X10_relax hW 0 hI (hf (i0 + 1)) (hf (i0 + 2)) (mN_relaxC hM)) (fun r9 h9 q => ⟨vP_relax q, fP_relax q _ _ _ ho HF200⟩) (fun e9 h9 q => eX_relax q)) (by rfl) (by omega) (nA := 4) (by rfl) (by decide +kernel) rfl (by exact Nat.le_of_ble_eq_true rfl) dL_law_1057 (fun r1 hh p1 => ?_)
  obtain ⟨kk, h1, g1, rfl, rfl, fr1, hc⟩ := wr4 (P1 := PC_relax h x w c m E R br bf bs be D2 D3 so (f (i0 + 1)) (f (i0 + 2))) (PX := XC_relax h x w c m E R br bf bs be D2 D3 so (f (i0 + 1)) (f (i0 + 2))) ho (fun r9 h9 q => fP_relax q) (fun e9 h9 q => fX_relax q) p1
  dsimp only [Option.toList, List.cons_append, List.nil_append]
  refine lw_i6 hX dL_law_1060 j6 ?_
  obtain ⟨hR1, hsc1⟩ := lw_mid (g1 := g1) fr1 ho hR hsc
  obtain ⟨row, brk, al, wk, us, kp, pt, hmo⟩ := hR1.obj
  refine WA.room (k2 := (k + pC so D2) + 25) (sl2 := (sl + pS so D2) + 3200) (by omega) (by omega) ?_
  refine wa_aload_n hX (i := 2) dL_law_1062 rfl rfl ?_
  refine lw_arg hX (j := 1) rfl hsc1 (by omega) hn dL_law_1063 dL_law_1064 dL_law_1066 dL_law_1067 dL_law_1068 ?_
  refine lw_arg hX (j := 2) rfl hsc1 (by omega) hn dL_law_1069 dL_law_1070 dL_law_1072 dL_law_1073 dL_law_1074 ?_
  refine wa_callV hX (c_X12_relax hW 0 hR1 (hf (i0 + 1)) (hf (i0 + 2)) (mN_relaxR hM) (rmc := 25) (rms := 3200) (fun _ => by omega)) hmo (by rfl) (by rfl) (by omega) (nA := 2) (by rfl) (by decide +kernel) rfl (by exact Nat.le_of_ble_eq_true rfl) dL_law_1075 (fun r2 h2 p2 => ?_) (fun _ _ q => q.elim)
  have p3 : PR_relax (cxS X) (hset h1 out (200, aL 1 g1)) mo w c m E R b0 b1 b2 (f (i0 + 1)) (f (i0 + 2)) r2 h2 := p2
  have frR := fR_relax p3
  obtain ⟨z2, rfl, hz, hk4, w', c', m', E', R', br', bf', bs', be', D2', D3', so', b0', b1', b2', hI', hR', hB', l1, l2⟩ := op_relax hI hB hc p3
  dsimp only [Option.toList, List.cons_append, List.nil_append]
  refine lw_i7 hX dL_law_1078 j7 (fun v8 j8 => ?_)
  have hout2 := lw_outs frR
  obtain ⟨row2, brk2, al2, wk2, us2, kp2, pt2, hmo2⟩ := hR'.obj
  refine tail_i hW hX (by omega) hk4 ⟨_, _, _, _, _, _, _, _, hmo2⟩ hout2 hz (by decide) dL_law_1080 dL_law_1081 dL_law_1084 dL_law_1086 dL_law_1091 dL_law_1093 dL_law_1096 dL_law_1097 dL_law_1098 dL_law_1099 dL_law_1101 dL_law_1102 dL_law_1103 dL_law_1108 ?_
  refine WA.room (k2 := k + pC so' D2') (sl2 := sl + pS so' D2') (by omega) (by omega) ?_
  exact K h2 kk g1 G _ _ _ _ _ ⟨⟨w', c', m', E', R', br', bf', bs', be', D2', D3', so', b0', b1', b2', lw_house fr1 ho frR hI', hR', hB', rfl, rfl⟩, hout2, lw_after fr1 ho frR hoD (Or.inl rfl), hsc1⟩ l1 l2 (Or.inr ⟨_, rfl, rfl⟩) (Or.inl ⟨Or.inr ⟨_, rfl, rfl⟩, j8⟩)
set_option maxHeartbeats 1000000 in
set_option maxRecDepth 100000 in
theorem w_extend {X : Cx} {d : Nat} {post : Option Value → AH → Prop} {px : String → AH → Prop} {h : AH} {k sl sc x mo out oD i0 n : Nat} {u6 u7 u8 : Slot} {f : Nat → Int} {th pc ps : Nat} {g : Nat → Int64} {G : Nat → UInt64} (hW : WOK (cxL X) (cxD X) (cxS X)) (hX : Ok X yL_law.cls cL_law 9 (some .boolean) yL_law.name (d + 20) post px) (hS : LST (cxS X) h sc n f x mo out oD th g G pc ps) (hf : ∀ j, inR (f j)) (hn : n ≤ 2560) (hb : i0 + 4 < n) (j6 : oc1 u6) (j7 : jk7 u7 u8) (K : LwK X k sl sc n f x mo out oD i0 pc ps) : WA X h (k + 65 + pc) (sl + 7400 + ps) 1111 (lwL sc x mo out oD ((i0 : Nat) : Int) u6 u7 u8) [] := by
  obtain ⟨⟨w, c, m, E, R, br, bf, bs, be, D2, D3, so, b0, b1, b2, hI, hR, hB, rfl, rfl⟩, ho, hoD, hsc⟩ := hS
  obtain ⟨fs, hobj⟩ := hI.obj
  have hM := hI.mtr.2.2.2.2.2.2
  refine WA.room (k2 := (k + 25 + pC so D2) + 40) (sl2 := (sl + 3200 + pS so D2) + 4200) (by omega) (by omega) ?_
  refine wa_aload_n hX (i := 1) dL_law_1111 rfl rfl ?_
  refine lw_arg hX (j := 1) rfl hsc (by omega) hn dL_law_1112 dL_law_1113 dL_law_1115 dL_law_1116 dL_law_1117 ?_
  refine lw_arg hX (j := 2) rfl hsc (by omega) hn dL_law_1118 dL_law_1119 dL_law_1121 dL_law_1122 dL_law_1123 ?_
  refine wa_aload_n hX (i := 3) dL_law_1124 rfl rfl ?_
  refine wa_callSH hX (c_L_extend hW _ (P1 := PC_extend h x w c m E R br bf bs be D2 D3 so (f (i0 + 1)) (f (i0 + 2))) (PX := XC_extend h x w c m E R br bf bs be D2 D3 so (f (i0 + 1)) (f (i0 + 2))) hobj (c_X10_extend hW 0 hI (hf (i0 + 1)) (hf (i0 + 2)) (mN_extendC hM)) (fun r9 h9 q => ⟨vP_extend q, fP_extend q _ _ _ ho HF200⟩) (fun e9 h9 q => eX_extend q)) (by rfl) (by omega) (nA := 4) (by rfl) (by decide +kernel) rfl (by exact Nat.le_of_ble_eq_true rfl) dL_law_1125 (fun r1 hh p1 => ?_)
  obtain ⟨kk, h1, g1, rfl, rfl, fr1, hc⟩ := wr4 (P1 := PC_extend h x w c m E R br bf bs be D2 D3 so (f (i0 + 1)) (f (i0 + 2))) (PX := XC_extend h x w c m E R br bf bs be D2 D3 so (f (i0 + 1)) (f (i0 + 2))) ho (fun r9 h9 q => fP_extend q) (fun e9 h9 q => fX_extend q) p1
  dsimp only [Option.toList, List.cons_append, List.nil_append]
  refine lw_i6 hX dL_law_1128 j6 ?_
  obtain ⟨hR1, hsc1⟩ := lw_mid (g1 := g1) fr1 ho hR hsc
  obtain ⟨row, brk, al, wk, us, kp, pt, hmo⟩ := hR1.obj
  refine WA.room (k2 := (k + pC so D2) + 25) (sl2 := (sl + pS so D2) + 3200) (by omega) (by omega) ?_
  refine wa_aload_n hX (i := 2) dL_law_1130 rfl rfl ?_
  refine lw_arg hX (j := 1) rfl hsc1 (by omega) hn dL_law_1131 dL_law_1132 dL_law_1134 dL_law_1135 dL_law_1136 ?_
  refine lw_arg hX (j := 2) rfl hsc1 (by omega) hn dL_law_1137 dL_law_1138 dL_law_1140 dL_law_1141 dL_law_1142 ?_
  refine wa_callV hX (c_X12_extend hW 0 hR1 (hf (i0 + 1)) (hf (i0 + 2)) (mN_extendR hM) (rmc := 25) (rms := 3200) (fun _ => by omega)) hmo (by rfl) (by rfl) (by omega) (nA := 2) (by rfl) (by decide +kernel) rfl (by exact Nat.le_of_ble_eq_true rfl) dL_law_1143 (fun r2 h2 p2 => ?_) (fun _ _ q => q.elim)
  have p3 : PR_extend (cxS X) (hset h1 out (200, aL 1 g1)) mo w c m E R b0 b1 b2 (f (i0 + 1)) (f (i0 + 2)) r2 h2 := p2
  have frR := fR_extend p3
  obtain ⟨z2, rfl, hz, hk4, w', c', m', E', R', br', bf', bs', be', D2', D3', so', b0', b1', b2', hI', hR', hB', l1, l2⟩ := op_extend hI hB hc p3
  dsimp only [Option.toList, List.cons_append, List.nil_append]
  refine lw_i7 hX dL_law_1146 j7 (fun v8 j8 => ?_)
  have hout2 := lw_outs frR
  obtain ⟨row2, brk2, al2, wk2, us2, kp2, pt2, hmo2⟩ := hR'.obj
  refine tail_i hW hX (by omega) hk4 ⟨_, _, _, _, _, _, _, _, hmo2⟩ hout2 hz (by decide) dL_law_1148 dL_law_1149 dL_law_1152 dL_law_1154 dL_law_1159 dL_law_1161 dL_law_1164 dL_law_1165 dL_law_1166 dL_law_1167 dL_law_1169 dL_law_1170 dL_law_1171 dL_law_1176 ?_
  refine WA.room (k2 := k + pC so' D2') (sl2 := sl + pS so' D2') (by omega) (by omega) ?_
  exact K h2 kk g1 G _ _ _ _ _ ⟨⟨w', c', m', E', R', br', bf', bs', be', D2', D3', so', b0', b1', b2', lw_house fr1 ho frR hI', hR', hB', rfl, rfl⟩, hout2, lw_after fr1 ho frR hoD (Or.inl rfl), hsc1⟩ l1 l2 (Or.inr ⟨_, rfl, rfl⟩) (Or.inl ⟨Or.inr ⟨_, rfl, rfl⟩, j8⟩)
set_option maxHeartbeats 1000000 in
set_option maxRecDepth 100000 in
theorem w_size {X : Cx} {d : Nat} {post : Option Value → AH → Prop} {px : String → AH → Prop} {h : AH} {k sl sc x mo out oD i0 n : Nat} {u6 u7 u8 : Slot} {f : Nat → Int} {th pc ps : Nat} {g : Nat → Int64} {G : Nat → UInt64} (hW : WOK (cxL X) (cxD X) (cxS X)) (hX : Ok X yL_law.cls cL_law 9 (some .boolean) yL_law.name (d + 20) post px) (hS : LST (cxS X) h sc n f x mo out oD th g G pc ps) (hf : ∀ j, inR (f j)) (hn : n ≤ 2560) (hb : i0 + 4 < n) (j6 : oc1 u6) (j7 : jk7 u7 u8) (K : LwK X k sl sc n f x mo out oD i0 pc ps) : WA X h (k + 65 + pc) (sl + 7400 + ps) 1179 (lwL sc x mo out oD ((i0 : Nat) : Int) u6 u7 u8) [] := by
  obtain ⟨⟨w, c, m, E, R, br, bf, bs, be, D2, D3, so, b0, b1, b2, hI, hR, hB, rfl, rfl⟩, ho, hoD, hsc⟩ := hS
  obtain ⟨fs, hobj⟩ := hI.obj
  have hM := hI.mtr.2.2.2.2.2.2
  refine WA.room (k2 := (k + 25 + pC so D2) + 4) (sl2 := (sl + 3200 + pS so D2) + 24) (by omega) (by omega) ?_
  refine wa_aload_n hX (i := 1) dL_law_1179 rfl rfl ?_
  refine lw_arg hX (j := 1) rfl hsc (by omega) hn dL_law_1180 dL_law_1181 dL_law_1183 dL_law_1184 dL_law_1185 ?_
  refine wa_aload_n hX (i := 3) dL_law_1186 rfl rfl ?_
  refine wa_callSH hX (c_L_size hW _ (P1 := PC_size h x w c m E R br bf bs be D2 D3 so (f (i0 + 1))) (PX := XC_size h x w c m E R br bf bs be D2 D3 so (f (i0 + 1))) hobj (c_X10_size hW 0 hI (hf (i0 + 1))) (fun r9 h9 q => ⟨vP_size q, fP_size q _ _ _ ho HF200⟩) (fun e9 h9 q => eX_size q)) (by rfl) (by omega) (nA := 3) (by rfl) (by decide +kernel) rfl (by exact Nat.le_of_ble_eq_true rfl) dL_law_1187 (fun r1 hh p1 => ?_)
  obtain ⟨kk, h1, g1, rfl, rfl, fr1, hc⟩ := wr1 (P1 := PC_size h x w c m E R br bf bs be D2 D3 so (f (i0 + 1))) (PX := XC_size h x w c m E R br bf bs be D2 D3 so (f (i0 + 1))) ho (fun r9 h9 q => fP_size q) (fun e9 h9 q => fX_size q) p1
  dsimp only [Option.toList, List.cons_append, List.nil_append]
  refine lw_i6 hX dL_law_1190 j6 ?_
  obtain ⟨hR1, hsc1⟩ := lw_mid (g1 := g1) fr1 ho hR hsc
  obtain ⟨row, brk, al, wk, us, kp, pt, hmo⟩ := hR1.obj
  refine WA.room (k2 := (k + pC so D2) + 0) (sl2 := (sl + pS so D2) + 0) (by omega) (by omega) ?_
  refine wa_aload_n hX (i := 2) dL_law_1192 rfl rfl ?_
  refine lw_arg hX (j := 1) rfl hsc1 (by omega) hn dL_law_1193 dL_law_1194 dL_law_1196 dL_law_1197 dL_law_1198 ?_
  refine wa_callV hX (c_X12_size hW 0 hR1 (hf (i0 + 1)) ) hmo (by rfl) (by rfl) (by omega) (nA := 1) (by rfl) (by decide +kernel) rfl (by exact Nat.le_of_ble_eq_true rfl) dL_law_1199 (fun r2 h2 p2 => ?_) (fun _ _ q => q.elim)
  have p3 : PR_size (cxS X) (hset h1 out (200, aL 1 g1)) mo w c m E R b0 b1 b2 (f (i0 + 1)) r2 h2 := p2
  have frR := fR_size p3
  obtain ⟨z2, rfl, hz, hk4, w', c', m', E', R', br', bf', bs', be', D2', D3', so', b0', b1', b2', hI', hR', hB', l1, l2⟩ := op_size hI hB hc p3
  dsimp only [Option.toList, List.cons_append, List.nil_append]
  refine lw_i7 hX dL_law_1202 j7 (fun v8 j8 => ?_)
  have hout2 := lw_outs frR
  obtain ⟨row2, brk2, al2, wk2, us2, kp2, pt2, hmo2⟩ := hR'.obj
  refine tail_i hW hX (by omega) hk4 ⟨_, _, _, _, _, _, _, _, hmo2⟩ hout2 hz (by decide) dL_law_1204 dL_law_1205 dL_law_1208 dL_law_1210 dL_law_1215 dL_law_1217 dL_law_1220 dL_law_1221 dL_law_1222 dL_law_1223 dL_law_1225 dL_law_1226 dL_law_1227 dL_law_1232 ?_
  refine WA.room (k2 := k + pC so' D2') (sl2 := sl + pS so' D2') (by omega) (by omega) ?_
  exact K h2 kk g1 G _ _ _ _ _ ⟨⟨w', c', m', E', R', br', bf', bs', be', D2', D3', so', b0', b1', b2', lw_house fr1 ho frR hI', hR', hB', rfl, rfl⟩, hout2, lw_after fr1 ho frR hoD (Or.inl rfl), hsc1⟩ l1 l2 (Or.inr ⟨_, rfl, rfl⟩) (Or.inl ⟨Or.inr ⟨_, rfl, rfl⟩, j8⟩)
set_option maxHeartbeats 1000000 in
set_option maxRecDepth 100000 in
theorem w_rank {X : Cx} {d : Nat} {post : Option Value → AH → Prop} {px : String → AH → Prop} {h : AH} {k sl sc x mo out oD i0 n : Nat} {u6 u7 u8 : Slot} {f : Nat → Int} {th pc ps : Nat} {g : Nat → Int64} {G : Nat → UInt64} (hW : WOK (cxL X) (cxD X) (cxS X)) (hX : Ok X yL_law.cls cL_law 9 (some .boolean) yL_law.name (d + 20) post px) (hS : LST (cxS X) h sc n f x mo out oD th g G pc ps) (hf : ∀ j, inR (f j)) (hn : n ≤ 2560) (hb : i0 + 4 < n) (j6 : oc1 u6) (j7 : jk7 u7 u8) (K : LwK X k sl sc n f x mo out oD i0 pc ps) : WA X h (k + 65 + pc) (sl + 7400 + ps) 1235 (lwL sc x mo out oD ((i0 : Nat) : Int) u6 u7 u8) [] := by
  obtain ⟨⟨w, c, m, E, R, br, bf, bs, be, D2, D3, so, b0, b1, b2, hI, hR, hB, rfl, rfl⟩, ho, hoD, hsc⟩ := hS
  obtain ⟨fs, hobj⟩ := hI.obj
  have hM := hI.mtr.2.2.2.2.2.2
  refine WA.room (k2 := (k + 25 + pC so D2) + 4) (sl2 := (sl + 3200 + pS so D2) + 24) (by omega) (by omega) ?_
  refine wa_aload_n hX (i := 1) dL_law_1235 rfl rfl ?_
  refine lw_arg hX (j := 1) rfl hsc (by omega) hn dL_law_1236 dL_law_1237 dL_law_1239 dL_law_1240 dL_law_1241 ?_
  refine lw_arg hX (j := 2) rfl hsc (by omega) hn dL_law_1242 dL_law_1243 dL_law_1245 dL_law_1246 dL_law_1247 ?_
  refine wa_aload_n hX (i := 3) dL_law_1248 rfl rfl ?_
  refine wa_callSH hX (c_L_rank hW _ (P1 := PC_rank h x w c m E R br bf bs be D2 D3 so (f (i0 + 1)) (f (i0 + 2))) (PX := XC_rank h x w c m E R br bf bs be D2 D3 so (f (i0 + 1)) (f (i0 + 2))) hobj (c_X10_rank hW 0 hI (hf (i0 + 1)) (hf (i0 + 2))) (fun r9 h9 q => ⟨vP_rank q, fP_rank q _ _ _ ho HF200⟩) (fun e9 h9 q => eX_rank q)) (by rfl) (by omega) (nA := 4) (by rfl) (by decide +kernel) rfl (by exact Nat.le_of_ble_eq_true rfl) dL_law_1249 (fun r1 hh p1 => ?_)
  obtain ⟨kk, h1, g1, rfl, rfl, fr1, hc⟩ := wr2 (P1 := PC_rank h x w c m E R br bf bs be D2 D3 so (f (i0 + 1)) (f (i0 + 2))) (PX := XC_rank h x w c m E R br bf bs be D2 D3 so (f (i0 + 1)) (f (i0 + 2))) ho (fun r9 h9 q => fP_rank q) (fun e9 h9 q => fX_rank q) p1
  dsimp only [Option.toList, List.cons_append, List.nil_append]
  refine lw_i6 hX dL_law_1252 j6 ?_
  obtain ⟨hR1, hsc1⟩ := lw_mid (g1 := g1) fr1 ho hR hsc
  obtain ⟨row, brk, al, wk, us, kp, pt, hmo⟩ := hR1.obj
  refine WA.room (k2 := (k + pC so D2) + 0) (sl2 := (sl + pS so D2) + 0) (by omega) (by omega) ?_
  refine wa_aload_n hX (i := 2) dL_law_1254 rfl rfl ?_
  refine lw_arg hX (j := 1) rfl hsc1 (by omega) hn dL_law_1255 dL_law_1256 dL_law_1258 dL_law_1259 dL_law_1260 ?_
  refine lw_arg hX (j := 2) rfl hsc1 (by omega) hn dL_law_1261 dL_law_1262 dL_law_1264 dL_law_1265 dL_law_1266 ?_
  refine wa_callV hX (c_X12_rank hW 0 hR1 (hf (i0 + 1)) (hf (i0 + 2)) ) hmo (by rfl) (by rfl) (by omega) (nA := 2) (by rfl) (by decide +kernel) rfl (by exact Nat.le_of_ble_eq_true rfl) dL_law_1267 (fun r2 h2 p2 => ?_) (fun _ _ q => q.elim)
  have p3 : PR_rank (cxS X) (hset h1 out (200, aL 1 g1)) mo w c m E R b0 b1 b2 (f (i0 + 1)) (f (i0 + 2)) r2 h2 := p2
  have frR := fR_rank p3
  obtain ⟨z2, rfl, hz, hk4, w', c', m', E', R', br', bf', bs', be', D2', D3', so', b0', b1', b2', hI', hR', hB', l1, l2⟩ := op_rank hI hB hc p3
  dsimp only [Option.toList, List.cons_append, List.nil_append]
  refine lw_i7 hX dL_law_1270 j7 (fun v8 j8 => ?_)
  have hout2 := lw_outs frR
  obtain ⟨row2, brk2, al2, wk2, us2, kp2, pt2, hmo2⟩ := hR'.obj
  refine tail_i hW hX (by omega) hk4 ⟨_, _, _, _, _, _, _, _, hmo2⟩ hout2 hz (by decide) dL_law_1272 dL_law_1273 dL_law_1276 dL_law_1278 dL_law_1283 dL_law_1285 dL_law_1288 dL_law_1289 dL_law_1290 dL_law_1291 dL_law_1293 dL_law_1294 dL_law_1295 dL_law_1300 ?_
  refine WA.room (k2 := k + pC so' D2') (sl2 := sl + pS so' D2') (by omega) (by omega) ?_
  exact K h2 kk g1 G _ _ _ _ _ ⟨⟨w', c', m', E', R', br', bf', bs', be', D2', D3', so', b0', b1', b2', lw_house fr1 ho frR hI', hR', hB', rfl, rfl⟩, hout2, lw_after fr1 ho frR hoD (Or.inl rfl), hsc1⟩ l1 l2 (Or.inr ⟨_, rfl, rfl⟩) (Or.inl ⟨Or.inr ⟨_, rfl, rfl⟩, j8⟩)
set_option maxHeartbeats 1000000 in
set_option maxRecDepth 100000 in
theorem w_closure {X : Cx} {d : Nat} {post : Option Value → AH → Prop} {px : String → AH → Prop} {h : AH} {k sl sc x mo out oD i0 n : Nat} {u6 u7 u8 : Slot} {f : Nat → Int} {th pc ps : Nat} {g : Nat → Int64} {G : Nat → UInt64} (hW : WOK (cxL X) (cxD X) (cxS X)) (hX : Ok X yL_law.cls cL_law 9 (some .boolean) yL_law.name (d + 20) post px) (hS : LST (cxS X) h sc n f x mo out oD th g G pc ps) (hf : ∀ j, inR (f j)) (hn : n ≤ 2560) (hb : i0 + 4 < n) (j6 : oc1 u6) (j7 : jk7 u7 u8) (K : LwK X k sl sc n f x mo out oD i0 pc ps) : WA X h (k + 65 + pc) (sl + 7400 + ps) 1303 (lwL sc x mo out oD ((i0 : Nat) : Int) u6 u7 u8) [] := by
  obtain ⟨⟨w, c, m, E, R, br, bf, bs, be, D2, D3, so, b0, b1, b2, hI, hR, hB, rfl, rfl⟩, ho, hoD, hsc⟩ := hS
  obtain ⟨fs, hobj⟩ := hI.obj
  have hM := hI.mtr.2.2.2.2.2.2
  refine WA.room (k2 := (k + 25 + pC so D2) + 4) (sl2 := (sl + 3200 + pS so D2) + 24) (by omega) (by omega) ?_
  refine wa_aload_n hX (i := 1) dL_law_1303 rfl rfl ?_
  refine lw_arg hX (j := 1) rfl hsc (by omega) hn dL_law_1304 dL_law_1305 dL_law_1307 dL_law_1308 dL_law_1309 ?_
  refine lw_arg hX (j := 2) rfl hsc (by omega) hn dL_law_1310 dL_law_1311 dL_law_1313 dL_law_1314 dL_law_1315 ?_
  refine wa_aload_n hX (i := 3) dL_law_1316 rfl rfl ?_
  refine wa_callSH hX (c_L_closure hW _ (P1 := PC_closure h x w c m E R br bf bs be D2 D3 so (f (i0 + 1)) (f (i0 + 2))) (PX := XC_closure h x w c m E R br bf bs be D2 D3 so (f (i0 + 1)) (f (i0 + 2))) hobj (c_X10_closure hW 0 hI (hf (i0 + 1)) (hf (i0 + 2))) (fun r9 h9 q => ⟨vP_closure q, fP_closure q _ _ _ ho HF200⟩) (fun e9 h9 q => eX_closure q)) (by rfl) (by omega) (nA := 4) (by rfl) (by decide +kernel) rfl (by exact Nat.le_of_ble_eq_true rfl) dL_law_1317 (fun r1 hh p1 => ?_)
  obtain ⟨kk, h1, g1, rfl, rfl, fr1, hc⟩ := wr2 (P1 := PC_closure h x w c m E R br bf bs be D2 D3 so (f (i0 + 1)) (f (i0 + 2))) (PX := XC_closure h x w c m E R br bf bs be D2 D3 so (f (i0 + 1)) (f (i0 + 2))) ho (fun r9 h9 q => fP_closure q) (fun e9 h9 q => fX_closure q) p1
  dsimp only [Option.toList, List.cons_append, List.nil_append]
  refine lw_i6 hX dL_law_1320 j6 ?_
  obtain ⟨hR1, hsc1⟩ := lw_mid (g1 := g1) fr1 ho hR hsc
  obtain ⟨row, brk, al, wk, us, kp, pt, hmo⟩ := hR1.obj
  refine WA.room (k2 := (k + pC so D2) + 0) (sl2 := (sl + pS so D2) + 0) (by omega) (by omega) ?_
  refine wa_aload_n hX (i := 2) dL_law_1322 rfl rfl ?_
  refine lw_arg hX (j := 1) rfl hsc1 (by omega) hn dL_law_1323 dL_law_1324 dL_law_1326 dL_law_1327 dL_law_1328 ?_
  refine lw_arg hX (j := 2) rfl hsc1 (by omega) hn dL_law_1329 dL_law_1330 dL_law_1332 dL_law_1333 dL_law_1334 ?_
  refine wa_callV hX (c_X12_closure hW 0 hR1 (hf (i0 + 1)) (hf (i0 + 2)) ) hmo (by rfl) (by rfl) (by omega) (nA := 2) (by rfl) (by decide +kernel) rfl (by exact Nat.le_of_ble_eq_true rfl) dL_law_1335 (fun r2 h2 p2 => ?_) (fun _ _ q => q.elim)
  have p3 : PR_closure (cxS X) (hset h1 out (200, aL 1 g1)) mo w c m E R b0 b1 b2 (f (i0 + 1)) (f (i0 + 2)) r2 h2 := p2
  have frR := fR_closure p3
  obtain ⟨z2, rfl, hz, hk4, w', c', m', E', R', br', bf', bs', be', D2', D3', so', b0', b1', b2', hI', hR', hB', l1, l2⟩ := op_closure hI hB hc p3
  dsimp only [Option.toList, List.cons_append, List.nil_append]
  refine lw_i7 hX dL_law_1338 j7 (fun v8 j8 => ?_)
  have hout2 := lw_outs frR
  obtain ⟨row2, brk2, al2, wk2, us2, kp2, pt2, hmo2⟩ := hR'.obj
  refine tail_i hW hX (by omega) hk4 ⟨_, _, _, _, _, _, _, _, hmo2⟩ hout2 hz (by decide) dL_law_1340 dL_law_1341 dL_law_1344 dL_law_1346 dL_law_1351 dL_law_1353 dL_law_1356 dL_law_1357 dL_law_1358 dL_law_1359 dL_law_1361 dL_law_1362 dL_law_1363 dL_law_1368 ?_
  refine WA.room (k2 := k + pC so' D2') (sl2 := sl + pS so' D2') (by omega) (by omega) ?_
  exact K h2 kk g1 G _ _ _ _ _ ⟨⟨w', c', m', E', R', br', bf', bs', be', D2', D3', so', b0', b1', b2', lw_house fr1 ho frR hI', hR', hB', rfl, rfl⟩, hout2, lw_after fr1 ho frR hoD (Or.inl rfl), hsc1⟩ l1 l2 (Or.inr ⟨_, rfl, rfl⟩) (Or.inl ⟨Or.inr ⟨_, rfl, rfl⟩, j8⟩)
set_option maxHeartbeats 1000000 in
set_option maxRecDepth 100000 in
theorem w_count {X : Cx} {d : Nat} {post : Option Value → AH → Prop} {px : String → AH → Prop} {h : AH} {k sl sc x mo out oD i0 n : Nat} {u6 u7 u8 : Slot} {f : Nat → Int} {th pc ps : Nat} {g : Nat → Int64} {G : Nat → UInt64} (hW : WOK (cxL X) (cxD X) (cxS X)) (hX : Ok X yL_law.cls cL_law 9 (some .boolean) yL_law.name (d + 20) post px) (hS : LST (cxS X) h sc n f x mo out oD th g G pc ps) (hf : ∀ j, inR (f j)) (hn : n ≤ 2560) (hb : i0 + 4 < n) (j6 : oc1 u6) (j7 : jk7 u7 u8) (K : LwK X k sl sc n f x mo out oD i0 pc ps) : WA X h (k + 65 + pc) (sl + 7400 + ps) 1371 (lwL sc x mo out oD ((i0 : Nat) : Int) u6 u7 u8) [] := by
  obtain ⟨⟨w, c, m, E, R, br, bf, bs, be, D2, D3, so, b0, b1, b2, hI, hR, hB, rfl, rfl⟩, ho, hoD, hsc⟩ := hS
  obtain ⟨fs, hobj⟩ := hI.obj
  have hM := hI.mtr.2.2.2.2.2.2
  refine WA.room (k2 := (k + 25 + pC so D2) + 4) (sl2 := (sl + 3200 + pS so D2) + 24) (by omega) (by omega) ?_
  refine wa_aload_n hX (i := 1) dL_law_1371 rfl rfl ?_
  refine lw_arg hX (j := 1) rfl hsc (by omega) hn dL_law_1372 dL_law_1373 dL_law_1375 dL_law_1376 dL_law_1377 ?_
  refine lw_arg hX (j := 2) rfl hsc (by omega) hn dL_law_1378 dL_law_1379 dL_law_1381 dL_law_1382 dL_law_1383 ?_
  refine lw_i2c hX dL_law_1384 ?_
  refine wa_aload_n hX (i := 3) dL_law_1385 rfl rfl ?_
  refine wa_callSH hX (c_L_count hW _ (P1 := PC_count h x w c m E R br bf bs be D2 D3 so (f (i0 + 1)) (chrZ (f (i0 + 2)))) (PX := XC_count h x w c m E R br bf bs be D2 D3 so (f (i0 + 1)) (chrZ (f (i0 + 2)))) hobj (c_X10_count hW 0 hI (hf (i0 + 1)) (chrZ_in _)) (fun r9 h9 q => ⟨vP_count q, fP_count q _ _ _ ho HF200⟩) (fun e9 h9 q => eX_count q)) (by rfl) (by omega) (nA := 4) (by rfl) (by decide +kernel) rfl (by exact Nat.le_of_ble_eq_true rfl) dL_law_1386 (fun r1 hh p1 => ?_)
  obtain ⟨kk, h1, g1, rfl, rfl, fr1, hc⟩ := wr2 (P1 := PC_count h x w c m E R br bf bs be D2 D3 so (f (i0 + 1)) (chrZ (f (i0 + 2)))) (PX := XC_count h x w c m E R br bf bs be D2 D3 so (f (i0 + 1)) (chrZ (f (i0 + 2)))) ho (fun r9 h9 q => fP_count q) (fun e9 h9 q => fX_count q) p1
  dsimp only [Option.toList, List.cons_append, List.nil_append]
  refine lw_i6 hX dL_law_1389 j6 ?_
  obtain ⟨hR1, hsc1⟩ := lw_mid (g1 := g1) fr1 ho hR hsc
  obtain ⟨row, brk, al, wk, us, kp, pt, hmo⟩ := hR1.obj
  refine WA.room (k2 := (k + pC so D2) + 0) (sl2 := (sl + pS so D2) + 0) (by omega) (by omega) ?_
  refine wa_aload_n hX (i := 2) dL_law_1391 rfl rfl ?_
  refine lw_arg hX (j := 1) rfl hsc1 (by omega) hn dL_law_1392 dL_law_1393 dL_law_1395 dL_law_1396 dL_law_1397 ?_
  refine lw_arg hX (j := 2) rfl hsc1 (by omega) hn dL_law_1398 dL_law_1399 dL_law_1401 dL_law_1402 dL_law_1403 ?_
  refine lw_i2c hX dL_law_1404 ?_
  refine wa_callV hX (c_X12_count hW 0 hR1 (hf (i0 + 1)) (chrZ_in _) ) hmo (by rfl) (by rfl) (by omega) (nA := 2) (by rfl) (by decide +kernel) rfl (by exact Nat.le_of_ble_eq_true rfl) dL_law_1405 (fun r2 h2 p2 => ?_) (fun _ _ q => q.elim)
  have p3 : PR_count (cxS X) (hset h1 out (200, aL 1 g1)) mo w c m E R b0 b1 b2 (f (i0 + 1)) (chrZ (f (i0 + 2))) r2 h2 := p2
  have frR := fR_count p3
  obtain ⟨z2, rfl, hz, hk4, w', c', m', E', R', br', bf', bs', be', D2', D3', so', b0', b1', b2', hI', hR', hB', l1, l2⟩ := op_count hI hB hc p3
  dsimp only [Option.toList, List.cons_append, List.nil_append]
  refine lw_i7 hX dL_law_1408 j7 (fun v8 j8 => ?_)
  have hout2 := lw_outs frR
  obtain ⟨row2, brk2, al2, wk2, us2, kp2, pt2, hmo2⟩ := hR'.obj
  refine tail_i hW hX (by omega) hk4 ⟨_, _, _, _, _, _, _, _, hmo2⟩ hout2 hz (by decide) dL_law_1410 dL_law_1411 dL_law_1414 dL_law_1416 dL_law_1421 dL_law_1423 dL_law_1426 dL_law_1427 dL_law_1428 dL_law_1429 dL_law_1431 dL_law_1432 dL_law_1433 dL_law_1438 ?_
  refine WA.room (k2 := k + pC so' D2') (sl2 := sl + pS so' D2') (by omega) (by omega) ?_
  exact K h2 kk g1 G _ _ _ _ _ ⟨⟨w', c', m', E', R', br', bf', bs', be', D2', D3', so', b0', b1', b2', lw_house fr1 ho frR hI', hR', hB', rfl, rfl⟩, hout2, lw_after fr1 ho frR hoD (Or.inl rfl), hsc1⟩ l1 l2 (Or.inr ⟨_, rfl, rfl⟩) (Or.inl ⟨Or.inr ⟨_, rfl, rfl⟩, j8⟩)
set_option maxHeartbeats 1000000 in
set_option maxRecDepth 100000 in
theorem w_setAt {X : Cx} {d : Nat} {post : Option Value → AH → Prop} {px : String → AH → Prop} {h : AH} {k sl sc x mo out oD i0 n : Nat} {u6 u7 u8 : Slot} {f : Nat → Int} {th pc ps : Nat} {g : Nat → Int64} {G : Nat → UInt64} (hW : WOK (cxL X) (cxD X) (cxS X)) (hX : Ok X yL_law.cls cL_law 9 (some .boolean) yL_law.name (d + 20) post px) (hS : LST (cxS X) h sc n f x mo out oD th g G pc ps) (hf : ∀ j, inR (f j)) (hn : n ≤ 2560) (hb : i0 + 4 < n) (j6 : oc1 u6) (j7 : jk7 u7 u8) (K : LwK X k sl sc n f x mo out oD i0 pc ps) : WA X h (k + 65 + pc) (sl + 7400 + ps) 1441 (lwL sc x mo out oD ((i0 : Nat) : Int) u6 u7 u8) [] := by
  obtain ⟨⟨w, c, m, E, R, br, bf, bs, be, D2, D3, so, b0, b1, b2, hI, hR, hB, rfl, rfl⟩, ho, hoD, hsc⟩ := hS
  obtain ⟨fs, hobj⟩ := hI.obj
  have hM := hI.mtr.2.2.2.2.2.2
  refine WA.room (k2 := (k + 25 + pC so D2) + 4) (sl2 := (sl + 3200 + pS so D2) + 24) (by omega) (by omega) ?_
  refine wa_aload_n hX (i := 1) dL_law_1441 rfl rfl ?_
  refine lw_arg hX (j := 1) rfl hsc (by omega) hn dL_law_1442 dL_law_1443 dL_law_1445 dL_law_1446 dL_law_1447 ?_
  refine lw_arg hX (j := 2) rfl hsc (by omega) hn dL_law_1448 dL_law_1449 dL_law_1451 dL_law_1452 dL_law_1453 ?_
  refine lw_i2c hX dL_law_1454 ?_
  refine lw_arg hX (j := 3) rfl hsc (by omega) hn dL_law_1455 dL_law_1456 dL_law_1458 dL_law_1459 dL_law_1460 ?_
  refine wa_aload_n hX (i := 3) dL_law_1461 rfl rfl ?_
  refine wa_callSH hX (c_L_setAt hW _ (P1 := PC_setAt h x w c m E R br bf bs be D2 D3 so (f (i0 + 1)) (chrZ (f (i0 + 2))) (f (i0 + 3))) (PX := XC_setAt h x w c m E R br bf bs be D2 D3 so (f (i0 + 1)) (chrZ (f (i0 + 2))) (f (i0 + 3))) hobj (c_X10_setAt hW 0 hI (hf (i0 + 1)) (chrZ_in _) (hf (i0 + 3))) (fun r9 h9 q => ⟨vP_setAt q, fP_setAt q _ _ _ ho HF200⟩) (fun e9 h9 q => eX_setAt q)) (by rfl) (by omega) (nA := 5) (by rfl) (by decide +kernel) rfl (by exact Nat.le_of_ble_eq_true rfl) dL_law_1462 (fun r1 hh p1 => ?_)
  obtain ⟨kk, h1, g1, rfl, rfl, fr1, hc⟩ := wr3 (P1 := PC_setAt h x w c m E R br bf bs be D2 D3 so (f (i0 + 1)) (chrZ (f (i0 + 2))) (f (i0 + 3))) (PX := XC_setAt h x w c m E R br bf bs be D2 D3 so (f (i0 + 1)) (chrZ (f (i0 + 2))) (f (i0 + 3))) ho (fun r9 h9 q => fP_setAt q) (fun e9 h9 q => fX_setAt q) p1
  dsimp only [Option.toList, List.cons_append, List.nil_append]
  refine lw_i6 hX dL_law_1465 j6 ?_
  obtain ⟨hR1, hsc1⟩ := lw_mid (g1 := g1) fr1 ho hR hsc
  obtain ⟨row, brk, al, wk, us, kp, pt, hmo⟩ := hR1.obj
  refine WA.room (k2 := (k + pC so D2) + 0) (sl2 := (sl + pS so D2) + 0) (by omega) (by omega) ?_
  refine wa_aload_n hX (i := 2) dL_law_1467 rfl rfl ?_
  refine lw_arg hX (j := 1) rfl hsc1 (by omega) hn dL_law_1468 dL_law_1469 dL_law_1471 dL_law_1472 dL_law_1473 ?_
  refine lw_arg hX (j := 2) rfl hsc1 (by omega) hn dL_law_1474 dL_law_1475 dL_law_1477 dL_law_1478 dL_law_1479 ?_
  refine lw_i2c hX dL_law_1480 ?_
  refine lw_arg hX (j := 3) rfl hsc1 (by omega) hn dL_law_1481 dL_law_1482 dL_law_1484 dL_law_1485 dL_law_1486 ?_
  refine wa_callV hX (c_X12_setAt hW 0 hR1 (hf (i0 + 1)) (chrZ_in _) (hf (i0 + 3)) ) hmo (by rfl) (by rfl) (by omega) (nA := 3) (by rfl) (by decide +kernel) rfl (by exact Nat.le_of_ble_eq_true rfl) dL_law_1487 (fun r2 h2 p2 => ?_) (fun _ _ q => q.elim)
  have p3 : PR_setAt (cxS X) (hset h1 out (200, aL 1 g1)) mo w c m E R b0 b1 b2 (f (i0 + 1)) (chrZ (f (i0 + 2))) (f (i0 + 3)) r2 h2 := p2
  have frR := fR_setAt p3
  obtain ⟨z2, rfl, hz, hk4, w', c', m', E', R', br', bf', bs', be', D2', D3', so', b0', b1', b2', hI', hR', hB', l1, l2⟩ := op_setAt hI hB hc p3
  dsimp only [Option.toList, List.cons_append, List.nil_append]
  refine lw_i7 hX dL_law_1490 j7 (fun v8 j8 => ?_)
  have hout2 := lw_outs frR
  obtain ⟨row2, brk2, al2, wk2, us2, kp2, pt2, hmo2⟩ := hR'.obj
  refine tail_i hW hX (by omega) hk4 ⟨_, _, _, _, _, _, _, _, hmo2⟩ hout2 hz (by decide) dL_law_1492 dL_law_1493 dL_law_1496 dL_law_1498 dL_law_1503 dL_law_1505 dL_law_1508 dL_law_1509 dL_law_1510 dL_law_1511 dL_law_1513 dL_law_1514 dL_law_1515 dL_law_1520 ?_
  refine WA.room (k2 := k + pC so' D2') (sl2 := sl + pS so' D2') (by omega) (by omega) ?_
  exact K h2 kk g1 G _ _ _ _ _ ⟨⟨w', c', m', E', R', br', bf', bs', be', D2', D3', so', b0', b1', b2', lw_house fr1 ho frR hI', hR', hB', rfl, rfl⟩, hout2, lw_after fr1 ho frR hoD (Or.inl rfl), hsc1⟩ l1 l2 (Or.inr ⟨_, rfl, rfl⟩) (Or.inl ⟨Or.inr ⟨_, rfl, rfl⟩, j8⟩)
end Bj
