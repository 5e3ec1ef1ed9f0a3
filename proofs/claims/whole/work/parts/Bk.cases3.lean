/-! The law: its cases, Bk -/
section Bk
set_option maxHeartbeats 1000000 in
set_option maxRecDepth 100000 in
theorem w_circuitWith {X : Cx} {d : Nat} {post : Option Value → AH → Prop} {px : String → AH → Prop} {h : AH} {k sl sc x mo out oD i0 n : Nat} {u6 u7 u8 : Slot} {f : Nat → Int} {th pc ps : Nat} {g : Nat → Int64} {G : Nat → UInt64} (hW : WOK (cxL X) (cxD X) (cxS X)) (hX : Ok X yL_law.cls cL_law 9 (some .boolean) yL_law.name (d + 20) post px) (hS : LST (cxS X) h sc n f x mo out oD th g G pc ps) (hf : ∀ j, inR (f j)) (hn : n ≤ 2560) (hb : i0 + 4 < n) (j6 : oc1 u6) (j7 : jk7 u7 u8) (K : LwK X k sl sc n f x mo out oD i0 pc ps) : WA X h (k + 65 + pc) (sl + 7400 + ps) 1523 (lwL sc x mo out oD ((i0 : Nat) : Int) u6 u7 u8) [] := by
  obtain ⟨⟨w, c, m, E, R, br, bf, bs, be, D2, D3, so, b0, b1, b2, hI, hR, hB, rfl, rfl⟩, ho, hoD, hsc⟩ := hS
  obtain ⟨fs, hobj⟩ := hI.obj
  have hM := hI.mtr.2.2.2.2.2.2
  refine WA.room (k2 := (k + 25 + pC so D2) + 4) (sl2 := (sl + 3200 + pS so D2) + 24) (by omega) (by omega) ?_
  refine wa_aload_n hX (i := 1) dL_law_1523 rfl rfl ?_
  refine lw_arg hX (j := 1) rfl hsc (by omega) hn dL_law_1524 dL_law_1525 dL_law_1527 dL_law_1528 dL_law_1529 ?_
  refine lw_arg hX (j := 2) rfl hsc (by omega) hn dL_law_1530 dL_law_1531 dL_law_1533 dL_law_1534 dL_law_1535 ?_
  refine lw_arg hX (j := 3) rfl hsc (by omega) hn dL_law_1536 dL_law_1537 dL_law_1539 dL_law_1540 dL_law_1541 ?_
  refine wa_aload_n hX (i := 3) dL_law_1542 rfl rfl ?_
  refine wa_callSH hX (c_L_circuitWith hW _ (P1 := PC_circuitWith h x w c m E R br bf bs be D2 D3 so (f (i0 + 1)) (f (i0 + 2)) (f (i0 + 3))) (PX := XC_circuitWith h x w c m E R br bf bs be D2 D3 so (f (i0 + 1)) (f (i0 + 2)) (f (i0 + 3))) hobj (c_X10_circuitWith hW 0 hI (hf (i0 + 1)) (hf (i0 + 2)) (hf (i0 + 3))) (fun r9 h9 q => ⟨vP_circuitWith q, fP_circuitWith q _ _ _ ho HF200⟩) (fun e9 h9 q => eX_circuitWith q)) (by rfl) (by omega) (nA := 5) (by rfl) (by decide +kernel) rfl (by exact Nat.le_of_ble_eq_true rfl) dL_law_1543 (fun r1 hh p1 => ?_)
  obtain ⟨kk, h1, g1, rfl, rfl, fr1, hc⟩ := wr3 (P1 := PC_circuitWith h x w c m E R br bf bs be D2 D3 so (f (i0 + 1)) (f (i0 + 2)) (f (i0 + 3))) (PX := XC_circuitWith h x w c m E R br bf bs be D2 D3 so (f (i0 + 1)) (f (i0 + 2)) (f (i0 + 3))) ho (fun r9 h9 q => fP_circuitWith q) (fun e9 h9 q => fX_circuitWith q) p1
  dsimp only [Option.toList, List.cons_append, List.nil_append]
  refine lw_i6 hX dL_law_1546 j6 ?_
  obtain ⟨hR1, hsc1⟩ := lw_mid (g1 := g1) fr1 ho hR hsc
  obtain ⟨row, brk, al, wk, us, kp, pt, hmo⟩ := hR1.obj
  refine WA.room (k2 := (k + pC so D2) + 0) (sl2 := (sl + pS so D2) + 0) (by omega) (by omega) ?_
  refine wa_aload_n hX (i := 2) dL_law_1548 rfl rfl ?_
  refine lw_arg hX (j := 1) rfl hsc1 (by omega) hn dL_law_1549 dL_law_1550 dL_law_1552 dL_law_1553 dL_law_1554 ?_
  refine lw_arg hX (j := 2) rfl hsc1 (by omega) hn dL_law_1555 dL_law_1556 dL_law_1558 dL_law_1559 dL_law_1560 ?_
  refine lw_arg hX (j := 3) rfl hsc1 (by omega) hn dL_law_1561 dL_law_1562 dL_law_1564 dL_law_1565 dL_law_1566 ?_
  refine wa_callV hX (c_X12_circuitWith hW 0 hR1 (hf (i0 + 1)) (hf (i0 + 2)) (hf (i0 + 3)) ) hmo (by rfl) (by rfl) (by omega) (nA := 3) (by rfl) (by decide +kernel) rfl (by exact Nat.le_of_ble_eq_true rfl) dL_law_1567 (fun r2 h2 p2 => ?_) (fun _ _ q => q.elim)
  have p3 : PR_circuitWith (cxS X) (hset h1 out (200, aL 1 g1)) mo w c m E R b0 b1 b2 (f (i0 + 1)) (f (i0 + 2)) (f (i0 + 3)) r2 h2 := p2
  have frR := fR_circuitWith p3
  obtain ⟨z2, rfl, hz, hk4, w', c', m', E', R', br', bf', bs', be', D2', D3', so', b0', b1', b2', hI', hR', hB', l1, l2⟩ := op_circuitWith hI hB hc p3
  dsimp only [Option.toList, List.cons_append, List.nil_append]
  refine lw_i7 hX dL_law_1570 j7 (fun v8 j8 => ?_)
  have hout2 := lw_outs frR
  obtain ⟨row2, brk2, al2, wk2, us2, kp2, pt2, hmo2⟩ := hR'.obj
  refine tail_i hW hX (by omega) hk4 ⟨_, _, _, _, _, _, _, _, hmo2⟩ hout2 hz (by decide) dL_law_1572 dL_law_1573 dL_law_1576 dL_law_1578 dL_law_1583 dL_law_1585 dL_law_1588 dL_law_1589 dL_law_1590 dL_law_1591 dL_law_1593 dL_law_1594 dL_law_1595 dL_law_1600 ?_
  refine WA.room (k2 := k + pC so' D2') (sl2 := sl + pS so' D2') (by omega) (by omega) ?_
  exact K h2 kk g1 G _ _ _ _ _ ⟨⟨w', c', m', E', R', br', bf', bs', be', D2', D3', so', b0', b1', b2', lw_house fr1 ho frR hI', hR', hB', rfl, rfl⟩, hout2, lw_after fr1 ho frR hoD (Or.inl rfl), hsc1⟩ l1 l2 (Or.inr ⟨_, rfl, rfl⟩) (Or.inl ⟨Or.inr ⟨_, rfl, rfl⟩, j8⟩)
set_option maxHeartbeats 1000000 in
set_option maxRecDepth 100000 in
theorem w_component {X : Cx} {d : Nat} {post : Option Value → AH → Prop} {px : String → AH → Prop} {h : AH} {k sl sc x mo out oD i0 n : Nat} {u6 u7 u8 : Slot} {f : Nat → Int} {th pc ps : Nat} {g : Nat → Int64} {G : Nat → UInt64} (hW : WOK (cxL X) (cxD X) (cxS X)) (hX : Ok X yL_law.cls cL_law 9 (some .boolean) yL_law.name (d + 20) post px) (hS : LST (cxS X) h sc n f x mo out oD th g G pc ps) (hf : ∀ j, inR (f j)) (hn : n ≤ 2560) (hb : i0 + 4 < n) (j6 : oc1 u6) (j7 : jk7 u7 u8) (K : LwK X k sl sc n f x mo out oD i0 pc ps) : WA X h (k + 65 + pc) (sl + 7400 + ps) 1603 (lwL sc x mo out oD ((i0 : Nat) : Int) u6 u7 u8) [] := by
  obtain ⟨⟨w, c, m, E, R, br, bf, bs, be, D2, D3, so, b0, b1, b2, hI, hR, hB, rfl, rfl⟩, ho, hoD, hsc⟩ := hS
  obtain ⟨fs, hobj⟩ := hI.obj
  have hM := hI.mtr.2.2.2.2.2.2
  refine WA.room (k2 := (k + 25 + pC so D2) + 4) (sl2 := (sl + 3200 + pS so D2) + 24) (by omega) (by omega) ?_
  refine wa_aload_n hX (i := 1) dL_law_1603 rfl rfl ?_
  refine lw_arg hX (j := 1) rfl hsc (by omega) hn dL_law_1604 dL_law_1605 dL_law_1607 dL_law_1608 dL_law_1609 ?_
  refine lw_arg hX (j := 2) rfl hsc (by omega) hn dL_law_1610 dL_law_1611 dL_law_1613 dL_law_1614 dL_law_1615 ?_
  refine wa_aload_n hX (i := 3) dL_law_1616 rfl rfl ?_
  refine wa_callSH hX (c_L_component hW _ (P1 := PC_component h x w c m E R br bf bs be D2 D3 so (f (i0 + 1)) (f (i0 + 2))) (PX := XC_component h x w c m E R br bf bs be D2 D3 so (f (i0 + 1)) (f (i0 + 2))) hobj (c_X10_component hW 0 hI (hf (i0 + 1)) (hf (i0 + 2))) (fun r9 h9 q => ⟨vP_component q, fP_component q _ _ _ ho HF200⟩) (fun e9 h9 q => eX_component q)) (by rfl) (by omega) (nA := 4) (by rfl) (by decide +kernel) rfl (by exact Nat.le_of_ble_eq_true rfl) dL_law_1617 (fun r1 hh p1 => ?_)
  obtain ⟨kk, h1, g1, rfl, rfl, fr1, hc⟩ := wr1 (P1 := PC_component h x w c m E R br bf bs be D2 D3 so (f (i0 + 1)) (f (i0 + 2))) (PX := XC_component h x w c m E R br bf bs be D2 D3 so (f (i0 + 1)) (f (i0 + 2))) ho (fun r9 h9 q => fP_component q) (fun e9 h9 q => fX_component q) p1
  dsimp only [Option.toList, List.cons_append, List.nil_append]
  refine lw_i6 hX dL_law_1620 j6 ?_
  obtain ⟨hR1, hsc1⟩ := lw_mid (g1 := g1) fr1 ho hR hsc
  obtain ⟨row, brk, al, wk, us, kp, pt, hmo⟩ := hR1.obj
  refine WA.room (k2 := (k + pC so D2) + 0) (sl2 := (sl + pS so D2) + 0) (by omega) (by omega) ?_
  refine wa_aload_n hX (i := 2) dL_law_1622 rfl rfl ?_
  refine lw_arg hX (j := 1) rfl hsc1 (by omega) hn dL_law_1623 dL_law_1624 dL_law_1626 dL_law_1627 dL_law_1628 ?_
  refine lw_arg hX (j := 2) rfl hsc1 (by omega) hn dL_law_1629 dL_law_1630 dL_law_1632 dL_law_1633 dL_law_1634 ?_
  refine wa_callV hX (c_X12_component hW 0 hR1 (hf (i0 + 1)) (hf (i0 + 2)) ) hmo (by rfl) (by rfl) (by omega) (nA := 2) (by rfl) (by decide +kernel) rfl (by exact Nat.le_of_ble_eq_true rfl) dL_law_1635 (fun r2 h2 p2 => ?_) (fun _ _ q => q.elim)
  have p3 : PR_component (cxS X) (hset h1 out (200, aL 1 g1)) mo w c m E R b0 b1 b2 (f (i0 + 1)) (f (i0 + 2)) r2 h2 := p2
  have frR := fR_component p3
  obtain ⟨z2, rfl, hz, hk4, w', c', m', E', R', br', bf', bs', be', D2', D3', so', b0', b1', b2', hI', hR', hB', l1, l2⟩ := op_component hI hB hc p3
  dsimp only [Option.toList, List.cons_append, List.nil_append]
  refine lw_i7 hX dL_law_1638 j7 (fun v8 j8 => ?_)
  have hout2 := lw_outs frR
  obtain ⟨row2, brk2, al2, wk2, us2, kp2, pt2, hmo2⟩ := hR'.obj
  refine tail_i hW hX (by omega) hk4 ⟨_, _, _, _, _, _, _, _, hmo2⟩ hout2 hz (by decide) dL_law_1640 dL_law_1641 dL_law_1644 dL_law_1646 dL_law_1651 dL_law_1653 dL_law_1656 dL_law_1657 dL_law_1658 dL_law_1659 dL_law_1661 dL_law_1662 dL_law_1663 dL_law_1668 ?_
  refine WA.room (k2 := k + pC so' D2') (sl2 := sl + pS so' D2') (by omega) (by omega) ?_
  exact K h2 kk g1 G _ _ _ _ _ ⟨⟨w', c', m', E', R', br', bf', bs', be', D2', D3', so', b0', b1', b2', lw_house fr1 ho frR hI', hR', hB', rfl, rfl⟩, hout2, lw_after fr1 ho frR hoD (Or.inl rfl), hsc1⟩ l1 l2 (Or.inr ⟨_, rfl, rfl⟩) (Or.inl ⟨Or.inr ⟨_, rfl, rfl⟩, j8⟩)
set_option maxHeartbeats 1000000 in
set_option maxRecDepth 100000 in
theorem w_areAlike {X : Cx} {d : Nat} {post : Option Value → AH → Prop} {px : String → AH → Prop} {h : AH} {k sl sc x mo out oD i0 n : Nat} {u6 u7 u8 : Slot} {f : Nat → Int} {th pc ps : Nat} {g : Nat → Int64} {G : Nat → UInt64} (hW : WOK (cxL X) (cxD X) (cxS X)) (hX : Ok X yL_law.cls cL_law 9 (some .boolean) yL_law.name (d + 20) post px) (hS : LST (cxS X) h sc n f x mo out oD th g G pc ps) (hf : ∀ j, inR (f j)) (hn : n ≤ 2560) (hb : i0 + 4 < n) (j6 : oc1 u6) (j7 : jk7 u7 u8) (K : LwK X k sl sc n f x mo out oD i0 pc ps) : WA X h (k + 65 + pc) (sl + 7400 + ps) 1671 (lwL sc x mo out oD ((i0 : Nat) : Int) u6 u7 u8) [] := by
  obtain ⟨⟨w, c, m, E, R, br, bf, bs, be, D2, D3, so, b0, b1, b2, hI, hR, hB, rfl, rfl⟩, ho, hoD, hsc⟩ := hS
  obtain ⟨fs, hobj⟩ := hI.obj
  have hM := hI.mtr.2.2.2.2.2.2
  refine WA.room (k2 := (k + 25 + pC so D2) + 4) (sl2 := (sl + 3200 + pS so D2) + 24) (by omega) (by omega) ?_
  refine wa_aload_n hX (i := 1) dL_law_1671 rfl rfl ?_
  refine lw_arg hX (j := 1) rfl hsc (by omega) hn dL_law_1672 dL_law_1673 dL_law_1675 dL_law_1676 dL_law_1677 ?_
  refine lw_arg hX (j := 2) rfl hsc (by omega) hn dL_law_1678 dL_law_1679 dL_law_1681 dL_law_1682 dL_law_1683 ?_
  refine wa_aload_n hX (i := 3) dL_law_1684 rfl rfl ?_
  refine wa_callSH hX (c_L_areAlike hW _ (P1 := PC_areAlike h x w c m E R br bf bs be D2 D3 so (f (i0 + 1)) (f (i0 + 2))) (PX := XC_areAlike h x w c m E R br bf bs be D2 D3 so (f (i0 + 1)) (f (i0 + 2))) hobj (c_X10_areAlike hW 0 hI (hf (i0 + 1)) (hf (i0 + 2))) (fun r9 h9 q => ⟨vP_areAlike q, fP_areAlike q _ _ _ ho HF200⟩) (fun e9 h9 q => eX_areAlike q)) (by rfl) (by omega) (nA := 4) (by rfl) (by decide +kernel) rfl (by exact Nat.le_of_ble_eq_true rfl) dL_law_1685 (fun r1 hh p1 => ?_)
  obtain ⟨kk, h1, g1, rfl, rfl, fr1, hc⟩ := wrB1 (P1 := PC_areAlike h x w c m E R br bf bs be D2 D3 so (f (i0 + 1)) (f (i0 + 2))) (PX := XC_areAlike h x w c m E R br bf bs be D2 D3 so (f (i0 + 1)) (f (i0 + 2))) ho (fun r9 h9 q => fP_areAlike q) (fun e9 h9 q => fX_areAlike q) p1
  dsimp only [Option.toList, List.cons_append, List.nil_append]
  refine lw_i6 hX dL_law_1688 j6 ?_
  obtain ⟨hR1, hsc1⟩ := lw_mid (g1 := g1) fr1 ho hR hsc
  obtain ⟨row, brk, al, wk, us, kp, pt, hmo⟩ := hR1.obj
  refine WA.room (k2 := (k + pC so D2) + 0) (sl2 := (sl + pS so D2) + 0) (by omega) (by omega) ?_
  refine wa_aload_n hX (i := 2) dL_law_1690 rfl rfl ?_
  refine lw_arg hX (j := 1) rfl hsc1 (by omega) hn dL_law_1691 dL_law_1692 dL_law_1694 dL_law_1695 dL_law_1696 ?_
  refine lw_arg hX (j := 2) rfl hsc1 (by omega) hn dL_law_1697 dL_law_1698 dL_law_1700 dL_law_1701 dL_law_1702 ?_
  refine wa_callV hX (c_X12_areAlike_ hW 0 hR1 (hf (i0 + 1)) (hf (i0 + 2)) ) hmo (by rfl) (by rfl) (by omega) (nA := 2) (by rfl) (by decide +kernel) rfl (by exact Nat.le_of_ble_eq_true rfl) dL_law_1703 (fun r2 h2 p2 => ?_) (fun _ _ q => q.elim)
  have p3 : PR_areAlike (cxS X) (hset h1 out (200, aL 1 g1)) mo w c m E R b0 b1 b2 (f (i0 + 1)) (f (i0 + 2)) r2 h2 := p2
  have frR := fR_areAlike p3
  obtain ⟨z2, rfl, hz, hk4, w', c', m', E', R', br', bf', bs', be', D2', D3', so', b0', b1', b2', hI', hR', hB', l1, l2⟩ := op_areAlike hI hB hc p3
  dsimp only [Option.toList, List.cons_append, List.nil_append]
  refine lw_i7 hX dL_law_1706 j7 (fun v8 j8 => ?_)
  have hout2 := lw_outs frR
  obtain ⟨row2, brk2, al2, wk2, us2, kp2, pt2, hmo2⟩ := hR'.obj
  refine tail_z hW hX (by omega) hk4 ⟨_, _, _, _, _, _, _, _, hmo2⟩ hout2 hz (by decide) dL_law_1708 dL_law_1709 dL_law_1712 dL_law_1714 dL_law_1719 dL_law_1721 dL_law_1724 dL_law_1725 dL_law_1726 dL_law_1727 dL_law_1729 dL_law_1732 dL_law_1733 dL_law_1736 dL_law_1737 dL_law_1738 dL_law_1743 ?_
  refine WA.room (k2 := k + pC so' D2') (sl2 := sl + pS so' D2') (by omega) (by omega) ?_
  exact K h2 kk g1 G _ _ _ _ _ ⟨⟨w', c', m', E', R', br', bf', bs', be', D2', D3', so', b0', b1', b2', lw_house fr1 ho frR hI', hR', hB', rfl, rfl⟩, hout2, lw_after fr1 ho frR hoD (Or.inl rfl), hsc1⟩ l1 l2 (Or.inr ⟨_, rfl, rfl⟩) (Or.inl ⟨Or.inr ⟨_, rfl, rfl⟩, j8⟩)
set_option maxHeartbeats 1000000 in
set_option maxRecDepth 100000 in
theorem w_image {X : Cx} {d : Nat} {post : Option Value → AH → Prop} {px : String → AH → Prop} {h : AH} {k sl sc x mo out oD i0 n : Nat} {u6 u7 u8 : Slot} {f : Nat → Int} {th pc ps : Nat} {g : Nat → Int64} {G : Nat → UInt64} (hW : WOK (cxL X) (cxD X) (cxS X)) (hX : Ok X yL_law.cls cL_law 9 (some .boolean) yL_law.name (d + 20) post px) (hS : LST (cxS X) h sc n f x mo out oD th g G pc ps) (hf : ∀ j, inR (f j)) (hn : n ≤ 2560) (hb : i0 + 4 < n) (j6 : oc1 u6) (j7 : jk7 u7 u8) (K : LwK X k sl sc n f x mo out oD i0 pc ps) : WA X h (k + 65 + pc) (sl + 7400 + ps) 1746 (lwL sc x mo out oD ((i0 : Nat) : Int) u6 u7 u8) [] := by
  obtain ⟨⟨w, c, m, E, R, br, bf, bs, be, D2, D3, so, b0, b1, b2, hI, hR, hB, rfl, rfl⟩, ho, hoD, hsc⟩ := hS
  obtain ⟨fs, hobj⟩ := hI.obj
  have hM := hI.mtr.2.2.2.2.2.2
  refine WA.room (k2 := (k + 25 + pC so D2) + 8) (sl2 := (sl + 3200 + pS so D2) + 48) (by omega) (by omega) ?_
  refine wa_aload_n hX (i := 1) dL_law_1746 rfl rfl ?_
  refine lw_arg hX (j := 1) rfl hsc (by omega) hn dL_law_1747 dL_law_1748 dL_law_1750 dL_law_1751 dL_law_1752 ?_
  refine lw_arg hX (j := 2) rfl hsc (by omega) hn dL_law_1753 dL_law_1754 dL_law_1756 dL_law_1757 dL_law_1758 ?_
  refine lw_arg hX (j := 3) rfl hsc (by omega) hn dL_law_1759 dL_law_1760 dL_law_1762 dL_law_1763 dL_law_1764 ?_
  refine wa_aload_n hX (i := 3) dL_law_1765 rfl rfl ?_
  refine wa_callSH hX (c_L_image hW _ (P1 := PC_image h x w c m E R br bf bs be D2 D3 so (f (i0 + 1)) (f (i0 + 2)) (f (i0 + 3))) (PX := XC_image h x w c m E R br bf bs be D2 D3 so (f (i0 + 1)) (f (i0 + 2)) (f (i0 + 3))) hobj (c_X10_image hW 0 hI (hf (i0 + 1)) (hf (i0 + 2)) (hf (i0 + 3))) (fun r9 h9 q => ⟨vP_image q, fP_image q _ _ _ ho HF200⟩) (fun e9 h9 q => eX_image q)) (by rfl) (by omega) (nA := 5) (by rfl) (by decide +kernel) rfl (by exact Nat.le_of_ble_eq_true rfl) dL_law_1766 (fun r1 hh p1 => ?_)
  obtain ⟨kk, h1, g1, rfl, rfl, fr1, hc⟩ := wr2 (P1 := PC_image h x w c m E R br bf bs be D2 D3 so (f (i0 + 1)) (f (i0 + 2)) (f (i0 + 3))) (PX := XC_image h x w c m E R br bf bs be D2 D3 so (f (i0 + 1)) (f (i0 + 2)) (f (i0 + 3))) ho (fun r9 h9 q => fP_image q) (fun e9 h9 q => fX_image q) p1
  dsimp only [Option.toList, List.cons_append, List.nil_append]
  refine lw_i6 hX dL_law_1769 j6 ?_
  obtain ⟨hR1, hsc1⟩ := lw_mid (g1 := g1) fr1 ho hR hsc
  obtain ⟨row, brk, al, wk, us, kp, pt, hmo⟩ := hR1.obj
  refine WA.room (k2 := (k + pC so D2) + 0) (sl2 := (sl + pS so D2) + 0) (by omega) (by omega) ?_
  refine wa_aload_n hX (i := 2) dL_law_1771 rfl rfl ?_
  refine lw_arg hX (j := 1) rfl hsc1 (by omega) hn dL_law_1772 dL_law_1773 dL_law_1775 dL_law_1776 dL_law_1777 ?_
  refine lw_arg hX (j := 2) rfl hsc1 (by omega) hn dL_law_1778 dL_law_1779 dL_law_1781 dL_law_1782 dL_law_1783 ?_
  refine lw_arg hX (j := 3) rfl hsc1 (by omega) hn dL_law_1784 dL_law_1785 dL_law_1787 dL_law_1788 dL_law_1789 ?_
  refine wa_callV hX (c_X12_image hW 0 hR1 (hf (i0 + 1)) (hf (i0 + 2)) (hf (i0 + 3)) ) hmo (by rfl) (by rfl) (by omega) (nA := 3) (by rfl) (by decide +kernel) rfl (by exact Nat.le_of_ble_eq_true rfl) dL_law_1790 (fun r2 h2 p2 => ?_) (fun _ _ q => q.elim)
  have p3 : PR_image (cxS X) (hset h1 out (200, aL 1 g1)) mo w c m E R b0 b1 b2 (f (i0 + 1)) (f (i0 + 2)) (f (i0 + 3)) r2 h2 := p2
  have frR := fR_image p3
  obtain ⟨z2, rfl, hz, hk4, w', c', m', E', R', br', bf', bs', be', D2', D3', so', b0', b1', b2', hI', hR', hB', l1, l2⟩ := op_image hI hB hc p3
  dsimp only [Option.toList, List.cons_append, List.nil_append]
  refine lw_i7 hX dL_law_1793 j7 (fun v8 j8 => ?_)
  have hout2 := lw_outs frR
  obtain ⟨row2, brk2, al2, wk2, us2, kp2, pt2, hmo2⟩ := hR'.obj
  refine tail_i hW hX (by omega) hk4 ⟨_, _, _, _, _, _, _, _, hmo2⟩ hout2 hz (by decide) dL_law_1795 dL_law_1796 dL_law_1799 dL_law_1801 dL_law_1806 dL_law_1808 dL_law_1811 dL_law_1812 dL_law_1813 dL_law_1814 dL_law_1816 dL_law_1817 dL_law_1818 dL_law_1823 ?_
  refine WA.room (k2 := k + pC so' D2') (sl2 := sl + pS so' D2') (by omega) (by omega) ?_
  exact K h2 kk g1 G _ _ _ _ _ ⟨⟨w', c', m', E', R', br', bf', bs', be', D2', D3', so', b0', b1', b2', lw_house fr1 ho frR hI', hR', hB', rfl, rfl⟩, hout2, lw_after fr1 ho frR hoD (Or.inl rfl), hsc1⟩ l1 l2 (Or.inr ⟨_, rfl, rfl⟩) (Or.inl ⟨Or.inr ⟨_, rfl, rfl⟩, j8⟩)
set_option maxHeartbeats 1000000 in
set_option maxRecDepth 100000 in
theorem w_symmetries {X : Cx} {d : Nat} {post : Option Value → AH → Prop} {px : String → AH → Prop} {h : AH} {k sl sc x mo out oD i0 n : Nat} {u6 u7 u8 : Slot} {f : Nat → Int} {th pc ps : Nat} {g : Nat → Int64} {G : Nat → UInt64} (hW : WOK (cxL X) (cxD X) (cxS X)) (hX : Ok X yL_law.cls cL_law 9 (some .boolean) yL_law.name (d + 20) post px) (hS : LST (cxS X) h sc n f x mo out oD th g G pc ps) (hf : ∀ j, inR (f j)) (hn : n ≤ 2560) (hb : i0 + 4 < n) (j6 : oc1 u6) (j7 : jk7 u7 u8) (K : LwK X k sl sc n f x mo out oD i0 pc ps) : WA X h (k + 65 + pc) (sl + 7400 + ps) 1826 (lwL sc x mo out oD ((i0 : Nat) : Int) u6 u7 u8) [] := by
  obtain ⟨⟨w, c, m, E, R, br, bf, bs, be, D2, D3, so, b0, b1, b2, hI, hR, hB, rfl, rfl⟩, ho, hoD, hsc⟩ := hS
  obtain ⟨fs, hobj⟩ := hI.obj
  have hM := hI.mtr.2.2.2.2.2.2
  refine WA.room (k2 := (k + 25 + pC so D2) + 4) (sl2 := (sl + 3200 + pS so D2) + 24) (by omega) (by omega) ?_
  refine wa_aload_n hX (i := 1) dL_law_1826 rfl rfl ?_
  refine lw_arg hX (j := 1) rfl hsc (by omega) hn dL_law_1827 dL_law_1828 dL_law_1830 dL_law_1831 dL_law_1832 ?_
  refine wa_aload_n hX (i := 3) dL_law_1833 rfl rfl ?_
  refine wa_callSH hX (c_L_symmetries hW _ (P1 := PC_symmetries h x w c m E R br bf bs be D2 D3 so (f (i0 + 1))) (PX := XC_symmetries h x w c m E R br bf bs be D2 D3 so (f (i0 + 1))) hobj (c_X10_symmetries hW 0 hI (hf (i0 + 1))) (fun r9 h9 q => ⟨vP_symmetries q, fP_symmetries q _ _ _ ho HF200⟩) (fun e9 h9 q => eX_symmetries q)) (by rfl) (by omega) (nA := 3) (by rfl) (by decide +kernel) rfl (by exact Nat.le_of_ble_eq_true rfl) dL_law_1834 (fun r1 hh p1 => ?_)
  obtain ⟨kk, h1, g1, rfl, rfl, fr1, hc⟩ := wr1 (P1 := PC_symmetries h x w c m E R br bf bs be D2 D3 so (f (i0 + 1))) (PX := XC_symmetries h x w c m E R br bf bs be D2 D3 so (f (i0 + 1))) ho (fun r9 h9 q => fP_symmetries q) (fun e9 h9 q => fX_symmetries q) p1
  dsimp only [Option.toList, List.cons_append, List.nil_append]
  refine lw_i6 hX dL_law_1837 j6 ?_
  obtain ⟨hR1, hsc1⟩ := lw_mid (g1 := g1) fr1 ho hR hsc
  obtain ⟨row, brk, al, wk, us, kp, pt, hmo⟩ := hR1.obj
  refine WA.room (k2 := (k + pC so D2) + 0) (sl2 := (sl + pS so D2) + 0) (by omega) (by omega) ?_
  refine wa_aload_n hX (i := 2) dL_law_1839 rfl rfl ?_
  refine lw_arg hX (j := 1) rfl hsc1 (by omega) hn dL_law_1840 dL_law_1841 dL_law_1843 dL_law_1844 dL_law_1845 ?_
  refine wa_callV hX (c_X12_symmetries hW 0 hR1 (hf (i0 + 1)) ) hmo (by rfl) (by rfl) (by omega) (nA := 1) (by rfl) (by decide +kernel) rfl (by exact Nat.le_of_ble_eq_true rfl) dL_law_1846 (fun r2 h2 p2 => ?_) (fun _ _ q => q.elim)
  have p3 : PR_symmetries (cxS X) (hset h1 out (200, aL 1 g1)) mo w c m E R b0 b1 b2 (f (i0 + 1)) r2 h2 := p2
  have frR := fR_symmetries p3
  obtain ⟨z2, rfl, hz, hk4, w', c', m', E', R', br', bf', bs', be', D2', D3', so', b0', b1', b2', hI', hR', hB', l1, l2⟩ := op_symmetries hI hB hc p3
  dsimp only [Option.toList, List.cons_append, List.nil_append]
  refine lw_i7 hX dL_law_1849 j7 (fun v8 j8 => ?_)
  have hout2 := lw_outs frR
  obtain ⟨row2, brk2, al2, wk2, us2, kp2, pt2, hmo2⟩ := hR'.obj
  refine tail_i hW hX (by omega) hk4 ⟨_, _, _, _, _, _, _, _, hmo2⟩ hout2 hz (by decide) dL_law_1851 dL_law_1852 dL_law_1855 dL_law_1857 dL_law_1862 dL_law_1864 dL_law_1867 dL_law_1868 dL_law_1869 dL_law_1870 dL_law_1872 dL_law_1873 dL_law_1874 dL_law_1879 ?_
  refine WA.room (k2 := k + pC so' D2') (sl2 := sl + pS so' D2') (by omega) (by omega) ?_
  exact K h2 kk g1 G _ _ _ _ _ ⟨⟨w', c', m', E', R', br', bf', bs', be', D2', D3', so', b0', b1', b2', lw_house fr1 ho frR hI', hR', hB', rfl, rfl⟩, hout2, lw_after fr1 ho frR hoD (Or.inl rfl), hsc1⟩ l1 l2 (Or.inr ⟨_, rfl, rfl⟩) (Or.inl ⟨Or.inr ⟨_, rfl, rfl⟩, j8⟩)
set_option maxHeartbeats 1000000 in
set_option maxRecDepth 100000 in
theorem w_minorBy {X : Cx} {d : Nat} {post : Option Value → AH → Prop} {px : String → AH → Prop} {h : AH} {k sl sc x mo out oD i0 n : Nat} {u6 u7 u8 : Slot} {f : Nat → Int} {th pc ps : Nat} {g : Nat → Int64} {G : Nat → UInt64} (hW : WOK (cxL X) (cxD X) (cxS X)) (hX : Ok X yL_law.cls cL_law 9 (some .boolean) yL_law.name (d + 20) post px) (hS : LST (cxS X) h sc n f x mo out oD th g G pc ps) (hf : ∀ j, inR (f j)) (hn : n ≤ 2560) (hb : i0 + 4 < n) (j6 : oc1 u6) (j7 : jk7 u7 u8) (K : LwK X k sl sc n f x mo out oD i0 pc ps) : WA X h (k + 65 + pc) (sl + 7400 + ps) 1882 (lwL sc x mo out oD ((i0 : Nat) : Int) u6 u7 u8) [] := by
  obtain ⟨⟨w, c, m, E, R, br, bf, bs, be, D2, D3, so, b0, b1, b2, hI, hR, hB, rfl, rfl⟩, ho, hoD, hsc⟩ := hS
  obtain ⟨fs, hobj⟩ := hI.obj
  have hM := hI.mtr.2.2.2.2.2.2
  refine WA.room (k2 := (k + 25 + pC so D2) + 8) (sl2 := (sl + 3200 + pS so D2) + 48) (by omega) (by omega) ?_
  refine wa_aload_n hX (i := 1) dL_law_1882 rfl rfl ?_
  refine lw_arg hX (j := 1) rfl hsc (by omega) hn dL_law_1883 dL_law_1884 dL_law_1886 dL_law_1887 dL_law_1888 ?_
  refine lw_arg hX (j := 2) rfl hsc (by omega) hn dL_law_1889 dL_law_1890 dL_law_1892 dL_law_1893 dL_law_1894 ?_
  refine wa_aload_n hX (i := 3) dL_law_1895 rfl rfl ?_
  refine wa_callSH hX (c_L_minorBy hW _ (P1 := PC_minorBy h x w c m E R br bf bs be D2 D3 so (f (i0 + 1)) (f (i0 + 2))) (PX := XC_minorBy h x w c m E R br bf bs be D2 D3 so (f (i0 + 1)) (f (i0 + 2))) hobj (c_X10_minorBy hW 0 hI (hf (i0 + 1)) (hf (i0 + 2))) (fun r9 h9 q => ⟨vP_minorBy q, fP_minorBy q _ _ _ ho HF200⟩) (fun e9 h9 q => eX_minorBy q)) (by rfl) (by omega) (nA := 4) (by rfl) (by decide +kernel) rfl (by exact Nat.le_of_ble_eq_true rfl) dL_law_1896 (fun r1 hh p1 => ?_)
  obtain ⟨kk, h1, g1, rfl, rfl, fr1, hc⟩ := wr2 (P1 := PC_minorBy h x w c m E R br bf bs be D2 D3 so (f (i0 + 1)) (f (i0 + 2))) (PX := XC_minorBy h x w c m E R br bf bs be D2 D3 so (f (i0 + 1)) (f (i0 + 2))) ho (fun r9 h9 q => fP_minorBy q) (fun e9 h9 q => fX_minorBy q) p1
  dsimp only [Option.toList, List.cons_append, List.nil_append]
  refine lw_i6 hX dL_law_1899 j6 ?_
  obtain ⟨hR1, hsc1⟩ := lw_mid (g1 := g1) fr1 ho hR hsc
  obtain ⟨row, brk, al, wk, us, kp, pt, hmo⟩ := hR1.obj
  refine WA.room (k2 := (k + pC so D2) + 0) (sl2 := (sl + pS so D2) + 0) (by omega) (by omega) ?_
  refine wa_aload_n hX (i := 2) dL_law_1901 rfl rfl ?_
  refine lw_arg hX (j := 1) rfl hsc1 (by omega) hn dL_law_1902 dL_law_1903 dL_law_1905 dL_law_1906 dL_law_1907 ?_
  refine lw_arg hX (j := 2) rfl hsc1 (by omega) hn dL_law_1908 dL_law_1909 dL_law_1911 dL_law_1912 dL_law_1913 ?_
  refine wa_callV hX (c_X12_minorBy hW 0 hR1 (hf (i0 + 1)) (hf (i0 + 2)) ) hmo (by rfl) (by rfl) (by omega) (nA := 2) (by rfl) (by decide +kernel) rfl (by exact Nat.le_of_ble_eq_true rfl) dL_law_1914 (fun r2 h2 p2 => ?_) (fun _ _ q => q.elim)
  have p3 : PR_minorBy (cxS X) (hset h1 out (200, aL 1 g1)) mo w c m E R b0 b1 b2 (f (i0 + 1)) (f (i0 + 2)) r2 h2 := p2
  have frR := fR_minorBy p3
  obtain ⟨z2, rfl, hz, hk4, w', c', m', E', R', br', bf', bs', be', D2', D3', so', b0', b1', b2', hI', hR', hB', l1, l2⟩ := op_minorBy hI hB hc p3
  dsimp only [Option.toList, List.cons_append, List.nil_append]
  refine lw_i7 hX dL_law_1917 j7 (fun v8 j8 => ?_)
  have hout2 := lw_outs frR
  obtain ⟨row2, brk2, al2, wk2, us2, kp2, pt2, hmo2⟩ := hR'.obj
  refine tail_i hW hX (by omega) hk4 ⟨_, _, _, _, _, _, _, _, hmo2⟩ hout2 hz (by decide) dL_law_1919 dL_law_1920 dL_law_1923 dL_law_1925 dL_law_1930 dL_law_1932 dL_law_1935 dL_law_1936 dL_law_1937 dL_law_1938 dL_law_1940 dL_law_1941 dL_law_1942 dL_law_1947 ?_
  refine WA.room (k2 := k + pC so' D2') (sl2 := sl + pS so' D2') (by omega) (by omega) ?_
  exact K h2 kk g1 G _ _ _ _ _ ⟨⟨w', c', m', E', R', br', bf', bs', be', D2', D3', so', b0', b1', b2', lw_house fr1 ho frR hI', hR', hB', rfl, rfl⟩, hout2, lw_after fr1 ho frR hoD (Or.inl rfl), hsc1⟩ l1 l2 (Or.inr ⟨_, rfl, rfl⟩) (Or.inl ⟨Or.inr ⟨_, rfl, rfl⟩, j8⟩)
set_option maxHeartbeats 1000000 in
set_option maxRecDepth 100000 in
theorem w_minorWithout {X : Cx} {d : Nat} {post : Option Value → AH → Prop} {px : String → AH → Prop} {h : AH} {k sl sc x mo out oD i0 n : Nat} {u6 u7 u8 : Slot} {f : Nat → Int} {th pc ps : Nat} {g : Nat → Int64} {G : Nat → UInt64} (hW : WOK (cxL X) (cxD X) (cxS X)) (hX : Ok X yL_law.cls cL_law 9 (some .boolean) yL_law.name (d + 20) post px) (hS : LST (cxS X) h sc n f x mo out oD th g G pc ps) (hf : ∀ j, inR (f j)) (hn : n ≤ 2560) (hb : i0 + 4 < n) (j6 : oc1 u6) (j7 : jk7 u7 u8) (K : LwK X k sl sc n f x mo out oD i0 pc ps) : WA X h (k + 65 + pc) (sl + 7400 + ps) 1950 (lwL sc x mo out oD ((i0 : Nat) : Int) u6 u7 u8) [] := by
  obtain ⟨⟨w, c, m, E, R, br, bf, bs, be, D2, D3, so, b0, b1, b2, hI, hR, hB, rfl, rfl⟩, ho, hoD, hsc⟩ := hS
  obtain ⟨fs, hobj⟩ := hI.obj
  have hM := hI.mtr.2.2.2.2.2.2
  refine WA.room (k2 := (k + 25 + pC so D2) + 8) (sl2 := (sl + 3200 + pS so D2) + 48) (by omega) (by omega) ?_
  refine wa_aload_n hX (i := 1) dL_law_1950 rfl rfl ?_
  refine lw_arg hX (j := 1) rfl hsc (by omega) hn dL_law_1951 dL_law_1952 dL_law_1954 dL_law_1955 dL_law_1956 ?_
  refine lw_arg hX (j := 2) rfl hsc (by omega) hn dL_law_1957 dL_law_1958 dL_law_1960 dL_law_1961 dL_law_1962 ?_
  refine wa_aload_n hX (i := 3) dL_law_1963 rfl rfl ?_
  refine wa_callSH hX (c_L_minorWithout hW _ (P1 := PC_minorWithout h x w c m E R br bf bs be D2 D3 so (f (i0 + 1)) (f (i0 + 2))) (PX := XC_minorWithout h x w c m E R br bf bs be D2 D3 so (f (i0 + 1)) (f (i0 + 2))) hobj (c_X10_minorWithout hW 0 hI (hf (i0 + 1)) (hf (i0 + 2))) (fun r9 h9 q => ⟨vP_minorWithout q, fP_minorWithout q _ _ _ ho HF200⟩) (fun e9 h9 q => eX_minorWithout q)) (by rfl) (by omega) (nA := 4) (by rfl) (by decide +kernel) rfl (by exact Nat.le_of_ble_eq_true rfl) dL_law_1964 (fun r1 hh p1 => ?_)
  obtain ⟨kk, h1, g1, rfl, rfl, fr1, hc⟩ := wr2 (P1 := PC_minorWithout h x w c m E R br bf bs be D2 D3 so (f (i0 + 1)) (f (i0 + 2))) (PX := XC_minorWithout h x w c m E R br bf bs be D2 D3 so (f (i0 + 1)) (f (i0 + 2))) ho (fun r9 h9 q => fP_minorWithout q) (fun e9 h9 q => fX_minorWithout q) p1
  dsimp only [Option.toList, List.cons_append, List.nil_append]
  refine lw_i6 hX dL_law_1967 j6 ?_
  obtain ⟨hR1, hsc1⟩ := lw_mid (g1 := g1) fr1 ho hR hsc
  obtain ⟨row, brk, al, wk, us, kp, pt, hmo⟩ := hR1.obj
  refine WA.room (k2 := (k + pC so D2) + 0) (sl2 := (sl + pS so D2) + 0) (by omega) (by omega) ?_
  refine wa_aload_n hX (i := 2) dL_law_1969 rfl rfl ?_
  refine lw_arg hX (j := 1) rfl hsc1 (by omega) hn dL_law_1970 dL_law_1971 dL_law_1973 dL_law_1974 dL_law_1975 ?_
  refine lw_arg hX (j := 2) rfl hsc1 (by omega) hn dL_law_1976 dL_law_1977 dL_law_1979 dL_law_1980 dL_law_1981 ?_
  refine wa_callV hX (c_X12_minorWithout hW 0 hR1 (hf (i0 + 1)) (hf (i0 + 2)) ) hmo (by rfl) (by rfl) (by omega) (nA := 2) (by rfl) (by decide +kernel) rfl (by exact Nat.le_of_ble_eq_true rfl) dL_law_1982 (fun r2 h2 p2 => ?_) (fun _ _ q => q.elim)
  have p3 : PR_minorWithout (cxS X) (hset h1 out (200, aL 1 g1)) mo w c m E R b0 b1 b2 (f (i0 + 1)) (f (i0 + 2)) r2 h2 := p2
  have frR := fR_minorWithout p3
  obtain ⟨z2, rfl, hz, hk4, w', c', m', E', R', br', bf', bs', be', D2', D3', so', b0', b1', b2', hI', hR', hB', l1, l2⟩ := op_minorWithout hI hB hc p3
  dsimp only [Option.toList, List.cons_append, List.nil_append]
  refine lw_i7 hX dL_law_1985 j7 (fun v8 j8 => ?_)
  have hout2 := lw_outs frR
  obtain ⟨row2, brk2, al2, wk2, us2, kp2, pt2, hmo2⟩ := hR'.obj
  refine tail_i hW hX (by omega) hk4 ⟨_, _, _, _, _, _, _, _, hmo2⟩ hout2 hz (by decide) dL_law_1987 dL_law_1988 dL_law_1991 dL_law_1993 dL_law_1998 dL_law_2000 dL_law_2003 dL_law_2004 dL_law_2005 dL_law_2006 dL_law_2008 dL_law_2009 dL_law_2010 dL_law_2015 ?_
  refine WA.room (k2 := k + pC so' D2') (sl2 := sl + pS so' D2') (by omega) (by omega) ?_
  exact K h2 kk g1 G _ _ _ _ _ ⟨⟨w', c', m', E', R', br', bf', bs', be', D2', D3', so', b0', b1', b2', lw_house fr1 ho frR hI', hR', hB', rfl, rfl⟩, hout2, lw_after fr1 ho frR hoD (Or.inl rfl), hsc1⟩ l1 l2 (Or.inr ⟨_, rfl, rfl⟩) (Or.inl ⟨Or.inr ⟨_, rfl, rfl⟩, j8⟩)
set_option maxHeartbeats 1000000 in
set_option maxRecDepth 100000 in
theorem w_canBeDrawn {X : Cx} {d : Nat} {post : Option Value → AH → Prop} {px : String → AH → Prop} {h : AH} {k sl sc x mo out oD i0 n : Nat} {u6 u7 u8 : Slot} {f : Nat → Int} {th pc ps : Nat} {g : Nat → Int64} {G : Nat → UInt64} (hW : WOK (cxL X) (cxD X) (cxS X)) (hX : Ok X yL_law.cls cL_law 9 (some .boolean) yL_law.name (d + 20) post px) (hS : LST (cxS X) h sc n f x mo out oD th g G pc ps) (hf : ∀ j, inR (f j)) (hn : n ≤ 2560) (hb : i0 + 4 < n) (j6 : oc1 u6) (j7 : jk7 u7 u8) (K : LwK X k sl sc n f x mo out oD i0 pc ps) : WA X h (k + 65 + pc) (sl + 7400 + ps) 2018 (lwL sc x mo out oD ((i0 : Nat) : Int) u6 u7 u8) [] := by
  obtain ⟨⟨w, c, m, E, R, br, bf, bs, be, D2, D3, so, b0, b1, b2, hI, hR, hB, rfl, rfl⟩, ho, hoD, hsc⟩ := hS
  obtain ⟨fs, hobj⟩ := hI.obj
  have hM := hI.mtr.2.2.2.2.2.2
  refine WA.room (k2 := (k + 25 + pC so D2) + 40) (sl2 := (sl + 3200 + pS so D2) + 2200) (by omega) (by omega) ?_
  refine wa_aload_n hX (i := 1) dL_law_2018 rfl rfl ?_
  refine lw_arg hX (j := 1) rfl hsc (by omega) hn dL_law_2019 dL_law_2020 dL_law_2022 dL_law_2023 dL_law_2024 ?_
  refine lw_arg hX (j := 2) rfl hsc (by omega) hn dL_law_2025 dL_law_2026 dL_law_2028 dL_law_2029 dL_law_2030 ?_
  refine wa_aload_n hX (i := 3) dL_law_2031 rfl rfl ?_
  refine wa_callSH hX (c_L_canBeDrawn hW _ (P1 := PC_canBeDrawn h x w c m E R br bf bs be D2 D3 so (f (i0 + 1)) (f (i0 + 2))) (PX := XC_canBeDrawn h x w c m E R br bf bs be D2 D3 so (f (i0 + 1)) (f (i0 + 2))) hobj (c_X10_canBeDrawn hW 0 hI (hf (i0 + 1)) (hf (i0 + 2))) (fun r9 h9 q => ⟨vP_canBeDrawn q, fP_canBeDrawn q _ _ _ ho HF200⟩) (fun e9 h9 q => eX_canBeDrawn q)) (by rfl) (by omega) (nA := 4) (by rfl) (by decide +kernel) rfl (by exact Nat.le_of_ble_eq_true rfl) dL_law_2032 (fun r1 hh p1 => ?_)
  obtain ⟨kk, h1, g1, rfl, rfl, fr1, hc⟩ := wrB2 (P1 := PC_canBeDrawn h x w c m E R br bf bs be D2 D3 so (f (i0 + 1)) (f (i0 + 2))) (PX := XC_canBeDrawn h x w c m E R br bf bs be D2 D3 so (f (i0 + 1)) (f (i0 + 2))) ho (fun r9 h9 q => fP_canBeDrawn q) (fun e9 h9 q => fX_canBeDrawn q) p1
  dsimp only [Option.toList, List.cons_append, List.nil_append]
  refine lw_i6 hX dL_law_2035 j6 ?_
  obtain ⟨hR1, hsc1⟩ := lw_mid (g1 := g1) fr1 ho hR hsc
  obtain ⟨row, brk, al, wk, us, kp, pt, hmo⟩ := hR1.obj
  refine WA.room (k2 := (k + pC so D2) + 1) (sl2 := (sl + pS so D2) + 100) (by omega) (by omega) ?_
  refine wa_aload_n hX (i := 2) dL_law_2037 rfl rfl ?_
  refine lw_arg hX (j := 1) rfl hsc1 (by omega) hn dL_law_2038 dL_law_2039 dL_law_2041 dL_law_2042 dL_law_2043 ?_
  refine lw_arg hX (j := 2) rfl hsc1 (by omega) hn dL_law_2044 dL_law_2045 dL_law_2047 dL_law_2048 dL_law_2049 ?_
  refine wa_callV hX (c_X12_canBeDrawn hW 0 hR1 (hf (i0 + 1)) (hf (i0 + 2)) ) hmo (by rfl) (by rfl) (by omega) (nA := 2) (by rfl) (by decide +kernel) rfl (by exact Nat.le_of_ble_eq_true rfl) dL_law_2050 (fun r2 h2 p2 => ?_) (fun _ _ q => q.elim)
  have p3 : PR_canBeDrawn (cxS X) (hset h1 out (200, aL 1 g1)) mo w c m E R b0 b1 b2 (f (i0 + 1)) (f (i0 + 2)) r2 h2 := p2
  have frR := fR_canBeDrawn p3
  obtain ⟨z2, rfl, hz, hk4, w', c', m', E', R', br', bf', bs', be', D2', D3', so', b0', b1', b2', hI', hR', hB', l1, l2⟩ := op_canBeDrawn hI hB hc p3
  dsimp only [Option.toList, List.cons_append, List.nil_append]
  refine lw_i7 hX dL_law_2053 j7 (fun v8 j8 => ?_)
  have hout2 := lw_outs frR
  obtain ⟨row2, brk2, al2, wk2, us2, kp2, pt2, hmo2⟩ := hR'.obj
  refine tail_z hW hX (by omega) hk4 ⟨_, _, _, _, _, _, _, _, hmo2⟩ hout2 hz (by decide) dL_law_2055 dL_law_2056 dL_law_2059 dL_law_2061 dL_law_2066 dL_law_2068 dL_law_2071 dL_law_2072 dL_law_2073 dL_law_2074 dL_law_2076 dL_law_2079 dL_law_2080 dL_law_2083 dL_law_2084 dL_law_2085 dL_law_2090 ?_
  refine WA.room (k2 := k + pC so' D2') (sl2 := sl + pS so' D2') (by omega) (by omega) ?_
  exact K h2 kk g1 G _ _ _ _ _ ⟨⟨w', c', m', E', R', br', bf', bs', be', D2', D3', so', b0', b1', b2', lw_house fr1 ho frR hI', hR', hB', rfl, rfl⟩, hout2, lw_after fr1 ho frR hoD (Or.inl rfl), hsc1⟩ l1 l2 (Or.inr ⟨_, rfl, rfl⟩) (Or.inl ⟨Or.inr ⟨_, rfl, rfl⟩, j8⟩)
set_option maxHeartbeats 1000000 in
set_option maxRecDepth 100000 in
theorem w_entry {X : Cx} {d : Nat} {post : Option Value → AH → Prop} {px : String → AH → Prop} {h : AH} {k sl sc x mo out oD i0 n : Nat} {u6 u7 u8 : Slot} {f : Nat → Int} {th pc ps : Nat} {g : Nat → Int64} {G : Nat → UInt64} (hW : WOK (cxL X) (cxD X) (cxS X)) (hX : Ok X yL_law.cls cL_law 9 (some .boolean) yL_law.name (d + 20) post px) (hS : LST (cxS X) h sc n f x mo out oD th g G pc ps) (hf : ∀ j, inR (f j)) (hn : n ≤ 2560) (hb : i0 + 4 < n) (j6 : oc1 u6) (j7 : jk7 u7 u8) (K : LwK X k sl sc n f x mo out oD i0 pc ps) : WA X h (k + 65 + pc) (sl + 7400 + ps) 2093 (lwL sc x mo out oD ((i0 : Nat) : Int) u6 u7 u8) [] := by
  obtain ⟨⟨w, c, m, E, R, br, bf, bs, be, D2, D3, so, b0, b1, b2, hI, hR, hB, rfl, rfl⟩, ho, hoD, hsc⟩ := hS
  obtain ⟨fs, hobj⟩ := hI.obj
  have hM := hI.mtr.2.2.2.2.2.2
  refine WA.room (k2 := (k + 25 + pC so D2) + 40) (sl2 := (sl + 3200 + pS so D2) + 2200) (by omega) (by omega) ?_
  refine wa_aload_n hX (i := 1) dL_law_2093 rfl rfl ?_
  refine lw_arg hX (j := 1) rfl hsc (by omega) hn dL_law_2094 dL_law_2095 dL_law_2097 dL_law_2098 dL_law_2099 ?_
  refine lw_arg hX (j := 2) rfl hsc (by omega) hn dL_law_2100 dL_law_2101 dL_law_2103 dL_law_2104 dL_law_2105 ?_
  refine lw_arg hX (j := 3) rfl hsc (by omega) hn dL_law_2106 dL_law_2107 dL_law_2109 dL_law_2110 dL_law_2111 ?_
  refine lw_arg hX (j := 4) rfl hsc (by omega) hn dL_law_2112 dL_law_2113 dL_law_2115 dL_law_2116 dL_law_2117 ?_
  refine wa_aload_n hX (i := 3) dL_law_2118 rfl rfl ?_
  refine wa_callSH hX (c_L_entry hW _ (P1 := PC_entry h x w c m E R br bf bs be D2 D3 so (f (i0 + 1)) (f (i0 + 2)) (f (i0 + 3)) (f (i0 + 4))) (PX := XC_entry h x w c m E R br bf bs be D2 D3 so (f (i0 + 1)) (f (i0 + 2)) (f (i0 + 3)) (f (i0 + 4))) hobj (c_X10_entry hW 0 hI (hf (i0 + 1)) (hf (i0 + 2)) (hf (i0 + 3)) (hf (i0 + 4))) (fun r9 h9 q => ⟨vP_entry q, fP_entry q _ _ _ ho HF200⟩) (fun e9 h9 q => eX_entry q)) (by rfl) (by omega) (nA := 6) (by rfl) (by decide +kernel) rfl (by exact Nat.le_of_ble_eq_true rfl) dL_law_2119 (fun r1 hh p1 => ?_)
  obtain ⟨kk, h1, g1, rfl, rfl, fr1, hc⟩ := wr3 (P1 := PC_entry h x w c m E R br bf bs be D2 D3 so (f (i0 + 1)) (f (i0 + 2)) (f (i0 + 3)) (f (i0 + 4))) (PX := XC_entry h x w c m E R br bf bs be D2 D3 so (f (i0 + 1)) (f (i0 + 2)) (f (i0 + 3)) (f (i0 + 4))) ho (fun r9 h9 q => fP_entry q) (fun e9 h9 q => fX_entry q) p1
  dsimp only [Option.toList, List.cons_append, List.nil_append]
  refine lw_i6 hX dL_law_2122 j6 ?_
  obtain ⟨hR1, hsc1⟩ := lw_mid (g1 := g1) fr1 ho hR hsc
  obtain ⟨row, brk, al, wk, us, kp, pt, hmo⟩ := hR1.obj
  refine WA.room (k2 := (k + pC so D2) + 1) (sl2 := (sl + pS so D2) + 100) (by omega) (by omega) ?_
  refine wa_aload_n hX (i := 2) dL_law_2124 rfl rfl ?_
  refine lw_arg hX (j := 1) rfl hsc1 (by omega) hn dL_law_2125 dL_law_2126 dL_law_2128 dL_law_2129 dL_law_2130 ?_
  refine lw_arg hX (j := 2) rfl hsc1 (by omega) hn dL_law_2131 dL_law_2132 dL_law_2134 dL_law_2135 dL_law_2136 ?_
  refine lw_arg hX (j := 3) rfl hsc1 (by omega) hn dL_law_2137 dL_law_2138 dL_law_2140 dL_law_2141 dL_law_2142 ?_
  refine lw_arg hX (j := 4) rfl hsc1 (by omega) hn dL_law_2143 dL_law_2144 dL_law_2146 dL_law_2147 dL_law_2148 ?_
  refine wa_callV hX (c_X12_entry hW 0 hR1 (hf (i0 + 1)) (hf (i0 + 2)) (hf (i0 + 3)) (hf (i0 + 4)) ) hmo (by rfl) (by rfl) (by omega) (nA := 4) (by rfl) (by decide +kernel) rfl (by exact Nat.le_of_ble_eq_true rfl) dL_law_2149 (fun r2 h2 p2 => ?_) (fun _ _ q => q.elim)
  have p3 : PR_entry (cxS X) (hset h1 out (200, aL 1 g1)) mo w c m E R b0 b1 b2 (f (i0 + 1)) (f (i0 + 2)) (f (i0 + 3)) (f (i0 + 4)) r2 h2 := p2
  have frR := fR_entry p3
  obtain ⟨z2, rfl, hz, hk4, w', c', m', E', R', br', bf', bs', be', D2', D3', so', b0', b1', b2', hI', hR', hB', l1, l2⟩ := op_entry hI hB hc p3
  dsimp only [Option.toList, List.cons_append, List.nil_append]
  refine lw_i7 hX dL_law_2152 j7 (fun v8 j8 => ?_)
  have hout2 := lw_outs frR
  obtain ⟨row2, brk2, al2, wk2, us2, kp2, pt2, hmo2⟩ := hR'.obj
  refine tail_i hW hX (by omega) hk4 ⟨_, _, _, _, _, _, _, _, hmo2⟩ hout2 hz (by decide) dL_law_2154 dL_law_2155 dL_law_2158 dL_law_2160 dL_law_2165 dL_law_2167 dL_law_2170 dL_law_2171 dL_law_2172 dL_law_2173 dL_law_2175 dL_law_2176 dL_law_2177 dL_law_2182 ?_
  refine WA.room (k2 := k + pC so' D2') (sl2 := sl + pS so' D2') (by omega) (by omega) ?_
  exact K h2 kk g1 G _ _ _ _ _ ⟨⟨w', c', m', E', R', br', bf', bs', be', D2', D3', so', b0', b1', b2', lw_house fr1 ho frR hI', hR', hB', rfl, rfl⟩, hout2, lw_after fr1 ho frR hoD (Or.inl rfl), hsc1⟩ l1 l2 (Or.inr ⟨_, rfl, rfl⟩) (Or.inl ⟨Or.inr ⟨_, rfl, rfl⟩, j8⟩)
set_option maxHeartbeats 1000000 in
set_option maxRecDepth 100000 in
theorem w_greedy {X : Cx} {d : Nat} {post : Option Value → AH → Prop} {px : String → AH → Prop} {h : AH} {k sl sc x mo out oD i0 n : Nat} {u6 u7 u8 : Slot} {f : Nat → Int} {th pc ps : Nat} {g : Nat → Int64} {G : Nat → UInt64} (hW : WOK (cxL X) (cxD X) (cxS X)) (hX : Ok X yL_law.cls cL_law 9 (some .boolean) yL_law.name (d + 20) post px) (hS : LST (cxS X) h sc n f x mo out oD th g G pc ps) (hf : ∀ j, inR (f j)) (hn : n ≤ 2560) (hb : i0 + 4 < n) (j6 : oc1 u6) (j7 : jk7 u7 u8) (K : LwK X k sl sc n f x mo out oD i0 pc ps) : WA X h (k + 65 + pc) (sl + 7400 + ps) 2185 (lwL sc x mo out oD ((i0 : Nat) : Int) u6 u7 u8) [] := by
  obtain ⟨⟨w, c, m, E, R, br, bf, bs, be, D2, D3, so, b0, b1, b2, hI, hR, hB, rfl, rfl⟩, ho, hoD, hsc⟩ := hS
  obtain ⟨fs, hobj⟩ := hI.obj
  have hM := hI.mtr.2.2.2.2.2.2
  refine WA.room (k2 := (k + 25 + pC so D2) + 4) (sl2 := (sl + 3200 + pS so D2) + 24) (by omega) (by omega) ?_
  refine wa_aload_n hX (i := 1) dL_law_2185 rfl rfl ?_
  refine lw_arg hX (j := 1) rfl hsc (by omega) hn dL_law_2186 dL_law_2187 dL_law_2189 dL_law_2190 dL_law_2191 ?_
  refine wa_aload_n hX (i := 3) dL_law_2192 rfl rfl ?_
  refine wa_callSH hX (c_L_greedy hW _ (P1 := PC_greedy h x w c m E R br bf bs be D2 D3 so (f (i0 + 1))) (PX := XC_greedy h x w c m E R br bf bs be D2 D3 so (f (i0 + 1))) hobj (c_X10_greedy hW 0 hI (hf (i0 + 1))) (fun r9 h9 q => ⟨vP_greedy q, fP_greedy q _ _ _ ho HF200⟩) (fun e9 h9 q => eX_greedy q)) (by rfl) (by omega) (nA := 3) (by rfl) (by decide +kernel) rfl (by exact Nat.le_of_ble_eq_true rfl) dL_law_2193 (fun r1 hh p1 => ?_)
  obtain ⟨kk, h1, g1, rfl, rfl, fr1, hc⟩ := wr2 (P1 := PC_greedy h x w c m E R br bf bs be D2 D3 so (f (i0 + 1))) (PX := XC_greedy h x w c m E R br bf bs be D2 D3 so (f (i0 + 1))) ho (fun r9 h9 q => fP_greedy q) (fun e9 h9 q => fX_greedy q) p1
  dsimp only [Option.toList, List.cons_append, List.nil_append]
  refine lw_i6 hX dL_law_2196 j6 ?_
  obtain ⟨hR1, hsc1⟩ := lw_mid (g1 := g1) fr1 ho hR hsc
  obtain ⟨row, brk, al, wk, us, kp, pt, hmo⟩ := hR1.obj
  refine WA.room (k2 := (k + pC so D2) + 0) (sl2 := (sl + pS so D2) + 0) (by omega) (by omega) ?_
  refine wa_aload_n hX (i := 2) dL_law_2198 rfl rfl ?_
  refine lw_arg hX (j := 1) rfl hsc1 (by omega) hn dL_law_2199 dL_law_2200 dL_law_2202 dL_law_2203 dL_law_2204 ?_
  refine wa_callV hX (c_X12_greedy hW 0 hR1 (hf (i0 + 1)) ) hmo (by rfl) (by rfl) (by omega) (nA := 1) (by rfl) (by decide +kernel) rfl (by exact Nat.le_of_ble_eq_true rfl) dL_law_2205 (fun r2 h2 p2 => ?_) (fun _ _ q => q.elim)
  have p3 : PR_greedy (cxS X) (hset h1 out (200, aL 1 g1)) mo w c m E R b0 b1 b2 (f (i0 + 1)) r2 h2 := p2
  have frR := fR_greedy p3
  obtain ⟨z2, rfl, hz, hk4, w', c', m', E', R', br', bf', bs', be', D2', D3', so', b0', b1', b2', hI', hR', hB', l1, l2⟩ := op_greedy hI hB hc p3
  dsimp only [Option.toList, List.cons_append, List.nil_append]
  refine lw_i7 hX dL_law_2208 j7 (fun v8 j8 => ?_)
  have hout2 := lw_outs frR
  obtain ⟨row2, brk2, al2, wk2, us2, kp2, pt2, hmo2⟩ := hR'.obj
  refine tail_i hW hX (by omega) hk4 ⟨_, _, _, _, _, _, _, _, hmo2⟩ hout2 hz (by decide) dL_law_2210 dL_law_2211 dL_law_2214 dL_law_2216 dL_law_2221 dL_law_2223 dL_law_2226 dL_law_2227 dL_law_2228 dL_law_2229 dL_law_2231 dL_law_2232 dL_law_2233 dL_law_2238 ?_
  refine WA.room (k2 := k + pC so' D2') (sl2 := sl + pS so' D2') (by omega) (by omega) ?_
  exact K h2 kk g1 G _ _ _ _ _ ⟨⟨w', c', m', E', R', br', bf', bs', be', D2', D3', so', b0', b1', b2', lw_house fr1 ho frR hI', hR', hB', rfl, rfl⟩, hout2, lw_after fr1 ho frR hoD (Or.inl rfl), hsc1⟩ l1 l2 (Or.inr ⟨_, rfl, rfl⟩) (Or.inl ⟨Or.inr ⟨_, rfl, rfl⟩, j8⟩)
end Bk
