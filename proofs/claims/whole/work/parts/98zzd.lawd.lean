theorem lc_last {K : aK} {d bc bs n F : Nat} {g : aG} {m : aM} {Q : aQ} {i : Int32} (hF : 20000 ≤ F) (hd : 600 ≤ d) (hi : rdO K i) (I : LI (n + 1) g m bc bs) (hk : LK K d n i Q) : G K M_Law_law (d + 2) bc bs 1434 (lwL i (.double 0) (.double 0)) [] (g, m) Q := by
  obtain ⟨w, mw, a, W, hw, fm, ha, ha2, Y, wk⟩ := I.wh
  obtain ⟨r, m1, e1, v, t, co, me⟩ := z_lastI hF (by omega) I.1 fm ha ha2 Y (scr K i 1) (scr K i 2)
  obtain ⟨cW, sW, hW, q1, q2, fin⟩ := wk r
  have C : SpG K M_Led_last d (cW + 5) (sW + 44) [.ref 0, .int (scr K i 1), .int (scr K i 2)] (g, m) (o_out r) m1 (WQX w r g) := s_Led_lastX I.2.1.1 (by have := I.2.1.2.2.2; omega) F _ _ W e1 (by omega) hW (by omega) (by omega)
  refine g_aload_n k_Law_law_1434 rfl rfl ?_
  refine g_rd (j := 1) k_Law_law_1435 k_Law_law_1436 k_Law_law_1438 k_Law_law_1439 k_Law_law_1440 rfl rfl rfl (hi _ (by decide) (by decide)) ?_
  refine g_rd (j := 2) k_Law_law_1441 k_Law_law_1442 k_Law_law_1444 k_Law_law_1445 k_Law_law_1446 rfl rfl rfl (hi _ (by decide) (by decide)) ?_
  refine g_aload_n k_Law_law_1447 rfl rfl ?_
  refine g_hR (bc' := cW + 5) (bs' := sW + 44) k_Law_law_1448 lh_Law_201 (by decide +kernel) (s_Law_last (sk_Led I.2.1.1) C (fun g' hg => (I.2.1.ex (wqx_ext hg)).2.2.1) co) rfl rfl (by simp [Value.category]) (by simp [Value.category]) (by omega) (by omega) (fun v' h' P => ?_)
  obtain ⟨g', hR, rfl, rfl⟩ := P
  have S : LSy (gO Int32.toInt64 g' r) := (I.2.1.ex (wqx_ext hR)).gO
  refine g_istore k_Law_law_1451 (by decide) ?_
  refine g_aload_n k_Law_law_1453 rfl rfl ?_
  refine g_rd (j := 1) k_Law_law_1454 k_Law_law_1455 k_Law_law_1457 k_Law_law_1458 k_Law_law_1459 rfl rfl rfl (hi _ (by decide) (by decide)) ?_
  refine g_rd (j := 2) k_Law_law_1460 k_Law_law_1461 k_Law_law_1463 k_Law_law_1464 k_Law_law_1465 rfl rfl rfl (hi _ (by decide) (by decide)) ?_
  obtain ⟨z', m2, e2, hz', rfl, Z⟩ := me (gO Int32.toInt64 g' r).1 (by have := S.2.2.2; omega) (fun ⟨y, hy⟩ => by subst hy; rw [gO_1]; exact hR.2.1.2.2)
  refine g_cvR (bc' := 1) (bs' := 6912) k_Law_law_1466 lv_Law_203 (by decide +kernel) (T := F_Mod) (N := 61) (ci := 10) rfl (sk_Mod S.2.1) (s_Mod_lastX S.2.1 F (gO Int32.toInt64 g' r).1 rfl (by have := S.2.2.2; omega) _ _ _ e2 (by omega) (by omega) (by omega)) rfl rfl (by simp [Value.category]) (by simp [Value.category]) (by omega) (by omega) (by omega) (fun v' h' P => ?_)
  obtain ⟨g2, x2, zx, rfl, rfl⟩ := P
  have S2 := S.ex x2.2.1
  refine g_istore k_Law_law_1469 (by decide) ?_
  refine g_aload_n k_Law_law_1471 rfl rfl ?_
  refine g_cv (bc' := 0) (bs' := 0) k_Law_law_1472 lv_Law_132 (by decide +kernel) (T := F_Mod) (N := 61) (ci := 10) rfl (sk_Mod S2.2.1) (s_Mod_thrown (bc := 0) (bs := 0) S2.2.1 _ rfl) rfl rfl (by simp [Value.category]) (by simp [Value.category]) (by omega) (by omega) (by omega) ?_
  refine g_iload k_Law_law_1475 rfl ?_
  refine g_icmp_eq (tgt := 1482) k_Law_law_1477 (by decide) (fun _ => ?_) (fun c => absurd rfl c)
  refine g_iload k_Law_law_1482 rfl ?_
  rcases co_cs co (by decide) with ⟨y, rfl, h0, rfl⟩ | ⟨E, rfl, h0⟩
  · refine g_if_ne (tgt := 1499) k_Law_law_1484 (by decide) (fun _ => ?_) (fun c => absurd h0 c)
    refine g_aload_n k_Law_law_1487 rfl rfl ?_
    refine g_iconst (v := 0) k_Law_law_1488 rfl ?_
    refine g_lald k_Law_law_1489 S2.2.2.1 in01 ?_
    refine g_iload k_Law_law_1490 rfl ?_
    refine g_i2l k_Law_law_1492 ?_
    refine g_lcmp k_Law_law_1493 ?_
    refine G.v (y := 0) (by rw [show (0 : Int32).toNatClampNeg = 0 from rfl, x2.2.2.2.2 8692 0 (by have := S.2.2.2; omega), gO_rd]; exact lgc0 _) ?_
    refine g_if_eq (tgt := 1499) k_Law_law_1494 (by decide) (fun _ => ?_) (fun c => absurd rfl c)
    refine g_goto (tgt := 2591) k_Law_law_1499 (by decide) ?_
    exact lw_w (hk _ _ _ _ ((((fin _ _ _ hR (by rw [gO_1]; exact Nat.le_refl _) Z).ex gO_ex).ex x2.s).mono (by omega) (by omega)))
  · refine g_if_ne (tgt := 1499) k_Law_law_1484 (by decide) (fun c => absurd c h0) (fun _ => ?_)
    refine g_goto (tgt := 2591) k_Law_law_1499 (by decide) ?_
    exact lw_w (hk _ _ _ _ ((((fin _ _ _ hR (by rw [gO_1]; exact Nat.le_refl _) Z).ex gO_ex).ex x2.s).mono (by omega) (by omega)))
theorem lc_go {K : aK} {d bc bs n F : Nat} {g : aG} {m : aM} {Q : aQ} {i : Int32} (hF : 20000 ≤ F) (hd : 600 ≤ d) (hi : rdO K i) (I : LI (n + 1) g m bc bs) (hk : LK K d n i Q) : G K M_Law_law (d + 2) bc bs 1502 (lwL i (.double 0) (.double 0)) [] (g, m) Q := by
  obtain ⟨r, m1, e1, m2, e2, iv, ag⟩ := z_goI  F m (by omega) I.1
  refine g_aload_n k_Law_law_1502 rfl rfl ?_
  refine g_cv (bc' := 0) (bs' := 0) k_Law_law_1503 lv_Law_204 (by decide +kernel) (T := F_Led) (N := 10) (ci := 9) rfl (sk_Led I.2.1.1) (s_Led_go (bc := 0) (bs := 0) I.2.1.1 F  m e1 (by omega)) rfl rfl (by simp [Value.category]) (by simp [Value.category]) (by omega) (by omega) (by omega) ?_
  refine g_aload_n k_Law_law_1506 rfl rfl ?_
  refine g_cv (bc' := 0) (bs' := 0) k_Law_law_1507 lv_Law_207 (by decide +kernel) (T := F_Mod) (N := 61) (ci := 10) rfl (sk_Mod I.2.1.2.1) (s_Mod_go (bc := 0) (bs := 0) I.2.1.2.1 F  _ e2 (by omega)) rfl rfl (by simp [Value.category]) (by simp [Value.category]) (by omega) (by omega) (by omega) ?_
  refine g_icmp_eq (tgt := 2591) k_Law_law_1510 (by decide) (fun _ => ?_) (fun c => absurd rfl c)
  exact hk _ _ _ _ (I.p iv ag (by omega) (by omega))
theorem lc_back {K : aK} {d bc bs n F : Nat} {g : aG} {m : aM} {Q : aQ} {i : Int32} (hF : 20000 ≤ F) (hd : 600 ≤ d) (hi : rdO K i) (I : LI (n + 1) g m bc bs) (hk : LK K d n i Q) : G K M_Law_law (d + 2) bc bs 1515 (lwL i (.double 0) (.double 0)) [] (g, m) Q := by
  obtain ⟨r, m1, e1, m2, e2, iv, ag⟩ := z_backI  F m (by omega) I.1
  refine g_aload_n k_Law_law_1515 rfl rfl ?_
  refine g_cv (bc' := 0) (bs' := 0) k_Law_law_1516 lv_Law_208 (by decide +kernel) (T := F_Led) (N := 10) (ci := 9) rfl (sk_Led I.2.1.1) (s_Led_back (bc := 0) (bs := 0) I.2.1.1 F  m e1 (by omega)) rfl rfl (by simp [Value.category]) (by simp [Value.category]) (by omega) (by omega) (by omega) ?_
  refine g_aload_n k_Law_law_1519 rfl rfl ?_
  refine g_cv (bc' := 0) (bs' := 0) k_Law_law_1520 lv_Law_211 (by decide +kernel) (T := F_Mod) (N := 61) (ci := 10) rfl (sk_Mod I.2.1.2.1) (s_Mod_back (bc := 0) (bs := 0) I.2.1.2.1 F  _ e2) rfl rfl (by simp [Value.category]) (by simp [Value.category]) (by omega) (by omega) (by omega) ?_
  refine g_icmp_eq (tgt := 2591) k_Law_law_1523 (by decide) (fun _ => ?_) (fun c => absurd rfl c)
  exact hk _ _ _ _ (I.p iv ag (by omega) (by omega))
theorem lc_insert {K : aK} {d bc bs n F : Nat} {g : aG} {m : aM} {Q : aQ} {i : Int32} (hF : 20000 ≤ F) (hd : 600 ≤ d) (hi : rdO K i) (I : LI (n + 1) g m bc bs) (hk : LK K d n i Q) : G K M_Law_law (d + 2) bc bs 1528 (lwL i (.double 0) (.double 0)) [] (g, m) Q := by
  obtain ⟨r, m1, e1, v, m2, e2, co, iv, ag⟩ := z_insertI (scr K i 1) F m (by omega) I.1
  have C : SpG K M_Led_insert d 12 60 [.ref 0, .int (scr K i 1)] (g, m) (o_out _) _ (fun g' => g' = g) := spe_g (s_Led_insert I.2.1.1 F _ m e1 (by omega) (by omega) (by omega))
  have b1 := I.2.2.2.2.2.1
  obtain ⟨pw, pl, b2, -, -⟩ := I.2.2.2.2.2.2
  refine g_aload_n k_Law_law_1528 rfl rfl ?_
  refine g_rd (j := 1) k_Law_law_1529 k_Law_law_1530 k_Law_law_1532 k_Law_law_1533 k_Law_law_1534 rfl rfl rfl (hi _ (by decide) (by decide)) ?_
  refine g_aload_n k_Law_law_1535 rfl rfl ?_
  refine g_hR (bc' := 12) (bs' := 60) k_Law_law_1536 lh_Law_212 (by decide +kernel) (s_Law_insert (sk_Led I.2.1.1) C (fun g' hg => by subst hg; exact I.2.1.2.2.1) co) rfl rfl (by simp [Value.category]) (by simp [Value.category]) (by omega) (by omega) (fun v' h' P => ?_)
  obtain ⟨g', rfl, rfl, rfl⟩ := P
  have S : LSy (gO Int32.toInt64 g' r) := I.2.1.gO
  refine g_istore k_Law_law_1539 (by decide) ?_
  refine g_aload_n k_Law_law_1541 rfl rfl ?_
  refine g_rd (j := 1) k_Law_law_1542 k_Law_law_1543 k_Law_law_1545 k_Law_law_1546 k_Law_law_1547 rfl rfl rfl (hi _ (by decide) (by decide)) ?_
  refine g_cv (bc' := 0) (bs' := 0) k_Law_law_1548 lv_Law_214 (by decide +kernel) (T := F_Mod) (N := 61) (ci := 10) rfl (sk_Mod S.2.1) (s_Mod_insert (bc := 0) (bs := 0) S.2.1 F _ _ e2 (by omega)) rfl rfl (by simp [Value.category]) (by simp [Value.category]) (by omega) (by omega) (by omega) ?_
  refine g_istore k_Law_law_1551 (by decide) ?_
  refine g_aload_n k_Law_law_1553 rfl rfl ?_
  refine g_cv (bc' := 0) (bs' := 0) k_Law_law_1554 lv_Law_132 (by decide +kernel) (T := F_Mod) (N := 61) (ci := 10) rfl (sk_Mod S.2.1) (s_Mod_thrown (bc := 0) (bs := 0) S.2.1 _ rfl) rfl rfl (by simp [Value.category]) (by simp [Value.category]) (by omega) (by omega) (by omega) ?_
  refine g_iload k_Law_law_1557 rfl ?_
  refine g_icmp_eq (tgt := 1564) k_Law_law_1559 (by decide) (fun _ => ?_) (fun c => absurd rfl c)
  refine g_iload k_Law_law_1564 rfl ?_
  rcases co_cs co (by decide) with ⟨y, rfl, h0, rfl⟩ | ⟨E, rfl, h0⟩
  · refine g_if_ne (tgt := 1581) k_Law_law_1566 (by decide) (fun _ => ?_) (fun c => absurd h0 c)
    refine g_aload_n k_Law_law_1569 rfl rfl ?_
    refine g_iconst (v := 0) k_Law_law_1570 rfl ?_
    refine g_lald k_Law_law_1571 S.2.2.1 in01 ?_
    refine g_iload k_Law_law_1572 rfl ?_
    refine g_i2l k_Law_law_1574 ?_
    refine g_lcmp k_Law_law_1575 ?_
    refine G.v (y := 0) (by rw [show (0 : Int32).toNatClampNeg = 0 from rfl, gO_rd]; exact lgc0 _) ?_
    refine g_if_eq (tgt := 1581) k_Law_law_1576 (by decide) (fun _ => ?_) (fun c => absurd rfl c)
    refine g_goto (tgt := 2591) k_Law_law_1581 (by decide) ?_
    exact lw_w (hk _ _ _ _ ((I.p iv ag (by omega) (by omega)).ex gO_ex))
  · refine g_if_ne (tgt := 1581) k_Law_law_1566 (by decide) (fun c => absurd c h0) (fun _ => ?_)
    refine g_goto (tgt := 2591) k_Law_law_1581 (by decide) ?_
    exact lw_w (hk _ _ _ _ ((I.p iv ag (by omega) (by omega)).ex gO_ex))
theorem lc_delete {K : aK} {d bc bs n F : Nat} {g : aG} {m : aM} {Q : aQ} {i : Int32} (hF : 20000 ≤ F) (hd : 600 ≤ d) (hi : rdO K i) (I : LI (n + 1) g m bc bs) (hk : LK K d n i Q) : G K M_Law_law (d + 2) bc bs 1584 (lwL i (.double 0) (.double 0)) [] (g, m) Q := by
  obtain ⟨r, m1, e1, v, m2, e2, co, iv, ag⟩ := z_deleteI (scr K i 1) m I.1
  have C : SpG K M_Led_delete d 12 60 [.ref 0, .int (scr K i 1)] (g, m) (o_out _) _ (fun g' => g' = g) := spe_g (s_Led_delete I.2.1.1 _ m e1 (by omega) (by omega) (by omega))
  have b1 := I.2.2.2.2.2.1
  obtain ⟨pw, pl, b2, -, -⟩ := I.2.2.2.2.2.2
  refine g_aload_n k_Law_law_1584 rfl rfl ?_
  refine g_rd (j := 1) k_Law_law_1585 k_Law_law_1586 k_Law_law_1588 k_Law_law_1589 k_Law_law_1590 rfl rfl rfl (hi _ (by decide) (by decide)) ?_
  refine g_aload_n k_Law_law_1591 rfl rfl ?_
  refine g_hR (bc' := 12) (bs' := 60) k_Law_law_1592 lh_Law_215 (by decide +kernel) (s_Law_delete (sk_Led I.2.1.1) C (fun g' hg => by subst hg; exact I.2.1.2.2.1) co) rfl rfl (by simp [Value.category]) (by simp [Value.category]) (by omega) (by omega) (fun v' h' P => ?_)
  obtain ⟨g', rfl, rfl, rfl⟩ := P
  have S : LSy (gO zL g' r) := I.2.1.gO
  refine g_istore k_Law_law_1595 (by decide) ?_
  refine g_aload_n k_Law_law_1597 rfl rfl ?_
  refine g_rd (j := 1) k_Law_law_1598 k_Law_law_1599 k_Law_law_1601 k_Law_law_1602 k_Law_law_1603 rfl rfl rfl (hi _ (by decide) (by decide)) ?_
  refine g_cv (bc' := 0) (bs' := 0) k_Law_law_1604 lv_Law_217 (by decide +kernel) (T := F_Mod) (N := 61) (ci := 10) rfl (sk_Mod S.2.1) (s_Mod_delete (bc := 0) (bs := 0) S.2.1 _ _ e2 (by omega)) rfl rfl (by simp [Value.category]) (by simp [Value.category]) (by omega) (by omega) (by omega) ?_
  refine g_istore k_Law_law_1607 (by decide) ?_
  refine g_aload_n k_Law_law_1609 rfl rfl ?_
  refine g_cv (bc' := 0) (bs' := 0) k_Law_law_1610 lv_Law_132 (by decide +kernel) (T := F_Mod) (N := 61) (ci := 10) rfl (sk_Mod S.2.1) (s_Mod_thrown (bc := 0) (bs := 0) S.2.1 _ rfl) rfl rfl (by simp [Value.category]) (by simp [Value.category]) (by omega) (by omega) (by omega) ?_
  refine g_iload k_Law_law_1613 rfl ?_
  refine g_icmp_eq (tgt := 1620) k_Law_law_1615 (by decide) (fun _ => ?_) (fun c => absurd rfl c)
  refine g_iload k_Law_law_1620 rfl ?_
  rcases co_cs co (by decide) with ⟨y, rfl, h0, rfl⟩ | ⟨E, rfl, h0⟩
  · refine g_if_ne (tgt := 1644) k_Law_law_1622 (by decide) (fun _ => ?_) (fun c => absurd h0 c)
    refine g_aload_n k_Law_law_1625 rfl rfl ?_
    refine g_iconst (v := 0) k_Law_law_1626 rfl ?_
    refine g_lald k_Law_law_1627 S.2.2.1 in01 ?_
    refine g_iload k_Law_law_1628 rfl ?_
    refine g_bl k_Law_law_1630 k_Law_law_1633 k_Law_law_1634 k_Law_law_1637 ?_
    refine g_lcmp k_Law_law_1638 ?_
    refine G.v (y := 0) (by rw [show (0 : Int32).toNatClampNeg = 0 from rfl, gO_rd]; exact lgc0 _) ?_
    refine g_if_eq (tgt := 1644) k_Law_law_1639 (by decide) (fun _ => ?_) (fun c => absurd rfl c)
    refine g_goto (tgt := 2591) k_Law_law_1644 (by decide) ?_
    exact lw_w (hk _ _ _ _ ((I.p iv ag (by omega) (by omega)).ex gO_ex))
  · refine g_if_ne (tgt := 1644) k_Law_law_1622 (by decide) (fun c => absurd c h0) (fun _ => ?_)
    refine g_goto (tgt := 2591) k_Law_law_1644 (by decide) ?_
    exact lw_w (hk _ _ _ _ ((I.p iv ag (by omega) (by omega)).ex gO_ex))
theorem lc_read {K : aK} {d bc bs n F : Nat} {g : aG} {m : aM} {Q : aQ} {i : Int32} (hF : 20000 ≤ F) (hd : 600 ≤ d) (hi : rdO K i) (I : LI (n + 1) g m bc bs) (hk : LK K d n i Q) : G K M_Law_law (d + 2) bc bs 1647 (lwL i (.double 0) (.double 0)) [] (g, m) Q := by
  obtain ⟨r, m1, e1, v, m2, e2, co, iv, ag⟩ := z_readI (scr K i 1) (scr K i 2) (scr K i 3) (scr K i 4) F m (by omega) I.1
  have C : SpG K M_Led_read d 12 60 [.ref 0, .int (scr K i 1), .int (scr K i 2), .int (scr K i 3), .int (scr K i 4)] (g, m) (o_out _) _ (fun g' => g' = g) := spe_g (s_Led_read I.2.1.1 F _ _ _ _ m e1 (by omega) (by omega) (by omega))
  have b1 := I.2.2.2.2.2.1
  obtain ⟨pw, pl, b2, -, -⟩ := I.2.2.2.2.2.2
  refine g_aload_n k_Law_law_1647 rfl rfl ?_
  refine g_rd (j := 1) k_Law_law_1648 k_Law_law_1649 k_Law_law_1651 k_Law_law_1652 k_Law_law_1653 rfl rfl rfl (hi _ (by decide) (by decide)) ?_
  refine g_rd (j := 2) k_Law_law_1654 k_Law_law_1655 k_Law_law_1657 k_Law_law_1658 k_Law_law_1659 rfl rfl rfl (hi _ (by decide) (by decide)) ?_
  refine g_rd (j := 3) k_Law_law_1660 k_Law_law_1661 k_Law_law_1663 k_Law_law_1664 k_Law_law_1665 rfl rfl rfl (hi _ (by decide) (by decide)) ?_
  refine g_rd (j := 4) k_Law_law_1666 k_Law_law_1667 k_Law_law_1669 k_Law_law_1670 k_Law_law_1671 rfl rfl rfl (hi _ (by decide) (by decide)) ?_
  refine g_aload_n k_Law_law_1672 rfl rfl ?_
  refine g_hR (bc' := 12) (bs' := 60) k_Law_law_1673 lh_Law_218 (by decide +kernel) (s_Law_read (sk_Led I.2.1.1) C (fun g' hg => by subst hg; exact I.2.1.2.2.1) co) rfl rfl (by simp [Value.category]) (by simp [Value.category]) (by omega) (by omega) (fun v' h' P => ?_)
  obtain ⟨g', rfl, rfl, rfl⟩ := P
  have S : LSy (gO Int32.toInt64 g' r) := I.2.1.gO
  refine g_istore k_Law_law_1676 (by decide) ?_
  refine g_aload_n k_Law_law_1678 rfl rfl ?_
  refine g_rd (j := 1) k_Law_law_1679 k_Law_law_1680 k_Law_law_1682 k_Law_law_1683 k_Law_law_1684 rfl rfl rfl (hi _ (by decide) (by decide)) ?_
  refine g_rd (j := 2) k_Law_law_1685 k_Law_law_1686 k_Law_law_1688 k_Law_law_1689 k_Law_law_1690 rfl rfl rfl (hi _ (by decide) (by decide)) ?_
  refine g_rd (j := 3) k_Law_law_1691 k_Law_law_1692 k_Law_law_1694 k_Law_law_1695 k_Law_law_1696 rfl rfl rfl (hi _ (by decide) (by decide)) ?_
  refine g_rd (j := 4) k_Law_law_1697 k_Law_law_1698 k_Law_law_1700 k_Law_law_1701 k_Law_law_1702 rfl rfl rfl (hi _ (by decide) (by decide)) ?_
  refine g_cv (bc' := 0) (bs' := 0) k_Law_law_1703 lv_Law_221 (by decide +kernel) (T := F_Mod) (N := 61) (ci := 10) rfl (sk_Mod S.2.1) (s_Mod_read (bc := 0) (bs := 0) S.2.1 F _ _ _ _ _ e2 (by omega)) rfl rfl (by simp [Value.category]) (by simp [Value.category]) (by omega) (by omega) (by omega) ?_
  refine g_istore k_Law_law_1706 (by decide) ?_
  refine g_aload_n k_Law_law_1708 rfl rfl ?_
  refine g_cv (bc' := 0) (bs' := 0) k_Law_law_1709 lv_Law_132 (by decide +kernel) (T := F_Mod) (N := 61) (ci := 10) rfl (sk_Mod S.2.1) (s_Mod_thrown (bc := 0) (bs := 0) S.2.1 _ rfl) rfl rfl (by simp [Value.category]) (by simp [Value.category]) (by omega) (by omega) (by omega) ?_
  refine g_iload k_Law_law_1712 rfl ?_
  refine g_icmp_eq (tgt := 1719) k_Law_law_1714 (by decide) (fun _ => ?_) (fun c => absurd rfl c)
  refine g_iload k_Law_law_1719 rfl ?_
  rcases co_cs co (by decide) with ⟨y, rfl, h0, rfl⟩ | ⟨E, rfl, h0⟩
  · refine g_if_ne (tgt := 1736) k_Law_law_1721 (by decide) (fun _ => ?_) (fun c => absurd h0 c)
    refine g_aload_n k_Law_law_1724 rfl rfl ?_
    refine g_iconst (v := 0) k_Law_law_1725 rfl ?_
    refine g_lald k_Law_law_1726 S.2.2.1 in01 ?_
    refine g_iload k_Law_law_1727 rfl ?_
    refine g_i2l k_Law_law_1729 ?_
    refine g_lcmp k_Law_law_1730 ?_
    refine G.v (y := 0) (by rw [show (0 : Int32).toNatClampNeg = 0 from rfl, gO_rd]; exact lgc0 _) ?_
    refine g_if_eq (tgt := 1736) k_Law_law_1731 (by decide) (fun _ => ?_) (fun c => absurd rfl c)
    refine g_goto (tgt := 2591) k_Law_law_1736 (by decide) ?_
    exact lw_w (hk _ _ _ _ ((I.p iv ag (by omega) (by omega)).ex gO_ex))
  · refine g_if_ne (tgt := 1736) k_Law_law_1721 (by decide) (fun c => absurd c h0) (fun _ => ?_)
    refine g_goto (tgt := 2591) k_Law_law_1736 (by decide) ?_
    exact lw_w (hk _ _ _ _ ((I.p iv ag (by omega) (by omega)).ex gO_ex))
theorem lc_write {K : aK} {d bc bs n F : Nat} {g : aG} {m : aM} {Q : aQ} {i : Int32} (hF : 20000 ≤ F) (hd : 600 ≤ d) (hi : rdO K i) (I : LI (n + 1) g m bc bs) (hk : LK K d n i Q) : G K M_Law_law (d + 2) bc bs 1739 (lwL i (.double 0) (.double 0)) [] (g, m) Q := by
  obtain ⟨r, m1, e1, v, z', m2, e2, hz', co, iv, ag⟩ := z_writeI (scr K i 1) (scr K i 2) (scr K i 3) (scr K i 4) (scr K i 5) F g.1 m (by omega) (by have := I.2.1.2.2.2; omega) I.1
  have C : SpG K M_Led_write d 12 60 [.ref 0, .int (scr K i 1), .int (scr K i 2), .int (scr K i 3), .int (scr K i 4), .int (scr K i 5)] (g, m) (o_out _) _ (fun g' => g' = g) := spe_g (s_Led_write I.2.1.1 F _ _ _ _ _ m e1 (by omega) (by omega) (by omega))
  have b1 := I.2.2.2.2.2.1
  obtain ⟨pw, pl, b2, -, -⟩ := I.2.2.2.2.2.2
  refine g_aload_n k_Law_law_1739 rfl rfl ?_
  refine g_rd (j := 1) k_Law_law_1740 k_Law_law_1741 k_Law_law_1743 k_Law_law_1744 k_Law_law_1745 rfl rfl rfl (hi _ (by decide) (by decide)) ?_
  refine g_rd (j := 2) k_Law_law_1746 k_Law_law_1747 k_Law_law_1749 k_Law_law_1750 k_Law_law_1751 rfl rfl rfl (hi _ (by decide) (by decide)) ?_
  refine g_rd (j := 3) k_Law_law_1752 k_Law_law_1753 k_Law_law_1755 k_Law_law_1756 k_Law_law_1757 rfl rfl rfl (hi _ (by decide) (by decide)) ?_
  refine g_rd (j := 4) k_Law_law_1758 k_Law_law_1759 k_Law_law_1761 k_Law_law_1762 k_Law_law_1763 rfl rfl rfl (hi _ (by decide) (by decide)) ?_
  refine g_rd (j := 5) k_Law_law_1764 k_Law_law_1765 k_Law_law_1767 k_Law_law_1768 k_Law_law_1769 rfl rfl rfl (hi _ (by decide) (by decide)) ?_
  refine g_aload_n k_Law_law_1770 rfl rfl ?_
  refine g_hR (bc' := 12) (bs' := 60) k_Law_law_1771 lh_Law_222 (by decide +kernel) (s_Law_write (sk_Led I.2.1.1) C (fun g' hg => by subst hg; exact I.2.1.2.2.1) co) rfl rfl (by simp [Value.category]) (by simp [Value.category]) (by omega) (by omega) (fun v' h' P => ?_)
  obtain ⟨g', rfl, rfl, rfl⟩ := P
  have S : LSy (gO Int32.toInt64 g' r) := I.2.1.gO
  refine g_istore k_Law_law_1774 (by decide) ?_
  refine g_aload_n k_Law_law_1776 rfl rfl ?_
  refine g_rd (j := 1) k_Law_law_1777 k_Law_law_1778 k_Law_law_1780 k_Law_law_1781 k_Law_law_1782 rfl rfl rfl (hi _ (by decide) (by decide)) ?_
  refine g_rd (j := 2) k_Law_law_1783 k_Law_law_1784 k_Law_law_1786 k_Law_law_1787 k_Law_law_1788 rfl rfl rfl (hi _ (by decide) (by decide)) ?_
  refine g_rd (j := 3) k_Law_law_1789 k_Law_law_1790 k_Law_law_1792 k_Law_law_1793 k_Law_law_1794 rfl rfl rfl (hi _ (by decide) (by decide)) ?_
  refine g_rd (j := 4) k_Law_law_1795 k_Law_law_1796 k_Law_law_1798 k_Law_law_1799 k_Law_law_1800 rfl rfl rfl (hi _ (by decide) (by decide)) ?_
  refine g_rd (j := 5) k_Law_law_1801 k_Law_law_1802 k_Law_law_1804 k_Law_law_1805 k_Law_law_1806 rfl rfl rfl (hi _ (by decide) (by decide)) ?_
  refine g_cvR (bc' := 2) (bs' := 8) k_Law_law_1807 lv_Law_224 (by decide +kernel) (T := F_Mod) (N := 61) (ci := 10) rfl (sk_Mod S.2.1) (s_Mod_writeX S.2.1 F g'.1 gO_1 (by have := S.2.2.2; omega) _ _ _ _ _ _ e2 (by omega) (by omega) (by omega)) rfl rfl (by simp [Value.category]) (by simp [Value.category]) (by omega) (by omega) (by omega) (fun v' h' P => ?_)
  obtain ⟨g2, x2, zx, rfl, rfl⟩ := P
  have S2 := S.ex x2.2.1
  refine g_istore k_Law_law_1810 (by decide) ?_
  refine g_aload_n k_Law_law_1812 rfl rfl ?_
  refine g_cv (bc' := 0) (bs' := 0) k_Law_law_1813 lv_Law_132 (by decide +kernel) (T := F_Mod) (N := 61) (ci := 10) rfl (sk_Mod S2.2.1) (s_Mod_thrown (bc := 0) (bs := 0) S2.2.1 _ rfl) rfl rfl (by simp [Value.category]) (by simp [Value.category]) (by omega) (by omega) (by omega) ?_
  refine g_iload k_Law_law_1816 rfl ?_
  refine g_icmp_eq (tgt := 1823) k_Law_law_1818 (by decide) (fun _ => ?_) (fun c => absurd rfl c)
  refine g_iload k_Law_law_1823 rfl ?_
  rcases co_cs co (by decide) with ⟨y, rfl, h0, rfl⟩ | ⟨E, rfl, h0⟩
  · refine g_if_ne (tgt := 1840) k_Law_law_1825 (by decide) (fun _ => ?_) (fun c => absurd h0 c)
    refine g_aload_n k_Law_law_1828 rfl rfl ?_
    refine g_iconst (v := 0) k_Law_law_1829 rfl ?_
    refine g_lald k_Law_law_1830 S2.2.2.1 in01 ?_
    refine g_iload k_Law_law_1831 rfl ?_
    refine g_i2l k_Law_law_1833 ?_
    refine g_lcmp k_Law_law_1834 ?_
    refine G.v (y := 0) (by rw [show (0 : Int32).toNatClampNeg = 0 from rfl, x2.2.2.2.2 8692 0 (by have := S.2.2.2; omega), gO_rd]; exact lgc0 _) ?_
    refine g_if_eq (tgt := 1840) k_Law_law_1835 (by decide) (fun _ => ?_) (fun c => absurd rfl c)
    refine g_goto (tgt := 2591) k_Law_law_1840 (by decide) ?_
    exact lw_w (hk _ _ _ _ (((I.st iv (Or.inr ag.1) (fun b j h1 h2 => ag.2 b j h1 (by omega) (by omega)) (by omega) (by omega)).ex gO_ex).ex x2.s))
  · refine g_if_ne (tgt := 1840) k_Law_law_1825 (by decide) (fun c => absurd c h0) (fun _ => ?_)
    refine g_goto (tgt := 2591) k_Law_law_1840 (by decide) ?_
    exact lw_w (hk _ _ _ _ (((I.st iv (Or.inr ag.1) (fun b j h1 h2 => ag.2 b j h1 (by omega) (by omega)) (by omega) (by omega)).ex gO_ex).ex x2.s))
theorem lc_first {K : aK} {d bc bs n F : Nat} {g : aG} {m : aM} {Q : aQ} {i : Int32} (hF : 20000 ≤ F) (hd : 600 ≤ d) (hi : rdO K i) (I : LI (n + 1) g m bc bs) (hk : LK K d n i Q) : G K M_Law_law (d + 2) bc bs 1843 (lwL i (.double 0) (.double 0)) [] (g, m) Q := by
  obtain ⟨r, m1, e1, v, m2, e2, co, iv, ag⟩ := z_firstI (scr K i 1) m I.1
  have C : SpG K M_Led_first d 12 60 [.ref 0, .int (scr K i 1)] (g, m) (o_out _) _ (fun g' => g' = g) := spe_g (s_Led_first I.2.1.1 _ m e1 (by omega) (by omega) (by omega))
  have b1 := I.2.2.2.2.2.1
  obtain ⟨pw, pl, b2, -, -⟩ := I.2.2.2.2.2.2
  refine g_aload_n k_Law_law_1843 rfl rfl ?_
  refine g_rd (j := 1) k_Law_law_1844 k_Law_law_1845 k_Law_law_1847 k_Law_law_1848 k_Law_law_1849 rfl rfl rfl (hi _ (by decide) (by decide)) ?_
  refine g_aload_n k_Law_law_1850 rfl rfl ?_
  refine g_hR (bc' := 12) (bs' := 60) k_Law_law_1851 lh_Law_225 (by decide +kernel) (s_Law_first (sk_Led I.2.1.1) C (fun g' hg => by subst hg; exact I.2.1.2.2.1) co) rfl rfl (by simp [Value.category]) (by simp [Value.category]) (by omega) (by omega) (fun v' h' P => ?_)
  obtain ⟨g', rfl, rfl, rfl⟩ := P
  have S : LSy (gO Int32.toInt64 g' r) := I.2.1.gO
  refine g_istore k_Law_law_1854 (by decide) ?_
  refine g_aload_n k_Law_law_1856 rfl rfl ?_
  refine g_rd (j := 1) k_Law_law_1857 k_Law_law_1858 k_Law_law_1860 k_Law_law_1861 k_Law_law_1862 rfl rfl rfl (hi _ (by decide) (by decide)) ?_
  refine g_cv (bc' := 0) (bs' := 0) k_Law_law_1863 lv_Law_227 (by decide +kernel) (T := F_Mod) (N := 61) (ci := 10) rfl (sk_Mod S.2.1) (s_Mod_first (bc := 0) (bs := 0) S.2.1 _ _ e2 (by omega)) rfl rfl (by simp [Value.category]) (by simp [Value.category]) (by omega) (by omega) (by omega) ?_
  refine g_istore k_Law_law_1866 (by decide) ?_
  refine g_aload_n k_Law_law_1868 rfl rfl ?_
  refine g_cv (bc' := 0) (bs' := 0) k_Law_law_1869 lv_Law_132 (by decide +kernel) (T := F_Mod) (N := 61) (ci := 10) rfl (sk_Mod S.2.1) (s_Mod_thrown (bc := 0) (bs := 0) S.2.1 _ rfl) rfl rfl (by simp [Value.category]) (by simp [Value.category]) (by omega) (by omega) (by omega) ?_
  refine g_iload k_Law_law_1872 rfl ?_
  refine g_icmp_eq (tgt := 1879) k_Law_law_1874 (by decide) (fun _ => ?_) (fun c => absurd rfl c)
  refine g_iload k_Law_law_1879 rfl ?_
  rcases co_cs co (by decide) with ⟨y, rfl, h0, rfl⟩ | ⟨E, rfl, h0⟩
  · refine g_if_ne (tgt := 1896) k_Law_law_1881 (by decide) (fun _ => ?_) (fun c => absurd h0 c)
    refine g_aload_n k_Law_law_1884 rfl rfl ?_
    refine g_iconst (v := 0) k_Law_law_1885 rfl ?_
    refine g_lald k_Law_law_1886 S.2.2.1 in01 ?_
    refine g_iload k_Law_law_1887 rfl ?_
    refine g_i2l k_Law_law_1889 ?_
    refine g_lcmp k_Law_law_1890 ?_
    refine G.v (y := 0) (by rw [show (0 : Int32).toNatClampNeg = 0 from rfl, gO_rd]; exact lgc0 _) ?_
    refine g_if_eq (tgt := 1896) k_Law_law_1891 (by decide) (fun _ => ?_) (fun c => absurd rfl c)
    refine g_goto (tgt := 2591) k_Law_law_1896 (by decide) ?_
    exact lw_w (hk _ _ _ _ ((I.p iv ag (by omega) (by omega)).ex gO_ex))
  · refine g_if_ne (tgt := 1896) k_Law_law_1881 (by decide) (fun c => absurd c h0) (fun _ => ?_)
    refine g_goto (tgt := 2591) k_Law_law_1896 (by decide) ?_
    exact lw_w (hk _ _ _ _ ((I.p iv ag (by omega) (by omega)).ex gO_ex))
theorem lc_tick {K : aK} {d bc bs n F : Nat} {g : aG} {m : aM} {Q : aQ} {i : Int32} (hF : 20000 ≤ F) (hd : 600 ≤ d) (hi : rdO K i) (I : LI (n + 1) g m bc bs) (hk : LK K d n i Q) : G K M_Law_law (d + 2) bc bs 1899 (lwL i (.double 0) (.double 0)) [] (g, m) Q := by
  obtain ⟨r, m1, e1, v, m2, e2, co, iv, ag⟩ := z_tickI (scr K i 1) m I.1
  have C : SpG K M_Led_tick d 12 60 [.ref 0, .int (scr K i 1)] (g, m) (o_out _) _ (fun g' => g' = g) := spe_g (s_Led_tick I.2.1.1 _ m e1 (by omega) (by omega) (by omega))
  have b1 := I.2.2.2.2.2.1
  obtain ⟨pw, pl, b2, -, -⟩ := I.2.2.2.2.2.2
  refine g_aload_n k_Law_law_1899 rfl rfl ?_
  refine g_rd (j := 1) k_Law_law_1900 k_Law_law_1901 k_Law_law_1903 k_Law_law_1904 k_Law_law_1905 rfl rfl rfl (hi _ (by decide) (by decide)) ?_
  refine g_aload_n k_Law_law_1906 rfl rfl ?_
  refine g_hR (bc' := 12) (bs' := 60) k_Law_law_1907 lh_Law_228 (by decide +kernel) (s_Law_tick (sk_Led I.2.1.1) C (fun g' hg => by subst hg; exact I.2.1.2.2.1) co) rfl rfl (by simp [Value.category]) (by simp [Value.category]) (by omega) (by omega) (fun v' h' P => ?_)
  obtain ⟨g', rfl, rfl, rfl⟩ := P
  have S : LSy (gO Int32.toInt64 g' r) := I.2.1.gO
  refine g_istore k_Law_law_1910 (by decide) ?_
  refine g_aload_n k_Law_law_1912 rfl rfl ?_
  refine g_rd (j := 1) k_Law_law_1913 k_Law_law_1914 k_Law_law_1916 k_Law_law_1917 k_Law_law_1918 rfl rfl rfl (hi _ (by decide) (by decide)) ?_
  refine g_cv (bc' := 0) (bs' := 0) k_Law_law_1919 lv_Law_230 (by decide +kernel) (T := F_Mod) (N := 61) (ci := 10) rfl (sk_Mod S.2.1) (s_Mod_tick (bc := 0) (bs := 0) S.2.1 _ _ e2 (by omega)) rfl rfl (by simp [Value.category]) (by simp [Value.category]) (by omega) (by omega) (by omega) ?_
  refine g_istore k_Law_law_1922 (by decide) ?_
  refine g_aload_n k_Law_law_1924 rfl rfl ?_
  refine g_cv (bc' := 0) (bs' := 0) k_Law_law_1925 lv_Law_132 (by decide +kernel) (T := F_Mod) (N := 61) (ci := 10) rfl (sk_Mod S.2.1) (s_Mod_thrown (bc := 0) (bs := 0) S.2.1 _ rfl) rfl rfl (by simp [Value.category]) (by simp [Value.category]) (by omega) (by omega) (by omega) ?_
  refine g_iload k_Law_law_1928 rfl ?_
  refine g_icmp_eq (tgt := 1935) k_Law_law_1930 (by decide) (fun _ => ?_) (fun c => absurd rfl c)
  refine g_iload k_Law_law_1935 rfl ?_
  rcases co_cs co (by decide) with ⟨y, rfl, h0, rfl⟩ | ⟨E, rfl, h0⟩
  · refine g_if_ne (tgt := 1952) k_Law_law_1937 (by decide) (fun _ => ?_) (fun c => absurd h0 c)
    refine g_aload_n k_Law_law_1940 rfl rfl ?_
    refine g_iconst (v := 0) k_Law_law_1941 rfl ?_
    refine g_lald k_Law_law_1942 S.2.2.1 in01 ?_
    refine g_iload k_Law_law_1943 rfl ?_
    refine g_i2l k_Law_law_1945 ?_
    refine g_lcmp k_Law_law_1946 ?_
    refine G.v (y := 0) (by rw [show (0 : Int32).toNatClampNeg = 0 from rfl, gO_rd]; exact lgc0 _) ?_
    refine g_if_eq (tgt := 1952) k_Law_law_1947 (by decide) (fun _ => ?_) (fun c => absurd rfl c)
    refine g_goto (tgt := 2591) k_Law_law_1952 (by decide) ?_
    exact lw_w (hk _ _ _ _ ((I.p iv ag (by omega) (by omega)).ex gO_ex))
  · refine g_if_ne (tgt := 1952) k_Law_law_1937 (by decide) (fun c => absurd c h0) (fun _ => ?_)
    refine g_goto (tgt := 2591) k_Law_law_1952 (by decide) ?_
    exact lw_w (hk _ _ _ _ ((I.p iv ag (by omega) (by omega)).ex gO_ex))
theorem lc_bite {K : aK} {d bc bs n F : Nat} {g : aG} {m : aM} {Q : aQ} {i : Int32} (hF : 20000 ≤ F) (hd : 600 ≤ d) (hi : rdO K i) (I : LI (n + 1) g m bc bs) (hk : LK K d n i Q) : G K M_Law_law (d + 2) bc bs 1955 (lwL i (.double 0) (.double 0)) [] (g, m) Q := by
  obtain ⟨r, m1, e1, v, m2, e2, co, iv, ag⟩ := z_biteI (scr K i 1) F m (by omega) I.1
  have C : SpG K M_Led_bite d 12 60 [.ref 0, .int (scr K i 1)] (g, m) (o_out _) _ (fun g' => g' = g) := spe_g (s_Led_bite I.2.1.1 F _ m e1 (by omega) (by omega) (by omega))
  have b1 := I.2.2.2.2.2.1
  obtain ⟨pw, pl, b2, -, -⟩ := I.2.2.2.2.2.2
  refine g_aload_n k_Law_law_1955 rfl rfl ?_
  refine g_rd (j := 1) k_Law_law_1956 k_Law_law_1957 k_Law_law_1959 k_Law_law_1960 k_Law_law_1961 rfl rfl rfl (hi _ (by decide) (by decide)) ?_
  refine g_aload_n k_Law_law_1962 rfl rfl ?_
  refine g_hR (bc' := 12) (bs' := 60) k_Law_law_1963 lh_Law_231 (by decide +kernel) (s_Law_bite (sk_Led I.2.1.1) C (fun g' hg => by subst hg; exact I.2.1.2.2.1) co) rfl rfl (by simp [Value.category]) (by simp [Value.category]) (by omega) (by omega) (fun v' h' P => ?_)
  obtain ⟨g', rfl, rfl, rfl⟩ := P
  have S : LSy (gO Int32.toInt64 g' r) := I.2.1.gO
  refine g_istore k_Law_law_1966 (by decide) ?_
  refine g_aload_n k_Law_law_1968 rfl rfl ?_
  refine g_rd (j := 1) k_Law_law_1969 k_Law_law_1970 k_Law_law_1972 k_Law_law_1973 k_Law_law_1974 rfl rfl rfl (hi _ (by decide) (by decide)) ?_
  refine g_cv (bc' := 0) (bs' := 0) k_Law_law_1975 lv_Law_233 (by decide +kernel) (T := F_Mod) (N := 61) (ci := 10) rfl (sk_Mod S.2.1) (s_Mod_bite (bc := 0) (bs := 0) S.2.1 F _ _ e2 (by omega)) rfl rfl (by simp [Value.category]) (by simp [Value.category]) (by omega) (by omega) (by omega) ?_
  refine g_istore k_Law_law_1978 (by decide) ?_
  refine g_aload_n k_Law_law_1980 rfl rfl ?_
  refine g_cv (bc' := 0) (bs' := 0) k_Law_law_1981 lv_Law_132 (by decide +kernel) (T := F_Mod) (N := 61) (ci := 10) rfl (sk_Mod S.2.1) (s_Mod_thrown (bc := 0) (bs := 0) S.2.1 _ rfl) rfl rfl (by simp [Value.category]) (by simp [Value.category]) (by omega) (by omega) (by omega) ?_
  refine g_iload k_Law_law_1984 rfl ?_
  refine g_icmp_eq (tgt := 1991) k_Law_law_1986 (by decide) (fun _ => ?_) (fun c => absurd rfl c)
  refine g_iload k_Law_law_1991 rfl ?_
  rcases co_cs co (by decide) with ⟨y, rfl, h0, rfl⟩ | ⟨E, rfl, h0⟩
  · refine g_if_ne (tgt := 2008) k_Law_law_1993 (by decide) (fun _ => ?_) (fun c => absurd h0 c)
    refine g_aload_n k_Law_law_1996 rfl rfl ?_
    refine g_iconst (v := 0) k_Law_law_1997 rfl ?_
    refine g_lald k_Law_law_1998 S.2.2.1 in01 ?_
    refine g_iload k_Law_law_1999 rfl ?_
    refine g_i2l k_Law_law_2001 ?_
    refine g_lcmp k_Law_law_2002 ?_
    refine G.v (y := 0) (by rw [show (0 : Int32).toNatClampNeg = 0 from rfl, gO_rd]; exact lgc0 _) ?_
    refine g_if_eq (tgt := 2008) k_Law_law_2003 (by decide) (fun _ => ?_) (fun c => absurd rfl c)
    refine g_goto (tgt := 2591) k_Law_law_2008 (by decide) ?_
    exact lw_w (hk _ _ _ _ ((I.p iv ag (by omega) (by omega)).ex gO_ex))
  · refine g_if_ne (tgt := 2008) k_Law_law_1993 (by decide) (fun c => absurd c h0) (fun _ => ?_)
    refine g_goto (tgt := 2591) k_Law_law_2008 (by decide) ?_
    exact lw_w (hk _ _ _ _ ((I.p iv ag (by omega) (by omega)).ex gO_ex))
