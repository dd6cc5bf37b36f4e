/-! the law's changes -/
section ZLW
variable {G : zG} {d n L : Nat} {xs : Nat → Int32} {σ σ1 : zMem} {Q : zRes → zMem → Prop} {i k v T : Int} {S S1 : zS} {Sn : Int → Int} {sf : Int}
theorem lD_ite (h : lD T S Sn sf) (g : k = 0 → lD T S1 Sn sf) : lD T (if k = 0 then S1 else S) Sn sf := by
  split
  · rename_i q
    exact g q
  · exact h
theorem ite_21 {α : Type} {p : Prop} [Decidable p] {a b : α} : (if (if p then (0 : Int) else 2) = 0 then a else b) = if (if p then (0 : Int) else 1) = 0 then a else b := by by_cases q : p <;> simp [q]
theorem lkc_f {p : Prop} [Decidable p] : lkc (if p then (0 : Int) else 2) 1 = if p then 0 else 1 := by by_cases q : p <;> simp [q, lkc]
theorem ite_0 {p : Prop} [Decidable p] (h : (if p then (0 : Int) else 1) = 0) : (if p then (0 : Int) else 2) = 0 := by by_cases q : p <;> simp [q] at h ⊢
theorem lw_book (hg : lGd G L xs) (i0 : 0 ≤ i) (i6 : i + 6 ≤ (L : Int)) (hn : n < 512) (J : lI n σ) (K : ∀ σ1, lI (n + 1) σ1 → zF G mL_law (d + 40) 2286 (lLs i) [] σ1 Q) : zF G mL_law (d + 40) 1542 (lLs i) [] σ Q := by
  obtain ⟨S, Sn, sf, cc, ep, t, l, vv, cap, J⟩ := J
  obtain ⟨⟨hs, hb, hv⟩, ⟨hD, hT, hL⟩, hc, hm⟩ := id J
  obtain ⟨hGd, hG, hOD, hOP, hX, hNx⟩ := hg
  have gn := hD.gn
  have hR := hc.1.1.1
  have hTm : ((n : Nat) : Int) < 1000000 := by omega
  have hTc : ((n : Nat) : Int) ≤ 20000 := by omega
  show zF G mL_law (d + 40) 1542 [(0, zR (zbg + 500)), (1, zR (B0 0)), (2, zR 228), (3, zR 245), (4, zI i)] [] σ _
  refine zF_aload_n 1543 dL_law_1542 rfl rfl ?_
  refine zF_aload_n 1544 dL_law_1543 rfl rfl ?_
  refine zF_iload 1546 dL_law_1544 rfl rfl ?_
  refine zF_iconst 1547 dL_law_1546 rfl ?_
  refine zF_iadd 1548 dL_law_1547 rfl ?_
  refine zF_sload 1549 dL_law_1548 rfl hX (by omega) (by omega) ?_
  refine zF_aload_n 1550 dL_law_1549 rfl rfl ?_
  refine zF_iload 1552 dL_law_1550 rfl rfl ?_
  refine zF_iconst 1553 dL_law_1552 rfl ?_
  refine zF_iadd 1554 dL_law_1553 rfl ?_
  refine zF_sload 1555 dL_law_1554 rfl hX (by omega) (by omega) ?_
  refine zF_aload_n 1556 dL_law_1555 rfl rfl ?_
  refine zF_callSH 1559 (d2 := d + 39) (as := [zR (B0 0), zI (lx xs i 1), zI (lx xs i 2), zR 245]) (rest := []) dL_law_1556 rfl kLH_book sL_book (by omega) rfl rfl (Nat.le_of_ble_eq_true rfl) ⟨zwO, zwR hs.bl, zwR hs.ml, zwR hs.ol, trivial, trivial⟩ trivial (zEH.mono (zl_book (d2 := d + 14) (by omega) hs.bk hs.bl hs.ol (zt_X11_book hGd hs.cO hs.cHs hc.1.1 hD.gs (zrg_x _) (zrg_x _)) (lQ_copM hs) (nI_copM (by repeat' (first | exact lk2_0 | exact lk2_1 | refine lk2_if ?_ ?_)))) fun ro σ1 hh => ?_)
  obtain ⟨er, ev, ⟨s1, b1⟩, c1, m1⟩ := lq_copM hn J hh
  subst er
  refine ⟨_, rfl, ?_⟩
  show zF G _ _ _ _ [zI _] σ1 _
  refine zF_istore 1561 (ls' := (5, zI _) :: lLs i) dL_law_1559 rfl (by decide) rfl ?_
  refine zF_aload_n 1562 dL_law_1561 rfl rfl ?_
  refine zF_aload_n 1563 dL_law_1562 rfl rfl ?_
  refine zF_iload 1565 dL_law_1563 rfl rfl ?_
  refine zF_iconst 1566 dL_law_1565 rfl ?_
  refine zF_iadd 1567 dL_law_1566 rfl ?_
  refine zF_sload 1568 dL_law_1567 rfl hX (by omega) (by omega) ?_
  refine zF_aload_n 1569 dL_law_1568 rfl rfl ?_
  refine zF_iload 1571 dL_law_1569 rfl rfl ?_
  refine zF_iconst 1572 dL_law_1571 rfl ?_
  refine zF_iadd 1573 dL_law_1572 rfl ?_
  refine zF_sload 1574 dL_law_1573 rfl hX (by omega) (by omega) ?_
  refine zF_callV 1577 (d2 := d + 16) (as := [zI (lx xs i 1), zI (lx xs i 2)]) dL_law_1574 rfl kLX12_book_ iX12_book_ (ci := 12) rfl eX12_book_ (by omega) s1.zMo.1 s1.zMo.2.1 rfl rfl (Nat.le_of_ble_eq_true rfl) (zE.mono (zt_X12_book_ s1.zMo m1.1.1 hD.gs (zrg_x _) (zrg_x _)) fun r σ2 hh2 => ?_)
  obtain ⟨x, er2, en, e5, ex, eo, ⟨s2, b2⟩, c2, m2⟩ := lq_mopM s1 b1 hv c1 m1 hh2
  subst er2
  rw [← eo] at ev
  refine ⟨en, ?_⟩
  show zF G _ _ _ _ [zI x] σ2 _
  refine zF_istore 1579 (ls' := (6, zI x) :: (5, zI _) :: lLs i) dL_law_1577 rfl (by decide) rfl ?_
  refine lw_tail 1579 dL_law_1579 dL_law_1580 dL_law_1583 dL_law_1585 dL_law_1590 dL_law_1592 dL_law_1595 dL_law_1596 dL_law_1597 dL_law_1598 dL_law_1600 dL_law_1601 dL_law_1602 dL_law_1607 (by decide) (by repeat' (first | exact lk3_0 | exact lk3_1 | exact lk3_2 | refine lk3_if ?_ ?_)) (lkc_1 (by repeat' (first | exact lk2_0 | exact lk2_1 | refine lk2_if ?_ ?_))) e5 ev ex s2 ?_
  refine K σ2 ⟨_, Sn, sf, cc, ep, t, l, vv, cap, ⟨s2, b2, hv⟩, ⟨lD_ite (hD.up (by push_cast; omega)) fun hk => ?_, hT, hL⟩, c2, m2⟩
  split at hk
  · rename_i p1
    split at hk
    · rename_i p2
      exact (lD_bk hD ⟨p1, ⟨by omega, p2.2⟩, Or.inl ⟨rfl, rfl⟩⟩ p2.1).up (by push_cast; omega)
    · exact absurd hk (by decide)
  · exact absurd hk (by decide)
theorem lw_split (hg : lGd G L xs) (i0 : 0 ≤ i) (i6 : i + 6 ≤ (L : Int)) (hn : n < 512) (J : lI n σ) (K : ∀ σ1, lI (n + 1) σ1 → zF G mL_law (d + 40) 2286 (lLs i) [] σ1 Q) : zF G mL_law (d + 40) 1610 (lLs i) [] σ Q := by
  obtain ⟨S, Sn, sf, cc, ep, t, l, vv, cap, J⟩ := J
  obtain ⟨⟨hs, hb, hv⟩, ⟨hD, hT, hL⟩, hc, hm⟩ := id J
  obtain ⟨hGd, hG, hOD, hOP, hX, hNx⟩ := hg
  have gn := hD.gn
  have hR := hc.1.1.1
  have hTm : ((n : Nat) : Int) < 1000000 := by omega
  have hTc : ((n : Nat) : Int) ≤ 20000 := by omega
  show zF G mL_law (d + 40) 1610 [(0, zR (zbg + 500)), (1, zR (B0 0)), (2, zR 228), (3, zR 245), (4, zI i)] [] σ _
  refine zF_aload_n 1611 dL_law_1610 rfl rfl ?_
  refine zF_aload_n 1612 dL_law_1611 rfl rfl ?_
  refine zF_iload 1614 dL_law_1612 rfl rfl ?_
  refine zF_iconst 1615 dL_law_1614 rfl ?_
  refine zF_iadd 1616 dL_law_1615 rfl ?_
  refine zF_sload 1617 dL_law_1616 rfl hX (by omega) (by omega) ?_
  refine zF_aload_n 1618 dL_law_1617 rfl rfl ?_
  refine zF_iload 1620 dL_law_1618 rfl rfl ?_
  refine zF_iconst 1621 dL_law_1620 rfl ?_
  refine zF_iadd 1622 dL_law_1621 rfl ?_
  refine zF_sload 1623 dL_law_1622 rfl hX (by omega) (by omega) ?_
  refine zF_aload_n 1624 dL_law_1623 rfl rfl ?_
  refine zF_iload 1626 dL_law_1624 rfl rfl ?_
  refine zF_iconst 1627 dL_law_1626 rfl ?_
  refine zF_iadd 1628 dL_law_1627 rfl ?_
  refine zF_sload 1629 dL_law_1628 rfl hX (by omega) (by omega) ?_
  refine zF_aload_n 1630 dL_law_1629 rfl rfl ?_
  refine zF_iload 1632 dL_law_1630 rfl rfl ?_
  refine zF_iconst 1633 dL_law_1632 rfl ?_
  refine zF_iadd 1634 dL_law_1633 rfl ?_
  refine zF_sload 1635 dL_law_1634 rfl hX (by omega) (by omega) ?_
  refine zF_aload_n 1636 dL_law_1635 rfl rfl ?_
  refine zF_callSH 1639 (d2 := d + 39) (as := [zR (B0 0), zI (lx xs i 1), zI (lx xs i 2), zI (lx xs i 3), zI (lx xs i 4), zR 245]) (rest := []) dL_law_1636 rfl kLH_split sL_split (by omega) rfl rfl (Nat.le_of_ble_eq_true rfl) ⟨zwO, zwR hs.bl, zwR hs.ml, zwR hs.ol, trivial, trivial⟩ trivial (zEH.mono (zl_split (d2 := d + 14) (by omega) hs.bk hs.bl hs.ol (zt_X11_split hGd hs.cO hs.cHs hc.1.1 hD.gs (zrg_x _) (zrg_x _) (zrg_x _) (zrg_x _)) (lQ_copM hs) hNx) fun ro σ1 hh => ?_)
  obtain ⟨er, ev, ⟨s1, b1⟩, c1, m1⟩ := lq_copM hn J hh
  subst er
  refine ⟨_, rfl, ?_⟩
  show zF G _ _ _ _ [zI _] σ1 _
  refine zF_istore 1641 (ls' := (5, zI _) :: lLs i) dL_law_1639 rfl (by decide) rfl ?_
  refine zF_aload_n 1642 dL_law_1641 rfl rfl ?_
  refine zF_aload_n 1643 dL_law_1642 rfl rfl ?_
  refine zF_iload 1645 dL_law_1643 rfl rfl ?_
  refine zF_iconst 1646 dL_law_1645 rfl ?_
  refine zF_iadd 1647 dL_law_1646 rfl ?_
  refine zF_sload 1648 dL_law_1647 rfl hX (by omega) (by omega) ?_
  refine zF_aload_n 1649 dL_law_1648 rfl rfl ?_
  refine zF_iload 1651 dL_law_1649 rfl rfl ?_
  refine zF_iconst 1652 dL_law_1651 rfl ?_
  refine zF_iadd 1653 dL_law_1652 rfl ?_
  refine zF_sload 1654 dL_law_1653 rfl hX (by omega) (by omega) ?_
  refine zF_aload_n 1655 dL_law_1654 rfl rfl ?_
  refine zF_iload 1657 dL_law_1655 rfl rfl ?_
  refine zF_iconst 1658 dL_law_1657 rfl ?_
  refine zF_iadd 1659 dL_law_1658 rfl ?_
  refine zF_sload 1660 dL_law_1659 rfl hX (by omega) (by omega) ?_
  refine zF_aload_n 1661 dL_law_1660 rfl rfl ?_
  refine zF_iload 1663 dL_law_1661 rfl rfl ?_
  refine zF_iconst 1664 dL_law_1663 rfl ?_
  refine zF_iadd 1665 dL_law_1664 rfl ?_
  refine zF_sload 1666 dL_law_1665 rfl hX (by omega) (by omega) ?_
  refine zF_callV 1669 (d2 := d + 16) (as := [zI (lx xs i 1), zI (lx xs i 2), zI (lx xs i 3), zI (lx xs i 4)]) dL_law_1666 rfl kLX12_split iX12_split (ci := 12) rfl eX12_split (by omega) s1.zMo.1 s1.zMo.2.1 rfl rfl (Nat.le_of_ble_eq_true rfl) (zE.mono (zt_X12_split s1.zMo m1.1.1 hD.gs (zrg_x _) (zrg_x _) (zrg_x _) (zrg_x _)) fun r σ2 hh2 => ?_)
  obtain ⟨x, er2, en, e5, ex, eo, ⟨s2, b2⟩, c2, m2⟩ := lq_mopM s1 b1 hv c1 m1 hh2
  subst er2
  rw [← eo] at ev
  refine ⟨en, ?_⟩
  show zF G _ _ _ _ [zI x] σ2 _
  refine zF_istore 1671 (ls' := (6, zI x) :: (5, zI _) :: lLs i) dL_law_1669 rfl (by decide) rfl ?_
  refine lw_tail 1671 dL_law_1671 dL_law_1672 dL_law_1675 dL_law_1677 dL_law_1682 dL_law_1684 dL_law_1687 dL_law_1688 dL_law_1689 dL_law_1690 dL_law_1692 dL_law_1693 dL_law_1694 dL_law_1699 (by decide) (by repeat' (first | exact lk3_0 | exact lk3_1 | exact lk3_2 | refine lk3_if ?_ ?_)) (lkc_2 _) e5 ev ex s2 ?_
  refine K σ2 ⟨_, Sn, sf, cc, ep, t, l, vv, cap, ⟨s2, b2, hv⟩, ⟨lD_ite (hD.up (by push_cast; omega)) fun hk => ?_, hT, hL⟩, c2, m2⟩
  split at hk
  · rename_i p1
    split at hk
    · rename_i p2
      split at hk
      · rename_i p3
        split at hk
        · rename_i p4
          exact (lD_bk hD ⟨p1, ⟨by omega, p2.2⟩, Or.inr ⟨p3.1, p3.2, p4.2.1, p4.2.2, p4.1, p2.1⟩⟩ p2.1).up (by push_cast; omega)
        · exact absurd hk (by decide)
      · exact absurd hk (by decide)
    · exact absurd hk (by decide)
  · exact absurd hk (by decide)
theorem lw_empty (hg : lGd G L xs) (i0 : 0 ≤ i) (i6 : i + 6 ≤ (L : Int)) (hn : n < 512) (J : lI n σ) (K : ∀ σ1, lI (n + 1) σ1 → zF G mL_law (d + 40) 2286 (lLs i) [] σ1 Q) : zF G mL_law (d + 40) 1702 (lLs i) [] σ Q := by
  obtain ⟨S, Sn, sf, cc, ep, t, l, vv, cap, J⟩ := J
  obtain ⟨⟨hs, hb, hv⟩, ⟨hD, hT, hL⟩, hc, hm⟩ := id J
  obtain ⟨hGd, hG, hOD, hOP, hX, hNx⟩ := hg
  have gn := hD.gn
  have hR := hc.1.1.1
  have hTm : ((n : Nat) : Int) < 1000000 := by omega
  have hTc : ((n : Nat) : Int) ≤ 20000 := by omega
  show zF G mL_law (d + 40) 1702 [(0, zR (zbg + 500)), (1, zR (B0 0)), (2, zR 228), (3, zR 245), (4, zI i)] [] σ _
  refine zF_aload_n 1703 dL_law_1702 rfl rfl ?_
  refine zF_aload_n 1704 dL_law_1703 rfl rfl ?_
  refine zF_iload 1706 dL_law_1704 rfl rfl ?_
  refine zF_iconst 1707 dL_law_1706 rfl ?_
  refine zF_iadd 1708 dL_law_1707 rfl ?_
  refine zF_sload 1709 dL_law_1708 rfl hX (by omega) (by omega) ?_
  refine zF_aload_n 1710 dL_law_1709 rfl rfl ?_
  refine zF_callSH 1713 (d2 := d + 39) (as := [zR (B0 0), zI (lx xs i 1), zR 245]) (rest := []) dL_law_1710 rfl kLH_empty sL_empty (by omega) rfl rfl (Nat.le_of_ble_eq_true rfl) ⟨zwO, zwR hs.bl, zwR hs.ml, zwR hs.ol, trivial, trivial⟩ trivial (zEH.mono (zl_empty (d2 := d + 14) (by omega) hs.bk hs.bl hs.ol (zt_X11_empty hGd hs.cO hs.cHs hc.1.1 hD.gs (zrg_x _)) (lQ_copM hs) (nI_copM (by repeat' (first | exact lk2_0 | exact lk2_1 | refine lk2_if ?_ ?_)))) fun ro σ1 hh => ?_)
  obtain ⟨er, ev, ⟨s1, b1⟩, c1, m1⟩ := lq_copM hn J hh
  subst er
  refine ⟨_, rfl, ?_⟩
  show zF G _ _ _ _ [zI _] σ1 _
  refine zF_istore 1715 (ls' := (5, zI _) :: lLs i) dL_law_1713 rfl (by decide) rfl ?_
  refine zF_aload_n 1716 dL_law_1715 rfl rfl ?_
  refine zF_aload_n 1717 dL_law_1716 rfl rfl ?_
  refine zF_iload 1719 dL_law_1717 rfl rfl ?_
  refine zF_iconst 1720 dL_law_1719 rfl ?_
  refine zF_iadd 1721 dL_law_1720 rfl ?_
  refine zF_sload 1722 dL_law_1721 rfl hX (by omega) (by omega) ?_
  refine zF_callV 1725 (d2 := d + 16) (as := [zI (lx xs i 1)]) dL_law_1722 rfl kLX12_empty iX12_empty (ci := 12) rfl eX12_empty (by omega) s1.zMo.1 s1.zMo.2.1 rfl rfl (Nat.le_of_ble_eq_true rfl) (zE.mono (zt_X12_empty s1.zMo m1.1.1 hD.gs (zrg_x _)) fun r σ2 hh2 => ?_)
  obtain ⟨x, er2, en, e5, ex, eo, ⟨s2, b2⟩, c2, m2⟩ := lq_mopM s1 b1 hv c1 m1 hh2
  subst er2
  rw [← eo] at ev
  refine ⟨en, ?_⟩
  show zF G _ _ _ _ [zI x] σ2 _
  refine zF_istore 1727 (ls' := (6, zI x) :: (5, zI _) :: lLs i) dL_law_1725 rfl (by decide) rfl ?_
  refine lw_tail 1727 dL_law_1727 dL_law_1728 dL_law_1731 dL_law_1733 dL_law_1738 dL_law_1740 dL_law_1743 dL_law_1744 dL_law_1745 dL_law_1746 dL_law_1748 dL_law_1749 dL_law_1750 dL_law_1755 (by decide) (by repeat' (first | exact lk3_0 | exact lk3_1 | exact lk3_2 | refine lk3_if ?_ ?_)) (lkc_1 (by repeat' (first | exact lk2_0 | exact lk2_1 | refine lk2_if ?_ ?_))) e5 ev ex s2 ?_
  refine K σ2 ⟨_, Sn, sf, cc, ep, t, l, vv, cap, ⟨s2, b2, hv⟩, ⟨lD_ite (hD.up (by push_cast; omega)) fun hk => ?_, hT, hL⟩, c2, m2⟩
  split at hk
  · rename_i p1
    exact (lD_em hD p1.1 p1.2).up (by push_cast; omega)
  · exact absurd hk (by decide)
theorem lw_move (hg : lGd G L xs) (i0 : 0 ≤ i) (i6 : i + 6 ≤ (L : Int)) (hn : n < 512) (J : lI n σ) (K : ∀ σ1, lI (n + 1) σ1 → zF G mL_law (d + 40) 2286 (lLs i) [] σ1 Q) : zF G mL_law (d + 40) 1758 (lLs i) [] σ Q := by
  obtain ⟨S, Sn, sf, cc, ep, t, l, vv, cap, J⟩ := J
  obtain ⟨⟨hs, hb, hv⟩, ⟨hD, hT, hL⟩, hc, hm⟩ := id J
  obtain ⟨hGd, hG, hOD, hOP, hX, hNx⟩ := hg
  have gn := hD.gn
  have hR := hc.1.1.1
  have hTm : ((n : Nat) : Int) < 1000000 := by omega
  have hTc : ((n : Nat) : Int) ≤ 20000 := by omega
  show zF G mL_law (d + 40) 1758 [(0, zR (zbg + 500)), (1, zR (B0 0)), (2, zR 228), (3, zR 245), (4, zI i)] [] σ _
  refine zF_aload_n 1759 dL_law_1758 rfl rfl ?_
  refine zF_aload_n 1760 dL_law_1759 rfl rfl ?_
  refine zF_iload 1762 dL_law_1760 rfl rfl ?_
  refine zF_iconst 1763 dL_law_1762 rfl ?_
  refine zF_iadd 1764 dL_law_1763 rfl ?_
  refine zF_sload 1765 dL_law_1764 rfl hX (by omega) (by omega) ?_
  refine zF_aload_n 1766 dL_law_1765 rfl rfl ?_
  refine zF_iload 1768 dL_law_1766 rfl rfl ?_
  refine zF_iconst 1769 dL_law_1768 rfl ?_
  refine zF_iadd 1770 dL_law_1769 rfl ?_
  refine zF_sload 1771 dL_law_1770 rfl hX (by omega) (by omega) ?_
  refine zF_aload_n 1772 dL_law_1771 rfl rfl ?_
  refine zF_iload 1774 dL_law_1772 rfl rfl ?_
  refine zF_iconst 1775 dL_law_1774 rfl ?_
  refine zF_iadd 1776 dL_law_1775 rfl ?_
  refine zF_sload 1777 dL_law_1776 rfl hX (by omega) (by omega) ?_
  refine zF_aload_n 1778 dL_law_1777 rfl rfl ?_
  refine zF_callSH 1781 (d2 := d + 39) (as := [zR (B0 0), zI (lx xs i 1), zI (lx xs i 2), zI (lx xs i 3), zR 245]) (rest := []) dL_law_1778 rfl kLH_move sL_move (by omega) rfl rfl (Nat.le_of_ble_eq_true rfl) ⟨zwO, zwR hs.bl, zwR hs.ml, zwR hs.ol, trivial, trivial⟩ trivial (zEH.mono (zl_move (d2 := d + 14) (by omega) hs.bk hs.bl hs.ol (zt_X11_move hGd hs.cO hs.cHs hc.1.1 hD.gs hTm (zrg_x _) (zrg_x _) (zrg_x _)) (lQ_copM hs) hNx) fun ro σ1 hh => ?_)
  obtain ⟨er, ev, ⟨s1, b1⟩, c1, m1⟩ := lq_copM hn J hh
  subst er
  refine ⟨_, rfl, ?_⟩
  show zF G _ _ _ _ [zI _] σ1 _
  refine zF_istore 1783 (ls' := (5, zI _) :: lLs i) dL_law_1781 rfl (by decide) rfl ?_
  refine zF_aload_n 1784 dL_law_1783 rfl rfl ?_
  refine zF_aload_n 1785 dL_law_1784 rfl rfl ?_
  refine zF_iload 1787 dL_law_1785 rfl rfl ?_
  refine zF_iconst 1788 dL_law_1787 rfl ?_
  refine zF_iadd 1789 dL_law_1788 rfl ?_
  refine zF_sload 1790 dL_law_1789 rfl hX (by omega) (by omega) ?_
  refine zF_aload_n 1791 dL_law_1790 rfl rfl ?_
  refine zF_iload 1793 dL_law_1791 rfl rfl ?_
  refine zF_iconst 1794 dL_law_1793 rfl ?_
  refine zF_iadd 1795 dL_law_1794 rfl ?_
  refine zF_sload 1796 dL_law_1795 rfl hX (by omega) (by omega) ?_
  refine zF_aload_n 1797 dL_law_1796 rfl rfl ?_
  refine zF_iload 1799 dL_law_1797 rfl rfl ?_
  refine zF_iconst 1800 dL_law_1799 rfl ?_
  refine zF_iadd 1801 dL_law_1800 rfl ?_
  refine zF_sload 1802 dL_law_1801 rfl hX (by omega) (by omega) ?_
  refine zF_callV 1805 (d2 := d + 16) (as := [zI (lx xs i 1), zI (lx xs i 2), zI (lx xs i 3)]) dL_law_1802 rfl kLX12_move iX12_move (ci := 12) rfl eX12_move (by omega) s1.zMo.1 s1.zMo.2.1 rfl rfl (Nat.le_of_ble_eq_true rfl) (zE.mono (zt_X12_move s1.zMo m1.1.1 hD.gs (zrg_x _) (zrg_x _) (zrg_x _)) fun r σ2 hh2 => ?_)
  obtain ⟨x, er2, en, e5, ex, eo, ⟨s2, b2⟩, c2, m2⟩ := lq_mopM s1 b1 hv c1 m1 hh2
  subst er2
  rw [← eo] at ev
  refine ⟨en, ?_⟩
  show zF G _ _ _ _ [zI x] σ2 _
  refine zF_istore 1807 (ls' := (6, zI x) :: (5, zI _) :: lLs i) dL_law_1805 rfl (by decide) rfl ?_
  refine lw_tail 1807 dL_law_1807 dL_law_1808 dL_law_1811 dL_law_1813 dL_law_1818 dL_law_1820 dL_law_1823 dL_law_1824 dL_law_1825 dL_law_1826 dL_law_1828 dL_law_1829 dL_law_1830 dL_law_1835 (by decide) (by repeat' (first | exact lk3_0 | exact lk3_1 | exact lk3_2 | refine lk3_if ?_ ?_)) (lkc_2 _) e5 ev ex s2 ?_
  refine K σ2 ⟨_, Sn, sf, cc, ep, t, l, vv, cap, ⟨s2, b2, hv⟩, ⟨lD_ite (hD.up (by push_cast; omega)) fun hk => ?_, hT, hL⟩, c2, m2⟩
  split at hk
  · rename_i p1
    split at hk
    · rename_i p2
      split at hk
      · rename_i p3
        split at hk
        · rename_i p4
          exact (lD_mv hD hTm p1.1 p1.2 p2.1 p2.2 p3.1 p3.2 p4).up (by push_cast; omega)
        · exact absurd hk (by decide)
      · exact absurd hk (by decide)
    · exact absurd hk (by decide)
  · exact absurd hk (by decide)
theorem lw_program (hg : lGd G L xs) (i0 : 0 ≤ i) (i6 : i + 6 ≤ (L : Int)) (hn : n < 512) (J : lI n σ) (K : ∀ σ1, lI (n + 1) σ1 → zF G mL_law (d + 40) 2286 (lLs i) [] σ1 Q) : zF G mL_law (d + 40) 1851 (lLs i) [] σ Q := by
  obtain ⟨S, Sn, sf, cc, ep, t, l, vv, cap, J⟩ := J
  obtain ⟨⟨hs, hb, hv⟩, ⟨hD, hT, hL⟩, hc, hm⟩ := id J
  obtain ⟨hGd, hG, hOD, hOP, hX, hNx⟩ := hg
  have gn := hD.gn
  have hR := hc.1.1.1
  have hTm : ((n : Nat) : Int) < 1000000 := by omega
  have hTc : ((n : Nat) : Int) ≤ 20000 := by omega
  show zF G mL_law (d + 40) 1851 [(0, zR (zbg + 500)), (1, zR (B0 0)), (2, zR 228), (3, zR 245), (4, zI i)] [] σ _
  refine zF_aload_n 1852 dL_law_1851 rfl rfl ?_
  refine zF_aload_n 1853 dL_law_1852 rfl rfl ?_
  refine zF_iload 1855 dL_law_1853 rfl rfl ?_
  refine zF_iconst 1856 dL_law_1855 rfl ?_
  refine zF_iadd 1857 dL_law_1856 rfl ?_
  refine zF_sload 1858 dL_law_1857 rfl hX (by omega) (by omega) ?_
  refine zF_aload_n 1859 dL_law_1858 rfl rfl ?_
  refine zF_callSH 1862 (d2 := d + 39) (as := [zR (B0 0), zI (lx xs i 1), zR 245]) (rest := []) dL_law_1859 rfl kLH_program sL_program (by omega) rfl rfl (Nat.le_of_ble_eq_true rfl) ⟨zwO, zwR hs.bl, zwR hs.ml, zwR hs.ol, trivial, trivial⟩ trivial (zEH.mono (zl_program (d2 := d + 14) (by omega) hs.bk hs.bl hs.ol (zt_X11_program hGd hs.cO hs.cHs hc.1.1 hD.gs hs.cPr hc.1.2.1 (zrg_x _)) (lQ_copM hs) (nI_copM (by repeat' (first | exact lk2_0 | exact lk2_1 | refine lk2_if ?_ ?_)))) fun ro σ1 hh => ?_)
  obtain ⟨er, ev, ⟨s1, b1⟩, c1, m1⟩ := lq_copM hn J hh
  subst er
  refine ⟨_, rfl, ?_⟩
  show zF G _ _ _ _ [zI _] σ1 _
  refine zF_istore 1864 (ls' := (5, zI _) :: lLs i) dL_law_1862 rfl (by decide) rfl ?_
  refine zF_aload_n 1865 dL_law_1864 rfl rfl ?_
  refine zF_aload_n 1866 dL_law_1865 rfl rfl ?_
  refine zF_iload 1868 dL_law_1866 rfl rfl ?_
  refine zF_iconst 1869 dL_law_1868 rfl ?_
  refine zF_iadd 1870 dL_law_1869 rfl ?_
  refine zF_sload 1871 dL_law_1870 rfl hX (by omega) (by omega) ?_
  refine zF_callV 1874 (d2 := d + 16) (as := [zI (lx xs i 1)]) dL_law_1871 rfl kLX12_program iX12_program (ci := 12) rfl eX12_program (by omega) s1.zMo.1 s1.zMo.2.1 rfl rfl (Nat.le_of_ble_eq_true rfl) (zE.mono (zt_X12_program s1.zMo m1.1.1 hD.gs (zrg_x _)) fun r σ2 hh2 => ?_)
  obtain ⟨x, er2, en, e5, ex, eo, ⟨s2, b2⟩, c2, m2⟩ := lq_mopM s1 b1 hv c1 m1 hh2
  subst er2
  rw [← eo] at ev
  refine ⟨en, ?_⟩
  show zF G _ _ _ _ [zI x] σ2 _
  refine zF_istore 1876 (ls' := (6, zI x) :: (5, zI _) :: lLs i) dL_law_1874 rfl (by decide) rfl ?_
  refine lw_tail 1876 dL_law_1876 dL_law_1877 dL_law_1880 dL_law_1882 dL_law_1887 dL_law_1889 dL_law_1892 dL_law_1893 dL_law_1894 dL_law_1895 dL_law_1897 dL_law_1898 dL_law_1899 dL_law_1904 (by decide) (by repeat' (first | exact lk3_0 | exact lk3_1 | exact lk3_2 | refine lk3_if ?_ ?_)) (lkc_1 (by repeat' (first | exact lk2_0 | exact lk2_1 | refine lk2_if ?_ ?_))) e5 ev ex s2 ?_
  refine K σ2 ⟨_, Sn, sf, cc, ep, t, l, vv, cap, ⟨s2, b2, hv⟩, ⟨lD_ite (hD.up (by push_cast; omega)) fun hk => ?_, hT, hL⟩, c2, m2⟩
  split at hk
  · rename_i p1
    exact (lD_pr G hs.zMo hm.1.1.1 hD p1.1 p1.2).up (by push_cast; omega)
  · exact absurd hk (by decide)
theorem lw_setHoldover (hg : lGd G L xs) (i0 : 0 ≤ i) (i6 : i + 6 ≤ (L : Int)) (hn : n < 512) (J : lI n σ) (K : ∀ σ1, lI (n + 1) σ1 → zF G mL_law (d + 40) 2286 (lLs i) [] σ1 Q) : zF G mL_law (d + 40) 1907 (lLs i) [] σ Q := by
  obtain ⟨S, Sn, sf, cc, ep, t, l, vv, cap, J⟩ := J
  obtain ⟨⟨hs, hb, hv⟩, ⟨hD, hT, hL⟩, hc, hm⟩ := id J
  obtain ⟨hGd, hG, hOD, hOP, hX, hNx⟩ := hg
  have gn := hD.gn
  have hR := hc.1.1.1
  have hTm : ((n : Nat) : Int) < 1000000 := by omega
  have hTc : ((n : Nat) : Int) ≤ 20000 := by omega
  show zF G mL_law (d + 40) 1907 [(0, zR (zbg + 500)), (1, zR (B0 0)), (2, zR 228), (3, zR 245), (4, zI i)] [] σ _
  refine zF_aload_n 1908 dL_law_1907 rfl rfl ?_
  refine zF_aload_n 1909 dL_law_1908 rfl rfl ?_
  refine zF_iload 1911 dL_law_1909 rfl rfl ?_
  refine zF_iconst 1912 dL_law_1911 rfl ?_
  refine zF_iadd 1913 dL_law_1912 rfl ?_
  refine zF_sload 1914 dL_law_1913 rfl hX (by omega) (by omega) ?_
  refine zF_aload_n 1915 dL_law_1914 rfl rfl ?_
  refine zF_iload 1917 dL_law_1915 rfl rfl ?_
  refine zF_iconst 1918 dL_law_1917 rfl ?_
  refine zF_iadd 1919 dL_law_1918 rfl ?_
  refine zF_sload 1920 dL_law_1919 rfl hX (by omega) (by omega) ?_
  refine zF_aload_n 1921 dL_law_1920 rfl rfl ?_
  refine zF_callSH 1924 (d2 := d + 39) (as := [zR (B0 0), zI (lx xs i 1), zI (lx xs i 2), zR 245]) (rest := []) dL_law_1921 rfl kLH_setHoldover sL_setHoldover (by omega) rfl rfl (Nat.le_of_ble_eq_true rfl) ⟨zwO, zwR hs.bl, zwR hs.ml, zwR hs.ol, trivial, trivial⟩ trivial (zEH.mono (zl_setHoldover (d2 := d + 14) (by omega) hs.bk hs.bl hs.ol (zt_X11_setHoldover hGd hs.cO hs.cHs hc.1.1 hD.gs (zrg_x _) (zrg_x _)) (lQ_copM hs) hNx) fun ro σ1 hh => ?_)
  obtain ⟨er, ev, ⟨s1, b1⟩, c1, m1⟩ := lq_copM hn J hh
  subst er
  refine ⟨_, rfl, ?_⟩
  show zF G _ _ _ _ [zI _] σ1 _
  refine zF_istore 1926 (ls' := (5, zI _) :: lLs i) dL_law_1924 rfl (by decide) rfl ?_
  refine zF_aload_n 1927 dL_law_1926 rfl rfl ?_
  refine zF_aload_n 1928 dL_law_1927 rfl rfl ?_
  refine zF_iload 1930 dL_law_1928 rfl rfl ?_
  refine zF_iconst 1931 dL_law_1930 rfl ?_
  refine zF_iadd 1932 dL_law_1931 rfl ?_
  refine zF_sload 1933 dL_law_1932 rfl hX (by omega) (by omega) ?_
  refine zF_aload_n 1934 dL_law_1933 rfl rfl ?_
  refine zF_iload 1936 dL_law_1934 rfl rfl ?_
  refine zF_iconst 1937 dL_law_1936 rfl ?_
  refine zF_iadd 1938 dL_law_1937 rfl ?_
  refine zF_sload 1939 dL_law_1938 rfl hX (by omega) (by omega) ?_
  refine zF_callV 1942 (d2 := d + 16) (as := [zI (lx xs i 1), zI (lx xs i 2)]) dL_law_1939 rfl kLX12_setHoldover iX12_setHoldover (ci := 12) rfl eX12_setHoldover (by omega) s1.zMo.1 s1.zMo.2.1 rfl rfl (Nat.le_of_ble_eq_true rfl) (zE.mono (zt_X12_setHoldover s1.zMo m1.1.1 hD.gs (zrg_x _) (zrg_x _)) fun r σ2 hh2 => ?_)
  obtain ⟨x, er2, en, e5, ex, eo, ⟨s2, b2⟩, c2, m2⟩ := lq_mopM s1 b1 hv c1 m1 hh2
  subst er2
  rw [← eo] at ev
  refine ⟨en, ?_⟩
  show zF G _ _ _ _ [zI x] σ2 _
  refine zF_istore 1944 (ls' := (6, zI x) :: (5, zI _) :: lLs i) dL_law_1942 rfl (by decide) rfl ?_
  refine lw_tail 1944 dL_law_1944 dL_law_1945 dL_law_1948 dL_law_1950 dL_law_1955 dL_law_1957 dL_law_1960 dL_law_1961 dL_law_1962 dL_law_1963 dL_law_1965 dL_law_1966 dL_law_1967 dL_law_1972 (by decide) (by repeat' (first | exact lk3_0 | exact lk3_1 | exact lk3_2 | refine lk3_if ?_ ?_)) (lkc_2 _) e5 ev ex s2 ?_
  refine K σ2 ⟨_, Sn, sf, cc, ep, t, l, vv, cap, ⟨s2, b2, hv⟩, ⟨lD_ite (hD.up (by push_cast; omega)) fun hk => ?_, hT, hL⟩, c2, m2⟩
  split at hk
  · rename_i p1
    split at hk
    · rename_i p2
      exact (lD_ho hD hTm p1.1 p1.2 p2.1 p2.2).up (by push_cast; omega)
    · exact absurd hk (by decide)
  · exact absurd hk (by decide)
theorem lw_setRent (hg : lGd G L xs) (i0 : 0 ≤ i) (i6 : i + 6 ≤ (L : Int)) (hn : n < 512) (J : lI n σ) (K : ∀ σ1, lI (n + 1) σ1 → zF G mL_law (d + 40) 2286 (lLs i) [] σ1 Q) : zF G mL_law (d + 40) 1975 (lLs i) [] σ Q := by
  obtain ⟨S, Sn, sf, cc, ep, t, l, vv, cap, J⟩ := J
  obtain ⟨⟨hs, hb, hv⟩, ⟨hD, hT, hL⟩, hc, hm⟩ := id J
  obtain ⟨hGd, hG, hOD, hOP, hX, hNx⟩ := hg
  have gn := hD.gn
  have hR := hc.1.1.1
  have hTm : ((n : Nat) : Int) < 1000000 := by omega
  have hTc : ((n : Nat) : Int) ≤ 20000 := by omega
  show zF G mL_law (d + 40) 1975 [(0, zR (zbg + 500)), (1, zR (B0 0)), (2, zR 228), (3, zR 245), (4, zI i)] [] σ _
  refine zF_aload_n 1976 dL_law_1975 rfl rfl ?_
  refine zF_aload_n 1977 dL_law_1976 rfl rfl ?_
  refine zF_iload 1979 dL_law_1977 rfl rfl ?_
  refine zF_iconst 1980 dL_law_1979 rfl ?_
  refine zF_iadd 1981 dL_law_1980 rfl ?_
  refine zF_sload 1982 dL_law_1981 rfl hX (by omega) (by omega) ?_
  refine zF_aload_n 1983 dL_law_1982 rfl rfl ?_
  refine zF_iload 1985 dL_law_1983 rfl rfl ?_
  refine zF_iconst 1986 dL_law_1985 rfl ?_
  refine zF_iadd 1987 dL_law_1986 rfl ?_
  refine zF_sload 1988 dL_law_1987 rfl hX (by omega) (by omega) ?_
  refine zF_aload_n 1989 dL_law_1988 rfl rfl ?_
  refine zF_callSH 1992 (d2 := d + 39) (as := [zR (B0 0), zI (lx xs i 1), zI (lx xs i 2), zR 245]) (rest := []) dL_law_1989 rfl kLH_setRent sL_setRent (by omega) rfl rfl (Nat.le_of_ble_eq_true rfl) ⟨zwO, zwR hs.bl, zwR hs.ml, zwR hs.ol, trivial, trivial⟩ trivial (zEH.mono (zl_setRent (d2 := d + 14) (by omega) hs.bk hs.bl hs.ol (zt_X11_setRent hGd hs.cO hs.cHs hc.1.1 hD.gs (zrg_x _) (zrg_x _)) (lQ_copM hs) hNx) fun ro σ1 hh => ?_)
  obtain ⟨er, ev, ⟨s1, b1⟩, c1, m1⟩ := lq_copM hn J hh
  subst er
  refine ⟨_, rfl, ?_⟩
  show zF G _ _ _ _ [zI _] σ1 _
  refine zF_istore 1994 (ls' := (5, zI _) :: lLs i) dL_law_1992 rfl (by decide) rfl ?_
  refine zF_aload_n 1995 dL_law_1994 rfl rfl ?_
  refine zF_aload_n 1996 dL_law_1995 rfl rfl ?_
  refine zF_iload 1998 dL_law_1996 rfl rfl ?_
  refine zF_iconst 1999 dL_law_1998 rfl ?_
  refine zF_iadd 2000 dL_law_1999 rfl ?_
  refine zF_sload 2001 dL_law_2000 rfl hX (by omega) (by omega) ?_
  refine zF_aload_n 2002 dL_law_2001 rfl rfl ?_
  refine zF_iload 2004 dL_law_2002 rfl rfl ?_
  refine zF_iconst 2005 dL_law_2004 rfl ?_
  refine zF_iadd 2006 dL_law_2005 rfl ?_
  refine zF_sload 2007 dL_law_2006 rfl hX (by omega) (by omega) ?_
  refine zF_callV 2010 (d2 := d + 16) (as := [zI (lx xs i 1), zI (lx xs i 2)]) dL_law_2007 rfl kLX12_setRent iX12_setRent (ci := 12) rfl eX12_setRent (by omega) s1.zMo.1 s1.zMo.2.1 rfl rfl (Nat.le_of_ble_eq_true rfl) (zE.mono (zt_X12_setRent s1.zMo m1.1.1 hD.gs (zrg_x _) (zrg_x _)) fun r σ2 hh2 => ?_)
  obtain ⟨x, er2, en, e5, ex, eo, ⟨s2, b2⟩, c2, m2⟩ := lq_mopM s1 b1 hv c1 m1 hh2
  subst er2
  rw [← eo] at ev
  refine ⟨en, ?_⟩
  show zF G _ _ _ _ [zI x] σ2 _
  refine zF_istore 2012 (ls' := (6, zI x) :: (5, zI _) :: lLs i) dL_law_2010 rfl (by decide) rfl ?_
  refine lw_tail 2012 dL_law_2012 dL_law_2013 dL_law_2016 dL_law_2018 dL_law_2023 dL_law_2025 dL_law_2028 dL_law_2029 dL_law_2030 dL_law_2031 dL_law_2033 dL_law_2034 dL_law_2035 dL_law_2040 (by decide) (by repeat' (first | exact lk3_0 | exact lk3_1 | exact lk3_2 | refine lk3_if ?_ ?_)) (lkc_2 _) e5 ev ex s2 ?_
  refine K σ2 ⟨_, Sn, sf, cc, ep, t, l, vv, cap, ⟨s2, b2, hv⟩, ⟨lD_ite (hD.up (by push_cast; omega)) fun hk => ?_, hT, hL⟩, c2, m2⟩
  split at hk
  · rename_i p1
    split at hk
    · rename_i p2
      exact (lD_rn hD hTm p1.1 p1.2 p2.1 p2.2).up (by push_cast; omega)
    · exact absurd hk (by decide)
  · exact absurd hk (by decide)
theorem lw_setFee (hg : lGd G L xs) (i0 : 0 ≤ i) (i6 : i + 6 ≤ (L : Int)) (hn : n < 512) (J : lI n σ) (K : ∀ σ1, lI (n + 1) σ1 → zF G mL_law (d + 40) 2286 (lLs i) [] σ1 Q) : zF G mL_law (d + 40) 2043 (lLs i) [] σ Q := by
  obtain ⟨S, Sn, sf, cc, ep, t, l, vv, cap, J⟩ := J
  obtain ⟨⟨hs, hb, hv⟩, ⟨hD, hT, hL⟩, hc, hm⟩ := id J
  obtain ⟨hGd, hG, hOD, hOP, hX, hNx⟩ := hg
  have gn := hD.gn
  have hR := hc.1.1.1
  have hTm : ((n : Nat) : Int) < 1000000 := by omega
  have hTc : ((n : Nat) : Int) ≤ 20000 := by omega
  show zF G mL_law (d + 40) 2043 [(0, zR (zbg + 500)), (1, zR (B0 0)), (2, zR 228), (3, zR 245), (4, zI i)] [] σ _
  refine zF_aload_n 2044 dL_law_2043 rfl rfl ?_
  refine zF_aload_n 2045 dL_law_2044 rfl rfl ?_
  refine zF_iload 2047 dL_law_2045 rfl rfl ?_
  refine zF_iconst 2048 dL_law_2047 rfl ?_
  refine zF_iadd 2049 dL_law_2048 rfl ?_
  refine zF_sload 2050 dL_law_2049 rfl hX (by omega) (by omega) ?_
  refine zF_aload_n 2051 dL_law_2050 rfl rfl ?_
  refine zF_callSH 2054 (d2 := d + 39) (as := [zR (B0 0), zI (lx xs i 1), zR 245]) (rest := []) dL_law_2051 rfl kLH_setFee sL_setFee (by omega) rfl rfl (Nat.le_of_ble_eq_true rfl) ⟨zwO, zwR hs.bl, zwR hs.ml, zwR hs.ol, trivial, trivial⟩ trivial (zEH.mono (zl_setFee (d2 := d + 14) (by omega) hs.bk hs.bl hs.ol (zt_X11_setFee hGd hs.cO hs.cHs hc.1.1 hD.gs (zrg_x _)) (lQ_copM hs) (nN_copM (by split <;> decide))) fun ro σ1 hh => ?_)
  obtain ⟨er, ev, ⟨s1, b1⟩, c1, m1⟩ := lq_copM hn J hh
  subst er
  refine ⟨_, rfl, ?_⟩
  show zF G _ _ _ _ [zI _] σ1 _
  refine zF_istore 2056 (ls' := (5, zI _) :: lLs i) dL_law_2054 rfl (by decide) rfl ?_
  rw [ite_21] at c1
  replace ev := fun h => ev (ite_0 h)
  refine zF_aload_n 2057 dL_law_2056 rfl rfl ?_
  refine zF_aload_n 2058 dL_law_2057 rfl rfl ?_
  refine zF_iload 2060 dL_law_2058 rfl rfl ?_
  refine zF_iconst 2061 dL_law_2060 rfl ?_
  refine zF_iadd 2062 dL_law_2061 rfl ?_
  refine zF_sload 2063 dL_law_2062 rfl hX (by omega) (by omega) ?_
  refine zF_callV 2066 (d2 := d + 16) (as := [zI (lx xs i 1)]) dL_law_2063 rfl kLX12_setFee iX12_setFee (ci := 12) rfl eX12_setFee (by omega) s1.zMo.1 s1.zMo.2.1 rfl rfl (Nat.le_of_ble_eq_true rfl) (zE.mono (zt_X12_setFee s1.zMo m1.1.1 hD.gs (zrg_x _)) fun r σ2 hh2 => ?_)
  obtain ⟨x, er2, en, e5, ex, eo, ⟨s2, b2⟩, c2, m2⟩ := lq_mopM s1 b1 hv c1 m1 hh2
  subst er2
  rw [← eo] at ev
  refine ⟨en, ?_⟩
  show zF G _ _ _ _ [zI x] σ2 _
  refine zF_istore 2068 (ls' := (6, zI x) :: (5, zI _) :: lLs i) dL_law_2066 rfl (by decide) rfl ?_
  refine lw_tail 2068 dL_law_2068 dL_law_2069 dL_law_2072 dL_law_2074 dL_law_2079 dL_law_2081 dL_law_2084 dL_law_2085 dL_law_2086 dL_law_2087 dL_law_2089 dL_law_2090 dL_law_2091 dL_law_2096 (by decide) (by repeat' (first | exact lk3_0 | exact lk3_1 | exact lk3_2 | refine lk3_if ?_ ?_)) lkc_f e5 ev ex s2 ?_
  refine K σ2 ⟨_, Sn, sf, cc, ep, t, l, vv, cap, ⟨s2, b2, hv⟩, ⟨lD_ite (hD.up (by push_cast; omega)) fun hk => ?_, hT, hL⟩, c2, m2⟩
  split at hk
  · rename_i p1
    exact (lD_fee hD hTm p1.1 p1.2).up (by push_cast; omega)
  · exact absurd hk (by decide)
end ZLW
