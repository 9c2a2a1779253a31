section
variable {ret : Option FieldType}
set_option maxHeartbeats 4000000 in
theorem vL_law_1620 {G : GG} {κ : KK} {F b Ls : Nat} {xs : Nat → Int32} (C : Cx G κ cL_law "LarderPatrolLaw" ret 9 room_1) (S : CxS G κ b Ls xs) (T : κ.2.1.stackTraces = false) {c9 s9 : Nat} (hc : c9 + 3 ≤ 603072) (hs : s9 + 18 ≤ 7182442) {v5 : Int32} {kx : Mem → Option Bool} (hk : ∀ M : Mem, kx M = some true → V G κ 9 (c9 + 3) (s9 + 18) M 2596 [(0, .ref b), (1, .ref (gad G 0)), (2, .ref (gad G 119)), (3, .ref (gad G 129)), (4, .ref (gad G 130)), (5, .int v5)] []) : ∀ M : Mem, fL_law_1620 F Ls xs kx v5 M = some true → V G κ 9 c9 s9 M 1620 [(0, .ref b), (1, .ref (gad G 0)), (2, .ref (gad G 119)), (3, .ref (gad G 129)), (4, .ref (gad G 130)), (5, .int v5)] [] := by
  intro M h
  unfold fL_law_1620 at h
  refine V_wide (Nat.le_refl (c9 + 0)) (Nat.le_refl (s9 + 0)) ?_
  refine V_aload_n 1620 C 1 dL_law_1620 rfl ?_
  obtain ⟨r387, M385, k386, h⟩ := bindM_some h
  refine V_callI 1621 (runVO (k := 0) (rest := []) 1621 C (kX11_minute  k386) cf_X11_minute wk_2_102 (ltl (by rfl) rfl) (ceR_X11 (by rfl)) rfl rfl rfl rfl dL_law_1621 rfl rfl (show c9 + _ ≤ 603072 by omega) (show s9 + _ ≤ 7182442 by omega)) ?_
  refine V_aload_n 1624 C 2 dL_law_1624 rfl ?_
  obtain ⟨r390, M388, k389, h⟩ := bindM_some h
  refine V_callI 1625 (runVO (k := 119) (rest := [.int r387]) 1625 C (kX12_minute  k389) cf_X12_minute wk_7_232 (ltl (by rfl) rfl) (ceR_X12 (by rfl)) rfl rfl rfl rfl dL_law_1625 rfl rfl (show c9 + _ ≤ 603072 by omega) (show s9 + _ ≤ 7182442 by omega)) ?_
  refine V_icmp_eq 1628 2596 C dL_law_1628 (by decide) (fun c391 => ?_) (fun c391 => ?_)
  · replace h := ite_t c391 h
    exact V_wide (by omega) (by omega) (hk _ h)
  · replace h := ite_f c391 h
    refine V_iconst 1631 C dL_law_1631 ic0 ?_
    cases h
set_option maxHeartbeats 4000000 in
theorem vL_law_1633 {G : GG} {κ : KK} {F b Ls : Nat} {xs : Nat → Int32} (C : Cx G κ cL_law "LarderPatrolLaw" ret 9 room_1) (S : CxS G κ b Ls xs) (T : κ.2.1.stackTraces = false) {c9 s9 : Nat} (hc : c9 + 3 ≤ 603072) (hs : s9 + 18 ≤ 7182442) {v5 : Int32} {kx : Mem → Option Bool} (hk : ∀ M : Mem, kx M = some true → V G κ 9 (c9 + 3) (s9 + 18) M 2596 [(0, .ref b), (1, .ref (gad G 0)), (2, .ref (gad G 119)), (3, .ref (gad G 129)), (4, .ref (gad G 130)), (5, .int v5)] []) : ∀ M : Mem, fL_law_1633 F Ls xs kx v5 M = some true → V G κ 9 c9 s9 M 1633 [(0, .ref b), (1, .ref (gad G 0)), (2, .ref (gad G 119)), (3, .ref (gad G 129)), (4, .ref (gad G 130)), (5, .int v5)] [] := by
  intro M h
  unfold fL_law_1633 at h
  refine V_wide (Nat.le_refl (c9 + 0)) (Nat.le_refl (s9 + 0)) ?_
  refine V_aload_n 1633 C 1 dL_law_1633 rfl ?_
  obtain ⟨r394, M392, k393, h⟩ := bindM_some h
  refine V_callI 1634 (runVO (k := 0) (rest := []) 1634 C (kX11_mouseCount  k393) cf_X11_mouseCount wk_2_106 (ltl (by rfl) rfl) (ceR_X11 (by rfl)) rfl rfl rfl rfl dL_law_1634 rfl rfl (show c9 + _ ≤ 603072 by omega) (show s9 + _ ≤ 7182442 by omega)) ?_
  refine V_aload_n 1637 C 2 dL_law_1637 rfl ?_
  obtain ⟨r397, M395, k396, h⟩ := bindM_some h
  refine V_callI 1638 (runVO (k := 119) (rest := [.int r394]) 1638 C (kX12_mouseCount  k396) cf_X12_mouseCount wk_7_236 (ltl (by rfl) rfl) (ceR_X12 (by rfl)) rfl rfl rfl rfl dL_law_1638 rfl rfl (show c9 + _ ≤ 603072 by omega) (show s9 + _ ≤ 7182442 by omega)) ?_
  refine V_icmp_eq 1641 2596 C dL_law_1641 (by decide) (fun c398 => ?_) (fun c398 => ?_)
  · replace h := ite_t c398 h
    exact V_wide (by omega) (by omega) (hk _ h)
  · replace h := ite_f c398 h
    refine V_iconst 1644 C dL_law_1644 ic0 ?_
    cases h
set_option maxHeartbeats 4000000 in
theorem vL_law_1646 {G : GG} {κ : KK} {F b Ls : Nat} {xs : Nat → Int32} (C : Cx G κ cL_law "LarderPatrolLaw" ret 9 room_1) (S : CxS G κ b Ls xs) (T : κ.2.1.stackTraces = false) {c9 s9 : Nat} (hc : c9 + 3 ≤ 603072) (hs : s9 + 18 ≤ 7182442) {v5 : Int32} {kx : Mem → Option Bool} (hk : ∀ M : Mem, kx M = some true → V G κ 9 (c9 + 3) (s9 + 18) M 2596 [(0, .ref b), (1, .ref (gad G 0)), (2, .ref (gad G 119)), (3, .ref (gad G 129)), (4, .ref (gad G 130)), (5, .int v5)] []) : ∀ M : Mem, fL_law_1646 F Ls xs kx v5 M = some true → V G κ 9 c9 s9 M 1646 [(0, .ref b), (1, .ref (gad G 0)), (2, .ref (gad G 119)), (3, .ref (gad G 129)), (4, .ref (gad G 130)), (5, .int v5)] [] := by
  intro M h
  unfold fL_law_1646 at h
  refine V_wide (Nat.le_refl (c9 + 0)) (Nat.le_refl (s9 + 0)) ?_
  refine V_aload_n 1646 C 1 dL_law_1646 rfl ?_
  refine V_aload_n 1647 C 0 dL_law_1647 rfl ?_
  refine V_iload 1648 C 5 dL_law_1648 rfl ?_
  refine V_iconst 1650 C dL_law_1650 ic1 ?_
  refine V_iadd 1651 C dL_law_1651 ?_
  obtain ⟨c399, h⟩ := chk_some h
  refine V_sld 1652 C S dL_law_1652 c399 ?_
  refine V_aload_n 1653 C 3 dL_law_1653 rfl ?_
  obtain ⟨r400, M401, k402, h⟩ := bindM_some h
  refine V_callH (mc := 1) (ms := 6) (rest := []) 1654 C (kL_mouseShelf T k402) ch_L_mouseShelf wk_5_76 rfl rfl dL_law_1654 rfl rfl (show c9 + _ + _ ≤ 603072 by omega) (show s9 + _ + _ ≤ 7182442 by omega) ?_
  refine V_istore 1657 C [(6, .int r400), (0, .ref b), (1, .ref (gad G 0)), (2, .ref (gad G 119)), (3, .ref (gad G 129)), (4, .ref (gad G 130)), (5, .int v5)] dL_law_1657 rfl rfl ?_
  refine V_aload_n 1659 C 3 dL_law_1659 rfl ?_
  refine V_aload_n 1660 C 1 dL_law_1660 rfl ?_
  refine V_iload 1661 C 6 dL_law_1661 rfl ?_
  refine V_iconst 1663 C dL_law_1663 ic1 ?_
  refine V_iadd 1664 C dL_law_1664 ?_
  obtain ⟨c403, h⟩ := chk_some h
  refine V_sld 1665 C S dL_law_1665 c403 ?_
  obtain ⟨r406, M404, k405, h⟩ := bindM_some h
  refine V_callI 1666 (runVO (k := 119) (rest := []) 1666 C (kX12_mouseShelf  k405) cf_X12_mouseShelf wk_8_0 (ltl (by rfl) rfl) (ceR_X12 (by rfl)) rfl rfl rfl rfl dL_law_1666 rfl rfl (show c9 + _ ≤ 603072 by omega) (show s9 + _ ≤ 7182442 by omega)) ?_
  refine V_istore 1669 C [(7, .int r406), (6, .int r400), (0, .ref b), (1, .ref (gad G 0)), (2, .ref (gad G 119)), (3, .ref (gad G 129)), (4, .ref (gad G 130)), (5, .int v5)] dL_law_1669 rfl rfl ?_
  refine V_aload_n 1671 C 4 dL_law_1671 rfl ?_
  obtain ⟨r409, M407, k408, h⟩ := bindM_some h
  refine V_callI 1672 (runVO (k := 119) (rest := []) 1672 C (kX12_thrown  k408) cf_X12_thrown wk_6_124 (ltl (by rfl) rfl) (ceR_X12 (by rfl)) rfl rfl rfl rfl dL_law_1672 rfl rfl (show c9 + _ ≤ 603072 by omega) (show s9 + _ ≤ 7182442 by omega)) ?_
  refine V_iload 1675 C 1 dL_law_1675 rfl ?_
  refine V_icmp_eq 1677 1682 C dL_law_1677 (by decide) (fun c410 => ?_) (fun c410 => ?_)
  · replace h := ite_t c410 h
    refine V_iload 1682 C 1 dL_law_1682 rfl ?_
    refine V_if_ne 1684 1699 C dL_law_1684 (by decide) (fun c411 => ?_) (fun c411 => ?_)
    · replace h := ite_f c411 h
      refine V_goto 1699 2596 C dL_law_1699 (by decide) ?_
      refine V_sub [2, 3, 4, 5, 6, 7] rfl ?_
      exact V_wide (by omega) (by omega) (hk _ h)
    · replace h := ite_t c411 h
      refine V_aload_n 1687 C 5 dL_law_1687 rfl ?_
      refine V_iconst 1688 C dL_law_1688 ic0 ?_
      refine V_lald 1689 C dL_law_1689 (by rfl) ?_
      refine V_iload 1690 C 0 dL_law_1690 rfl ?_
      refine V_i2l 1692 C dL_law_1692 ?_
      refine V_lcmp 1693 C dL_law_1693 ?_
      refine V_if_eq 1694 1699 C dL_law_1694 (by decide) (fun c412 => ?_) (fun c412 => ?_)
      · replace h := ite_t c412 h
        refine V_goto 1699 2596 C dL_law_1699 (by decide) ?_
        refine V_sub [2, 3, 4, 5, 6, 7] rfl ?_
        exact V_wide (by omega) (by omega) (hk _ h)
      · replace h := ite_f c412 h
        refine V_iconst 1697 C dL_law_1697 ic0 ?_
        cases h
  · replace h := ite_f c410 h
    refine V_iconst 1680 C dL_law_1680 ic0 ?_
    cases h
set_option maxHeartbeats 4000000 in
theorem vL_law_1702 {G : GG} {κ : KK} {F b Ls : Nat} {xs : Nat → Int32} (C : Cx G κ cL_law "LarderPatrolLaw" ret 9 room_1) (S : CxS G κ b Ls xs) (T : κ.2.1.stackTraces = false) {c9 s9 : Nat} (hc : c9 + 3 ≤ 603072) (hs : s9 + 18 ≤ 7182442) {v5 : Int32} {kx : Mem → Option Bool} (hk : ∀ M : Mem, kx M = some true → V G κ 9 (c9 + 3) (s9 + 18) M 2596 [(0, .ref b), (1, .ref (gad G 0)), (2, .ref (gad G 119)), (3, .ref (gad G 129)), (4, .ref (gad G 130)), (5, .int v5)] []) : ∀ M : Mem, fL_law_1702 F Ls xs kx v5 M = some true → V G κ 9 c9 s9 M 1702 [(0, .ref b), (1, .ref (gad G 0)), (2, .ref (gad G 119)), (3, .ref (gad G 129)), (4, .ref (gad G 130)), (5, .int v5)] [] := by
  intro M h
  unfold fL_law_1702 at h
  refine V_wide (Nat.le_refl (c9 + 0)) (Nat.le_refl (s9 + 0)) ?_
  refine V_aload_n 1702 C 1 dL_law_1702 rfl ?_
  refine V_aload_n 1703 C 0 dL_law_1703 rfl ?_
  refine V_iload 1704 C 5 dL_law_1704 rfl ?_
  refine V_iconst 1706 C dL_law_1706 ic1 ?_
  refine V_iadd 1707 C dL_law_1707 ?_
  obtain ⟨c413, h⟩ := chk_some h
  refine V_sld 1708 C S dL_law_1708 c413 ?_
  refine V_aload_n 1709 C 3 dL_law_1709 rfl ?_
  obtain ⟨r414, M415, k416, h⟩ := bindM_some h
  refine V_callH (mc := 1) (ms := 6) (rest := []) 1710 C (kL_mouseEaten T k416) ch_L_mouseEaten wk_5_89 rfl rfl dL_law_1710 rfl rfl (show c9 + _ + _ ≤ 603072 by omega) (show s9 + _ + _ ≤ 7182442 by omega) ?_
  refine V_istore 1713 C [(6, .int r414), (0, .ref b), (1, .ref (gad G 0)), (2, .ref (gad G 119)), (3, .ref (gad G 129)), (4, .ref (gad G 130)), (5, .int v5)] dL_law_1713 rfl rfl ?_
  refine V_aload_n 1715 C 3 dL_law_1715 rfl ?_
  refine V_aload_n 1716 C 1 dL_law_1716 rfl ?_
  refine V_iload 1717 C 6 dL_law_1717 rfl ?_
  refine V_iconst 1719 C dL_law_1719 ic1 ?_
  refine V_iadd 1720 C dL_law_1720 ?_
  obtain ⟨c417, h⟩ := chk_some h
  refine V_sld 1721 C S dL_law_1721 c417 ?_
  obtain ⟨r420, M418, k419, h⟩ := bindM_some h
  refine V_callI 1722 (runVO (k := 119) (rest := []) 1722 C (kX12_mouseEaten  k419) cf_X12_mouseEaten wk_8_8 (ltl (by rfl) rfl) (ceR_X12 (by rfl)) rfl rfl rfl rfl dL_law_1722 rfl rfl (show c9 + _ ≤ 603072 by omega) (show s9 + _ ≤ 7182442 by omega)) ?_
  refine V_istore 1725 C [(7, .int r420), (6, .int r414), (0, .ref b), (1, .ref (gad G 0)), (2, .ref (gad G 119)), (3, .ref (gad G 129)), (4, .ref (gad G 130)), (5, .int v5)] dL_law_1725 rfl rfl ?_
  refine V_aload_n 1727 C 4 dL_law_1727 rfl ?_
  obtain ⟨r423, M421, k422, h⟩ := bindM_some h
  refine V_callI 1728 (runVO (k := 119) (rest := []) 1728 C (kX12_thrown  k422) cf_X12_thrown wk_6_124 (ltl (by rfl) rfl) (ceR_X12 (by rfl)) rfl rfl rfl rfl dL_law_1728 rfl rfl (show c9 + _ ≤ 603072 by omega) (show s9 + _ ≤ 7182442 by omega)) ?_
  refine V_iload 1731 C 1 dL_law_1731 rfl ?_
  refine V_icmp_eq 1733 1738 C dL_law_1733 (by decide) (fun c424 => ?_) (fun c424 => ?_)
  · replace h := ite_t c424 h
    refine V_iload 1738 C 1 dL_law_1738 rfl ?_
    refine V_if_ne 1740 1755 C dL_law_1740 (by decide) (fun c425 => ?_) (fun c425 => ?_)
    · replace h := ite_f c425 h
      refine V_goto 1755 2596 C dL_law_1755 (by decide) ?_
      refine V_sub [2, 3, 4, 5, 6, 7] rfl ?_
      exact V_wide (by omega) (by omega) (hk _ h)
    · replace h := ite_t c425 h
      refine V_aload_n 1743 C 5 dL_law_1743 rfl ?_
      refine V_iconst 1744 C dL_law_1744 ic0 ?_
      refine V_lald 1745 C dL_law_1745 (by rfl) ?_
      refine V_iload 1746 C 0 dL_law_1746 rfl ?_
      refine V_i2l 1748 C dL_law_1748 ?_
      refine V_lcmp 1749 C dL_law_1749 ?_
      refine V_if_eq 1750 1755 C dL_law_1750 (by decide) (fun c426 => ?_) (fun c426 => ?_)
      · replace h := ite_t c426 h
        refine V_goto 1755 2596 C dL_law_1755 (by decide) ?_
        refine V_sub [2, 3, 4, 5, 6, 7] rfl ?_
        exact V_wide (by omega) (by omega) (hk _ h)
      · replace h := ite_f c426 h
        refine V_iconst 1753 C dL_law_1753 ic0 ?_
        cases h
  · replace h := ite_f c424 h
    refine V_iconst 1736 C dL_law_1736 ic0 ?_
    cases h
set_option maxHeartbeats 4000000 in
theorem vL_law_1758 {G : GG} {κ : KK} {F b Ls : Nat} {xs : Nat → Int32} (C : Cx G κ cL_law "LarderPatrolLaw" ret 9 room_1) (S : CxS G κ b Ls xs) (T : κ.2.1.stackTraces = false) {c9 s9 : Nat} (hc : c9 + 3 ≤ 603072) (hs : s9 + 18 ≤ 7182442) {v5 : Int32} {kx : Mem → Option Bool} (hk : ∀ M : Mem, kx M = some true → V G κ 9 (c9 + 3) (s9 + 18) M 2596 [(0, .ref b), (1, .ref (gad G 0)), (2, .ref (gad G 119)), (3, .ref (gad G 129)), (4, .ref (gad G 130)), (5, .int v5)] []) : ∀ M : Mem, fL_law_1758 F Ls xs kx v5 M = some true → V G κ 9 c9 s9 M 1758 [(0, .ref b), (1, .ref (gad G 0)), (2, .ref (gad G 119)), (3, .ref (gad G 129)), (4, .ref (gad G 130)), (5, .int v5)] [] := by
  intro M h
  unfold fL_law_1758 at h
  refine V_wide (Nat.le_refl (c9 + 0)) (Nat.le_refl (s9 + 0)) ?_
  refine V_aload_n 1758 C 1 dL_law_1758 rfl ?_
  refine V_aload_n 1759 C 0 dL_law_1759 rfl ?_
  refine V_iload 1760 C 5 dL_law_1760 rfl ?_
  refine V_iconst 1762 C dL_law_1762 ic1 ?_
  refine V_iadd 1763 C dL_law_1763 ?_
  obtain ⟨c427, h⟩ := chk_some h
  refine V_sld 1764 C S dL_law_1764 c427 ?_
  refine V_aload_n 1765 C 3 dL_law_1765 rfl ?_
  obtain ⟨r428, M429, k430, h⟩ := bindM_some h
  refine V_callH (mc := 1) (ms := 6) (rest := []) 1766 C (kL_mouseHunger T k430) ch_L_mouseHunger wk_5_96 rfl rfl dL_law_1766 rfl rfl (show c9 + _ + _ ≤ 603072 by omega) (show s9 + _ + _ ≤ 7182442 by omega) ?_
  refine V_istore 1769 C [(6, .int r428), (0, .ref b), (1, .ref (gad G 0)), (2, .ref (gad G 119)), (3, .ref (gad G 129)), (4, .ref (gad G 130)), (5, .int v5)] dL_law_1769 rfl rfl ?_
  refine V_aload_n 1771 C 3 dL_law_1771 rfl ?_
  refine V_aload_n 1772 C 1 dL_law_1772 rfl ?_
  refine V_iload 1773 C 6 dL_law_1773 rfl ?_
  refine V_iconst 1775 C dL_law_1775 ic1 ?_
  refine V_iadd 1776 C dL_law_1776 ?_
  obtain ⟨c431, h⟩ := chk_some h
  refine V_sld 1777 C S dL_law_1777 c431 ?_
  obtain ⟨r434, M432, k433, h⟩ := bindM_some h
  refine V_callI 1778 (runVO (k := 119) (rest := []) 1778 C (kX12_mouseHunger  k433) cf_X12_mouseHunger wk_8_12 (ltl (by rfl) rfl) (ceR_X12 (by rfl)) rfl rfl rfl rfl dL_law_1778 rfl rfl (show c9 + _ ≤ 603072 by omega) (show s9 + _ ≤ 7182442 by omega)) ?_
  refine V_istore 1781 C [(7, .int r434), (6, .int r428), (0, .ref b), (1, .ref (gad G 0)), (2, .ref (gad G 119)), (3, .ref (gad G 129)), (4, .ref (gad G 130)), (5, .int v5)] dL_law_1781 rfl rfl ?_
  refine V_aload_n 1783 C 4 dL_law_1783 rfl ?_
  obtain ⟨r437, M435, k436, h⟩ := bindM_some h
  refine V_callI 1784 (runVO (k := 119) (rest := []) 1784 C (kX12_thrown  k436) cf_X12_thrown wk_6_124 (ltl (by rfl) rfl) (ceR_X12 (by rfl)) rfl rfl rfl rfl dL_law_1784 rfl rfl (show c9 + _ ≤ 603072 by omega) (show s9 + _ ≤ 7182442 by omega)) ?_
  refine V_iload 1787 C 1 dL_law_1787 rfl ?_
  refine V_icmp_eq 1789 1794 C dL_law_1789 (by decide) (fun c438 => ?_) (fun c438 => ?_)
  · replace h := ite_t c438 h
    refine V_iload 1794 C 1 dL_law_1794 rfl ?_
    refine V_if_ne 1796 1811 C dL_law_1796 (by decide) (fun c439 => ?_) (fun c439 => ?_)
    · replace h := ite_f c439 h
      refine V_goto 1811 2596 C dL_law_1811 (by decide) ?_
      refine V_sub [2, 3, 4, 5, 6, 7] rfl ?_
      exact V_wide (by omega) (by omega) (hk _ h)
    · replace h := ite_t c439 h
      refine V_aload_n 1799 C 5 dL_law_1799 rfl ?_
      refine V_iconst 1800 C dL_law_1800 ic0 ?_
      refine V_lald 1801 C dL_law_1801 (by rfl) ?_
      refine V_iload 1802 C 0 dL_law_1802 rfl ?_
      refine V_i2l 1804 C dL_law_1804 ?_
      refine V_lcmp 1805 C dL_law_1805 ?_
      refine V_if_eq 1806 1811 C dL_law_1806 (by decide) (fun c440 => ?_) (fun c440 => ?_)
      · replace h := ite_t c440 h
        refine V_goto 1811 2596 C dL_law_1811 (by decide) ?_
        refine V_sub [2, 3, 4, 5, 6, 7] rfl ?_
        exact V_wide (by omega) (by omega) (hk _ h)
      · replace h := ite_f c440 h
        refine V_iconst 1809 C dL_law_1809 ic0 ?_
        cases h
  · replace h := ite_f c438 h
    refine V_iconst 1792 C dL_law_1792 ic0 ?_
    cases h
set_option maxHeartbeats 4000000 in
theorem vL_law_1814 {G : GG} {κ : KK} {F b Ls : Nat} {xs : Nat → Int32} (C : Cx G κ cL_law "LarderPatrolLaw" ret 9 room_1) (S : CxS G κ b Ls xs) (T : κ.2.1.stackTraces = false) {c9 s9 : Nat} (hc : c9 + 3 ≤ 603072) (hs : s9 + 18 ≤ 7182442) {v5 : Int32} {kx : Mem → Option Bool} (hk : ∀ M : Mem, kx M = some true → V G κ 9 (c9 + 3) (s9 + 18) M 2596 [(0, .ref b), (1, .ref (gad G 0)), (2, .ref (gad G 119)), (3, .ref (gad G 129)), (4, .ref (gad G 130)), (5, .int v5)] []) : ∀ M : Mem, fL_law_1814 F Ls xs kx v5 M = some true → V G κ 9 c9 s9 M 1814 [(0, .ref b), (1, .ref (gad G 0)), (2, .ref (gad G 119)), (3, .ref (gad G 129)), (4, .ref (gad G 130)), (5, .int v5)] [] := by
  intro M h
  unfold fL_law_1814 at h
  refine V_wide (Nat.le_refl (c9 + 0)) (Nat.le_refl (s9 + 0)) ?_
  refine V_aload_n 1814 C 1 dL_law_1814 rfl ?_
  refine V_aload_n 1815 C 0 dL_law_1815 rfl ?_
  refine V_iload 1816 C 5 dL_law_1816 rfl ?_
  refine V_iconst 1818 C dL_law_1818 ic1 ?_
  refine V_iadd 1819 C dL_law_1819 ?_
  obtain ⟨c441, h⟩ := chk_some h
  refine V_sld 1820 C S dL_law_1820 c441 ?_
  refine V_aload_n 1821 C 3 dL_law_1821 rfl ?_
  obtain ⟨r442, M443, k444, h⟩ := bindM_some h
  refine V_callH (mc := 1) (ms := 6) (rest := []) 1822 C (kL_miceOn T k444) ch_L_miceOn wk_5_103 rfl rfl dL_law_1822 rfl rfl (show c9 + _ + _ ≤ 603072 by omega) (show s9 + _ + _ ≤ 7182442 by omega) ?_
  refine V_istore 1825 C [(6, .int r442), (0, .ref b), (1, .ref (gad G 0)), (2, .ref (gad G 119)), (3, .ref (gad G 129)), (4, .ref (gad G 130)), (5, .int v5)] dL_law_1825 rfl rfl ?_
  refine V_aload_n 1827 C 3 dL_law_1827 rfl ?_
  refine V_aload_n 1828 C 1 dL_law_1828 rfl ?_
  refine V_iload 1829 C 6 dL_law_1829 rfl ?_
  refine V_iconst 1831 C dL_law_1831 ic1 ?_
  refine V_iadd 1832 C dL_law_1832 ?_
  obtain ⟨c445, h⟩ := chk_some h
  refine V_sld 1833 C S dL_law_1833 c445 ?_
  obtain ⟨r448, M446, k447, h⟩ := bindM_some h
  refine V_callI 1834 (runVO (k := 119) (rest := []) 1834 C (kX12_miceOn  k447) cf_X12_miceOn wk_8_16 (ltl (by rfl) rfl) (ceR_X12 (by rfl)) rfl rfl rfl rfl dL_law_1834 rfl rfl (show c9 + _ ≤ 603072 by omega) (show s9 + _ ≤ 7182442 by omega)) ?_
  refine V_istore 1837 C [(7, .int r448), (6, .int r442), (0, .ref b), (1, .ref (gad G 0)), (2, .ref (gad G 119)), (3, .ref (gad G 129)), (4, .ref (gad G 130)), (5, .int v5)] dL_law_1837 rfl rfl ?_
  refine V_aload_n 1839 C 4 dL_law_1839 rfl ?_
  obtain ⟨r451, M449, k450, h⟩ := bindM_some h
  refine V_callI 1840 (runVO (k := 119) (rest := []) 1840 C (kX12_thrown  k450) cf_X12_thrown wk_6_124 (ltl (by rfl) rfl) (ceR_X12 (by rfl)) rfl rfl rfl rfl dL_law_1840 rfl rfl (show c9 + _ ≤ 603072 by omega) (show s9 + _ ≤ 7182442 by omega)) ?_
  refine V_iload 1843 C 1 dL_law_1843 rfl ?_
  refine V_icmp_eq 1845 1850 C dL_law_1845 (by decide) (fun c452 => ?_) (fun c452 => ?_)
  · replace h := ite_t c452 h
    refine V_iload 1850 C 1 dL_law_1850 rfl ?_
    refine V_if_ne 1852 1867 C dL_law_1852 (by decide) (fun c453 => ?_) (fun c453 => ?_)
    · replace h := ite_f c453 h
      refine V_goto 1867 2596 C dL_law_1867 (by decide) ?_
      refine V_sub [2, 3, 4, 5, 6, 7] rfl ?_
      exact V_wide (by omega) (by omega) (hk _ h)
    · replace h := ite_t c453 h
      refine V_aload_n 1855 C 5 dL_law_1855 rfl ?_
      refine V_iconst 1856 C dL_law_1856 ic0 ?_
      refine V_lald 1857 C dL_law_1857 (by rfl) ?_
      refine V_iload 1858 C 0 dL_law_1858 rfl ?_
      refine V_i2l 1860 C dL_law_1860 ?_
      refine V_lcmp 1861 C dL_law_1861 ?_
      refine V_if_eq 1862 1867 C dL_law_1862 (by decide) (fun c454 => ?_) (fun c454 => ?_)
      · replace h := ite_t c454 h
        refine V_goto 1867 2596 C dL_law_1867 (by decide) ?_
        refine V_sub [2, 3, 4, 5, 6, 7] rfl ?_
        exact V_wide (by omega) (by omega) (hk _ h)
      · replace h := ite_f c454 h
        refine V_iconst 1865 C dL_law_1865 ic0 ?_
        cases h
  · replace h := ite_f c452 h
    refine V_iconst 1848 C dL_law_1848 ic0 ?_
    cases h
set_option maxHeartbeats 4000000 in
theorem vL_law_1870 {G : GG} {κ : KK} {F b Ls : Nat} {xs : Nat → Int32} (C : Cx G κ cL_law "LarderPatrolLaw" ret 9 room_1) (S : CxS G κ b Ls xs) (T : κ.2.1.stackTraces = false) {c9 s9 : Nat} (hc : c9 + 3 ≤ 603072) (hs : s9 + 18 ≤ 7182442) {v5 : Int32} {kx : Mem → Option Bool} (hk : ∀ M : Mem, kx M = some true → V G κ 9 (c9 + 3) (s9 + 18) M 2596 [(0, .ref b), (1, .ref (gad G 0)), (2, .ref (gad G 119)), (3, .ref (gad G 129)), (4, .ref (gad G 130)), (5, .int v5)] []) : ∀ M : Mem, fL_law_1870 F Ls xs kx v5 M = some true → V G κ 9 c9 s9 M 1870 [(0, .ref b), (1, .ref (gad G 0)), (2, .ref (gad G 119)), (3, .ref (gad G 129)), (4, .ref (gad G 130)), (5, .int v5)] [] := by
  intro M h
  unfold fL_law_1870 at h
  refine V_wide (Nat.le_refl (c9 + 0)) (Nat.le_refl (s9 + 0)) ?_
  refine V_aload_n 1870 C 1 dL_law_1870 rfl ?_
  obtain ⟨r457, M455, k456, h⟩ := bindM_some h
  refine V_callI 1871 (runVO (k := 0) (rest := []) 1871 C (kX11_totalCheese  k456) cf_X11_totalCheese wk_2_110 (ltl (by rfl) rfl) (ceR_X11 (by rfl)) rfl rfl rfl rfl dL_law_1871 rfl rfl (show c9 + _ ≤ 603072 by omega) (show s9 + _ ≤ 7182442 by omega)) ?_
  refine V_aload_n 1874 C 2 dL_law_1874 rfl ?_
  obtain ⟨r460, M458, k459, h⟩ := bindM_some h
  refine V_callI 1875 (runVO (k := 119) (rest := [.int r457]) 1875 C (kX12_totalCheese  k459) cf_X12_totalCheese wk_8_24 (ltl (by rfl) rfl) (ceR_X12 (by rfl)) rfl rfl rfl rfl dL_law_1875 rfl rfl (show c9 + _ ≤ 603072 by omega) (show s9 + _ ≤ 7182442 by omega)) ?_
  refine V_icmp_eq 1878 2596 C dL_law_1878 (by decide) (fun c461 => ?_) (fun c461 => ?_)
  · replace h := ite_t c461 h
    exact V_wide (by omega) (by omega) (hk _ h)
  · replace h := ite_f c461 h
    refine V_iconst 1881 C dL_law_1881 ic0 ?_
    cases h
set_option maxHeartbeats 4000000 in
theorem vL_law_1883 {G : GG} {κ : KK} {F b Ls : Nat} {xs : Nat → Int32} (C : Cx G κ cL_law "LarderPatrolLaw" ret 9 room_1) (S : CxS G κ b Ls xs) (T : κ.2.1.stackTraces = false) {c9 s9 : Nat} (hc : c9 + 3 ≤ 603072) (hs : s9 + 18 ≤ 7182442) {v5 : Int32} {kx : Mem → Option Bool} (hk : ∀ M : Mem, kx M = some true → V G κ 9 (c9 + 3) (s9 + 18) M 2596 [(0, .ref b), (1, .ref (gad G 0)), (2, .ref (gad G 119)), (3, .ref (gad G 129)), (4, .ref (gad G 130)), (5, .int v5)] []) : ∀ M : Mem, fL_law_1883 F Ls xs kx v5 M = some true → V G κ 9 c9 s9 M 1883 [(0, .ref b), (1, .ref (gad G 0)), (2, .ref (gad G 119)), (3, .ref (gad G 129)), (4, .ref (gad G 130)), (5, .int v5)] [] := by
  intro M h
  unfold fL_law_1883 at h
  refine V_wide (Nat.le_refl (c9 + 0)) (Nat.le_refl (s9 + 0)) ?_
  refine V_aload_n 1883 C 1 dL_law_1883 rfl ?_
  obtain ⟨r464, M462, k463, h⟩ := bindM_some h
  refine V_callI 1884 (runVO (k := 0) (rest := []) 1884 C (kX11_totalCheeseByAccounts  k463) cf_X11_totalCheeseByAccounts wk_2_121 (ltl (by rfl) rfl) (ceR_X11 (by rfl)) rfl rfl rfl rfl dL_law_1884 rfl rfl (show c9 + _ ≤ 603072 by omega) (show s9 + _ ≤ 7182442 by omega)) ?_
  refine V_aload_n 1887 C 2 dL_law_1887 rfl ?_
  obtain ⟨r467, M465, k466, h⟩ := bindM_some h
  refine V_callI 1888 (runVO (k := 119) (rest := [.int r464]) 1888 C (kX12_totalCheeseByAccounts  k466) cf_X12_totalCheeseByAccounts wk_8_32 (ltl (by rfl) rfl) (ceR_X12 (by rfl)) rfl rfl rfl rfl dL_law_1888 rfl rfl (show c9 + _ ≤ 603072 by omega) (show s9 + _ ≤ 7182442 by omega)) ?_
  refine V_icmp_eq 1891 2596 C dL_law_1891 (by decide) (fun c468 => ?_) (fun c468 => ?_)
  · replace h := ite_t c468 h
    exact V_wide (by omega) (by omega) (hk _ h)
  · replace h := ite_f c468 h
    refine V_iconst 1894 C dL_law_1894 ic0 ?_
    cases h
set_option maxHeartbeats 4000000 in
theorem vL_law_1896 {G : GG} {κ : KK} {F b Ls : Nat} {xs : Nat → Int32} (C : Cx G κ cL_law "LarderPatrolLaw" ret 9 room_1) (S : CxS G κ b Ls xs) (T : κ.2.1.stackTraces = false) {c9 s9 : Nat} (hc : c9 + 3 ≤ 603072) (hs : s9 + 18 ≤ 7182442) {v5 : Int32} {kx : Mem → Option Bool} (hk : ∀ M : Mem, kx M = some true → V G κ 9 (c9 + 3) (s9 + 18) M 2596 [(0, .ref b), (1, .ref (gad G 0)), (2, .ref (gad G 119)), (3, .ref (gad G 129)), (4, .ref (gad G 130)), (5, .int v5)] []) : ∀ M : Mem, fL_law_1896 F Ls xs kx v5 M = some true → V G κ 9 c9 s9 M 1896 [(0, .ref b), (1, .ref (gad G 0)), (2, .ref (gad G 119)), (3, .ref (gad G 129)), (4, .ref (gad G 130)), (5, .int v5)] [] := by
  intro M h
  unfold fL_law_1896 at h
  refine V_wide (Nat.le_refl (c9 + 0)) (Nat.le_refl (s9 + 0)) ?_
  refine V_aload_n 1896 C 1 dL_law_1896 rfl ?_
  obtain ⟨r471, M469, k470, h⟩ := bindM_some h
  refine V_callI 1897 (runVO (k := 0) (rest := []) 1897 C (kX11_eaten  k470) cf_X11_eaten wk_2_125 (ltl (by rfl) rfl) (ceR_X11 (by rfl)) rfl rfl rfl rfl dL_law_1897 rfl rfl (show c9 + _ ≤ 603072 by omega) (show s9 + _ ≤ 7182442 by omega)) ?_
  refine V_aload_n 1900 C 2 dL_law_1900 rfl ?_
  obtain ⟨r474, M472, k473, h⟩ := bindM_some h
  refine V_callI 1901 (runVO (k := 119) (rest := [.int r471]) 1901 C (kX12_eaten  k473) cf_X12_eaten wk_8_36 (ltl (by rfl) rfl) (ceR_X12 (by rfl)) rfl rfl rfl rfl dL_law_1901 rfl rfl (show c9 + _ ≤ 603072 by omega) (show s9 + _ ≤ 7182442 by omega)) ?_
  refine V_icmp_eq 1904 2596 C dL_law_1904 (by decide) (fun c475 => ?_) (fun c475 => ?_)
  · replace h := ite_t c475 h
    exact V_wide (by omega) (by omega) (hk _ h)
  · replace h := ite_f c475 h
    refine V_iconst 1907 C dL_law_1907 ic0 ?_
    cases h
set_option maxHeartbeats 4000000 in
theorem vL_law_1909 {G : GG} {κ : KK} {F b Ls : Nat} {xs : Nat → Int32} (C : Cx G κ cL_law "LarderPatrolLaw" ret 9 room_1) (S : CxS G κ b Ls xs) (T : κ.2.1.stackTraces = false) {c9 s9 : Nat} (hc : c9 + 3 ≤ 603072) (hs : s9 + 18 ≤ 7182442) {v5 : Int32} {kx : Mem → Option Bool} (hk : ∀ M : Mem, kx M = some true → V G κ 9 (c9 + 3) (s9 + 18) M 2596 [(0, .ref b), (1, .ref (gad G 0)), (2, .ref (gad G 119)), (3, .ref (gad G 129)), (4, .ref (gad G 130)), (5, .int v5)] []) : ∀ M : Mem, fL_law_1909 F Ls xs kx v5 M = some true → V G κ 9 c9 s9 M 1909 [(0, .ref b), (1, .ref (gad G 0)), (2, .ref (gad G 119)), (3, .ref (gad G 129)), (4, .ref (gad G 130)), (5, .int v5)] [] := by
  intro M h
  unfold fL_law_1909 at h
  refine V_wide (Nat.le_refl (c9 + 0)) (Nat.le_refl (s9 + 0)) ?_
  refine V_aload_n 1909 C 1 dL_law_1909 rfl ?_
  obtain ⟨r478, M476, k477, h⟩ := bindM_some h
  refine V_callI 1910 (runVO (k := 0) (rest := []) 1910 C (kX11_caught  k477) cf_X11_caught wk_2_129 (ltl (by rfl) rfl) (ceR_X11 (by rfl)) rfl rfl rfl rfl dL_law_1910 rfl rfl (show c9 + _ ≤ 603072 by omega) (show s9 + _ ≤ 7182442 by omega)) ?_
  refine V_aload_n 1913 C 2 dL_law_1913 rfl ?_
  obtain ⟨r481, M479, k480, h⟩ := bindM_some h
  refine V_callI 1914 (runVO (k := 119) (rest := [.int r478]) 1914 C (kX12_caught  k480) cf_X12_caught wk_8_40 (ltl (by rfl) rfl) (ceR_X12 (by rfl)) rfl rfl rfl rfl dL_law_1914 rfl rfl (show c9 + _ ≤ 603072 by omega) (show s9 + _ ≤ 7182442 by omega)) ?_
  refine V_icmp_eq 1917 2596 C dL_law_1917 (by decide) (fun c482 => ?_) (fun c482 => ?_)
  · replace h := ite_t c482 h
    exact V_wide (by omega) (by omega) (hk _ h)
  · replace h := ite_f c482 h
    refine V_iconst 1920 C dL_law_1920 ic0 ?_
    cases h
set_option maxHeartbeats 4000000 in
theorem vL_law_1922 {G : GG} {κ : KK} {F b Ls : Nat} {xs : Nat → Int32} (C : Cx G κ cL_law "LarderPatrolLaw" ret 9 room_1) (S : CxS G κ b Ls xs) (T : κ.2.1.stackTraces = false) {c9 s9 : Nat} (hc : c9 + 3 ≤ 603072) (hs : s9 + 18 ≤ 7182442) {v5 : Int32} {kx : Mem → Option Bool} (hk : ∀ M : Mem, kx M = some true → V G κ 9 (c9 + 3) (s9 + 18) M 2596 [(0, .ref b), (1, .ref (gad G 0)), (2, .ref (gad G 119)), (3, .ref (gad G 129)), (4, .ref (gad G 130)), (5, .int v5)] []) : ∀ M : Mem, fL_law_1922 F Ls xs kx v5 M = some true → V G κ 9 c9 s9 M 1922 [(0, .ref b), (1, .ref (gad G 0)), (2, .ref (gad G 119)), (3, .ref (gad G 129)), (4, .ref (gad G 130)), (5, .int v5)] [] := by
  intro M h
  unfold fL_law_1922 at h
  refine V_wide (Nat.le_refl (c9 + 0)) (Nat.le_refl (s9 + 0)) ?_
  refine V_aload_n 1922 C 1 dL_law_1922 rfl ?_
  obtain ⟨r485, M483, k484, h⟩ := bindM_some h
  refine V_callI 1923 (runVO (k := 0) (rest := []) 1923 C (kX11_gone  k484) cf_X11_gone wk_2_133 (ltl (by rfl) rfl) (ceR_X11 (by rfl)) rfl rfl rfl rfl dL_law_1923 rfl rfl (show c9 + _ ≤ 603072 by omega) (show s9 + _ ≤ 7182442 by omega)) ?_
  refine V_aload_n 1926 C 2 dL_law_1926 rfl ?_
  obtain ⟨r488, M486, k487, h⟩ := bindM_some h
  refine V_callI 1927 (runVO (k := 119) (rest := [.int r485]) 1927 C (kX12_gone  k487) cf_X12_gone wk_8_44 (ltl (by rfl) rfl) (ceR_X12 (by rfl)) rfl rfl rfl rfl dL_law_1927 rfl rfl (show c9 + _ ≤ 603072 by omega) (show s9 + _ ≤ 7182442 by omega)) ?_
  refine V_icmp_eq 1930 2596 C dL_law_1930 (by decide) (fun c489 => ?_) (fun c489 => ?_)
  · replace h := ite_t c489 h
    exact V_wide (by omega) (by omega) (hk _ h)
  · replace h := ite_f c489 h
    refine V_iconst 1933 C dL_law_1933 ic0 ?_
    cases h
set_option maxHeartbeats 4000000 in
theorem vL_law_1935 {G : GG} {κ : KK} {F b Ls : Nat} {xs : Nat → Int32} (C : Cx G κ cL_law "LarderPatrolLaw" ret 9 room_1) (S : CxS G κ b Ls xs) (T : κ.2.1.stackTraces = false) {c9 s9 : Nat} (hc : c9 + 3 ≤ 603072) (hs : s9 + 18 ≤ 7182442) {v5 : Int32} {kx : Mem → Option Bool} (hk : ∀ M : Mem, kx M = some true → V G κ 9 (c9 + 3) (s9 + 18) M 2596 [(0, .ref b), (1, .ref (gad G 0)), (2, .ref (gad G 119)), (3, .ref (gad G 129)), (4, .ref (gad G 130)), (5, .int v5)] []) : ∀ M : Mem, fL_law_1935 F Ls xs kx v5 M = some true → V G κ 9 c9 s9 M 1935 [(0, .ref b), (1, .ref (gad G 0)), (2, .ref (gad G 119)), (3, .ref (gad G 129)), (4, .ref (gad G 130)), (5, .int v5)] [] := by
  intro M h
  unfold fL_law_1935 at h
  refine V_wide (Nat.le_refl (c9 + 0)) (Nat.le_refl (s9 + 0)) ?_
  refine V_aload_n 1935 C 1 dL_law_1935 rfl ?_
  obtain ⟨r492, M490, k491, h⟩ := bindM_some h
  refine V_callI 1936 (runVO (k := 0) (rest := []) 1936 C (kX11_rinds  k491) cf_X11_rinds wk_2_137 (ltl (by rfl) rfl) (ceR_X11 (by rfl)) rfl rfl rfl rfl dL_law_1936 rfl rfl (show c9 + _ ≤ 603072 by omega) (show s9 + _ ≤ 7182442 by omega)) ?_
  refine V_aload_n 1939 C 2 dL_law_1939 rfl ?_
  obtain ⟨r495, M493, k494, h⟩ := bindM_some h
  refine V_callI 1940 (runVO (k := 119) (rest := [.int r492]) 1940 C (kX12_rinds  k494) cf_X12_rinds wk_8_48 (ltl (by rfl) rfl) (ceR_X12 (by rfl)) rfl rfl rfl rfl dL_law_1940 rfl rfl (show c9 + _ ≤ 603072 by omega) (show s9 + _ ≤ 7182442 by omega)) ?_
  refine V_icmp_eq 1943 2596 C dL_law_1943 (by decide) (fun c496 => ?_) (fun c496 => ?_)
  · replace h := ite_t c496 h
    exact V_wide (by omega) (by omega) (hk _ h)
  · replace h := ite_f c496 h
    refine V_iconst 1946 C dL_law_1946 ic0 ?_
    cases h
set_option maxHeartbeats 4000000 in
theorem vL_law_1948 {G : GG} {κ : KK} {F b Ls : Nat} {xs : Nat → Int32} (C : Cx G κ cL_law "LarderPatrolLaw" ret 9 room_1) (S : CxS G κ b Ls xs) (T : κ.2.1.stackTraces = false) {c9 s9 : Nat} (hc : c9 + 3 ≤ 603072) (hs : s9 + 18 ≤ 7182442) {v5 : Int32} {kx : Mem → Option Bool} (hk : ∀ M : Mem, kx M = some true → V G κ 9 (c9 + 3) (s9 + 18) M 2596 [(0, .ref b), (1, .ref (gad G 0)), (2, .ref (gad G 119)), (3, .ref (gad G 129)), (4, .ref (gad G 130)), (5, .int v5)] []) : ∀ M : Mem, fL_law_1948 F Ls xs kx v5 M = some true → V G κ 9 c9 s9 M 1948 [(0, .ref b), (1, .ref (gad G 0)), (2, .ref (gad G 119)), (3, .ref (gad G 129)), (4, .ref (gad G 130)), (5, .int v5)] [] := by
  intro M h
  unfold fL_law_1948 at h
  refine V_wide (Nat.le_refl (c9 + 0)) (Nat.le_refl (s9 + 0)) ?_
  refine V_aload_n 1948 C 1 dL_law_1948 rfl ?_
  refine V_aload 1949 C 4 dL_law_1949 rfl ?_
  obtain ⟨r497, M498, k499, h⟩ := bindM_some h
  refine V_callH (mc := 1) (ms := 6) (rest := []) 1951 C (kL_meanCheese T k499) ch_L_meanCheese wk_5_114 rfl rfl dL_law_1951 rfl rfl (show c9 + _ + _ ≤ 603072 by omega) (show s9 + _ + _ ≤ 7182442 by omega) ?_
  refine V_istore 1954 C [(6, .int r497), (0, .ref b), (1, .ref (gad G 0)), (2, .ref (gad G 119)), (3, .ref (gad G 129)), (4, .ref (gad G 130)), (5, .int v5)] dL_law_1954 rfl rfl ?_
  refine V_aload_n 1956 C 3 dL_law_1956 rfl ?_
  obtain ⟨r502, M500, k501, h⟩ := bindM_some h
  refine V_callD 1957 (runVO (k := 119) (rest := []) 1957 C (kX12_meanCheese  k501) cf_X12_meanCheese wk_8_52 (ltl (by rfl) rfl) (ceR_X12 (by rfl)) rfl rfl rfl rfl dL_law_1957 rfl rfl (show c9 + _ ≤ 603072 by omega) (show s9 + _ ≤ 7182442 by omega)) ?_
  refine V_dstore 1960 C [(7, .double r502), (6, .int r497), (0, .ref b), (1, .ref (gad G 0)), (2, .ref (gad G 119)), (3, .ref (gad G 129)), (4, .ref (gad G 130)), (5, .int v5)] dL_law_1960 rfl rfl ?_
  refine V_aload_n 1962 C 4 dL_law_1962 rfl ?_
  obtain ⟨r505, M503, k504, h⟩ := bindM_some h
  refine V_callI 1963 (runVO (k := 119) (rest := []) 1963 C (kX12_thrown  k504) cf_X12_thrown wk_6_124 (ltl (by rfl) rfl) (ceR_X12 (by rfl)) rfl rfl rfl rfl dL_law_1963 rfl rfl (show c9 + _ ≤ 603072 by omega) (show s9 + _ ≤ 7182442 by omega)) ?_
  refine V_iload 1966 C 1 dL_law_1966 rfl ?_
  refine V_icmp_eq 1968 1973 C dL_law_1968 (by decide) (fun c506 => ?_) (fun c506 => ?_)
  · replace h := ite_t c506 h
    refine V_iload 1973 C 1 dL_law_1973 rfl ?_
    refine V_if_ne 1975 2010 C dL_law_1975 (by decide) (fun c507 => ?_) (fun c507 => ?_)
    · replace h := ite_f c507 h
      refine V_goto 2010 2596 C dL_law_2010 (by decide) ?_
      refine V_sub [2, 3, 4, 5, 6, 7] rfl ?_
      exact V_wide (by omega) (by omega) (hk _ h)
    · replace h := ite_t c507 h
      refine V_aload 1978 C 6 dL_law_1978 rfl ?_
      refine V_iconst 1980 C dL_law_1980 ic0 ?_
      refine V_dald 1981 C dL_law_1981 (by rfl) ?_
      refine V_dload 1982 C 0 dL_law_1982 rfl ?_
      refine V_dcmpl 1984 C dL_law_1984 ?_
      refine V_if_eq 1985 2010 C dL_law_1985 (by decide) (fun c508 => ?_) (fun c508 => ?_)
      · replace h := ite_t c508 h
        refine V_goto 2010 2596 C dL_law_2010 (by decide) ?_
        refine V_sub [2, 3, 4, 5, 6, 7] rfl ?_
        exact V_wide (by omega) (by omega) (hk _ h)
      · replace h := ite_f c508 h
        refine V_aload 1988 C 6 dL_law_1988 rfl ?_
        refine V_iconst 1990 C dL_law_1990 ic0 ?_
        refine V_dald 1991 C dL_law_1991 (by rfl) ?_
        refine V_aload 1992 C 6 dL_law_1992 rfl ?_
        refine V_iconst 1994 C dL_law_1994 ic0 ?_
        refine V_dald 1995 C dL_law_1995 (by rfl) ?_
        refine V_dcmpl 1996 C dL_law_1996 ?_
        refine V_if_eq 1997 2008 C dL_law_1997 (by decide) (fun c509 => ?_) (fun c509 => ?_)
        · replace h := ite_t c509 h
          refine V_iconst 2008 C dL_law_2008 ic0 ?_
          cases h
        · replace h := ite_f c509 h
          refine V_dload 2000 C 0 dL_law_2000 rfl ?_
          refine V_dload 2002 C 0 dL_law_2002 rfl ?_
          refine V_dcmpl 2004 C dL_law_2004 ?_
          refine V_if_ne 2005 2010 C dL_law_2005 (by decide) (fun c510 => ?_) (fun c510 => ?_)
          · replace h := ite_f c510 h
            refine V_goto 2010 2596 C dL_law_2010 (by decide) ?_
            refine V_sub [2, 3, 4, 5, 6, 7] rfl ?_
            exact V_wide (by omega) (by omega) (hk _ h)
          · replace h := ite_t c510 h
            refine V_iconst 2008 C dL_law_2008 ic0 ?_
            cases h
  · replace h := ite_f c506 h
    refine V_iconst 1971 C dL_law_1971 ic0 ?_
    cases h
set_option maxHeartbeats 4000000 in
theorem vL_law_2013 {G : GG} {κ : KK} {F b Ls : Nat} {xs : Nat → Int32} (C : Cx G κ cL_law "LarderPatrolLaw" ret 9 room_1) (S : CxS G κ b Ls xs) (T : κ.2.1.stackTraces = false) {c9 s9 : Nat} (hc : c9 + 3 ≤ 603072) (hs : s9 + 18 ≤ 7182442) {v5 : Int32} {kx : Mem → Option Bool} (hk : ∀ M : Mem, kx M = some true → V G κ 9 (c9 + 3) (s9 + 18) M 2596 [(0, .ref b), (1, .ref (gad G 0)), (2, .ref (gad G 119)), (3, .ref (gad G 129)), (4, .ref (gad G 130)), (5, .int v5)] []) : ∀ M : Mem, fL_law_2013 F Ls xs kx v5 M = some true → V G κ 9 c9 s9 M 2013 [(0, .ref b), (1, .ref (gad G 0)), (2, .ref (gad G 119)), (3, .ref (gad G 129)), (4, .ref (gad G 130)), (5, .int v5)] [] := by
  intro M h
  unfold fL_law_2013 at h
  refine V_wide (Nat.le_refl (c9 + 0)) (Nat.le_refl (s9 + 0)) ?_
  refine V_aload_n 2013 C 1 dL_law_2013 rfl ?_
  refine V_aload 2014 C 4 dL_law_2014 rfl ?_
  obtain ⟨r511, M512, k513, h⟩ := bindM_some h
  refine V_callH (mc := 1) (ms := 6) (rest := []) 2016 C (kL_caughtShare T k513) ch_L_caughtShare wk_5_137 rfl rfl dL_law_2016 rfl rfl (show c9 + _ + _ ≤ 603072 by omega) (show s9 + _ + _ ≤ 7182442 by omega) ?_
  refine V_istore 2019 C [(6, .int r511), (0, .ref b), (1, .ref (gad G 0)), (2, .ref (gad G 119)), (3, .ref (gad G 129)), (4, .ref (gad G 130)), (5, .int v5)] dL_law_2019 rfl rfl ?_
  refine V_aload_n 2021 C 3 dL_law_2021 rfl ?_
  obtain ⟨r516, M514, k515, h⟩ := bindM_some h
  refine V_callF 2022 (runVO (k := 119) (rest := []) 2022 C (kX12_caughtShare  k515) cf_X12_caughtShare wk_8_56 (ltl (by rfl) rfl) (ceR_X12 (by rfl)) rfl rfl rfl rfl dL_law_2022 rfl rfl (show c9 + _ ≤ 603072 by omega) (show s9 + _ ≤ 7182442 by omega)) ?_
  refine V_fstore 2025 C [(7, .float r516), (6, .int r511), (0, .ref b), (1, .ref (gad G 0)), (2, .ref (gad G 119)), (3, .ref (gad G 129)), (4, .ref (gad G 130)), (5, .int v5)] dL_law_2025 rfl rfl ?_
  refine V_aload_n 2027 C 4 dL_law_2027 rfl ?_
  obtain ⟨r519, M517, k518, h⟩ := bindM_some h
  refine V_callI 2028 (runVO (k := 119) (rest := []) 2028 C (kX12_thrown  k518) cf_X12_thrown wk_6_124 (ltl (by rfl) rfl) (ceR_X12 (by rfl)) rfl rfl rfl rfl dL_law_2028 rfl rfl (show c9 + _ ≤ 603072 by omega) (show s9 + _ ≤ 7182442 by omega)) ?_
  refine V_iload 2031 C 1 dL_law_2031 rfl ?_
  refine V_icmp_eq 2033 2038 C dL_law_2033 (by decide) (fun c520 => ?_) (fun c520 => ?_)
  · replace h := ite_t c520 h
    refine V_iload 2038 C 1 dL_law_2038 rfl ?_
    refine V_if_ne 2040 2076 C dL_law_2040 (by decide) (fun c521 => ?_) (fun c521 => ?_)
    · replace h := ite_f c521 h
      refine V_goto 2076 2596 C dL_law_2076 (by decide) ?_
      refine V_sub [2, 3, 4, 5, 6, 7] rfl ?_
      exact V_wide (by omega) (by omega) (hk _ h)
    · replace h := ite_t c521 h
      refine V_aload 2043 C 6 dL_law_2043 rfl ?_
      refine V_iconst 2045 C dL_law_2045 ic0 ?_
      refine V_dald 2046 C dL_law_2046 (by rfl) ?_
      refine V_fload 2047 C 0 dL_law_2047 rfl ?_
      obtain ⟨c522, h⟩ := chk_some h
      refine V_f2d 2049 C dL_law_2049 c522 ?_
      refine V_dcmpl 2050 C dL_law_2050 ?_
      refine V_if_eq 2051 2076 C dL_law_2051 (by decide) (fun c523 => ?_) (fun c523 => ?_)
      · replace h := ite_t c523 h
        refine V_goto 2076 2596 C dL_law_2076 (by decide) ?_
        refine V_sub [2, 3, 4, 5, 6, 7] rfl ?_
        exact V_wide (by omega) (by omega) (hk _ h)
      · replace h := ite_f c523 h
        refine V_aload 2054 C 6 dL_law_2054 rfl ?_
        refine V_iconst 2056 C dL_law_2056 ic0 ?_
        refine V_dald 2057 C dL_law_2057 (by rfl) ?_
        refine V_aload 2058 C 6 dL_law_2058 rfl ?_
        refine V_iconst 2060 C dL_law_2060 ic0 ?_
        refine V_dald 2061 C dL_law_2061 (by rfl) ?_
        refine V_dcmpl 2062 C dL_law_2062 ?_
        refine V_if_eq 2063 2074 C dL_law_2063 (by decide) (fun c524 => ?_) (fun c524 => ?_)
        · replace h := ite_t c524 h
          refine V_iconst 2074 C dL_law_2074 ic0 ?_
          cases h
        · replace h := ite_f c524 h
          refine V_fload 2066 C 0 dL_law_2066 rfl ?_
          refine V_fload 2068 C 0 dL_law_2068 rfl ?_
          refine V_fcmpl 2070 C dL_law_2070 ?_
          refine V_if_ne 2071 2076 C dL_law_2071 (by decide) (fun c525 => ?_) (fun c525 => ?_)
          · replace h := ite_f c525 h
            refine V_goto 2076 2596 C dL_law_2076 (by decide) ?_
            refine V_sub [2, 3, 4, 5, 6, 7] rfl ?_
            exact V_wide (by omega) (by omega) (hk _ h)
          · replace h := ite_t c525 h
            refine V_iconst 2074 C dL_law_2074 ic0 ?_
            cases h
  · replace h := ite_f c520 h
    refine V_iconst 2036 C dL_law_2036 ic0 ?_
    cases h
set_option maxHeartbeats 4000000 in
theorem vL_law_2079 {G : GG} {κ : KK} {F b Ls : Nat} {xs : Nat → Int32} (C : Cx G κ cL_law "LarderPatrolLaw" ret 9 room_1) (S : CxS G κ b Ls xs) (T : κ.2.1.stackTraces = false) {c9 s9 : Nat} (hc : c9 + 3 ≤ 603072) (hs : s9 + 18 ≤ 7182442) {v5 : Int32} {kx : Mem → Option Bool} (hk : ∀ M : Mem, kx M = some true → V G κ 9 (c9 + 3) (s9 + 18) M 2596 [(0, .ref b), (1, .ref (gad G 0)), (2, .ref (gad G 119)), (3, .ref (gad G 129)), (4, .ref (gad G 130)), (5, .int v5)] []) : ∀ M : Mem, fL_law_2079 F Ls xs kx v5 M = some true → V G κ 9 c9 s9 M 2079 [(0, .ref b), (1, .ref (gad G 0)), (2, .ref (gad G 119)), (3, .ref (gad G 129)), (4, .ref (gad G 130)), (5, .int v5)] [] := by
  intro M h
  unfold fL_law_2079 at h
  refine V_wide (Nat.le_refl (c9 + 0)) (Nat.le_refl (s9 + 0)) ?_
  refine V_aload_n 2079 C 1 dL_law_2079 rfl ?_
  refine V_aload_n 2080 C 0 dL_law_2080 rfl ?_
  refine V_iload 2081 C 5 dL_law_2081 rfl ?_
  refine V_iconst 2083 C dL_law_2083 ic1 ?_
  refine V_iadd 2084 C dL_law_2084 ?_
  obtain ⟨c526, h⟩ := chk_some h
  refine V_sld 2085 C S dL_law_2085 c526 ?_
  refine V_i2c 2086 C dL_law_2086 ?_
  refine V_aload_n 2087 C 3 dL_law_2087 rfl ?_
  obtain ⟨r527, M528, k529, h⟩ := bindM_some h
  refine V_callH (mc := 1) (ms := 6) (rest := []) 2088 C (kL_feed T k529) ch_L_feed wk_5_145 rfl rfl dL_law_2088 rfl rfl (show c9 + _ + _ ≤ 603072 by omega) (show s9 + _ + _ ≤ 7182442 by omega) ?_
  refine V_istore 2091 C [(6, .int r527), (0, .ref b), (1, .ref (gad G 0)), (2, .ref (gad G 119)), (3, .ref (gad G 129)), (4, .ref (gad G 130)), (5, .int v5)] dL_law_2091 rfl rfl ?_
  refine V_aload_n 2093 C 3 dL_law_2093 rfl ?_
  refine V_aload_n 2094 C 1 dL_law_2094 rfl ?_
  refine V_iload 2095 C 6 dL_law_2095 rfl ?_
  refine V_iconst 2097 C dL_law_2097 ic1 ?_
  refine V_iadd 2098 C dL_law_2098 ?_
  obtain ⟨c530, h⟩ := chk_some h
  refine V_sld 2099 C S dL_law_2099 c530 ?_
  refine V_i2c 2100 C dL_law_2100 ?_
  obtain ⟨r533, M531, k532, h⟩ := bindM_some h
  refine V_callI 2101 (runVO (k := 119) (rest := []) 2101 C (kX12_feed  k532) cf_X12_feed wk_8_80 (ltl (by rfl) rfl) (ceR_X12 (by rfl)) rfl rfl rfl rfl dL_law_2101 rfl rfl (show c9 + _ ≤ 603072 by omega) (show s9 + _ ≤ 7182442 by omega)) ?_
  refine V_istore 2104 C [(7, .int r533), (6, .int r527), (0, .ref b), (1, .ref (gad G 0)), (2, .ref (gad G 119)), (3, .ref (gad G 129)), (4, .ref (gad G 130)), (5, .int v5)] dL_law_2104 rfl rfl ?_
  refine V_aload_n 2106 C 4 dL_law_2106 rfl ?_
  obtain ⟨r536, M534, k535, h⟩ := bindM_some h
  refine V_callI 2107 (runVO (k := 119) (rest := []) 2107 C (kX12_thrown  k535) cf_X12_thrown wk_6_124 (ltl (by rfl) rfl) (ceR_X12 (by rfl)) rfl rfl rfl rfl dL_law_2107 rfl rfl (show c9 + _ ≤ 603072 by omega) (show s9 + _ ≤ 7182442 by omega)) ?_
  refine V_iload 2110 C 1 dL_law_2110 rfl ?_
  refine V_icmp_eq 2112 2117 C dL_law_2112 (by decide) (fun c537 => ?_) (fun c537 => ?_)
  · replace h := ite_t c537 h
    refine V_iload 2117 C 1 dL_law_2117 rfl ?_
    refine V_if_ne 2119 2134 C dL_law_2119 (by decide) (fun c538 => ?_) (fun c538 => ?_)
    · replace h := ite_f c538 h
      refine V_goto 2134 2596 C dL_law_2134 (by decide) ?_
      refine V_sub [2, 3, 4, 5, 6, 7] rfl ?_
      exact V_wide (by omega) (by omega) (hk _ h)
    · replace h := ite_t c538 h
      refine V_aload_n 2122 C 5 dL_law_2122 rfl ?_
      refine V_iconst 2123 C dL_law_2123 ic0 ?_
      refine V_lald 2124 C dL_law_2124 (by rfl) ?_
      refine V_iload 2125 C 0 dL_law_2125 rfl ?_
      refine V_i2l 2127 C dL_law_2127 ?_
      refine V_lcmp 2128 C dL_law_2128 ?_
      refine V_if_eq 2129 2134 C dL_law_2129 (by decide) (fun c539 => ?_) (fun c539 => ?_)
      · replace h := ite_t c539 h
        refine V_goto 2134 2596 C dL_law_2134 (by decide) ?_
        refine V_sub [2, 3, 4, 5, 6, 7] rfl ?_
        exact V_wide (by omega) (by omega) (hk _ h)
      · replace h := ite_f c539 h
        refine V_iconst 2132 C dL_law_2132 ic0 ?_
        cases h
  · replace h := ite_f c537 h
    refine V_iconst 2115 C dL_law_2115 ic0 ?_
    cases h
set_option maxHeartbeats 4000000 in
theorem vL_law_2137 {G : GG} {κ : KK} {F b Ls : Nat} {xs : Nat → Int32} (C : Cx G κ cL_law "LarderPatrolLaw" ret 9 room_1) (S : CxS G κ b Ls xs) (T : κ.2.1.stackTraces = false) {c9 s9 : Nat} (hc : c9 + 3 ≤ 603072) (hs : s9 + 18 ≤ 7182442) {v5 : Int32} {kx : Mem → Option Bool} (hk : ∀ M : Mem, kx M = some true → V G κ 9 (c9 + 3) (s9 + 18) M 2596 [(0, .ref b), (1, .ref (gad G 0)), (2, .ref (gad G 119)), (3, .ref (gad G 129)), (4, .ref (gad G 130)), (5, .int v5)] []) : ∀ M : Mem, fL_law_2137 F Ls xs kx v5 M = some true → V G κ 9 c9 s9 M 2137 [(0, .ref b), (1, .ref (gad G 0)), (2, .ref (gad G 119)), (3, .ref (gad G 129)), (4, .ref (gad G 130)), (5, .int v5)] [] := by
  intro M h
  unfold fL_law_2137 at h
  refine V_wide (Nat.le_refl (c9 + 0)) (Nat.le_refl (s9 + 0)) ?_
  refine V_aload_n 2137 C 1 dL_law_2137 rfl ?_
  refine V_aload_n 2138 C 3 dL_law_2138 rfl ?_
  obtain ⟨r540, M541, k542, h⟩ := bindM_some h
  refine V_callH (mc := 1) (ms := 6) (rest := []) 2139 C (kL_execute T k542) ch_L_execute wk_5_173 rfl rfl dL_law_2139 rfl rfl (show c9 + _ + _ ≤ 603072 by omega) (show s9 + _ + _ ≤ 7182442 by omega) ?_
  refine V_istore 2142 C [(6, .int r540), (0, .ref b), (1, .ref (gad G 0)), (2, .ref (gad G 119)), (3, .ref (gad G 129)), (4, .ref (gad G 130)), (5, .int v5)] dL_law_2142 rfl rfl ?_
  refine V_aload_n 2144 C 3 dL_law_2144 rfl ?_
  obtain ⟨r545, M543, k544, h⟩ := bindM_some h
  refine V_callI 2145 (runVO (k := 119) (rest := []) 2145 C (kX12_execute  k544) cf_X12_execute wk_8_84 (ltl (by rfl) rfl) (ceR_X12 (by rfl)) rfl rfl rfl rfl dL_law_2145 rfl rfl (show c9 + _ ≤ 603072 by omega) (show s9 + _ ≤ 7182442 by omega)) ?_
  refine V_istore 2148 C [(7, .int r545), (6, .int r540), (0, .ref b), (1, .ref (gad G 0)), (2, .ref (gad G 119)), (3, .ref (gad G 129)), (4, .ref (gad G 130)), (5, .int v5)] dL_law_2148 rfl rfl ?_
  refine V_aload_n 2150 C 4 dL_law_2150 rfl ?_
  obtain ⟨r548, M546, k547, h⟩ := bindM_some h
  refine V_callI 2151 (runVO (k := 119) (rest := []) 2151 C (kX12_thrown  k547) cf_X12_thrown wk_6_124 (ltl (by rfl) rfl) (ceR_X12 (by rfl)) rfl rfl rfl rfl dL_law_2151 rfl rfl (show c9 + _ ≤ 603072 by omega) (show s9 + _ ≤ 7182442 by omega)) ?_
  refine V_iload 2154 C 1 dL_law_2154 rfl ?_
  refine V_icmp_eq 2156 2161 C dL_law_2156 (by decide) (fun c549 => ?_) (fun c549 => ?_)
  · replace h := ite_t c549 h
    refine V_iload 2161 C 1 dL_law_2161 rfl ?_
    refine V_if_ne 2163 2178 C dL_law_2163 (by decide) (fun c550 => ?_) (fun c550 => ?_)
    · replace h := ite_f c550 h
      refine V_goto 2178 2596 C dL_law_2178 (by decide) ?_
      refine V_sub [2, 3, 4, 5, 6, 7] rfl ?_
      exact V_wide (by omega) (by omega) (hk _ h)
    · replace h := ite_t c550 h
      refine V_aload_n 2166 C 5 dL_law_2166 rfl ?_
      refine V_iconst 2167 C dL_law_2167 ic0 ?_
      refine V_lald 2168 C dL_law_2168 (by rfl) ?_
      refine V_iload 2169 C 0 dL_law_2169 rfl ?_
      refine V_i2l 2171 C dL_law_2171 ?_
      refine V_lcmp 2172 C dL_law_2172 ?_
      refine V_if_eq 2173 2178 C dL_law_2173 (by decide) (fun c551 => ?_) (fun c551 => ?_)
      · replace h := ite_t c551 h
        refine V_goto 2178 2596 C dL_law_2178 (by decide) ?_
        refine V_sub [2, 3, 4, 5, 6, 7] rfl ?_
        exact V_wide (by omega) (by omega) (hk _ h)
      · replace h := ite_f c551 h
        refine V_iconst 2176 C dL_law_2176 ic0 ?_
        cases h
  · replace h := ite_f c549 h
    refine V_iconst 2159 C dL_law_2159 ic0 ?_
    cases h
set_option maxHeartbeats 4000000 in
theorem vL_law_2181 {G : GG} {κ : KK} {F b Ls : Nat} {xs : Nat → Int32} (C : Cx G κ cL_law "LarderPatrolLaw" ret 9 room_1) (S : CxS G κ b Ls xs) (T : κ.2.1.stackTraces = false) {c9 s9 : Nat} (hc : c9 + 3 ≤ 603072) (hs : s9 + 18 ≤ 7182442) {v5 : Int32} {kx : Mem → Option Bool} (hk : ∀ M : Mem, kx M = some true → V G κ 9 (c9 + 3) (s9 + 18) M 2596 [(0, .ref b), (1, .ref (gad G 0)), (2, .ref (gad G 119)), (3, .ref (gad G 129)), (4, .ref (gad G 130)), (5, .int v5)] []) : ∀ M : Mem, fL_law_2181 F Ls xs kx v5 M = some true → V G κ 9 c9 s9 M 2181 [(0, .ref b), (1, .ref (gad G 0)), (2, .ref (gad G 119)), (3, .ref (gad G 129)), (4, .ref (gad G 130)), (5, .int v5)] [] := by
  intro M h
  unfold fL_law_2181 at h
  refine V_wide (Nat.le_refl (c9 + 0)) (Nat.le_refl (s9 + 0)) ?_
  refine V_aload_n 2181 C 1 dL_law_2181 rfl ?_
  refine V_aload_n 2182 C 3 dL_law_2182 rfl ?_
  obtain ⟨r552, M553, k554, h⟩ := bindM_some h
  refine V_callH (mc := 1) (ms := 6) (rest := []) 2183 C (kL_faultPosition T k554) ch_L_faultPosition wk_6_43 rfl rfl dL_law_2183 rfl rfl (show c9 + _ + _ ≤ 603072 by omega) (show s9 + _ + _ ≤ 7182442 by omega) ?_
  refine V_istore 2186 C [(6, .int r552), (0, .ref b), (1, .ref (gad G 0)), (2, .ref (gad G 119)), (3, .ref (gad G 129)), (4, .ref (gad G 130)), (5, .int v5)] dL_law_2186 rfl rfl ?_
  refine V_aload_n 2188 C 3 dL_law_2188 rfl ?_
  obtain ⟨r557, M555, k556, h⟩ := bindM_some h
  refine V_callI 2189 (runVO (k := 119) (rest := []) 2189 C (kX12_faultPosition  k556) cf_X12_faultPosition wk_8_140 (ltl (by rfl) rfl) (ceR_X12 (by rfl)) rfl rfl rfl rfl dL_law_2189 rfl rfl (show c9 + _ ≤ 603072 by omega) (show s9 + _ ≤ 7182442 by omega)) ?_
  refine V_istore 2192 C [(7, .int r557), (6, .int r552), (0, .ref b), (1, .ref (gad G 0)), (2, .ref (gad G 119)), (3, .ref (gad G 129)), (4, .ref (gad G 130)), (5, .int v5)] dL_law_2192 rfl rfl ?_
  refine V_aload_n 2194 C 4 dL_law_2194 rfl ?_
  obtain ⟨r560, M558, k559, h⟩ := bindM_some h
  refine V_callI 2195 (runVO (k := 119) (rest := []) 2195 C (kX12_thrown  k559) cf_X12_thrown wk_6_124 (ltl (by rfl) rfl) (ceR_X12 (by rfl)) rfl rfl rfl rfl dL_law_2195 rfl rfl (show c9 + _ ≤ 603072 by omega) (show s9 + _ ≤ 7182442 by omega)) ?_
  refine V_iload 2198 C 1 dL_law_2198 rfl ?_
  refine V_icmp_eq 2200 2205 C dL_law_2200 (by decide) (fun c561 => ?_) (fun c561 => ?_)
  · replace h := ite_t c561 h
    refine V_iload 2205 C 1 dL_law_2205 rfl ?_
    refine V_if_ne 2207 2222 C dL_law_2207 (by decide) (fun c562 => ?_) (fun c562 => ?_)
    · replace h := ite_f c562 h
      refine V_goto 2222 2596 C dL_law_2222 (by decide) ?_
      refine V_sub [2, 3, 4, 5, 6, 7] rfl ?_
      exact V_wide (by omega) (by omega) (hk _ h)
    · replace h := ite_t c562 h
      refine V_aload_n 2210 C 5 dL_law_2210 rfl ?_
      refine V_iconst 2211 C dL_law_2211 ic0 ?_
      refine V_lald 2212 C dL_law_2212 (by rfl) ?_
      refine V_iload 2213 C 0 dL_law_2213 rfl ?_
      refine V_i2l 2215 C dL_law_2215 ?_
      refine V_lcmp 2216 C dL_law_2216 ?_
      refine V_if_eq 2217 2222 C dL_law_2217 (by decide) (fun c563 => ?_) (fun c563 => ?_)
      · replace h := ite_t c563 h
        refine V_goto 2222 2596 C dL_law_2222 (by decide) ?_
        refine V_sub [2, 3, 4, 5, 6, 7] rfl ?_
        exact V_wide (by omega) (by omega) (hk _ h)
      · replace h := ite_f c563 h
        refine V_iconst 2220 C dL_law_2220 ic0 ?_
        cases h
  · replace h := ite_f c561 h
    refine V_iconst 2203 C dL_law_2203 ic0 ?_
    cases h
set_option maxHeartbeats 4000000 in
theorem vL_law_2225 {G : GG} {κ : KK} {F b Ls : Nat} {xs : Nat → Int32} (C : Cx G κ cL_law "LarderPatrolLaw" ret 9 room_1) (S : CxS G κ b Ls xs) (T : κ.2.1.stackTraces = false) {c9 s9 : Nat} (hc : c9 + 3 ≤ 603072) (hs : s9 + 18 ≤ 7182442) {v5 : Int32} {kx : Mem → Option Bool} (hk : ∀ M : Mem, kx M = some true → V G κ 9 (c9 + 3) (s9 + 18) M 2596 [(0, .ref b), (1, .ref (gad G 0)), (2, .ref (gad G 119)), (3, .ref (gad G 129)), (4, .ref (gad G 130)), (5, .int v5)] []) : ∀ M : Mem, fL_law_2225 F Ls xs kx v5 M = some true → V G κ 9 c9 s9 M 2225 [(0, .ref b), (1, .ref (gad G 0)), (2, .ref (gad G 119)), (3, .ref (gad G 129)), (4, .ref (gad G 130)), (5, .int v5)] [] := by
  intro M h
  unfold fL_law_2225 at h
  refine V_wide (Nat.le_refl (c9 + 0)) (Nat.le_refl (s9 + 0)) ?_
  refine V_aload_n 2225 C 1 dL_law_2225 rfl ?_
  refine V_aload_n 2226 C 0 dL_law_2226 rfl ?_
  refine V_iload 2227 C 5 dL_law_2227 rfl ?_
  refine V_iconst 2229 C dL_law_2229 ic1 ?_
  refine V_iadd 2230 C dL_law_2230 ?_
  obtain ⟨c564, h⟩ := chk_some h
  refine V_sld 2231 C S dL_law_2231 c564 ?_
  refine V_aload_n 2232 C 3 dL_law_2232 rfl ?_
  obtain ⟨r565, M566, k567, h⟩ := bindM_some h
  refine V_callH (mc := 1) (ms := 6) (rest := []) 2233 C (kL_writeShelf T k567) ch_L_writeShelf wk_6_51 rfl rfl dL_law_2233 rfl rfl (show c9 + _ + _ ≤ 603072 by omega) (show s9 + _ + _ ≤ 7182442 by omega) ?_
  refine V_istore 2236 C [(6, .int r565), (0, .ref b), (1, .ref (gad G 0)), (2, .ref (gad G 119)), (3, .ref (gad G 129)), (4, .ref (gad G 130)), (5, .int v5)] dL_law_2236 rfl rfl ?_
  refine V_aload_n 2238 C 3 dL_law_2238 rfl ?_
  refine V_aload_n 2239 C 1 dL_law_2239 rfl ?_
  refine V_iload 2240 C 6 dL_law_2240 rfl ?_
  refine V_iconst 2242 C dL_law_2242 ic1 ?_
  refine V_iadd 2243 C dL_law_2243 ?_
  obtain ⟨c568, h⟩ := chk_some h
  refine V_sld 2244 C S dL_law_2244 c568 ?_
  obtain ⟨r571, M569, k570, h⟩ := bindM_some h
  refine V_callI 2245 (runVO (k := 119) (rest := []) 2245 C (kX12_writeShelf  k570) cf_X12_writeShelf wk_8_60 (ltl (by rfl) rfl) (ceR_X12 (by rfl)) rfl rfl rfl rfl dL_law_2245 rfl rfl (show c9 + _ ≤ 603072 by omega) (show s9 + _ ≤ 7182442 by omega)) ?_
  refine V_istore 2248 C [(7, .int r571), (6, .int r565), (0, .ref b), (1, .ref (gad G 0)), (2, .ref (gad G 119)), (3, .ref (gad G 129)), (4, .ref (gad G 130)), (5, .int v5)] dL_law_2248 rfl rfl ?_
  refine V_aload_n 2250 C 4 dL_law_2250 rfl ?_
  obtain ⟨r574, M572, k573, h⟩ := bindM_some h
  refine V_callI 2251 (runVO (k := 119) (rest := []) 2251 C (kX12_thrown  k573) cf_X12_thrown wk_6_124 (ltl (by rfl) rfl) (ceR_X12 (by rfl)) rfl rfl rfl rfl dL_law_2251 rfl rfl (show c9 + _ ≤ 603072 by omega) (show s9 + _ ≤ 7182442 by omega)) ?_
  refine V_iload 2254 C 1 dL_law_2254 rfl ?_
  refine V_icmp_eq 2256 2261 C dL_law_2256 (by decide) (fun c575 => ?_) (fun c575 => ?_)
  · replace h := ite_t c575 h
    refine V_iload 2261 C 1 dL_law_2261 rfl ?_
    refine V_if_ne 2263 2278 C dL_law_2263 (by decide) (fun c576 => ?_) (fun c576 => ?_)
    · replace h := ite_f c576 h
      refine V_goto 2278 2596 C dL_law_2278 (by decide) ?_
      refine V_sub [2, 3, 4, 5, 6, 7] rfl ?_
      exact V_wide (by omega) (by omega) (hk _ h)
    · replace h := ite_t c576 h
      refine V_aload_n 2266 C 5 dL_law_2266 rfl ?_
      refine V_iconst 2267 C dL_law_2267 ic0 ?_
      refine V_lald 2268 C dL_law_2268 (by rfl) ?_
      refine V_iload 2269 C 0 dL_law_2269 rfl ?_
      refine V_i2l 2271 C dL_law_2271 ?_
      refine V_lcmp 2272 C dL_law_2272 ?_
      refine V_if_eq 2273 2278 C dL_law_2273 (by decide) (fun c577 => ?_) (fun c577 => ?_)
      · replace h := ite_t c577 h
        refine V_goto 2278 2596 C dL_law_2278 (by decide) ?_
        refine V_sub [2, 3, 4, 5, 6, 7] rfl ?_
        exact V_wide (by omega) (by omega) (hk _ h)
      · replace h := ite_f c577 h
        refine V_iconst 2276 C dL_law_2276 ic0 ?_
        cases h
  · replace h := ite_f c575 h
    refine V_iconst 2259 C dL_law_2259 ic0 ?_
    cases h
set_option maxHeartbeats 4000000 in
theorem vL_law_2281 {G : GG} {κ : KK} {F b Ls : Nat} {xs : Nat → Int32} (C : Cx G κ cL_law "LarderPatrolLaw" ret 9 room_1) (S : CxS G κ b Ls xs) (T : κ.2.1.stackTraces = false) {c9 s9 : Nat} (hc : c9 + 3 ≤ 603072) (hs : s9 + 18 ≤ 7182442) {v5 : Int32} {kx : Mem → Option Bool} (hk : ∀ M : Mem, kx M = some true → V G κ 9 (c9 + 3) (s9 + 18) M 2596 [(0, .ref b), (1, .ref (gad G 0)), (2, .ref (gad G 119)), (3, .ref (gad G 129)), (4, .ref (gad G 130)), (5, .int v5)] []) : ∀ M : Mem, fL_law_2281 F Ls xs kx v5 M = some true → V G κ 9 c9 s9 M 2281 [(0, .ref b), (1, .ref (gad G 0)), (2, .ref (gad G 119)), (3, .ref (gad G 129)), (4, .ref (gad G 130)), (5, .int v5)] [] := by
  intro M h
  unfold fL_law_2281 at h
  refine V_wide (Nat.le_refl (c9 + 0)) (Nat.le_refl (s9 + 0)) ?_
  refine V_aload_n 2281 C 1 dL_law_2281 rfl ?_
  obtain ⟨r580, M578, k579, h⟩ := bindM_some h
  refine V_callI 2282 (runVO (k := 0) (rest := []) 2282 C (kX11_writePatrol  k579) cf_X11_writePatrol wk_2_141 (ltl (by rfl) rfl) (ceR_X11 (by rfl)) rfl rfl rfl rfl dL_law_2282 rfl rfl (show c9 + _ ≤ 603072 by omega) (show s9 + _ ≤ 7182442 by omega)) ?_
  refine V_aload_n 2285 C 2 dL_law_2285 rfl ?_
  obtain ⟨r583, M581, k582, h⟩ := bindM_some h
  refine V_callI 2286 (runVO (k := 119) (rest := [.int r580]) 2286 C (kX12_writePatrol  k582) cf_X12_writePatrol wk_8_72 (ltl (by rfl) rfl) (ceR_X12 (by rfl)) rfl rfl rfl rfl dL_law_2286 rfl rfl (show c9 + _ ≤ 603072 by omega) (show s9 + _ ≤ 7182442 by omega)) ?_
  refine V_icmp_eq 2289 2596 C dL_law_2289 (by decide) (fun c584 => ?_) (fun c584 => ?_)
  · replace h := ite_t c584 h
    exact V_wide (by omega) (by omega) (hk _ h)
  · replace h := ite_f c584 h
    refine V_iconst 2292 C dL_law_2292 ic0 ?_
    cases h
set_option maxHeartbeats 4000000 in
theorem vL_law_2294 {G : GG} {κ : KK} {F b Ls : Nat} {xs : Nat → Int32} (C : Cx G κ cL_law "LarderPatrolLaw" ret 9 room_1) (S : CxS G κ b Ls xs) (T : κ.2.1.stackTraces = false) {c9 s9 : Nat} (hc : c9 + 3 ≤ 603072) (hs : s9 + 18 ≤ 7182442) {v5 : Int32} {kx : Mem → Option Bool} (hk : ∀ M : Mem, kx M = some true → V G κ 9 (c9 + 3) (s9 + 18) M 2596 [(0, .ref b), (1, .ref (gad G 0)), (2, .ref (gad G 119)), (3, .ref (gad G 129)), (4, .ref (gad G 130)), (5, .int v5)] []) : ∀ M : Mem, fL_law_2294 F Ls xs kx v5 M = some true → V G κ 9 c9 s9 M 2294 [(0, .ref b), (1, .ref (gad G 0)), (2, .ref (gad G 119)), (3, .ref (gad G 129)), (4, .ref (gad G 130)), (5, .int v5)] [] := by
  intro M h
  unfold fL_law_2294 at h
  refine V_wide (Nat.le_refl (c9 + 0)) (Nat.le_refl (s9 + 0)) ?_
  refine V_aload_n 2294 C 1 dL_law_2294 rfl ?_
  refine V_aload_n 2295 C 0 dL_law_2295 rfl ?_
  refine V_iload 2296 C 5 dL_law_2296 rfl ?_
  refine V_iconst 2298 C dL_law_2298 ic1 ?_
  refine V_iadd 2299 C dL_law_2299 ?_
  obtain ⟨c585, h⟩ := chk_some h
  refine V_sld 2300 C S dL_law_2300 c585 ?_
  refine V_aload_n 2301 C 3 dL_law_2301 rfl ?_
  obtain ⟨r586, M587, k588, h⟩ := bindM_some h
  refine V_callH (mc := 1) (ms := 6) (rest := []) 2302 C (kL_lineCharacter T k588) ch_L_lineCharacter wk_6_65 rfl rfl dL_law_2302 rfl rfl (show c9 + _ + _ ≤ 603072 by omega) (show s9 + _ + _ ≤ 7182442 by omega) ?_
  refine V_istore 2305 C [(6, .int r586), (0, .ref b), (1, .ref (gad G 0)), (2, .ref (gad G 119)), (3, .ref (gad G 129)), (4, .ref (gad G 130)), (5, .int v5)] dL_law_2305 rfl rfl ?_
  refine V_aload_n 2307 C 3 dL_law_2307 rfl ?_
  refine V_aload_n 2308 C 1 dL_law_2308 rfl ?_
  refine V_iload 2309 C 6 dL_law_2309 rfl ?_
  refine V_iconst 2311 C dL_law_2311 ic1 ?_
  refine V_iadd 2312 C dL_law_2312 ?_
  obtain ⟨c589, h⟩ := chk_some h
  refine V_sld 2313 C S dL_law_2313 c589 ?_
  obtain ⟨r592, M590, k591, h⟩ := bindM_some h
  refine V_callI 2314 (runVO (k := 119) (rest := []) 2314 C (kX12_lineCharacter  k591) cf_X12_lineCharacter wk_8_76 (ltl (by rfl) rfl) (ceR_X12 (by rfl)) rfl rfl rfl rfl dL_law_2314 rfl rfl (show c9 + _ ≤ 603072 by omega) (show s9 + _ ≤ 7182442 by omega)) ?_
  refine V_istore 2317 C [(7, .int r592), (6, .int r586), (0, .ref b), (1, .ref (gad G 0)), (2, .ref (gad G 119)), (3, .ref (gad G 129)), (4, .ref (gad G 130)), (5, .int v5)] dL_law_2317 rfl rfl ?_
  refine V_aload_n 2319 C 4 dL_law_2319 rfl ?_
  obtain ⟨r595, M593, k594, h⟩ := bindM_some h
  refine V_callI 2320 (runVO (k := 119) (rest := []) 2320 C (kX12_thrown  k594) cf_X12_thrown wk_6_124 (ltl (by rfl) rfl) (ceR_X12 (by rfl)) rfl rfl rfl rfl dL_law_2320 rfl rfl (show c9 + _ ≤ 603072 by omega) (show s9 + _ ≤ 7182442 by omega)) ?_
  refine V_iload 2323 C 1 dL_law_2323 rfl ?_
  refine V_icmp_eq 2325 2330 C dL_law_2325 (by decide) (fun c596 => ?_) (fun c596 => ?_)
  · replace h := ite_t c596 h
    refine V_iload 2330 C 1 dL_law_2330 rfl ?_
    refine V_if_ne 2332 2347 C dL_law_2332 (by decide) (fun c597 => ?_) (fun c597 => ?_)
    · replace h := ite_f c597 h
      refine V_goto 2347 2596 C dL_law_2347 (by decide) ?_
      refine V_sub [2, 3, 4, 5, 6, 7] rfl ?_
      exact V_wide (by omega) (by omega) (hk _ h)
    · replace h := ite_t c597 h
      refine V_aload_n 2335 C 5 dL_law_2335 rfl ?_
      refine V_iconst 2336 C dL_law_2336 ic0 ?_
      refine V_lald 2337 C dL_law_2337 (by rfl) ?_
      refine V_iload 2338 C 0 dL_law_2338 rfl ?_
      refine V_i2l 2340 C dL_law_2340 ?_
      refine V_lcmp 2341 C dL_law_2341 ?_
      refine V_if_eq 2342 2347 C dL_law_2342 (by decide) (fun c598 => ?_) (fun c598 => ?_)
      · replace h := ite_t c598 h
        refine V_goto 2347 2596 C dL_law_2347 (by decide) ?_
        refine V_sub [2, 3, 4, 5, 6, 7] rfl ?_
        exact V_wide (by omega) (by omega) (hk _ h)
      · replace h := ite_f c598 h
        refine V_iconst 2345 C dL_law_2345 ic0 ?_
        cases h
  · replace h := ite_f c596 h
    refine V_iconst 2328 C dL_law_2328 ic0 ?_
    cases h
set_option maxHeartbeats 4000000 in
theorem vL_law_2350 {G : GG} {κ : KK} {F b Ls : Nat} {xs : Nat → Int32} (C : Cx G κ cL_law "LarderPatrolLaw" ret 9 room_1) (S : CxS G κ b Ls xs) (T : κ.2.1.stackTraces = false) {c9 s9 : Nat} (hc : c9 + 3 ≤ 603072) (hs : s9 + 18 ≤ 7182442) {v5 : Int32} {kx : Mem → Option Bool} (hk : ∀ M : Mem, kx M = some true → V G κ 9 (c9 + 3) (s9 + 18) M 2596 [(0, .ref b), (1, .ref (gad G 0)), (2, .ref (gad G 119)), (3, .ref (gad G 129)), (4, .ref (gad G 130)), (5, .int v5)] []) : ∀ M : Mem, fL_law_2350 F Ls xs kx v5 M = some true → V G κ 9 c9 s9 M 2350 [(0, .ref b), (1, .ref (gad G 0)), (2, .ref (gad G 119)), (3, .ref (gad G 129)), (4, .ref (gad G 130)), (5, .int v5)] [] := by
  intro M h
  unfold fL_law_2350 at h
  refine V_wide (Nat.le_refl (c9 + 0)) (Nat.le_refl (s9 + 0)) ?_
  refine V_aload_n 2350 C 1 dL_law_2350 rfl ?_
  refine V_aload_n 2351 C 3 dL_law_2351 rfl ?_
  obtain ⟨r599, M600, k601, h⟩ := bindM_some h
  refine V_callH (mc := 1) (ms := 6) (rest := []) 2352 C (kL_denial T k601) ch_L_denial wk_6_73 rfl rfl dL_law_2352 rfl rfl (show c9 + _ + _ ≤ 603072 by omega) (show s9 + _ + _ ≤ 7182442 by omega) ?_
  refine V_istore 2355 C [(6, .int r599), (0, .ref b), (1, .ref (gad G 0)), (2, .ref (gad G 119)), (3, .ref (gad G 129)), (4, .ref (gad G 130)), (5, .int v5)] dL_law_2355 rfl rfl ?_
  refine V_aload_n 2357 C 3 dL_law_2357 rfl ?_
  obtain ⟨r604, M602, k603, h⟩ := bindM_some h
  refine V_callI 2358 (runVO (k := 119) (rest := []) 2358 C (kX12_denial  k603) cf_X12_denial wk_8_144 (ltl (by rfl) rfl) (ceR_X12 (by rfl)) rfl rfl rfl rfl dL_law_2358 rfl rfl (show c9 + _ ≤ 603072 by omega) (show s9 + _ ≤ 7182442 by omega)) ?_
  refine V_istore 2361 C [(7, .int r604), (6, .int r599), (0, .ref b), (1, .ref (gad G 0)), (2, .ref (gad G 119)), (3, .ref (gad G 129)), (4, .ref (gad G 130)), (5, .int v5)] dL_law_2361 rfl rfl ?_
  refine V_aload_n 2363 C 4 dL_law_2363 rfl ?_
  obtain ⟨r607, M605, k606, h⟩ := bindM_some h
  refine V_callI 2364 (runVO (k := 119) (rest := []) 2364 C (kX12_thrown  k606) cf_X12_thrown wk_6_124 (ltl (by rfl) rfl) (ceR_X12 (by rfl)) rfl rfl rfl rfl dL_law_2364 rfl rfl (show c9 + _ ≤ 603072 by omega) (show s9 + _ ≤ 7182442 by omega)) ?_
  refine V_iload 2367 C 1 dL_law_2367 rfl ?_
  refine V_icmp_eq 2369 2374 C dL_law_2369 (by decide) (fun c608 => ?_) (fun c608 => ?_)
  · replace h := ite_t c608 h
    refine V_iload 2374 C 1 dL_law_2374 rfl ?_
    refine V_if_ne 2376 2391 C dL_law_2376 (by decide) (fun c609 => ?_) (fun c609 => ?_)
    · replace h := ite_f c609 h
      refine V_goto 2391 2596 C dL_law_2391 (by decide) ?_
      refine V_sub [2, 3, 4, 5, 6, 7] rfl ?_
      exact V_wide (by omega) (by omega) (hk _ h)
    · replace h := ite_t c609 h
      refine V_aload_n 2379 C 5 dL_law_2379 rfl ?_
      refine V_iconst 2380 C dL_law_2380 ic0 ?_
      refine V_lald 2381 C dL_law_2381 (by rfl) ?_
      refine V_iload 2382 C 0 dL_law_2382 rfl ?_
      refine V_i2l 2384 C dL_law_2384 ?_
      refine V_lcmp 2385 C dL_law_2385 ?_
      refine V_if_eq 2386 2391 C dL_law_2386 (by decide) (fun c610 => ?_) (fun c610 => ?_)
      · replace h := ite_t c610 h
        refine V_goto 2391 2596 C dL_law_2391 (by decide) ?_
        refine V_sub [2, 3, 4, 5, 6, 7] rfl ?_
        exact V_wide (by omega) (by omega) (hk _ h)
      · replace h := ite_f c610 h
        refine V_iconst 2389 C dL_law_2389 ic0 ?_
        cases h
  · replace h := ite_f c608 h
    refine V_iconst 2372 C dL_law_2372 ic0 ?_
    cases h
set_option maxHeartbeats 4000000 in
theorem vL_law_2394 {G : GG} {κ : KK} {F b Ls : Nat} {xs : Nat → Int32} (C : Cx G κ cL_law "LarderPatrolLaw" ret 9 room_1) (S : CxS G κ b Ls xs) (T : κ.2.1.stackTraces = false) {c9 s9 : Nat} (hc : c9 + 3 ≤ 603072) (hs : s9 + 18 ≤ 7182442) {v5 : Int32} {kx : Mem → Option Bool} (hk : ∀ M : Mem, kx M = some true → V G κ 9 (c9 + 3) (s9 + 18) M 2596 [(0, .ref b), (1, .ref (gad G 0)), (2, .ref (gad G 119)), (3, .ref (gad G 129)), (4, .ref (gad G 130)), (5, .int v5)] []) : ∀ M : Mem, fL_law_2394 F Ls xs kx v5 M = some true → V G κ 9 c9 s9 M 2394 [(0, .ref b), (1, .ref (gad G 0)), (2, .ref (gad G 119)), (3, .ref (gad G 129)), (4, .ref (gad G 130)), (5, .int v5)] [] := by
  intro M h
  unfold fL_law_2394 at h
  refine V_wide (Nat.le_refl (c9 + 0)) (Nat.le_refl (s9 + 0)) ?_
  refine V_aload_n 2394 C 1 dL_law_2394 rfl ?_
  refine V_aload_n 2395 C 3 dL_law_2395 rfl ?_
  obtain ⟨r611, M612, k613, h⟩ := bindM_some h
  refine V_callH (mc := 1) (ms := 6) (rest := []) 2396 C (kL_denialDetail T k613) ch_L_denialDetail wk_6_85 rfl rfl dL_law_2396 rfl rfl (show c9 + _ + _ ≤ 603072 by omega) (show s9 + _ + _ ≤ 7182442 by omega) ?_
  refine V_istore 2399 C [(6, .int r611), (0, .ref b), (1, .ref (gad G 0)), (2, .ref (gad G 119)), (3, .ref (gad G 129)), (4, .ref (gad G 130)), (5, .int v5)] dL_law_2399 rfl rfl ?_
  refine V_aload_n 2401 C 3 dL_law_2401 rfl ?_
  obtain ⟨r616, M614, k615, h⟩ := bindM_some h
  refine V_callI 2402 (runVO (k := 119) (rest := []) 2402 C (kX12_denialDetail  k615) cf_X12_denialDetail wk_8_148 (ltl (by rfl) rfl) (ceR_X12 (by rfl)) rfl rfl rfl rfl dL_law_2402 rfl rfl (show c9 + _ ≤ 603072 by omega) (show s9 + _ ≤ 7182442 by omega)) ?_
  refine V_istore 2405 C [(7, .int r616), (6, .int r611), (0, .ref b), (1, .ref (gad G 0)), (2, .ref (gad G 119)), (3, .ref (gad G 129)), (4, .ref (gad G 130)), (5, .int v5)] dL_law_2405 rfl rfl ?_
  refine V_aload_n 2407 C 4 dL_law_2407 rfl ?_
  obtain ⟨r619, M617, k618, h⟩ := bindM_some h
  refine V_callI 2408 (runVO (k := 119) (rest := []) 2408 C (kX12_thrown  k618) cf_X12_thrown wk_6_124 (ltl (by rfl) rfl) (ceR_X12 (by rfl)) rfl rfl rfl rfl dL_law_2408 rfl rfl (show c9 + _ ≤ 603072 by omega) (show s9 + _ ≤ 7182442 by omega)) ?_
  refine V_iload 2411 C 1 dL_law_2411 rfl ?_
  refine V_icmp_eq 2413 2418 C dL_law_2413 (by decide) (fun c620 => ?_) (fun c620 => ?_)
  · replace h := ite_t c620 h
    refine V_iload 2418 C 1 dL_law_2418 rfl ?_
    refine V_if_ne 2420 2435 C dL_law_2420 (by decide) (fun c621 => ?_) (fun c621 => ?_)
    · replace h := ite_f c621 h
      refine V_goto 2435 2596 C dL_law_2435 (by decide) ?_
      refine V_sub [2, 3, 4, 5, 6, 7] rfl ?_
      exact V_wide (by omega) (by omega) (hk _ h)
    · replace h := ite_t c621 h
      refine V_aload_n 2423 C 5 dL_law_2423 rfl ?_
      refine V_iconst 2424 C dL_law_2424 ic0 ?_
      refine V_lald 2425 C dL_law_2425 (by rfl) ?_
      refine V_iload 2426 C 0 dL_law_2426 rfl ?_
      refine V_i2l 2428 C dL_law_2428 ?_
      refine V_lcmp 2429 C dL_law_2429 ?_
      refine V_if_eq 2430 2435 C dL_law_2430 (by decide) (fun c622 => ?_) (fun c622 => ?_)
      · replace h := ite_t c622 h
        refine V_goto 2435 2596 C dL_law_2435 (by decide) ?_
        refine V_sub [2, 3, 4, 5, 6, 7] rfl ?_
        exact V_wide (by omega) (by omega) (hk _ h)
      · replace h := ite_f c622 h
        refine V_iconst 2433 C dL_law_2433 ic0 ?_
        cases h
  · replace h := ite_f c620 h
    refine V_iconst 2416 C dL_law_2416 ic0 ?_
    cases h
set_option maxHeartbeats 4000000 in
theorem vL_law_2438 {G : GG} {κ : KK} {F b Ls : Nat} {xs : Nat → Int32} (C : Cx G κ cL_law "LarderPatrolLaw" ret 9 room_1) (S : CxS G κ b Ls xs) (T : κ.2.1.stackTraces = false) {c9 s9 : Nat} (hc : c9 + 3 ≤ 603072) (hs : s9 + 18 ≤ 7182442) {v5 : Int32} {kx : Mem → Option Bool} (hk : ∀ M : Mem, kx M = some true → V G κ 9 (c9 + 3) (s9 + 18) M 2596 [(0, .ref b), (1, .ref (gad G 0)), (2, .ref (gad G 119)), (3, .ref (gad G 129)), (4, .ref (gad G 130)), (5, .int v5)] []) : ∀ M : Mem, fL_law_2438 F Ls xs kx v5 M = some true → V G κ 9 c9 s9 M 2438 [(0, .ref b), (1, .ref (gad G 0)), (2, .ref (gad G 119)), (3, .ref (gad G 129)), (4, .ref (gad G 130)), (5, .int v5)] [] := by
  intro M h
  unfold fL_law_2438 at h
  refine V_wide (Nat.le_refl (c9 + 0)) (Nat.le_refl (s9 + 0)) ?_
  refine V_aload_n 2438 C 1 dL_law_2438 rfl ?_
  refine V_aload_n 2439 C 3 dL_law_2439 rfl ?_
  obtain ⟨r623, M624, k625, h⟩ := bindM_some h
  refine V_callH (mc := 1) (ms := 6) (rest := []) 2440 C (kL_denialCause T k625) ch_L_denialCause wk_6_92 rfl rfl dL_law_2440 rfl rfl (show c9 + _ + _ ≤ 603072 by omega) (show s9 + _ + _ ≤ 7182442 by omega) ?_
  refine V_istore 2443 C [(6, .int r623), (0, .ref b), (1, .ref (gad G 0)), (2, .ref (gad G 119)), (3, .ref (gad G 129)), (4, .ref (gad G 130)), (5, .int v5)] dL_law_2443 rfl rfl ?_
  refine V_aload_n 2445 C 3 dL_law_2445 rfl ?_
  obtain ⟨r628, M626, k627, h⟩ := bindM_some h
  refine V_callI 2446 (runVO (k := 119) (rest := []) 2446 C (kX12_denialCause  k627) cf_X12_denialCause wk_8_152 (ltl (by rfl) rfl) (ceR_X12 (by rfl)) rfl rfl rfl rfl dL_law_2446 rfl rfl (show c9 + _ ≤ 603072 by omega) (show s9 + _ ≤ 7182442 by omega)) ?_
  refine V_istore 2449 C [(7, .int r628), (6, .int r623), (0, .ref b), (1, .ref (gad G 0)), (2, .ref (gad G 119)), (3, .ref (gad G 129)), (4, .ref (gad G 130)), (5, .int v5)] dL_law_2449 rfl rfl ?_
  refine V_aload_n 2451 C 4 dL_law_2451 rfl ?_
  obtain ⟨r631, M629, k630, h⟩ := bindM_some h
  refine V_callI 2452 (runVO (k := 119) (rest := []) 2452 C (kX12_thrown  k630) cf_X12_thrown wk_6_124 (ltl (by rfl) rfl) (ceR_X12 (by rfl)) rfl rfl rfl rfl dL_law_2452 rfl rfl (show c9 + _ ≤ 603072 by omega) (show s9 + _ ≤ 7182442 by omega)) ?_
  refine V_iload 2455 C 1 dL_law_2455 rfl ?_
  refine V_icmp_eq 2457 2462 C dL_law_2457 (by decide) (fun c632 => ?_) (fun c632 => ?_)
  · replace h := ite_t c632 h
    refine V_iload 2462 C 1 dL_law_2462 rfl ?_
    refine V_if_ne 2464 2479 C dL_law_2464 (by decide) (fun c633 => ?_) (fun c633 => ?_)
    · replace h := ite_f c633 h
      refine V_goto 2479 2596 C dL_law_2479 (by decide) ?_
      refine V_sub [2, 3, 4, 5, 6, 7] rfl ?_
      exact V_wide (by omega) (by omega) (hk _ h)
    · replace h := ite_t c633 h
      refine V_aload_n 2467 C 5 dL_law_2467 rfl ?_
      refine V_iconst 2468 C dL_law_2468 ic0 ?_
      refine V_lald 2469 C dL_law_2469 (by rfl) ?_
      refine V_iload 2470 C 0 dL_law_2470 rfl ?_
      refine V_i2l 2472 C dL_law_2472 ?_
      refine V_lcmp 2473 C dL_law_2473 ?_
      refine V_if_eq 2474 2479 C dL_law_2474 (by decide) (fun c634 => ?_) (fun c634 => ?_)
      · replace h := ite_t c634 h
        refine V_goto 2479 2596 C dL_law_2479 (by decide) ?_
        refine V_sub [2, 3, 4, 5, 6, 7] rfl ?_
        exact V_wide (by omega) (by omega) (hk _ h)
      · replace h := ite_f c634 h
        refine V_iconst 2477 C dL_law_2477 ic0 ?_
        cases h
  · replace h := ite_f c632 h
    refine V_iconst 2460 C dL_law_2460 ic0 ?_
    cases h
set_option maxHeartbeats 4000000 in
theorem vL_law_2482 {G : GG} {κ : KK} {F b Ls : Nat} {xs : Nat → Int32} (C : Cx G κ cL_law "LarderPatrolLaw" ret 9 room_1) (S : CxS G κ b Ls xs) (T : κ.2.1.stackTraces = false) {c9 s9 : Nat} (hc : c9 + 3 ≤ 603072) (hs : s9 + 18 ≤ 7182442) {v5 : Int32} {kx : Mem → Option Bool} (hk : ∀ M : Mem, kx M = some true → V G κ 9 (c9 + 3) (s9 + 18) M 2596 [(0, .ref b), (1, .ref (gad G 0)), (2, .ref (gad G 119)), (3, .ref (gad G 129)), (4, .ref (gad G 130)), (5, .int v5)] []) : ∀ M : Mem, fL_law_2482 F Ls xs kx v5 M = some true → V G κ 9 c9 s9 M 2482 [(0, .ref b), (1, .ref (gad G 0)), (2, .ref (gad G 119)), (3, .ref (gad G 129)), (4, .ref (gad G 130)), (5, .int v5)] [] := by
  intro M h
  unfold fL_law_2482 at h
  refine V_wide (Nat.le_refl (c9 + 0)) (Nat.le_refl (s9 + 0)) ?_
  refine V_aload_n 2482 C 1 dL_law_2482 rfl ?_
  refine V_aload_n 2483 C 3 dL_law_2483 rfl ?_
  obtain ⟨r635, M636, k637, h⟩ := bindM_some h
  refine V_callH (mc := 1) (ms := 6) (rest := []) 2484 C (kL_undo T k637) ch_L_undo wk_6_100 rfl rfl dL_law_2484 rfl rfl (show c9 + _ + _ ≤ 603072 by omega) (show s9 + _ + _ ≤ 7182442 by omega) ?_
  refine V_istore 2487 C [(6, .int r635), (0, .ref b), (1, .ref (gad G 0)), (2, .ref (gad G 119)), (3, .ref (gad G 129)), (4, .ref (gad G 130)), (5, .int v5)] dL_law_2487 rfl rfl ?_
  refine V_aload_n 2489 C 3 dL_law_2489 rfl ?_
  obtain ⟨r640, M638, k639, h⟩ := bindM_some h
  refine V_callI 2490 (runVO (k := 119) (rest := []) 2490 C (kX12_undo  k639) cf_X12_undo wk_8_156 (ltl (by rfl) rfl) (ceR_X12 (by rfl)) rfl rfl rfl rfl dL_law_2490 rfl rfl (show c9 + _ ≤ 603072 by omega) (show s9 + _ ≤ 7182442 by omega)) ?_
  refine V_istore 2493 C [(7, .int r640), (6, .int r635), (0, .ref b), (1, .ref (gad G 0)), (2, .ref (gad G 119)), (3, .ref (gad G 129)), (4, .ref (gad G 130)), (5, .int v5)] dL_law_2493 rfl rfl ?_
  refine V_aload_n 2495 C 4 dL_law_2495 rfl ?_
  obtain ⟨r643, M641, k642, h⟩ := bindM_some h
  refine V_callI 2496 (runVO (k := 119) (rest := []) 2496 C (kX12_thrown  k642) cf_X12_thrown wk_6_124 (ltl (by rfl) rfl) (ceR_X12 (by rfl)) rfl rfl rfl rfl dL_law_2496 rfl rfl (show c9 + _ ≤ 603072 by omega) (show s9 + _ ≤ 7182442 by omega)) ?_
  refine V_iload 2499 C 1 dL_law_2499 rfl ?_
  refine V_icmp_eq 2501 2506 C dL_law_2501 (by decide) (fun c644 => ?_) (fun c644 => ?_)
  · replace h := ite_t c644 h
    refine V_iload 2506 C 1 dL_law_2506 rfl ?_
    refine V_if_ne 2508 2523 C dL_law_2508 (by decide) (fun c645 => ?_) (fun c645 => ?_)
    · replace h := ite_f c645 h
      refine V_goto 2523 2596 C dL_law_2523 (by decide) ?_
      refine V_sub [2, 3, 4, 5, 6, 7] rfl ?_
      exact V_wide (by omega) (by omega) (hk _ h)
    · replace h := ite_t c645 h
      refine V_aload_n 2511 C 5 dL_law_2511 rfl ?_
      refine V_iconst 2512 C dL_law_2512 ic0 ?_
      refine V_lald 2513 C dL_law_2513 (by rfl) ?_
      refine V_iload 2514 C 0 dL_law_2514 rfl ?_
      refine V_i2l 2516 C dL_law_2516 ?_
      refine V_lcmp 2517 C dL_law_2517 ?_
      refine V_if_eq 2518 2523 C dL_law_2518 (by decide) (fun c646 => ?_) (fun c646 => ?_)
      · replace h := ite_t c646 h
        refine V_goto 2523 2596 C dL_law_2523 (by decide) ?_
        refine V_sub [2, 3, 4, 5, 6, 7] rfl ?_
        exact V_wide (by omega) (by omega) (hk _ h)
      · replace h := ite_f c646 h
        refine V_iconst 2521 C dL_law_2521 ic0 ?_
        cases h
  · replace h := ite_f c644 h
    refine V_iconst 2504 C dL_law_2504 ic0 ?_
    cases h
set_option maxHeartbeats 4000000 in
theorem vL_law_2526 {G : GG} {κ : KK} {F b Ls : Nat} {xs : Nat → Int32} (C : Cx G κ cL_law "LarderPatrolLaw" ret 9 room_1) (S : CxS G κ b Ls xs) (T : κ.2.1.stackTraces = false) {c9 s9 : Nat} (hc : c9 + 3 ≤ 603072) (hs : s9 + 18 ≤ 7182442) {v5 : Int32} {kx : Mem → Option Bool} (hk : ∀ M : Mem, kx M = some true → V G κ 9 (c9 + 3) (s9 + 18) M 2596 [(0, .ref b), (1, .ref (gad G 0)), (2, .ref (gad G 119)), (3, .ref (gad G 129)), (4, .ref (gad G 130)), (5, .int v5)] []) : ∀ M : Mem, fL_law_2526 F Ls xs kx v5 M = some true → V G κ 9 c9 s9 M 2526 [(0, .ref b), (1, .ref (gad G 0)), (2, .ref (gad G 119)), (3, .ref (gad G 129)), (4, .ref (gad G 130)), (5, .int v5)] [] := by
  intro M h
  unfold fL_law_2526 at h
  refine V_wide (Nat.le_refl (c9 + 0)) (Nat.le_refl (s9 + 0)) ?_
  refine V_aload_n 2526 C 1 dL_law_2526 rfl ?_
  obtain ⟨r649, M647, k648, h⟩ := bindM_some h
  refine V_callI 2527 (runVO (k := 0) (rest := []) 2527 C (kX11_undoCount  k648) cf_X11_undoCount wk_2_162 (ltl (by rfl) rfl) (ceR_X11 (by rfl)) rfl rfl rfl rfl dL_law_2527 rfl rfl (show c9 + _ ≤ 603072 by omega) (show s9 + _ ≤ 7182442 by omega)) ?_
  refine V_aload_n 2530 C 2 dL_law_2530 rfl ?_
  obtain ⟨r652, M650, k651, h⟩ := bindM_some h
  refine V_callI 2531 (runVO (k := 119) (rest := [.int r649]) 2531 C (kX12_undoCount  k651) cf_X12_undoCount wk_8_160 (ltl (by rfl) rfl) (ceR_X12 (by rfl)) rfl rfl rfl rfl dL_law_2531 rfl rfl (show c9 + _ ≤ 603072 by omega) (show s9 + _ ≤ 7182442 by omega)) ?_
  refine V_icmp_eq 2534 2596 C dL_law_2534 (by decide) (fun c653 => ?_) (fun c653 => ?_)
  · replace h := ite_t c653 h
    exact V_wide (by omega) (by omega) (hk _ h)
  · replace h := ite_f c653 h
    refine V_iconst 2537 C dL_law_2537 ic0 ?_
    cases h
set_option maxHeartbeats 4000000 in
theorem vL_law_2539 {G : GG} {κ : KK} {F b Ls : Nat} {xs : Nat → Int32} (C : Cx G κ cL_law "LarderPatrolLaw" ret 9 room_1) (S : CxS G κ b Ls xs) (T : κ.2.1.stackTraces = false) {c9 s9 : Nat} (hc : c9 + 3 ≤ 603072) (hs : s9 + 18 ≤ 7182442) {v5 : Int32} {kx : Mem → Option Bool} (hk : ∀ M : Mem, kx M = some true → V G κ 9 (c9 + 3) (s9 + 18) M 2596 [(0, .ref b), (1, .ref (gad G 0)), (2, .ref (gad G 119)), (3, .ref (gad G 129)), (4, .ref (gad G 130)), (5, .int v5)] []) : ∀ M : Mem, fL_law_2539 F Ls xs kx v5 M = some true → V G κ 9 c9 s9 M 2539 [(0, .ref b), (1, .ref (gad G 0)), (2, .ref (gad G 119)), (3, .ref (gad G 129)), (4, .ref (gad G 130)), (5, .int v5)] [] := by
  intro M h
  unfold fL_law_2539 at h
  refine V_wide (Nat.le_refl (c9 + 0)) (Nat.le_refl (s9 + 0)) ?_
  refine V_aload_n 2539 C 1 dL_law_2539 rfl ?_
  obtain ⟨r656, M654, k655, h⟩ := bindM_some h
  refine V_callI 2540 (runVO (k := 0) (rest := []) 2540 C (kX11_saveSnapshot  k655) cf_X11_saveSnapshot wk_2_166 (ltl (by rfl) rfl) (ceR_X11 (by rfl)) rfl rfl rfl rfl dL_law_2540 rfl rfl (show c9 + _ ≤ 603072 by omega) (show s9 + _ ≤ 7182442 by omega)) ?_
  refine V_aload_n 2543 C 2 dL_law_2543 rfl ?_
  obtain ⟨r659, M657, k658, h⟩ := bindM_some h
  refine V_callI 2544 (runVO (k := 119) (rest := [.int r656]) 2544 C (kX12_saveSnapshot  k658) cf_X12_saveSnapshot wk_8_164 (ltl (by rfl) rfl) (ceR_X12 (by rfl)) rfl rfl rfl rfl dL_law_2544 rfl rfl (show c9 + _ ≤ 603072 by omega) (show s9 + _ ≤ 7182442 by omega)) ?_
  refine V_icmp_eq 2547 2596 C dL_law_2547 (by decide) (fun c660 => ?_) (fun c660 => ?_)
  · replace h := ite_t c660 h
    exact V_wide (by omega) (by omega) (hk _ h)
  · replace h := ite_f c660 h
    refine V_iconst 2550 C dL_law_2550 ic0 ?_
    cases h
set_option maxHeartbeats 4000000 in
theorem vL_law_2552 {G : GG} {κ : KK} {F b Ls : Nat} {xs : Nat → Int32} (C : Cx G κ cL_law "LarderPatrolLaw" ret 9 room_1) (S : CxS G κ b Ls xs) (T : κ.2.1.stackTraces = false) {c9 s9 : Nat} (hc : c9 + 3 ≤ 603072) (hs : s9 + 18 ≤ 7182442) {v5 : Int32} {kx : Mem → Option Bool} (hk : ∀ M : Mem, kx M = some true → V G κ 9 (c9 + 3) (s9 + 18) M 2596 [(0, .ref b), (1, .ref (gad G 0)), (2, .ref (gad G 119)), (3, .ref (gad G 129)), (4, .ref (gad G 130)), (5, .int v5)] []) : ∀ M : Mem, fL_law_2552 F Ls xs kx v5 M = some true → V G κ 9 c9 s9 M 2552 [(0, .ref b), (1, .ref (gad G 0)), (2, .ref (gad G 119)), (3, .ref (gad G 129)), (4, .ref (gad G 130)), (5, .int v5)] [] := by
  intro M h
  unfold fL_law_2552 at h
  refine V_wide (Nat.le_refl (c9 + 0)) (Nat.le_refl (s9 + 0)) ?_
  refine V_aload_n 2552 C 1 dL_law_2552 rfl ?_
  refine V_aload_n 2553 C 3 dL_law_2553 rfl ?_
  obtain ⟨r661, M662, k663, h⟩ := bindM_some h
  refine V_callH (mc := 1) (ms := 6) (rest := []) 2554 C (kL_restoreSnapshot T k663) ch_L_restoreSnapshot wk_6_112 rfl rfl dL_law_2554 rfl rfl (show c9 + _ + _ ≤ 603072 by omega) (show s9 + _ + _ ≤ 7182442 by omega) ?_
  refine V_istore 2557 C [(6, .int r661), (0, .ref b), (1, .ref (gad G 0)), (2, .ref (gad G 119)), (3, .ref (gad G 129)), (4, .ref (gad G 130)), (5, .int v5)] dL_law_2557 rfl rfl ?_
  refine V_aload_n 2559 C 3 dL_law_2559 rfl ?_
  obtain ⟨r666, M664, k665, h⟩ := bindM_some h
  refine V_callI 2560 (runVO (k := 119) (rest := []) 2560 C (kX12_restoreSnapshot  k665) cf_X12_restoreSnapshot wk_8_168 (ltl (by rfl) rfl) (ceR_X12 (by rfl)) rfl rfl rfl rfl dL_law_2560 rfl rfl (show c9 + _ ≤ 603072 by omega) (show s9 + _ ≤ 7182442 by omega)) ?_
  refine V_istore 2563 C [(7, .int r666), (6, .int r661), (0, .ref b), (1, .ref (gad G 0)), (2, .ref (gad G 119)), (3, .ref (gad G 129)), (4, .ref (gad G 130)), (5, .int v5)] dL_law_2563 rfl rfl ?_
  refine V_aload_n 2565 C 4 dL_law_2565 rfl ?_
  obtain ⟨r669, M667, k668, h⟩ := bindM_some h
  refine V_callI 2566 (runVO (k := 119) (rest := []) 2566 C (kX12_thrown  k668) cf_X12_thrown wk_6_124 (ltl (by rfl) rfl) (ceR_X12 (by rfl)) rfl rfl rfl rfl dL_law_2566 rfl rfl (show c9 + _ ≤ 603072 by omega) (show s9 + _ ≤ 7182442 by omega)) ?_
  refine V_iload 2569 C 1 dL_law_2569 rfl ?_
  refine V_icmp_eq 2571 2576 C dL_law_2571 (by decide) (fun c670 => ?_) (fun c670 => ?_)
  · replace h := ite_t c670 h
    refine V_iload 2576 C 1 dL_law_2576 rfl ?_
    refine V_if_ne 2578 2593 C dL_law_2578 (by decide) (fun c671 => ?_) (fun c671 => ?_)
    · replace h := ite_f c671 h
      refine V_goto 2593 2596 C dL_law_2593 (by decide) ?_
      refine V_sub [2, 3, 4, 5, 6, 7] rfl ?_
      exact V_wide (by omega) (by omega) (hk _ h)
    · replace h := ite_t c671 h
      refine V_aload_n 2581 C 5 dL_law_2581 rfl ?_
      refine V_iconst 2582 C dL_law_2582 ic0 ?_
      refine V_lald 2583 C dL_law_2583 (by rfl) ?_
      refine V_iload 2584 C 0 dL_law_2584 rfl ?_
      refine V_i2l 2586 C dL_law_2586 ?_
      refine V_lcmp 2587 C dL_law_2587 ?_
      refine V_if_eq 2588 2593 C dL_law_2588 (by decide) (fun c672 => ?_) (fun c672 => ?_)
      · replace h := ite_t c672 h
        refine V_goto 2593 2596 C dL_law_2593 (by decide) ?_
        refine V_sub [2, 3, 4, 5, 6, 7] rfl ?_
        exact V_wide (by omega) (by omega) (hk _ h)
      · replace h := ite_f c672 h
        refine V_iconst 2591 C dL_law_2591 ic0 ?_
        cases h
  · replace h := ite_f c670 h
    refine V_iconst 2574 C dL_law_2574 ic0 ?_
    cases h
end
