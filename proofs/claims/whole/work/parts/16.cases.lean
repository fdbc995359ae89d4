theorem kvL_13 : qv_cv R_law 13 yX11_feed cX11_feed 6 (some .int) 5 := ⟨⟨gw_ix 566 (by decide +kernel), gw_ix 567 (by decide +kernel), gw_ix 568 (by decide +kernel), gw_ix 96 (by decide +kernel), gw_ix 569 (by decide +kernel)⟩, by decide +kernel⟩
theorem kvL_17 : qv_cv R_law 17 yX12_feed cX12_feed 6 (some .int) 5 := ⟨⟨gw_ix 1444 (by decide +kernel), gw_ix 1445 (by decide +kernel), gw_ix 1446 (by decide +kernel), gw_ix 109 (by decide +kernel), gw_ix 1447 (by decide +kernel)⟩, by decide +kernel⟩
theorem kvL_18 : qv_cv R_law 18 yX11_back cX11_back 2 (some .int) 1 := ⟨⟨gw_ix 574 (by decide +kernel), gw_ix 575 (by decide +kernel), gw_ix 576 (by decide +kernel), gw_ix 96 (by decide +kernel), gw_ix 577 (by decide +kernel)⟩, by decide +kernel⟩
theorem kvL_22 : qv_cv R_law 22 yX12_back cX12_back 2 (some .int) 1 := ⟨⟨gw_ix 1452 (by decide +kernel), gw_ix 1453 (by decide +kernel), gw_ix 1454 (by decide +kernel), gw_ix 109 (by decide +kernel), gw_ix 1455 (by decide +kernel)⟩, by decide +kernel⟩
theorem kvL_23 : qv_cv R_law 23 yX11_read cX11_read 1 (some .int) 0 := ⟨⟨gw_ix 578 (by decide +kernel), gw_ix 579 (by decide +kernel), gw_ix 580 (by decide +kernel), gw_ix 96 (by decide +kernel), gw_ix 581 (by decide +kernel)⟩, by decide +kernel⟩
theorem kvL_27 : qv_cv R_law 27 yX12_read cX12_read 2 (some .int) 0 := ⟨⟨gw_ix 1456 (by decide +kernel), gw_ix 1457 (by decide +kernel), gw_ix 1458 (by decide +kernel), gw_ix 109 (by decide +kernel), gw_ix 1459 (by decide +kernel)⟩, by decide +kernel⟩
theorem kvL_28 : qv_cv R_law 28 yX11_place cX11_place 1 (some .int) 0 := ⟨⟨gw_ix 839 (by decide +kernel), gw_ix 840 (by decide +kernel), gw_ix 841 (by decide +kernel), gw_ix 96 (by decide +kernel), gw_ix 842 (by decide +kernel)⟩, by decide +kernel⟩
theorem kvL_31 : qv_cv R_law 31 yX12_place cX12_place 1 (some .int) 0 := ⟨⟨gw_ix 1554 (by decide +kernel), gw_ix 1555 (by decide +kernel), gw_ix 1556 (by decide +kernel), gw_ix 109 (by decide +kernel), gw_ix 1557 (by decide +kernel)⟩, by decide +kernel⟩
theorem kvL_32 : qv_cv R_law 32 yX11_noise cX11_noise 3 (some .int) 2 := ⟨⟨gw_ix 843 (by decide +kernel), gw_ix 844 (by decide +kernel), gw_ix 845 (by decide +kernel), gw_ix 96 (by decide +kernel), gw_ix 846 (by decide +kernel)⟩, by decide +kernel⟩
theorem kvL_36 : qv_cv R_law 36 yX12_noise cX12_noise 4 (some .int) 2 := ⟨⟨gw_ix 1558 (by decide +kernel), gw_ix 1559 (by decide +kernel), gw_ix 1560 (by decide +kernel), gw_ix 109 (by decide +kernel), gw_ix 1561 (by decide +kernel)⟩, by decide +kernel⟩
theorem kvL_37 : qv_cv R_law 37 yX11_shot cX11_shot 3 (some .int) 2 := ⟨⟨gw_ix 870 (by decide +kernel), gw_ix 871 (by decide +kernel), gw_ix 872 (by decide +kernel), gw_ix 96 (by decide +kernel), gw_ix 873 (by decide +kernel)⟩, by decide +kernel⟩
theorem kvL_40 : qv_cv R_law 40 yX12_shot cX12_shot 3 (some .int) 2 := ⟨⟨gw_ix 1597 (by decide +kernel), gw_ix 1598 (by decide +kernel), gw_ix 1599 (by decide +kernel), gw_ix 109 (by decide +kernel), gw_ix 1600 (by decide +kernel)⟩, by decide +kernel⟩
theorem kvL_41 : qv_cv R_law 41 yX11_heard cX11_heard 4 (some .int) 3 := ⟨⟨gw_ix 886 (by decide +kernel), gw_ix 887 (by decide +kernel), gw_ix 888 (by decide +kernel), gw_ix 96 (by decide +kernel), gw_ix 889 (by decide +kernel)⟩, by decide +kernel⟩
theorem kvL_45 : qv_cv R_law 45 yX12_heard cX12_heard 4 (some .int) 3 := ⟨⟨gw_ix 1613 (by decide +kernel), gw_ix 1614 (by decide +kernel), gw_ix 1615 (by decide +kernel), gw_ix 109 (by decide +kernel), gw_ix 1616 (by decide +kernel)⟩, by decide +kernel⟩
theorem kvL_46 : qv_cv R_law 46 yX11_loud cX11_loud 3 (some .int) 2 := ⟨⟨gw_ix 908 (by decide +kernel), gw_ix 909 (by decide +kernel), gw_ix 910 (by decide +kernel), gw_ix 96 (by decide +kernel), gw_ix 911 (by decide +kernel)⟩, by decide +kernel⟩
theorem kvL_49 : qv_cv R_law 49 yX12_loud cX12_loud 3 (some .int) 2 := ⟨⟨gw_ix 1641 (by decide +kernel), gw_ix 1642 (by decide +kernel), gw_ix 1643 (by decide +kernel), gw_ix 109 (by decide +kernel), gw_ix 1644 (by decide +kernel)⟩, by decide +kernel⟩
theorem kvL_50 : qv_cv R_law 50 yX11_bears cX11_bears 3 (some .int) 2 := ⟨⟨gw_ix 945 (by decide +kernel), gw_ix 946 (by decide +kernel), gw_ix 947 (by decide +kernel), gw_ix 96 (by decide +kernel), gw_ix 948 (by decide +kernel)⟩, by decide +kernel⟩
theorem kvL_53 : qv_cv R_law 53 yX12_bears cX12_bears 3 (some .int) 2 := ⟨⟨gw_ix 1658 (by decide +kernel), gw_ix 1659 (by decide +kernel), gw_ix 1660 (by decide +kernel), gw_ix 109 (by decide +kernel), gw_ix 1661 (by decide +kernel)⟩, by decide +kernel⟩
theorem kvL_54 : qv_cv R_law 54 yX11_take cX11_take 3 (some .int) 1 := ⟨⟨gw_ix 953 (by decide +kernel), gw_ix 954 (by decide +kernel), gw_ix 955 (by decide +kernel), gw_ix 96 (by decide +kernel), gw_ix 956 (by decide +kernel)⟩, by decide +kernel⟩
theorem kvL_57 : qv_cv R_law 57 yX12_take cX12_take 3 (some .int) 1 := ⟨⟨gw_ix 1666 (by decide +kernel), gw_ix 1667 (by decide +kernel), gw_ix 1668 (by decide +kernel), gw_ix 109 (by decide +kernel), gw_ix 1669 (by decide +kernel)⟩, by decide +kernel⟩
theorem kvL_58 : qv_cv R_law 58 yX11_waits cX11_waits 2 (some .int) 1 := ⟨⟨gw_ix 988 (by decide +kernel), gw_ix 989 (by decide +kernel), gw_ix 990 (by decide +kernel), gw_ix 96 (by decide +kernel), gw_ix 991 (by decide +kernel)⟩, by decide +kernel⟩
theorem kvL_61 : qv_cv R_law 61 yX12_waits cX12_waits 2 (some .int) 1 := ⟨⟨gw_ix 1686 (by decide +kernel), gw_ix 1687 (by decide +kernel), gw_ix 1688 (by decide +kernel), gw_ix 109 (by decide +kernel), gw_ix 1689 (by decide +kernel)⟩, by decide +kernel⟩
theorem kvL_62 : qv_cv R_law 62 yX11_rests cX11_rests 2 (some .int) 1 := ⟨⟨gw_ix 992 (by decide +kernel), gw_ix 993 (by decide +kernel), gw_ix 994 (by decide +kernel), gw_ix 96 (by decide +kernel), gw_ix 995 (by decide +kernel)⟩, by decide +kernel⟩
theorem kvL_65 : qv_cv R_law 65 yX12_rests cX12_rests 2 (some .int) 1 := ⟨⟨gw_ix 1690 (by decide +kernel), gw_ix 1691 (by decide +kernel), gw_ix 1692 (by decide +kernel), gw_ix 109 (by decide +kernel), gw_ix 1693 (by decide +kernel)⟩, by decide +kernel⟩
theorem kvL_66 : qv_cv R_law 66 yX11_moves cX11_moves 2 (some .int) 1 := ⟨⟨gw_ix 996 (by decide +kernel), gw_ix 997 (by decide +kernel), gw_ix 998 (by decide +kernel), gw_ix 96 (by decide +kernel), gw_ix 999 (by decide +kernel)⟩, by decide +kernel⟩
theorem kvL_69 : qv_cv R_law 69 yX12_moves cX12_moves 2 (some .int) 1 := ⟨⟨gw_ix 1694 (by decide +kernel), gw_ix 1695 (by decide +kernel), gw_ix 1696 (by decide +kernel), gw_ix 109 (by decide +kernel), gw_ix 1697 (by decide +kernel)⟩, by decide +kernel⟩
theorem kvL_70 : qv_cv R_law 70 yX11_pay cX11_pay 4 (some .int) 2 := ⟨⟨gw_ix 1000 (by decide +kernel), gw_ix 1001 (by decide +kernel), gw_ix 1002 (by decide +kernel), gw_ix 96 (by decide +kernel), gw_ix 1003 (by decide +kernel)⟩, by decide +kernel⟩
theorem kvL_73 : qv_cv R_law 73 yX12_pay cX12_pay 4 (some .int) 2 := ⟨⟨gw_ix 1698 (by decide +kernel), gw_ix 1699 (by decide +kernel), gw_ix 1700 (by decide +kernel), gw_ix 109 (by decide +kernel), gw_ix 1701 (by decide +kernel)⟩, by decide +kernel⟩
theorem kvL_74 : qv_cv R_law 74 yX11_undo cX11_undo 1 (some .boolean) 0 := ⟨⟨gw_ix 1005 (by decide +kernel), gw_ix 1006 (by decide +kernel), gw_ix 1007 (by decide +kernel), gw_ix 96 (by decide +kernel), gw_ix 1008 (by decide +kernel)⟩, by decide +kernel⟩
theorem kvL_78 : qv_cv R_law 78 yX12_undo cX12_undo 2 (some .boolean) 0 := ⟨⟨gw_ix 1706 (by decide +kernel), gw_ix 1707 (by decide +kernel), gw_ix 1708 (by decide +kernel), gw_ix 109 (by decide +kernel), gw_ix 1709 (by decide +kernel)⟩, by decide +kernel⟩
theorem kvL_79 : qv_cv R_law 79 yX11_hole cX11_hole 6 (some .int) 3 := ⟨⟨gw_ix 1013 (by decide +kernel), gw_ix 1014 (by decide +kernel), gw_ix 1015 (by decide +kernel), gw_ix 96 (by decide +kernel), gw_ix 1016 (by decide +kernel)⟩, by decide +kernel⟩
theorem kvL_82 : qv_cv R_law 82 yX12_hole cX12_hole 5 (some .int) 3 := ⟨⟨gw_ix 1710 (by decide +kernel), gw_ix 1711 (by decide +kernel), gw_ix 1712 (by decide +kernel), gw_ix 109 (by decide +kernel), gw_ix 1713 (by decide +kernel)⟩, by decide +kernel⟩
theorem kvL_83 : qv_cv R_law 83 yX11_holes cX11_holes 7 (some .int) 3 := ⟨⟨gw_ix 1021 (by decide +kernel), gw_ix 1022 (by decide +kernel), gw_ix 1023 (by decide +kernel), gw_ix 96 (by decide +kernel), gw_ix 1024 (by decide +kernel)⟩, by decide +kernel⟩
theorem kvL_86 : qv_cv R_law 86 yX12_holes cX12_holes 6 (some .int) 3 := ⟨⟨gw_ix 1722 (by decide +kernel), gw_ix 1723 (by decide +kernel), gw_ix 1724 (by decide +kernel), gw_ix 109 (by decide +kernel), gw_ix 1725 (by decide +kernel)⟩, by decide +kernel⟩
theorem kvL_87 : qv_cv R_law 87 yX11_softest cX11_softest 8 (some .int) 3 := ⟨⟨gw_ix 1025 (by decide +kernel), gw_ix 1026 (by decide +kernel), gw_ix 1027 (by decide +kernel), gw_ix 96 (by decide +kernel), gw_ix 1028 (by decide +kernel)⟩, by decide +kernel⟩
theorem kvL_90 : qv_cv R_law 90 yX12_softest cX12_softest 6 (some .int) 3 := ⟨⟨gw_ix 1726 (by decide +kernel), gw_ix 1727 (by decide +kernel), gw_ix 1728 (by decide +kernel), gw_ix 109 (by decide +kernel), gw_ix 1729 (by decide +kernel)⟩, by decide +kernel⟩
theorem kvL_91 : qv_cv R_law 91 yX11_next cX11_next 3 (some .int) 1 := ⟨⟨gw_ix 1033 (by decide +kernel), gw_ix 1034 (by decide +kernel), gw_ix 1035 (by decide +kernel), gw_ix 96 (by decide +kernel), gw_ix 1036 (by decide +kernel)⟩, by decide +kernel⟩
theorem kvL_94 : qv_cv R_law 94 yX12_next cX12_next 3 (some .int) 1 := ⟨⟨gw_ix 1734 (by decide +kernel), gw_ix 1735 (by decide +kernel), gw_ix 1736 (by decide +kernel), gw_ix 109 (by decide +kernel), gw_ix 1737 (by decide +kernel)⟩, by decide +kernel⟩
theorem kvL_95 : qv_cv R_law 95 yX11_loudest cX11_loudest 5 (some .int) 2 := ⟨⟨gw_ix 1037 (by decide +kernel), gw_ix 1038 (by decide +kernel), gw_ix 1039 (by decide +kernel), gw_ix 96 (by decide +kernel), gw_ix 1040 (by decide +kernel)⟩, by decide +kernel⟩
theorem kvL_98 : qv_cv R_law 98 yX12_loudest cX12_loudest 5 (some .int) 2 := ⟨⟨gw_ix 1738 (by decide +kernel), gw_ix 1739 (by decide +kernel), gw_ix 1740 (by decide +kernel), gw_ix 109 (by decide +kernel), gw_ix 1741 (by decide +kernel)⟩, by decide +kernel⟩
theorem kvL_99 : qv_cv R_law 99 yX11_peak cX11_peak 5 (some .int) 2 := ⟨⟨gw_ix 1043 (by decide +kernel), gw_ix 1044 (by decide +kernel), gw_ix 1045 (by decide +kernel), gw_ix 96 (by decide +kernel), gw_ix 1046 (by decide +kernel)⟩, by decide +kernel⟩
theorem kvL_102 : qv_cv R_law 102 yX12_peak cX12_peak 5 (some .int) 2 := ⟨⟨gw_ix 1746 (by decide +kernel), gw_ix 1747 (by decide +kernel), gw_ix 1748 (by decide +kernel), gw_ix 109 (by decide +kernel), gw_ix 1749 (by decide +kernel)⟩, by decide +kernel⟩
theorem kvL_103 : qv_cv R_law 103 yX11_calmest cX11_calmest 6 (some .int) 1 := ⟨⟨gw_ix 1047 (by decide +kernel), gw_ix 1048 (by decide +kernel), gw_ix 1049 (by decide +kernel), gw_ix 96 (by decide +kernel), gw_ix 1050 (by decide +kernel)⟩, by decide +kernel⟩
theorem kvL_106 : qv_cv R_law 106 yX12_calmest cX12_calmest 6 (some .int) 1 := ⟨⟨gw_ix 1750 (by decide +kernel), gw_ix 1751 (by decide +kernel), gw_ix 1752 (by decide +kernel), gw_ix 109 (by decide +kernel), gw_ix 1753 (by decide +kernel)⟩, by decide +kernel⟩
theorem kvL_107 : qv_cv R_law 107 yX11_ours cX11_ours 5 (some .int) 1 := ⟨⟨gw_ix 1051 (by decide +kernel), gw_ix 1052 (by decide +kernel), gw_ix 1053 (by decide +kernel), gw_ix 96 (by decide +kernel), gw_ix 1054 (by decide +kernel)⟩, by decide +kernel⟩
theorem kvL_110 : qv_cv R_law 110 yX12_ours cX12_ours 4 (some .int) 1 := ⟨⟨gw_ix 1754 (by decide +kernel), gw_ix 1755 (by decide +kernel), gw_ix 1756 (by decide +kernel), gw_ix 109 (by decide +kernel), gw_ix 1757 (by decide +kernel)⟩, by decide +kernel⟩
theorem kvL_111 : qv_cv R_law 111 yX11_best cX11_best 8 (some .int) 2 := ⟨⟨gw_ix 1057 (by decide +kernel), gw_ix 1058 (by decide +kernel), gw_ix 1059 (by decide +kernel), gw_ix 96 (by decide +kernel), gw_ix 1060 (by decide +kernel)⟩, by decide +kernel⟩
theorem kvL_114 : qv_cv R_law 114 yX12_best cX12_best 7 (some .int) 2 := ⟨⟨gw_ix 1758 (by decide +kernel), gw_ix 1759 (by decide +kernel), gw_ix 1760 (by decide +kernel), gw_ix 109 (by decide +kernel), gw_ix 1761 (by decide +kernel)⟩, by decide +kernel⟩
theorem kvL_115 : qv_cv R_law 115 yX11_order cX11_order 2 (some .int) 1 := ⟨⟨gw_ix 1069 (by decide +kernel), gw_ix 1070 (by decide +kernel), gw_ix 1071 (by decide +kernel), gw_ix 96 (by decide +kernel), gw_ix 1072 (by decide +kernel)⟩, by decide +kernel⟩
theorem kvL_118 : qv_cv R_law 118 yX12_order cX12_order 2 (some .int) 1 := ⟨⟨gw_ix 1770 (by decide +kernel), gw_ix 1771 (by decide +kernel), gw_ix 1772 (by decide +kernel), gw_ix 109 (by decide +kernel), gw_ix 1773 (by decide +kernel)⟩, by decide +kernel⟩
theorem kvL_119 : qv_cv R_law 119 yX11_bribe cX11_bribe 8 (some .int) 2 := ⟨⟨gw_ix 1097 (by decide +kernel), gw_ix 1098 (by decide +kernel), gw_ix 1099 (by decide +kernel), gw_ix 96 (by decide +kernel), gw_ix 1100 (by decide +kernel)⟩, by decide +kernel⟩
theorem kvL_122 : qv_cv R_law 122 yX12_bribe cX12_bribe 8 (some .int) 2 := ⟨⟨gw_ix 1807 (by decide +kernel), gw_ix 1808 (by decide +kernel), gw_ix 1809 (by decide +kernel), gw_ix 109 (by decide +kernel), gw_ix 1810 (by decide +kernel)⟩, by decide +kernel⟩
theorem kvL_123 : qv_cv R_law 123 yX11_cellar cX11_cellar 4 (some .int) 2 := ⟨⟨gw_ix 1105 (by decide +kernel), gw_ix 1106 (by decide +kernel), gw_ix 1107 (by decide +kernel), gw_ix 96 (by decide +kernel), gw_ix 1108 (by decide +kernel)⟩, by decide +kernel⟩
theorem kvL_126 : qv_cv R_law 126 yX12_cellar cX12_cellar 6 (some .int) 2 := ⟨⟨gw_ix 1793 (by decide +kernel), gw_ix 1794 (by decide +kernel), gw_ix 1795 (by decide +kernel), gw_ix 109 (by decide +kernel), gw_ix 1796 (by decide +kernel)⟩, by decide +kernel⟩
theorem kvL_127 : qv_cv R_law 127 yX11_cheapest cX11_cheapest 4 (some .int) 2 := ⟨⟨gw_ix 1124 (by decide +kernel), gw_ix 1125 (by decide +kernel), gw_ix 1126 (by decide +kernel), gw_ix 96 (by decide +kernel), gw_ix 1127 (by decide +kernel)⟩, by decide +kernel⟩
theorem kvL_130 : qv_cv R_law 130 yX12_cheapest cX12_cheapest 8 (some .int) 2 := ⟨⟨gw_ix 1811 (by decide +kernel), gw_ix 1812 (by decide +kernel), gw_ix 1813 (by decide +kernel), gw_ix 109 (by decide +kernel), gw_ix 1814 (by decide +kernel)⟩, by decide +kernel⟩
theorem kvL_131 : qv_cv R_law 131 yX11_breakOff cX11_breakOff 4 (some .int) 2 := ⟨⟨gw_ix 1137 (by decide +kernel), gw_ix 1138 (by decide +kernel), gw_ix 1139 (by decide +kernel), gw_ix 96 (by decide +kernel), gw_ix 1140 (by decide +kernel)⟩, by decide +kernel⟩
theorem kvL_134 : qv_cv R_law 134 yX12_breakOff cX12_breakOff 5 (some .int) 2 := ⟨⟨gw_ix 1815 (by decide +kernel), gw_ix 1816 (by decide +kernel), gw_ix 1817 (by decide +kernel), gw_ix 109 (by decide +kernel), gw_ix 1818 (by decide +kernel)⟩, by decide +kernel⟩
theorem kvL_135 : qv_cv R_law 135 yX11_join cX11_join 5 (some .int) 1 := ⟨⟨gw_ix 1142 (by decide +kernel), gw_ix 1143 (by decide +kernel), gw_ix 1144 (by decide +kernel), gw_ix 96 (by decide +kernel), gw_ix 1145 (by decide +kernel)⟩, by decide +kernel⟩
theorem kvL_138 : qv_cv R_law 138 yX12_join cX12_join 5 (some .int) 1 := ⟨⟨gw_ix 1819 (by decide +kernel), gw_ix 1820 (by decide +kernel), gw_ix 1821 (by decide +kernel), gw_ix 109 (by decide +kernel), gw_ix 1822 (by decide +kernel)⟩, by decide +kernel⟩
theorem kvL_139 : qv_cv R_law 139 yX11_odds cX11_odds 6 (some .int) 3 := ⟨⟨gw_ix 1146 (by decide +kernel), gw_ix 1147 (by decide +kernel), gw_ix 1148 (by decide +kernel), gw_ix 96 (by decide +kernel), gw_ix 1149 (by decide +kernel)⟩, by decide +kernel⟩
theorem kvL_142 : qv_cv R_law 142 yX12_odds cX12_odds 7 (some .int) 3 := ⟨⟨gw_ix 1823 (by decide +kernel), gw_ix 1824 (by decide +kernel), gw_ix 1825 (by decide +kernel), gw_ix 109 (by decide +kernel), gw_ix 1826 (by decide +kernel)⟩, by decide +kernel⟩
theorem kvL_143 : qv_cv R_law 143 yX11_tell cX11_tell 4 (some .int) 3 := ⟨⟨gw_ix 1150 (by decide +kernel), gw_ix 1151 (by decide +kernel), gw_ix 1152 (by decide +kernel), gw_ix 96 (by decide +kernel), gw_ix 1153 (by decide +kernel)⟩, by decide +kernel⟩
theorem kvL_146 : qv_cv R_law 146 yX12_tell cX12_tell 4 (some .int) 3 := ⟨⟨gw_ix 1827 (by decide +kernel), gw_ix 1828 (by decide +kernel), gw_ix 1829 (by decide +kernel), gw_ix 109 (by decide +kernel), gw_ix 1830 (by decide +kernel)⟩, by decide +kernel⟩
theorem kvL_147 : qv_cv R_law 147 yX11_forget cX11_forget 2 (some .int) 0 := ⟨⟨gw_ix 1165 (by decide +kernel), gw_ix 1166 (by decide +kernel), gw_ix 1167 (by decide +kernel), gw_ix 96 (by decide +kernel), gw_ix 1168 (by decide +kernel)⟩, by decide +kernel⟩
theorem kvL_150 : qv_cv R_law 150 yX12_forget cX12_forget 2 (some .int) 0 := ⟨⟨gw_ix 1831 (by decide +kernel), gw_ix 1832 (by decide +kernel), gw_ix 1833 (by decide +kernel), gw_ix 109 (by decide +kernel), gw_ix 1834 (by decide +kernel)⟩, by decide +kernel⟩
theorem kvL_151 : qv_cv R_law 151 yX11_when cX11_when 3 (some .int) 2 := ⟨⟨gw_ix 1169 (by decide +kernel), gw_ix 1170 (by decide +kernel), gw_ix 1171 (by decide +kernel), gw_ix 96 (by decide +kernel), gw_ix 1172 (by decide +kernel)⟩, by decide +kernel⟩
theorem kvL_154 : qv_cv R_law 154 yX12_when cX12_when 5 (some .int) 2 := ⟨⟨gw_ix 1835 (by decide +kernel), gw_ix 1836 (by decide +kernel), gw_ix 1837 (by decide +kernel), gw_ix 109 (by decide +kernel), gw_ix 1838 (by decide +kernel)⟩, by decide +kernel⟩
theorem kvL_155 : qv_cv R_law 155 yX11_hold cX11_hold 2 (some .boolean) 1 := ⟨⟨gw_ix 1181 (by decide +kernel), gw_ix 1182 (by decide +kernel), gw_ix 1183 (by decide +kernel), gw_ix 96 (by decide +kernel), gw_ix 1184 (by decide +kernel)⟩, by decide +kernel⟩
theorem kvL_159 : qv_cv R_law 159 yX12_hold cX12_hold 3 (some .boolean) 1 := ⟨⟨gw_ix 1843 (by decide +kernel), gw_ix 1844 (by decide +kernel), gw_ix 1845 (by decide +kernel), gw_ix 109 (by decide +kernel), gw_ix 1846 (by decide +kernel)⟩, by decide +kernel⟩
theorem kvL_160 : qv_cv R_law 160 yX11_restore cX11_restore 2 (some .boolean) 1 := ⟨⟨gw_ix 1186 (by decide +kernel), gw_ix 1187 (by decide +kernel), gw_ix 1188 (by decide +kernel), gw_ix 96 (by decide +kernel), gw_ix 1189 (by decide +kernel)⟩, by decide +kernel⟩
theorem kvL_163 : qv_cv R_law 163 yX12_restore cX12_restore 3 (some .boolean) 1 := ⟨⟨gw_ix 1847 (by decide +kernel), gw_ix 1848 (by decide +kernel), gw_ix 1849 (by decide +kernel), gw_ix 109 (by decide +kernel), gw_ix 1850 (by decide +kernel)⟩, by decide +kernel⟩
theorem kvL_164 : qv_cv R_law 164 yX11_count cX11_count 2 (some .int) 1 := ⟨⟨gw_ix 1190 (by decide +kernel), gw_ix 1191 (by decide +kernel), gw_ix 1192 (by decide +kernel), gw_ix 96 (by decide +kernel), gw_ix 1193 (by decide +kernel)⟩, by decide +kernel⟩
theorem kvL_167 : qv_cv R_law 167 yX12_count cX12_count 4 (some .int) 1 := ⟨⟨gw_ix 1851 (by decide +kernel), gw_ix 1852 (by decide +kernel), gw_ix 1853 (by decide +kernel), gw_ix 109 (by decide +kernel), gw_ix 1854 (by decide +kernel)⟩, by decide +kernel⟩
def tbL_0 : List (Nat × Instr × Nat) := [(196, .aload_n 1, 1), (197, .aload_n 0, 1), (198, .iload_n 3, 1), (199, .iconst 1, 1), (200, .iadd, 1), (201, .iaload, 1), (202, .aload_n 0, 1), (203, .iload_n 3, 1), (204, .iconst 2, 1), (205, .iadd, 1), (206, .iaload, 1), (207, .aload_n 0, 1), (208, .iload_n 3, 1), (209, .iconst 3, 1), (210, .iadd, 1), (211, .iaload, 1), (212, .aload_n 0, 1), (213, .iload_n 3, 1), (214, .iconst 4, 1), (215, .iadd, 1), (216, .iaload, 1), (217, .aload_n 0, 1), (218, .iload_n 3, 1), (219, .iconst 5, 1), (220, .iadd, 1), (221, .iaload, 1), (222, .invokevirtual 13, 3), (225, .aload_n 2, 1), (226, .aload_n 0, 1), (227, .iload_n 3, 1), (228, .iconst 1, 1), (229, .iadd, 1), (230, .iaload, 1), (231, .aload_n 0, 1), (232, .iload_n 3, 1), (233, .iconst 2, 1), (234, .iadd, 1), (235, .iaload, 1), (236, .aload_n 0, 1), (237, .iload_n 3, 1), (238, .iconst 3, 1), (239, .iadd, 1), (240, .iaload, 1), (241, .aload_n 0, 1), (242, .iload_n 3, 1), (243, .iconst 4, 1), (244, .iadd, 1), (245, .iaload, 1), (246, .aload_n 0, 1), (247, .iload_n 3, 1), (248, .iconst 5, 1), (249, .iadd, 1), (250, .iaload, 1), (251, .invokevirtual 17, 3), (254, .if_icmp .eq 1043, 3), (257, .iconst 0, 1), (258, .ireturn, 1)]
set_option maxRecDepth 20000 in
theorem daL_0 : ∀ x ∈ tbL_0, decode code x.1 = .ok x.2 := by decide +kernel
theorem dkL_0 {i pc n : Nat} {ins : Instr} (h : tbL_0[i]? = some (pc, ins, n)) : decode code pc = .ok (ins, n) := daL_0 (pc, ins, n) (List.mem_of_getElem? h)
set_option maxRecDepth 20000 in
set_option maxHeartbeats 4000000 in
/-- feed -/
theorem law_case_0 {Rel : Nat → qv_St → qv_St → Prop} (hop : ∀ (i : Nat) (S1 S2 : qv_St) (a1 a2 a3 a4 a5 : Int32), i + 6 ≤ 3072 → Rel i S1 S2 → ∃ (S1' : qv_St) (S2' : qv_St) (r : Int32), fX11_feed S1 a1 a2 a3 a4 a5 = some (S1', r) ∧ fX12_feed S2 a1 a2 a3 a4 a5 = some (S2', r) ∧ Rel (i + 6) S1' S2') {l : Launch} {D : va_G} {cy ax : Nat → Nat} {B1 B2 b L : Nat} {xs : Nat → Int32} {X : qv_XT} (hL : L ≤ 3072) {i : Nat} (hi : i + 6 ≤ L) (hnext : ∀ S1 S2 : qv_St, Rel (i + 6) S1 S2 → VL l D cy ax B1 B2 b L xs X 1297 [(0, .ref b), (1, .ref (qc_ad B1 ax 0)), (2, .ref (qc_ad B2 ax 0)), (3, .int (nI i))] [] S1 S2) (S1 S2 : qv_St) (hrel : Rel i S1 S2) : VL l D cy ax B1 B2 b L xs X 196 [(0, .ref b), (1, .ref (qc_ad B1 ax 0)), (2, .ref (qc_ad B2 ax 0)), (3, .int (nI i))] [] S1 S2 := by
  obtain ⟨S1', S2', r, h1, h2, hR⟩ := hop i S1 S2 (xs (i + 1)) (xs (i + 2)) (xs (i + 3)) (xs (i + 4)) (xs (i + 5)) (by omega) hrel
  refine vl_aload_n (n := 197) 1 (dkL_0 (i := 0) rfl) rfl rfl ?_
  refine vl_aload_n (n := 198) 0 (dkL_0 (i := 1) rfl) rfl rfl ?_
  refine vl_iload_n (n := 199) 3 (dkL_0 (i := 2) rfl) rfl rfl ?_
  refine vl_iconst (n := 200) 1 (dkL_0 (i := 3) rfl) rfl (by decide) ?_
  refine vl_iadd (n := 201) (nI (i + 1)) (dkL_0 (i := 4) rfl) rfl (nI_add i 1) ?_
  refine vl_sld (n := 202) (i := i + 1) hL (by omega) (dkL_0 (i := 5) rfl) rfl ?_
  refine vl_aload_n (n := 203) 0 (dkL_0 (i := 6) rfl) rfl rfl ?_
  refine vl_iload_n (n := 204) 3 (dkL_0 (i := 7) rfl) rfl rfl ?_
  refine vl_iconst (n := 205) 2 (dkL_0 (i := 8) rfl) rfl (by decide) ?_
  refine vl_iadd (n := 206) (nI (i + 2)) (dkL_0 (i := 9) rfl) rfl (nI_add i 2) ?_
  refine vl_sld (n := 207) (i := i + 2) hL (by omega) (dkL_0 (i := 10) rfl) rfl ?_
  refine vl_aload_n (n := 208) 0 (dkL_0 (i := 11) rfl) rfl rfl ?_
  refine vl_iload_n (n := 209) 3 (dkL_0 (i := 12) rfl) rfl rfl ?_
  refine vl_iconst (n := 210) 3 (dkL_0 (i := 13) rfl) rfl (by decide) ?_
  refine vl_iadd (n := 211) (nI (i + 3)) (dkL_0 (i := 14) rfl) rfl (nI_add i 3) ?_
  refine vl_sld (n := 212) (i := i + 3) hL (by omega) (dkL_0 (i := 15) rfl) rfl ?_
  refine vl_aload_n (n := 213) 0 (dkL_0 (i := 16) rfl) rfl rfl ?_
  refine vl_iload_n (n := 214) 3 (dkL_0 (i := 17) rfl) rfl rfl ?_
  refine vl_iconst (n := 215) 4 (dkL_0 (i := 18) rfl) rfl (by decide) ?_
  refine vl_iadd (n := 216) (nI (i + 4)) (dkL_0 (i := 19) rfl) rfl (nI_add i 4) ?_
  refine vl_sld (n := 217) (i := i + 4) hL (by omega) (dkL_0 (i := 20) rfl) rfl ?_
  refine vl_aload_n (n := 218) 0 (dkL_0 (i := 21) rfl) rfl rfl ?_
  refine vl_iload_n (n := 219) 3 (dkL_0 (i := 22) rfl) rfl rfl ?_
  refine vl_iconst (n := 220) 5 (dkL_0 (i := 23) rfl) rfl (by decide) ?_
  refine vl_iadd (n := 221) (nI (i + 5)) (dkL_0 (i := 24) rfl) rfl (nI_add i 5) ?_
  refine vl_sld (n := 222) (i := i + 5) hL (by omega) (dkL_0 (i := 25) rfl) rfl ?_
  refine vl_c1 (n := 225) (emb2 := qe_m) (S1', r) [.int (xs (i + 1)), .int (xs (i + 2)), .int (xs (i + 3)), .int (xs (i + 4)), .int (xs (i + 5))] (dkL_0 (i := 26) rfl) rfl kvL_13 rfl rfl (Nat.le_of_ble_eq_true rfl) rfl rfl rfl h1 (wX11_feed (l, D, qc_ad B1 ax, cy) S1 (xs (i + 1)) (xs (i + 2)) (xs (i + 3)) (xs (i + 4)) (xs (i + 5))) ?_
  show VL l D cy ax B1 B2 b L xs X 225 [(0, .ref b), (1, .ref (qc_ad B1 ax 0)), (2, .ref (qc_ad B2 ax 0)), (3, .int (nI i))] [.int r] S1' S2
  refine vl_aload_n (n := 226) 2 (dkL_0 (i := 27) rfl) rfl rfl ?_
  refine vl_aload_n (n := 227) 0 (dkL_0 (i := 28) rfl) rfl rfl ?_
  refine vl_iload_n (n := 228) 3 (dkL_0 (i := 29) rfl) rfl rfl ?_
  refine vl_iconst (n := 229) 1 (dkL_0 (i := 30) rfl) rfl (by decide) ?_
  refine vl_iadd (n := 230) (nI (i + 1)) (dkL_0 (i := 31) rfl) rfl (nI_add i 1) ?_
  refine vl_sld (n := 231) (i := i + 1) hL (by omega) (dkL_0 (i := 32) rfl) rfl ?_
  refine vl_aload_n (n := 232) 0 (dkL_0 (i := 33) rfl) rfl rfl ?_
  refine vl_iload_n (n := 233) 3 (dkL_0 (i := 34) rfl) rfl rfl ?_
  refine vl_iconst (n := 234) 2 (dkL_0 (i := 35) rfl) rfl (by decide) ?_
  refine vl_iadd (n := 235) (nI (i + 2)) (dkL_0 (i := 36) rfl) rfl (nI_add i 2) ?_
  refine vl_sld (n := 236) (i := i + 2) hL (by omega) (dkL_0 (i := 37) rfl) rfl ?_
  refine vl_aload_n (n := 237) 0 (dkL_0 (i := 38) rfl) rfl rfl ?_
  refine vl_iload_n (n := 238) 3 (dkL_0 (i := 39) rfl) rfl rfl ?_
  refine vl_iconst (n := 239) 3 (dkL_0 (i := 40) rfl) rfl (by decide) ?_
  refine vl_iadd (n := 240) (nI (i + 3)) (dkL_0 (i := 41) rfl) rfl (nI_add i 3) ?_
  refine vl_sld (n := 241) (i := i + 3) hL (by omega) (dkL_0 (i := 42) rfl) rfl ?_
  refine vl_aload_n (n := 242) 0 (dkL_0 (i := 43) rfl) rfl rfl ?_
  refine vl_iload_n (n := 243) 3 (dkL_0 (i := 44) rfl) rfl rfl ?_
  refine vl_iconst (n := 244) 4 (dkL_0 (i := 45) rfl) rfl (by decide) ?_
  refine vl_iadd (n := 245) (nI (i + 4)) (dkL_0 (i := 46) rfl) rfl (nI_add i 4) ?_
  refine vl_sld (n := 246) (i := i + 4) hL (by omega) (dkL_0 (i := 47) rfl) rfl ?_
  refine vl_aload_n (n := 247) 0 (dkL_0 (i := 48) rfl) rfl rfl ?_
  refine vl_iload_n (n := 248) 3 (dkL_0 (i := 49) rfl) rfl rfl ?_
  refine vl_iconst (n := 249) 5 (dkL_0 (i := 50) rfl) rfl (by decide) ?_
  refine vl_iadd (n := 250) (nI (i + 5)) (dkL_0 (i := 51) rfl) rfl (nI_add i 5) ?_
  refine vl_sld (n := 251) (i := i + 5) hL (by omega) (dkL_0 (i := 52) rfl) rfl ?_
  refine vl_c2 (n := 254) (emb2 := qe_m) (S2', r) [.int (xs (i + 1)), .int (xs (i + 2)), .int (xs (i + 3)), .int (xs (i + 4)), .int (xs (i + 5))] (dkL_0 (i := 53) rfl) rfl kvL_17 rfl rfl (Nat.le_of_ble_eq_true rfl) rfl rfl rfl h2 (wX12_feed (l, D, qc_ad B2 ax, cy) S2 (xs (i + 1)) (xs (i + 2)) (xs (i + 3)) (xs (i + 4)) (xs (i + 5))) ?_
  show VL l D cy ax B1 B2 b L xs X 254 [(0, .ref b), (1, .ref (qc_ad B1 ax 0)), (2, .ref (qc_ad B2 ax 0)), (3, .int (nI i))] [.int r, .int r] S1' S2'
  refine vl_same (t := 1297) (dkL_0 (i := 54) rfl) (by decide) ?_
  exact hnext S1' S2' hR
def tbL_1 : List (Nat × Instr × Nat) := [(259, .aload_n 1, 1), (260, .aload_n 0, 1), (261, .iload_n 3, 1), (262, .iconst 1, 1), (263, .iadd, 1), (264, .iaload, 1), (265, .invokevirtual 18, 3), (268, .aload_n 2, 1), (269, .aload_n 0, 1), (270, .iload_n 3, 1), (271, .iconst 1, 1), (272, .iadd, 1), (273, .iaload, 1), (274, .invokevirtual 22, 3), (277, .if_icmp .eq 1020, 3), (280, .iconst 0, 1), (281, .ireturn, 1)]
set_option maxRecDepth 20000 in
theorem daL_1 : ∀ x ∈ tbL_1, decode code x.1 = .ok x.2 := by decide +kernel
theorem dkL_1 {i pc n : Nat} {ins : Instr} (h : tbL_1[i]? = some (pc, ins, n)) : decode code pc = .ok (ins, n) := daL_1 (pc, ins, n) (List.mem_of_getElem? h)
set_option maxRecDepth 20000 in
set_option maxHeartbeats 4000000 in
/-- back -/
theorem law_case_1 {Rel : Nat → qv_St → qv_St → Prop} (hop : ∀ (i : Nat) (S1 S2 : qv_St) (a1 : Int32), i + 6 ≤ 3072 → Rel i S1 S2 → ∃ (S1' : qv_St) (S2' : qv_St) (r : Int32), fX11_back S1 a1 = some (S1', r) ∧ fX12_back S2 a1 = some (S2', r) ∧ Rel (i + 6) S1' S2') {l : Launch} {D : va_G} {cy ax : Nat → Nat} {B1 B2 b L : Nat} {xs : Nat → Int32} {X : qv_XT} (hL : L ≤ 3072) {i : Nat} (hi : i + 6 ≤ L) (hnext : ∀ S1 S2 : qv_St, Rel (i + 6) S1 S2 → VL l D cy ax B1 B2 b L xs X 1297 [(0, .ref b), (1, .ref (qc_ad B1 ax 0)), (2, .ref (qc_ad B2 ax 0)), (3, .int (nI i))] [] S1 S2) (S1 S2 : qv_St) (hrel : Rel i S1 S2) : VL l D cy ax B1 B2 b L xs X 259 [(0, .ref b), (1, .ref (qc_ad B1 ax 0)), (2, .ref (qc_ad B2 ax 0)), (3, .int (nI i))] [] S1 S2 := by
  obtain ⟨S1', S2', r, h1, h2, hR⟩ := hop i S1 S2 (xs (i + 1)) (by omega) hrel
  refine vl_aload_n (n := 260) 1 (dkL_1 (i := 0) rfl) rfl rfl ?_
  refine vl_aload_n (n := 261) 0 (dkL_1 (i := 1) rfl) rfl rfl ?_
  refine vl_iload_n (n := 262) 3 (dkL_1 (i := 2) rfl) rfl rfl ?_
  refine vl_iconst (n := 263) 1 (dkL_1 (i := 3) rfl) rfl (by decide) ?_
  refine vl_iadd (n := 264) (nI (i + 1)) (dkL_1 (i := 4) rfl) rfl (nI_add i 1) ?_
  refine vl_sld (n := 265) (i := i + 1) hL (by omega) (dkL_1 (i := 5) rfl) rfl ?_
  refine vl_c1 (n := 268) (emb2 := qe_m) (S1', r) [.int (xs (i + 1))] (dkL_1 (i := 6) rfl) rfl kvL_18 rfl rfl (Nat.le_of_ble_eq_true rfl) rfl rfl rfl h1 (wX11_back (l, D, qc_ad B1 ax, cy) S1 (xs (i + 1))) ?_
  show VL l D cy ax B1 B2 b L xs X 268 [(0, .ref b), (1, .ref (qc_ad B1 ax 0)), (2, .ref (qc_ad B2 ax 0)), (3, .int (nI i))] [.int r] S1' S2
  refine vl_aload_n (n := 269) 2 (dkL_1 (i := 7) rfl) rfl rfl ?_
  refine vl_aload_n (n := 270) 0 (dkL_1 (i := 8) rfl) rfl rfl ?_
  refine vl_iload_n (n := 271) 3 (dkL_1 (i := 9) rfl) rfl rfl ?_
  refine vl_iconst (n := 272) 1 (dkL_1 (i := 10) rfl) rfl (by decide) ?_
  refine vl_iadd (n := 273) (nI (i + 1)) (dkL_1 (i := 11) rfl) rfl (nI_add i 1) ?_
  refine vl_sld (n := 274) (i := i + 1) hL (by omega) (dkL_1 (i := 12) rfl) rfl ?_
  refine vl_c2 (n := 277) (emb2 := qe_m) (S2', r) [.int (xs (i + 1))] (dkL_1 (i := 13) rfl) rfl kvL_22 rfl rfl (Nat.le_of_ble_eq_true rfl) rfl rfl rfl h2 (wX12_back (l, D, qc_ad B2 ax, cy) S2 (xs (i + 1))) ?_
  show VL l D cy ax B1 B2 b L xs X 277 [(0, .ref b), (1, .ref (qc_ad B1 ax 0)), (2, .ref (qc_ad B2 ax 0)), (3, .int (nI i))] [.int r, .int r] S1' S2'
  refine vl_same (t := 1297) (dkL_1 (i := 14) rfl) (by decide) ?_
  exact hnext S1' S2' hR
def tbL_2 : List (Nat × Instr × Nat) := [(282, .aload_n 1, 1), (283, .invokevirtual 23, 3), (286, .aload_n 2, 1), (287, .invokevirtual 27, 3), (290, .if_icmp .eq 1007, 3), (293, .iconst 0, 1), (294, .ireturn, 1)]
set_option maxRecDepth 20000 in
theorem daL_2 : ∀ x ∈ tbL_2, decode code x.1 = .ok x.2 := by decide +kernel
theorem dkL_2 {i pc n : Nat} {ins : Instr} (h : tbL_2[i]? = some (pc, ins, n)) : decode code pc = .ok (ins, n) := daL_2 (pc, ins, n) (List.mem_of_getElem? h)
set_option maxRecDepth 20000 in
set_option maxHeartbeats 4000000 in
/-- read -/
theorem law_case_2 {Rel : Nat → qv_St → qv_St → Prop} (hop : ∀ (i : Nat) (S1 S2 : qv_St), i + 6 ≤ 3072 → Rel i S1 S2 → ∃ (S1' : qv_St) (S2' : qv_St) (r : Int32), fX11_read S1 = some (S1', r) ∧ fX12_read S2 = some (S2', r) ∧ Rel (i + 6) S1' S2') {l : Launch} {D : va_G} {cy ax : Nat → Nat} {B1 B2 b L : Nat} {xs : Nat → Int32} {X : qv_XT} (hL : L ≤ 3072) {i : Nat} (hi : i + 6 ≤ L) (hnext : ∀ S1 S2 : qv_St, Rel (i + 6) S1 S2 → VL l D cy ax B1 B2 b L xs X 1297 [(0, .ref b), (1, .ref (qc_ad B1 ax 0)), (2, .ref (qc_ad B2 ax 0)), (3, .int (nI i))] [] S1 S2) (S1 S2 : qv_St) (hrel : Rel i S1 S2) : VL l D cy ax B1 B2 b L xs X 282 [(0, .ref b), (1, .ref (qc_ad B1 ax 0)), (2, .ref (qc_ad B2 ax 0)), (3, .int (nI i))] [] S1 S2 := by
  obtain ⟨S1', S2', r, h1, h2, hR⟩ := hop i S1 S2 (by omega) hrel
  refine vl_aload_n (n := 283) 1 (dkL_2 (i := 0) rfl) rfl rfl ?_
  refine vl_c1 (n := 286) (emb2 := qe_m) (S1', r) [] (dkL_2 (i := 1) rfl) rfl kvL_23 rfl rfl (Nat.le_of_ble_eq_true rfl) rfl rfl rfl h1 (wX11_read (l, D, qc_ad B1 ax, cy) S1) ?_
  show VL l D cy ax B1 B2 b L xs X 286 [(0, .ref b), (1, .ref (qc_ad B1 ax 0)), (2, .ref (qc_ad B2 ax 0)), (3, .int (nI i))] [.int r] S1' S2
  refine vl_aload_n (n := 287) 2 (dkL_2 (i := 2) rfl) rfl rfl ?_
  refine vl_c2 (n := 290) (emb2 := qe_m) (S2', r) [] (dkL_2 (i := 3) rfl) rfl kvL_27 rfl rfl (Nat.le_of_ble_eq_true rfl) rfl rfl rfl h2 (wX12_read (l, D, qc_ad B2 ax, cy) S2) ?_
  show VL l D cy ax B1 B2 b L xs X 290 [(0, .ref b), (1, .ref (qc_ad B1 ax 0)), (2, .ref (qc_ad B2 ax 0)), (3, .int (nI i))] [.int r, .int r] S1' S2'
  refine vl_same (t := 1297) (dkL_2 (i := 4) rfl) (by decide) ?_
  exact hnext S1' S2' hR
def tbL_3 : List (Nat × Instr × Nat) := [(295, .aload_n 1, 1), (296, .invokevirtual 28, 3), (299, .aload_n 2, 1), (300, .invokevirtual 31, 3), (303, .if_icmp .eq 994, 3), (306, .iconst 0, 1), (307, .ireturn, 1)]
set_option maxRecDepth 20000 in
theorem daL_3 : ∀ x ∈ tbL_3, decode code x.1 = .ok x.2 := by decide +kernel
theorem dkL_3 {i pc n : Nat} {ins : Instr} (h : tbL_3[i]? = some (pc, ins, n)) : decode code pc = .ok (ins, n) := daL_3 (pc, ins, n) (List.mem_of_getElem? h)
set_option maxRecDepth 20000 in
set_option maxHeartbeats 4000000 in
/-- place -/
theorem law_case_3 {Rel : Nat → qv_St → qv_St → Prop} (hop : ∀ (i : Nat) (S1 S2 : qv_St), i + 6 ≤ 3072 → Rel i S1 S2 → ∃ (r : Int32), fX11_place S1 = some r ∧ fX12_place S2 = some r ∧ Rel (i + 6) S1 S2) {l : Launch} {D : va_G} {cy ax : Nat → Nat} {B1 B2 b L : Nat} {xs : Nat → Int32} {X : qv_XT} (hL : L ≤ 3072) {i : Nat} (hi : i + 6 ≤ L) (hnext : ∀ S1 S2 : qv_St, Rel (i + 6) S1 S2 → VL l D cy ax B1 B2 b L xs X 1297 [(0, .ref b), (1, .ref (qc_ad B1 ax 0)), (2, .ref (qc_ad B2 ax 0)), (3, .int (nI i))] [] S1 S2) (S1 S2 : qv_St) (hrel : Rel i S1 S2) : VL l D cy ax B1 B2 b L xs X 295 [(0, .ref b), (1, .ref (qc_ad B1 ax 0)), (2, .ref (qc_ad B2 ax 0)), (3, .int (nI i))] [] S1 S2 := by
  obtain ⟨r, h1, h2, hR⟩ := hop i S1 S2 (by omega) hrel
  refine vl_aload_n (n := 296) 1 (dkL_3 (i := 0) rfl) rfl rfl ?_
  refine vl_c1 (n := 299) (emb2 := (qe_i S1)) r [] (dkL_3 (i := 1) rfl) rfl kvL_28 rfl rfl (Nat.le_of_ble_eq_true rfl) rfl rfl rfl h1 (wX11_place (l, D, qc_ad B1 ax, cy) S1) ?_
  show VL l D cy ax B1 B2 b L xs X 299 [(0, .ref b), (1, .ref (qc_ad B1 ax 0)), (2, .ref (qc_ad B2 ax 0)), (3, .int (nI i))] [.int r] S1 S2
  refine vl_aload_n (n := 300) 2 (dkL_3 (i := 2) rfl) rfl rfl ?_
  refine vl_c2 (n := 303) (emb2 := (qe_i S2)) r [] (dkL_3 (i := 3) rfl) rfl kvL_31 rfl rfl (Nat.le_of_ble_eq_true rfl) rfl rfl rfl h2 (wX12_place (l, D, qc_ad B2 ax, cy) S2) ?_
  show VL l D cy ax B1 B2 b L xs X 303 [(0, .ref b), (1, .ref (qc_ad B1 ax 0)), (2, .ref (qc_ad B2 ax 0)), (3, .int (nI i))] [.int r, .int r] S1 S2
  refine vl_same (t := 1297) (dkL_3 (i := 4) rfl) (by decide) ?_
  exact hnext S1 S2 hR
def tbL_4 : List (Nat × Instr × Nat) := [(308, .aload_n 1, 1), (309, .aload_n 0, 1), (310, .iload_n 3, 1), (311, .iconst 1, 1), (312, .iadd, 1), (313, .iaload, 1), (314, .aload_n 0, 1), (315, .iload_n 3, 1), (316, .iconst 2, 1), (317, .iadd, 1), (318, .iaload, 1), (319, .invokevirtual 32, 3), (322, .aload_n 2, 1), (323, .aload_n 0, 1), (324, .iload_n 3, 1), (325, .iconst 1, 1), (326, .iadd, 1), (327, .iaload, 1), (328, .aload_n 0, 1), (329, .iload_n 3, 1), (330, .iconst 2, 1), (331, .iadd, 1), (332, .iaload, 1), (333, .invokevirtual 36, 3), (336, .if_icmp .eq 961, 3), (339, .iconst 0, 1), (340, .ireturn, 1)]
set_option maxRecDepth 20000 in
theorem daL_4 : ∀ x ∈ tbL_4, decode code x.1 = .ok x.2 := by decide +kernel
theorem dkL_4 {i pc n : Nat} {ins : Instr} (h : tbL_4[i]? = some (pc, ins, n)) : decode code pc = .ok (ins, n) := daL_4 (pc, ins, n) (List.mem_of_getElem? h)
set_option maxRecDepth 20000 in
set_option maxHeartbeats 4000000 in
/-- noise -/
theorem law_case_4 {Rel : Nat → qv_St → qv_St → Prop} (hop : ∀ (i : Nat) (S1 S2 : qv_St) (a1 a2 : Int32), i + 6 ≤ 3072 → Rel i S1 S2 → ∃ (S1' : qv_St) (S2' : qv_St) (r : Int32), fX11_noise S1 a1 a2 = some (S1', r) ∧ fX12_noise S2 a1 a2 = some (S2', r) ∧ Rel (i + 6) S1' S2') {l : Launch} {D : va_G} {cy ax : Nat → Nat} {B1 B2 b L : Nat} {xs : Nat → Int32} {X : qv_XT} (hL : L ≤ 3072) {i : Nat} (hi : i + 6 ≤ L) (hnext : ∀ S1 S2 : qv_St, Rel (i + 6) S1 S2 → VL l D cy ax B1 B2 b L xs X 1297 [(0, .ref b), (1, .ref (qc_ad B1 ax 0)), (2, .ref (qc_ad B2 ax 0)), (3, .int (nI i))] [] S1 S2) (S1 S2 : qv_St) (hrel : Rel i S1 S2) : VL l D cy ax B1 B2 b L xs X 308 [(0, .ref b), (1, .ref (qc_ad B1 ax 0)), (2, .ref (qc_ad B2 ax 0)), (3, .int (nI i))] [] S1 S2 := by
  obtain ⟨S1', S2', r, h1, h2, hR⟩ := hop i S1 S2 (xs (i + 1)) (xs (i + 2)) (by omega) hrel
  refine vl_aload_n (n := 309) 1 (dkL_4 (i := 0) rfl) rfl rfl ?_
  refine vl_aload_n (n := 310) 0 (dkL_4 (i := 1) rfl) rfl rfl ?_
  refine vl_iload_n (n := 311) 3 (dkL_4 (i := 2) rfl) rfl rfl ?_
  refine vl_iconst (n := 312) 1 (dkL_4 (i := 3) rfl) rfl (by decide) ?_
  refine vl_iadd (n := 313) (nI (i + 1)) (dkL_4 (i := 4) rfl) rfl (nI_add i 1) ?_
  refine vl_sld (n := 314) (i := i + 1) hL (by omega) (dkL_4 (i := 5) rfl) rfl ?_
  refine vl_aload_n (n := 315) 0 (dkL_4 (i := 6) rfl) rfl rfl ?_
  refine vl_iload_n (n := 316) 3 (dkL_4 (i := 7) rfl) rfl rfl ?_
  refine vl_iconst (n := 317) 2 (dkL_4 (i := 8) rfl) rfl (by decide) ?_
  refine vl_iadd (n := 318) (nI (i + 2)) (dkL_4 (i := 9) rfl) rfl (nI_add i 2) ?_
  refine vl_sld (n := 319) (i := i + 2) hL (by omega) (dkL_4 (i := 10) rfl) rfl ?_
  refine vl_c1 (n := 322) (emb2 := qe_m) (S1', r) [.int (xs (i + 1)), .int (xs (i + 2))] (dkL_4 (i := 11) rfl) rfl kvL_32 rfl rfl (Nat.le_of_ble_eq_true rfl) rfl rfl rfl h1 (wX11_noise (l, D, qc_ad B1 ax, cy) S1 (xs (i + 1)) (xs (i + 2))) ?_
  show VL l D cy ax B1 B2 b L xs X 322 [(0, .ref b), (1, .ref (qc_ad B1 ax 0)), (2, .ref (qc_ad B2 ax 0)), (3, .int (nI i))] [.int r] S1' S2
  refine vl_aload_n (n := 323) 2 (dkL_4 (i := 12) rfl) rfl rfl ?_
  refine vl_aload_n (n := 324) 0 (dkL_4 (i := 13) rfl) rfl rfl ?_
  refine vl_iload_n (n := 325) 3 (dkL_4 (i := 14) rfl) rfl rfl ?_
  refine vl_iconst (n := 326) 1 (dkL_4 (i := 15) rfl) rfl (by decide) ?_
  refine vl_iadd (n := 327) (nI (i + 1)) (dkL_4 (i := 16) rfl) rfl (nI_add i 1) ?_
  refine vl_sld (n := 328) (i := i + 1) hL (by omega) (dkL_4 (i := 17) rfl) rfl ?_
  refine vl_aload_n (n := 329) 0 (dkL_4 (i := 18) rfl) rfl rfl ?_
  refine vl_iload_n (n := 330) 3 (dkL_4 (i := 19) rfl) rfl rfl ?_
  refine vl_iconst (n := 331) 2 (dkL_4 (i := 20) rfl) rfl (by decide) ?_
  refine vl_iadd (n := 332) (nI (i + 2)) (dkL_4 (i := 21) rfl) rfl (nI_add i 2) ?_
  refine vl_sld (n := 333) (i := i + 2) hL (by omega) (dkL_4 (i := 22) rfl) rfl ?_
  refine vl_c2 (n := 336) (emb2 := qe_m) (S2', r) [.int (xs (i + 1)), .int (xs (i + 2))] (dkL_4 (i := 23) rfl) rfl kvL_36 rfl rfl (Nat.le_of_ble_eq_true rfl) rfl rfl rfl h2 (wX12_noise (l, D, qc_ad B2 ax, cy) S2 (xs (i + 1)) (xs (i + 2))) ?_
  show VL l D cy ax B1 B2 b L xs X 336 [(0, .ref b), (1, .ref (qc_ad B1 ax 0)), (2, .ref (qc_ad B2 ax 0)), (3, .int (nI i))] [.int r, .int r] S1' S2'
  refine vl_same (t := 1297) (dkL_4 (i := 24) rfl) (by decide) ?_
  exact hnext S1' S2' hR
def tbL_5 : List (Nat × Instr × Nat) := [(341, .aload_n 1, 1), (342, .aload_n 0, 1), (343, .iload_n 3, 1), (344, .iconst 1, 1), (345, .iadd, 1), (346, .iaload, 1), (347, .aload_n 0, 1), (348, .iload_n 3, 1), (349, .iconst 2, 1), (350, .iadd, 1), (351, .iaload, 1), (352, .invokevirtual 37, 3), (355, .aload_n 2, 1), (356, .aload_n 0, 1), (357, .iload_n 3, 1), (358, .iconst 1, 1), (359, .iadd, 1), (360, .iaload, 1), (361, .aload_n 0, 1), (362, .iload_n 3, 1), (363, .iconst 2, 1), (364, .iadd, 1), (365, .iaload, 1), (366, .invokevirtual 40, 3), (369, .if_icmp .eq 928, 3), (372, .iconst 0, 1), (373, .ireturn, 1)]
set_option maxRecDepth 20000 in
theorem daL_5 : ∀ x ∈ tbL_5, decode code x.1 = .ok x.2 := by decide +kernel
theorem dkL_5 {i pc n : Nat} {ins : Instr} (h : tbL_5[i]? = some (pc, ins, n)) : decode code pc = .ok (ins, n) := daL_5 (pc, ins, n) (List.mem_of_getElem? h)
set_option maxRecDepth 20000 in
set_option maxHeartbeats 4000000 in
/-- shot -/
theorem law_case_5 {Rel : Nat → qv_St → qv_St → Prop} (hop : ∀ (i : Nat) (S1 S2 : qv_St) (a1 a2 : Int32), i + 6 ≤ 3072 → Rel i S1 S2 → ∃ (S2' : qv_St) (r : Int32), fX11_shot S1 a1 a2 = some r ∧ fX12_shot S2 a1 a2 = some (S2', r) ∧ Rel (i + 6) S1 S2') {l : Launch} {D : va_G} {cy ax : Nat → Nat} {B1 B2 b L : Nat} {xs : Nat → Int32} {X : qv_XT} (hL : L ≤ 3072) {i : Nat} (hi : i + 6 ≤ L) (hnext : ∀ S1 S2 : qv_St, Rel (i + 6) S1 S2 → VL l D cy ax B1 B2 b L xs X 1297 [(0, .ref b), (1, .ref (qc_ad B1 ax 0)), (2, .ref (qc_ad B2 ax 0)), (3, .int (nI i))] [] S1 S2) (S1 S2 : qv_St) (hrel : Rel i S1 S2) : VL l D cy ax B1 B2 b L xs X 341 [(0, .ref b), (1, .ref (qc_ad B1 ax 0)), (2, .ref (qc_ad B2 ax 0)), (3, .int (nI i))] [] S1 S2 := by
  obtain ⟨S2', r, h1, h2, hR⟩ := hop i S1 S2 (xs (i + 1)) (xs (i + 2)) (by omega) hrel
  refine vl_aload_n (n := 342) 1 (dkL_5 (i := 0) rfl) rfl rfl ?_
  refine vl_aload_n (n := 343) 0 (dkL_5 (i := 1) rfl) rfl rfl ?_
  refine vl_iload_n (n := 344) 3 (dkL_5 (i := 2) rfl) rfl rfl ?_
  refine vl_iconst (n := 345) 1 (dkL_5 (i := 3) rfl) rfl (by decide) ?_
  refine vl_iadd (n := 346) (nI (i + 1)) (dkL_5 (i := 4) rfl) rfl (nI_add i 1) ?_
  refine vl_sld (n := 347) (i := i + 1) hL (by omega) (dkL_5 (i := 5) rfl) rfl ?_
  refine vl_aload_n (n := 348) 0 (dkL_5 (i := 6) rfl) rfl rfl ?_
  refine vl_iload_n (n := 349) 3 (dkL_5 (i := 7) rfl) rfl rfl ?_
  refine vl_iconst (n := 350) 2 (dkL_5 (i := 8) rfl) rfl (by decide) ?_
  refine vl_iadd (n := 351) (nI (i + 2)) (dkL_5 (i := 9) rfl) rfl (nI_add i 2) ?_
  refine vl_sld (n := 352) (i := i + 2) hL (by omega) (dkL_5 (i := 10) rfl) rfl ?_
  refine vl_c1 (n := 355) (emb2 := (qe_i S1)) r [.int (xs (i + 1)), .int (xs (i + 2))] (dkL_5 (i := 11) rfl) rfl kvL_37 rfl rfl (Nat.le_of_ble_eq_true rfl) rfl rfl rfl h1 (wX11_shot (l, D, qc_ad B1 ax, cy) S1 (xs (i + 1)) (xs (i + 2))) ?_
  show VL l D cy ax B1 B2 b L xs X 355 [(0, .ref b), (1, .ref (qc_ad B1 ax 0)), (2, .ref (qc_ad B2 ax 0)), (3, .int (nI i))] [.int r] S1 S2
  refine vl_aload_n (n := 356) 2 (dkL_5 (i := 12) rfl) rfl rfl ?_
  refine vl_aload_n (n := 357) 0 (dkL_5 (i := 13) rfl) rfl rfl ?_
  refine vl_iload_n (n := 358) 3 (dkL_5 (i := 14) rfl) rfl rfl ?_
  refine vl_iconst (n := 359) 1 (dkL_5 (i := 15) rfl) rfl (by decide) ?_
  refine vl_iadd (n := 360) (nI (i + 1)) (dkL_5 (i := 16) rfl) rfl (nI_add i 1) ?_
  refine vl_sld (n := 361) (i := i + 1) hL (by omega) (dkL_5 (i := 17) rfl) rfl ?_
  refine vl_aload_n (n := 362) 0 (dkL_5 (i := 18) rfl) rfl rfl ?_
  refine vl_iload_n (n := 363) 3 (dkL_5 (i := 19) rfl) rfl rfl ?_
  refine vl_iconst (n := 364) 2 (dkL_5 (i := 20) rfl) rfl (by decide) ?_
  refine vl_iadd (n := 365) (nI (i + 2)) (dkL_5 (i := 21) rfl) rfl (nI_add i 2) ?_
  refine vl_sld (n := 366) (i := i + 2) hL (by omega) (dkL_5 (i := 22) rfl) rfl ?_
  refine vl_c2 (n := 369) (emb2 := qe_m) (S2', r) [.int (xs (i + 1)), .int (xs (i + 2))] (dkL_5 (i := 23) rfl) rfl kvL_40 rfl rfl (Nat.le_of_ble_eq_true rfl) rfl rfl rfl h2 (wX12_shot (l, D, qc_ad B2 ax, cy) S2 (xs (i + 1)) (xs (i + 2))) ?_
  show VL l D cy ax B1 B2 b L xs X 369 [(0, .ref b), (1, .ref (qc_ad B1 ax 0)), (2, .ref (qc_ad B2 ax 0)), (3, .int (nI i))] [.int r, .int r] S1 S2'
  refine vl_same (t := 1297) (dkL_5 (i := 24) rfl) (by decide) ?_
  exact hnext S1 S2' hR
def tbL_6 : List (Nat × Instr × Nat) := [(374, .aload_n 1, 1), (375, .aload_n 0, 1), (376, .iload_n 3, 1), (377, .iconst 1, 1), (378, .iadd, 1), (379, .iaload, 1), (380, .aload_n 0, 1), (381, .iload_n 3, 1), (382, .iconst 2, 1), (383, .iadd, 1), (384, .iaload, 1), (385, .aload_n 0, 1), (386, .iload_n 3, 1), (387, .iconst 3, 1), (388, .iadd, 1), (389, .iaload, 1), (390, .invokevirtual 41, 3), (393, .aload_n 2, 1), (394, .aload_n 0, 1), (395, .iload_n 3, 1), (396, .iconst 1, 1), (397, .iadd, 1), (398, .iaload, 1), (399, .aload_n 0, 1), (400, .iload_n 3, 1), (401, .iconst 2, 1), (402, .iadd, 1), (403, .iaload, 1), (404, .aload_n 0, 1), (405, .iload_n 3, 1), (406, .iconst 3, 1), (407, .iadd, 1), (408, .iaload, 1), (409, .invokevirtual 45, 3), (412, .if_icmp .eq 885, 3), (415, .iconst 0, 1), (416, .ireturn, 1)]
set_option maxRecDepth 20000 in
theorem daL_6 : ∀ x ∈ tbL_6, decode code x.1 = .ok x.2 := by decide +kernel
theorem dkL_6 {i pc n : Nat} {ins : Instr} (h : tbL_6[i]? = some (pc, ins, n)) : decode code pc = .ok (ins, n) := daL_6 (pc, ins, n) (List.mem_of_getElem? h)
set_option maxRecDepth 20000 in
set_option maxHeartbeats 4000000 in
/-- heard -/
theorem law_case_6 {Rel : Nat → qv_St → qv_St → Prop} (hop : ∀ (i : Nat) (S1 S2 : qv_St) (a1 a2 a3 : Int32), i + 6 ≤ 3072 → Rel i S1 S2 → ∃ (S1' : qv_St) (S2' : qv_St) (r : Int32), fX11_heard S1 a1 a2 a3 = some (S1', r) ∧ fX12_heard S2 a1 a2 a3 = some (S2', r) ∧ Rel (i + 6) S1' S2') {l : Launch} {D : va_G} {cy ax : Nat → Nat} {B1 B2 b L : Nat} {xs : Nat → Int32} {X : qv_XT} (hL : L ≤ 3072) {i : Nat} (hi : i + 6 ≤ L) (hnext : ∀ S1 S2 : qv_St, Rel (i + 6) S1 S2 → VL l D cy ax B1 B2 b L xs X 1297 [(0, .ref b), (1, .ref (qc_ad B1 ax 0)), (2, .ref (qc_ad B2 ax 0)), (3, .int (nI i))] [] S1 S2) (S1 S2 : qv_St) (hrel : Rel i S1 S2) : VL l D cy ax B1 B2 b L xs X 374 [(0, .ref b), (1, .ref (qc_ad B1 ax 0)), (2, .ref (qc_ad B2 ax 0)), (3, .int (nI i))] [] S1 S2 := by
  obtain ⟨S1', S2', r, h1, h2, hR⟩ := hop i S1 S2 (xs (i + 1)) (xs (i + 2)) (xs (i + 3)) (by omega) hrel
  refine vl_aload_n (n := 375) 1 (dkL_6 (i := 0) rfl) rfl rfl ?_
  refine vl_aload_n (n := 376) 0 (dkL_6 (i := 1) rfl) rfl rfl ?_
  refine vl_iload_n (n := 377) 3 (dkL_6 (i := 2) rfl) rfl rfl ?_
  refine vl_iconst (n := 378) 1 (dkL_6 (i := 3) rfl) rfl (by decide) ?_
  refine vl_iadd (n := 379) (nI (i + 1)) (dkL_6 (i := 4) rfl) rfl (nI_add i 1) ?_
  refine vl_sld (n := 380) (i := i + 1) hL (by omega) (dkL_6 (i := 5) rfl) rfl ?_
  refine vl_aload_n (n := 381) 0 (dkL_6 (i := 6) rfl) rfl rfl ?_
  refine vl_iload_n (n := 382) 3 (dkL_6 (i := 7) rfl) rfl rfl ?_
  refine vl_iconst (n := 383) 2 (dkL_6 (i := 8) rfl) rfl (by decide) ?_
  refine vl_iadd (n := 384) (nI (i + 2)) (dkL_6 (i := 9) rfl) rfl (nI_add i 2) ?_
  refine vl_sld (n := 385) (i := i + 2) hL (by omega) (dkL_6 (i := 10) rfl) rfl ?_
  refine vl_aload_n (n := 386) 0 (dkL_6 (i := 11) rfl) rfl rfl ?_
  refine vl_iload_n (n := 387) 3 (dkL_6 (i := 12) rfl) rfl rfl ?_
  refine vl_iconst (n := 388) 3 (dkL_6 (i := 13) rfl) rfl (by decide) ?_
  refine vl_iadd (n := 389) (nI (i + 3)) (dkL_6 (i := 14) rfl) rfl (nI_add i 3) ?_
  refine vl_sld (n := 390) (i := i + 3) hL (by omega) (dkL_6 (i := 15) rfl) rfl ?_
  refine vl_c1 (n := 393) (emb2 := qe_m) (S1', r) [.int (xs (i + 1)), .int (xs (i + 2)), .int (xs (i + 3))] (dkL_6 (i := 16) rfl) rfl kvL_41 rfl rfl (Nat.le_of_ble_eq_true rfl) rfl rfl rfl h1 (wX11_heard (l, D, qc_ad B1 ax, cy) S1 (xs (i + 1)) (xs (i + 2)) (xs (i + 3))) ?_
  show VL l D cy ax B1 B2 b L xs X 393 [(0, .ref b), (1, .ref (qc_ad B1 ax 0)), (2, .ref (qc_ad B2 ax 0)), (3, .int (nI i))] [.int r] S1' S2
  refine vl_aload_n (n := 394) 2 (dkL_6 (i := 17) rfl) rfl rfl ?_
  refine vl_aload_n (n := 395) 0 (dkL_6 (i := 18) rfl) rfl rfl ?_
  refine vl_iload_n (n := 396) 3 (dkL_6 (i := 19) rfl) rfl rfl ?_
  refine vl_iconst (n := 397) 1 (dkL_6 (i := 20) rfl) rfl (by decide) ?_
  refine vl_iadd (n := 398) (nI (i + 1)) (dkL_6 (i := 21) rfl) rfl (nI_add i 1) ?_
  refine vl_sld (n := 399) (i := i + 1) hL (by omega) (dkL_6 (i := 22) rfl) rfl ?_
  refine vl_aload_n (n := 400) 0 (dkL_6 (i := 23) rfl) rfl rfl ?_
  refine vl_iload_n (n := 401) 3 (dkL_6 (i := 24) rfl) rfl rfl ?_
  refine vl_iconst (n := 402) 2 (dkL_6 (i := 25) rfl) rfl (by decide) ?_
  refine vl_iadd (n := 403) (nI (i + 2)) (dkL_6 (i := 26) rfl) rfl (nI_add i 2) ?_
  refine vl_sld (n := 404) (i := i + 2) hL (by omega) (dkL_6 (i := 27) rfl) rfl ?_
  refine vl_aload_n (n := 405) 0 (dkL_6 (i := 28) rfl) rfl rfl ?_
  refine vl_iload_n (n := 406) 3 (dkL_6 (i := 29) rfl) rfl rfl ?_
  refine vl_iconst (n := 407) 3 (dkL_6 (i := 30) rfl) rfl (by decide) ?_
  refine vl_iadd (n := 408) (nI (i + 3)) (dkL_6 (i := 31) rfl) rfl (nI_add i 3) ?_
  refine vl_sld (n := 409) (i := i + 3) hL (by omega) (dkL_6 (i := 32) rfl) rfl ?_
  refine vl_c2 (n := 412) (emb2 := qe_m) (S2', r) [.int (xs (i + 1)), .int (xs (i + 2)), .int (xs (i + 3))] (dkL_6 (i := 33) rfl) rfl kvL_45 rfl rfl (Nat.le_of_ble_eq_true rfl) rfl rfl rfl h2 (wX12_heard (l, D, qc_ad B2 ax, cy) S2 (xs (i + 1)) (xs (i + 2)) (xs (i + 3))) ?_
  show VL l D cy ax B1 B2 b L xs X 412 [(0, .ref b), (1, .ref (qc_ad B1 ax 0)), (2, .ref (qc_ad B2 ax 0)), (3, .int (nI i))] [.int r, .int r] S1' S2'
  refine vl_same (t := 1297) (dkL_6 (i := 34) rfl) (by decide) ?_
  exact hnext S1' S2' hR
def tbL_7 : List (Nat × Instr × Nat) := [(417, .aload_n 1, 1), (418, .aload_n 0, 1), (419, .iload_n 3, 1), (420, .iconst 1, 1), (421, .iadd, 1), (422, .iaload, 1), (423, .aload_n 0, 1), (424, .iload_n 3, 1), (425, .iconst 2, 1), (426, .iadd, 1), (427, .iaload, 1), (428, .invokevirtual 46, 3), (431, .aload_n 2, 1), (432, .aload_n 0, 1), (433, .iload_n 3, 1), (434, .iconst 1, 1), (435, .iadd, 1), (436, .iaload, 1), (437, .aload_n 0, 1), (438, .iload_n 3, 1), (439, .iconst 2, 1), (440, .iadd, 1), (441, .iaload, 1), (442, .invokevirtual 49, 3), (445, .if_icmp .eq 852, 3), (448, .iconst 0, 1), (449, .ireturn, 1)]
set_option maxRecDepth 20000 in
theorem daL_7 : ∀ x ∈ tbL_7, decode code x.1 = .ok x.2 := by decide +kernel
theorem dkL_7 {i pc n : Nat} {ins : Instr} (h : tbL_7[i]? = some (pc, ins, n)) : decode code pc = .ok (ins, n) := daL_7 (pc, ins, n) (List.mem_of_getElem? h)
set_option maxRecDepth 20000 in
set_option maxHeartbeats 4000000 in
/-- loud -/
theorem law_case_7 {Rel : Nat → qv_St → qv_St → Prop} (hop : ∀ (i : Nat) (S1 S2 : qv_St) (a1 a2 : Int32), i + 6 ≤ 3072 → Rel i S1 S2 → ∃ (S1' : qv_St) (S2' : qv_St) (r : Int32), fX11_loud S1 a1 a2 = some (S1', r) ∧ fX12_loud S2 a1 a2 = some (S2', r) ∧ Rel (i + 6) S1' S2') {l : Launch} {D : va_G} {cy ax : Nat → Nat} {B1 B2 b L : Nat} {xs : Nat → Int32} {X : qv_XT} (hL : L ≤ 3072) {i : Nat} (hi : i + 6 ≤ L) (hnext : ∀ S1 S2 : qv_St, Rel (i + 6) S1 S2 → VL l D cy ax B1 B2 b L xs X 1297 [(0, .ref b), (1, .ref (qc_ad B1 ax 0)), (2, .ref (qc_ad B2 ax 0)), (3, .int (nI i))] [] S1 S2) (S1 S2 : qv_St) (hrel : Rel i S1 S2) : VL l D cy ax B1 B2 b L xs X 417 [(0, .ref b), (1, .ref (qc_ad B1 ax 0)), (2, .ref (qc_ad B2 ax 0)), (3, .int (nI i))] [] S1 S2 := by
  obtain ⟨S1', S2', r, h1, h2, hR⟩ := hop i S1 S2 (xs (i + 1)) (xs (i + 2)) (by omega) hrel
  refine vl_aload_n (n := 418) 1 (dkL_7 (i := 0) rfl) rfl rfl ?_
  refine vl_aload_n (n := 419) 0 (dkL_7 (i := 1) rfl) rfl rfl ?_
  refine vl_iload_n (n := 420) 3 (dkL_7 (i := 2) rfl) rfl rfl ?_
  refine vl_iconst (n := 421) 1 (dkL_7 (i := 3) rfl) rfl (by decide) ?_
  refine vl_iadd (n := 422) (nI (i + 1)) (dkL_7 (i := 4) rfl) rfl (nI_add i 1) ?_
  refine vl_sld (n := 423) (i := i + 1) hL (by omega) (dkL_7 (i := 5) rfl) rfl ?_
  refine vl_aload_n (n := 424) 0 (dkL_7 (i := 6) rfl) rfl rfl ?_
  refine vl_iload_n (n := 425) 3 (dkL_7 (i := 7) rfl) rfl rfl ?_
  refine vl_iconst (n := 426) 2 (dkL_7 (i := 8) rfl) rfl (by decide) ?_
  refine vl_iadd (n := 427) (nI (i + 2)) (dkL_7 (i := 9) rfl) rfl (nI_add i 2) ?_
  refine vl_sld (n := 428) (i := i + 2) hL (by omega) (dkL_7 (i := 10) rfl) rfl ?_
  refine vl_c1 (n := 431) (emb2 := qe_m) (S1', r) [.int (xs (i + 1)), .int (xs (i + 2))] (dkL_7 (i := 11) rfl) rfl kvL_46 rfl rfl (Nat.le_of_ble_eq_true rfl) rfl rfl rfl h1 (wX11_loud (l, D, qc_ad B1 ax, cy) S1 (xs (i + 1)) (xs (i + 2))) ?_
  show VL l D cy ax B1 B2 b L xs X 431 [(0, .ref b), (1, .ref (qc_ad B1 ax 0)), (2, .ref (qc_ad B2 ax 0)), (3, .int (nI i))] [.int r] S1' S2
  refine vl_aload_n (n := 432) 2 (dkL_7 (i := 12) rfl) rfl rfl ?_
  refine vl_aload_n (n := 433) 0 (dkL_7 (i := 13) rfl) rfl rfl ?_
  refine vl_iload_n (n := 434) 3 (dkL_7 (i := 14) rfl) rfl rfl ?_
  refine vl_iconst (n := 435) 1 (dkL_7 (i := 15) rfl) rfl (by decide) ?_
  refine vl_iadd (n := 436) (nI (i + 1)) (dkL_7 (i := 16) rfl) rfl (nI_add i 1) ?_
  refine vl_sld (n := 437) (i := i + 1) hL (by omega) (dkL_7 (i := 17) rfl) rfl ?_
  refine vl_aload_n (n := 438) 0 (dkL_7 (i := 18) rfl) rfl rfl ?_
  refine vl_iload_n (n := 439) 3 (dkL_7 (i := 19) rfl) rfl rfl ?_
  refine vl_iconst (n := 440) 2 (dkL_7 (i := 20) rfl) rfl (by decide) ?_
  refine vl_iadd (n := 441) (nI (i + 2)) (dkL_7 (i := 21) rfl) rfl (nI_add i 2) ?_
  refine vl_sld (n := 442) (i := i + 2) hL (by omega) (dkL_7 (i := 22) rfl) rfl ?_
  refine vl_c2 (n := 445) (emb2 := qe_m) (S2', r) [.int (xs (i + 1)), .int (xs (i + 2))] (dkL_7 (i := 23) rfl) rfl kvL_49 rfl rfl (Nat.le_of_ble_eq_true rfl) rfl rfl rfl h2 (wX12_loud (l, D, qc_ad B2 ax, cy) S2 (xs (i + 1)) (xs (i + 2))) ?_
  show VL l D cy ax B1 B2 b L xs X 445 [(0, .ref b), (1, .ref (qc_ad B1 ax 0)), (2, .ref (qc_ad B2 ax 0)), (3, .int (nI i))] [.int r, .int r] S1' S2'
  refine vl_same (t := 1297) (dkL_7 (i := 24) rfl) (by decide) ?_
  exact hnext S1' S2' hR
def tbL_8 : List (Nat × Instr × Nat) := [(450, .aload_n 1, 1), (451, .aload_n 0, 1), (452, .iload_n 3, 1), (453, .iconst 1, 1), (454, .iadd, 1), (455, .iaload, 1), (456, .aload_n 0, 1), (457, .iload_n 3, 1), (458, .iconst 2, 1), (459, .iadd, 1), (460, .iaload, 1), (461, .invokevirtual 50, 3), (464, .aload_n 2, 1), (465, .aload_n 0, 1), (466, .iload_n 3, 1), (467, .iconst 1, 1), (468, .iadd, 1), (469, .iaload, 1), (470, .aload_n 0, 1), (471, .iload_n 3, 1), (472, .iconst 2, 1), (473, .iadd, 1), (474, .iaload, 1), (475, .invokevirtual 53, 3), (478, .if_icmp .eq 819, 3), (481, .iconst 0, 1), (482, .ireturn, 1)]
set_option maxRecDepth 20000 in
theorem daL_8 : ∀ x ∈ tbL_8, decode code x.1 = .ok x.2 := by decide +kernel
theorem dkL_8 {i pc n : Nat} {ins : Instr} (h : tbL_8[i]? = some (pc, ins, n)) : decode code pc = .ok (ins, n) := daL_8 (pc, ins, n) (List.mem_of_getElem? h)
set_option maxRecDepth 20000 in
set_option maxHeartbeats 4000000 in
/-- bears -/
theorem law_case_8 {Rel : Nat → qv_St → qv_St → Prop} (hop : ∀ (i : Nat) (S1 S2 : qv_St) (a1 a2 : Int32), i + 6 ≤ 3072 → Rel i S1 S2 → ∃ (S1' : qv_St) (S2' : qv_St) (r : Int32), fX11_bears S1 a1 a2 = some (S1', r) ∧ fX12_bears S2 a1 a2 = some (S2', r) ∧ Rel (i + 6) S1' S2') {l : Launch} {D : va_G} {cy ax : Nat → Nat} {B1 B2 b L : Nat} {xs : Nat → Int32} {X : qv_XT} (hL : L ≤ 3072) {i : Nat} (hi : i + 6 ≤ L) (hnext : ∀ S1 S2 : qv_St, Rel (i + 6) S1 S2 → VL l D cy ax B1 B2 b L xs X 1297 [(0, .ref b), (1, .ref (qc_ad B1 ax 0)), (2, .ref (qc_ad B2 ax 0)), (3, .int (nI i))] [] S1 S2) (S1 S2 : qv_St) (hrel : Rel i S1 S2) : VL l D cy ax B1 B2 b L xs X 450 [(0, .ref b), (1, .ref (qc_ad B1 ax 0)), (2, .ref (qc_ad B2 ax 0)), (3, .int (nI i))] [] S1 S2 := by
  obtain ⟨S1', S2', r, h1, h2, hR⟩ := hop i S1 S2 (xs (i + 1)) (xs (i + 2)) (by omega) hrel
  refine vl_aload_n (n := 451) 1 (dkL_8 (i := 0) rfl) rfl rfl ?_
  refine vl_aload_n (n := 452) 0 (dkL_8 (i := 1) rfl) rfl rfl ?_
  refine vl_iload_n (n := 453) 3 (dkL_8 (i := 2) rfl) rfl rfl ?_
  refine vl_iconst (n := 454) 1 (dkL_8 (i := 3) rfl) rfl (by decide) ?_
  refine vl_iadd (n := 455) (nI (i + 1)) (dkL_8 (i := 4) rfl) rfl (nI_add i 1) ?_
  refine vl_sld (n := 456) (i := i + 1) hL (by omega) (dkL_8 (i := 5) rfl) rfl ?_
  refine vl_aload_n (n := 457) 0 (dkL_8 (i := 6) rfl) rfl rfl ?_
  refine vl_iload_n (n := 458) 3 (dkL_8 (i := 7) rfl) rfl rfl ?_
  refine vl_iconst (n := 459) 2 (dkL_8 (i := 8) rfl) rfl (by decide) ?_
  refine vl_iadd (n := 460) (nI (i + 2)) (dkL_8 (i := 9) rfl) rfl (nI_add i 2) ?_
  refine vl_sld (n := 461) (i := i + 2) hL (by omega) (dkL_8 (i := 10) rfl) rfl ?_
  refine vl_c1 (n := 464) (emb2 := qe_m) (S1', r) [.int (xs (i + 1)), .int (xs (i + 2))] (dkL_8 (i := 11) rfl) rfl kvL_50 rfl rfl (Nat.le_of_ble_eq_true rfl) rfl rfl rfl h1 (wX11_bears (l, D, qc_ad B1 ax, cy) S1 (xs (i + 1)) (xs (i + 2))) ?_
  show VL l D cy ax B1 B2 b L xs X 464 [(0, .ref b), (1, .ref (qc_ad B1 ax 0)), (2, .ref (qc_ad B2 ax 0)), (3, .int (nI i))] [.int r] S1' S2
  refine vl_aload_n (n := 465) 2 (dkL_8 (i := 12) rfl) rfl rfl ?_
  refine vl_aload_n (n := 466) 0 (dkL_8 (i := 13) rfl) rfl rfl ?_
  refine vl_iload_n (n := 467) 3 (dkL_8 (i := 14) rfl) rfl rfl ?_
  refine vl_iconst (n := 468) 1 (dkL_8 (i := 15) rfl) rfl (by decide) ?_
  refine vl_iadd (n := 469) (nI (i + 1)) (dkL_8 (i := 16) rfl) rfl (nI_add i 1) ?_
  refine vl_sld (n := 470) (i := i + 1) hL (by omega) (dkL_8 (i := 17) rfl) rfl ?_
  refine vl_aload_n (n := 471) 0 (dkL_8 (i := 18) rfl) rfl rfl ?_
  refine vl_iload_n (n := 472) 3 (dkL_8 (i := 19) rfl) rfl rfl ?_
  refine vl_iconst (n := 473) 2 (dkL_8 (i := 20) rfl) rfl (by decide) ?_
  refine vl_iadd (n := 474) (nI (i + 2)) (dkL_8 (i := 21) rfl) rfl (nI_add i 2) ?_
  refine vl_sld (n := 475) (i := i + 2) hL (by omega) (dkL_8 (i := 22) rfl) rfl ?_
  refine vl_c2 (n := 478) (emb2 := qe_m) (S2', r) [.int (xs (i + 1)), .int (xs (i + 2))] (dkL_8 (i := 23) rfl) rfl kvL_53 rfl rfl (Nat.le_of_ble_eq_true rfl) rfl rfl rfl h2 (wX12_bears (l, D, qc_ad B2 ax, cy) S2 (xs (i + 1)) (xs (i + 2))) ?_
  show VL l D cy ax B1 B2 b L xs X 478 [(0, .ref b), (1, .ref (qc_ad B1 ax 0)), (2, .ref (qc_ad B2 ax 0)), (3, .int (nI i))] [.int r, .int r] S1' S2'
  refine vl_same (t := 1297) (dkL_8 (i := 24) rfl) (by decide) ?_
  exact hnext S1' S2' hR
def tbL_9 : List (Nat × Instr × Nat) := [(483, .aload_n 1, 1), (484, .aload_n 0, 1), (485, .iload_n 3, 1), (486, .iconst 1, 1), (487, .iadd, 1), (488, .iaload, 1), (489, .invokevirtual 54, 3), (492, .aload_n 2, 1), (493, .aload_n 0, 1), (494, .iload_n 3, 1), (495, .iconst 1, 1), (496, .iadd, 1), (497, .iaload, 1), (498, .invokevirtual 57, 3), (501, .if_icmp .eq 796, 3), (504, .iconst 0, 1), (505, .ireturn, 1)]
set_option maxRecDepth 20000 in
theorem daL_9 : ∀ x ∈ tbL_9, decode code x.1 = .ok x.2 := by decide +kernel
theorem dkL_9 {i pc n : Nat} {ins : Instr} (h : tbL_9[i]? = some (pc, ins, n)) : decode code pc = .ok (ins, n) := daL_9 (pc, ins, n) (List.mem_of_getElem? h)
set_option maxRecDepth 20000 in
set_option maxHeartbeats 4000000 in
/-- take -/
theorem law_case_9 {Rel : Nat → qv_St → qv_St → Prop} (hop : ∀ (i : Nat) (S1 S2 : qv_St) (a1 : Int32), i + 6 ≤ 3072 → Rel i S1 S2 → ∃ (S1' : qv_St) (S2' : qv_St) (r : Int32), fX11_take S1 a1 = some (S1', r) ∧ fX12_take S2 a1 = some (S2', r) ∧ Rel (i + 6) S1' S2') {l : Launch} {D : va_G} {cy ax : Nat → Nat} {B1 B2 b L : Nat} {xs : Nat → Int32} {X : qv_XT} (hL : L ≤ 3072) {i : Nat} (hi : i + 6 ≤ L) (hnext : ∀ S1 S2 : qv_St, Rel (i + 6) S1 S2 → VL l D cy ax B1 B2 b L xs X 1297 [(0, .ref b), (1, .ref (qc_ad B1 ax 0)), (2, .ref (qc_ad B2 ax 0)), (3, .int (nI i))] [] S1 S2) (S1 S2 : qv_St) (hrel : Rel i S1 S2) : VL l D cy ax B1 B2 b L xs X 483 [(0, .ref b), (1, .ref (qc_ad B1 ax 0)), (2, .ref (qc_ad B2 ax 0)), (3, .int (nI i))] [] S1 S2 := by
  obtain ⟨S1', S2', r, h1, h2, hR⟩ := hop i S1 S2 (xs (i + 1)) (by omega) hrel
  refine vl_aload_n (n := 484) 1 (dkL_9 (i := 0) rfl) rfl rfl ?_
  refine vl_aload_n (n := 485) 0 (dkL_9 (i := 1) rfl) rfl rfl ?_
  refine vl_iload_n (n := 486) 3 (dkL_9 (i := 2) rfl) rfl rfl ?_
  refine vl_iconst (n := 487) 1 (dkL_9 (i := 3) rfl) rfl (by decide) ?_
  refine vl_iadd (n := 488) (nI (i + 1)) (dkL_9 (i := 4) rfl) rfl (nI_add i 1) ?_
  refine vl_sld (n := 489) (i := i + 1) hL (by omega) (dkL_9 (i := 5) rfl) rfl ?_
  refine vl_c1 (n := 492) (emb2 := qe_m) (S1', r) [.int (xs (i + 1))] (dkL_9 (i := 6) rfl) rfl kvL_54 rfl rfl (Nat.le_of_ble_eq_true rfl) rfl rfl rfl h1 (wX11_take (l, D, qc_ad B1 ax, cy) S1 (xs (i + 1))) ?_
  show VL l D cy ax B1 B2 b L xs X 492 [(0, .ref b), (1, .ref (qc_ad B1 ax 0)), (2, .ref (qc_ad B2 ax 0)), (3, .int (nI i))] [.int r] S1' S2
  refine vl_aload_n (n := 493) 2 (dkL_9 (i := 7) rfl) rfl rfl ?_
  refine vl_aload_n (n := 494) 0 (dkL_9 (i := 8) rfl) rfl rfl ?_
  refine vl_iload_n (n := 495) 3 (dkL_9 (i := 9) rfl) rfl rfl ?_
  refine vl_iconst (n := 496) 1 (dkL_9 (i := 10) rfl) rfl (by decide) ?_
  refine vl_iadd (n := 497) (nI (i + 1)) (dkL_9 (i := 11) rfl) rfl (nI_add i 1) ?_
  refine vl_sld (n := 498) (i := i + 1) hL (by omega) (dkL_9 (i := 12) rfl) rfl ?_
  refine vl_c2 (n := 501) (emb2 := qe_m) (S2', r) [.int (xs (i + 1))] (dkL_9 (i := 13) rfl) rfl kvL_57 rfl rfl (Nat.le_of_ble_eq_true rfl) rfl rfl rfl h2 (wX12_take (l, D, qc_ad B2 ax, cy) S2 (xs (i + 1))) ?_
  show VL l D cy ax B1 B2 b L xs X 501 [(0, .ref b), (1, .ref (qc_ad B1 ax 0)), (2, .ref (qc_ad B2 ax 0)), (3, .int (nI i))] [.int r, .int r] S1' S2'
  refine vl_same (t := 1297) (dkL_9 (i := 14) rfl) (by decide) ?_
  exact hnext S1' S2' hR
def tbL_10 : List (Nat × Instr × Nat) := [(506, .aload_n 1, 1), (507, .aload_n 0, 1), (508, .iload_n 3, 1), (509, .iconst 1, 1), (510, .iadd, 1), (511, .iaload, 1), (512, .invokevirtual 58, 3), (515, .aload_n 2, 1), (516, .aload_n 0, 1), (517, .iload_n 3, 1), (518, .iconst 1, 1), (519, .iadd, 1), (520, .iaload, 1), (521, .invokevirtual 61, 3), (524, .if_icmp .eq 773, 3), (527, .iconst 0, 1), (528, .ireturn, 1)]
set_option maxRecDepth 20000 in
theorem daL_10 : ∀ x ∈ tbL_10, decode code x.1 = .ok x.2 := by decide +kernel
theorem dkL_10 {i pc n : Nat} {ins : Instr} (h : tbL_10[i]? = some (pc, ins, n)) : decode code pc = .ok (ins, n) := daL_10 (pc, ins, n) (List.mem_of_getElem? h)
set_option maxRecDepth 20000 in
set_option maxHeartbeats 4000000 in
/-- waits -/
theorem law_case_10 {Rel : Nat → qv_St → qv_St → Prop} (hop : ∀ (i : Nat) (S1 S2 : qv_St) (a1 : Int32), i + 6 ≤ 3072 → Rel i S1 S2 → ∃ (S1' : qv_St) (S2' : qv_St) (r : Int32), fX11_waits S1 a1 = some (S1', r) ∧ fX12_waits S2 a1 = some (S2', r) ∧ Rel (i + 6) S1' S2') {l : Launch} {D : va_G} {cy ax : Nat → Nat} {B1 B2 b L : Nat} {xs : Nat → Int32} {X : qv_XT} (hL : L ≤ 3072) {i : Nat} (hi : i + 6 ≤ L) (hnext : ∀ S1 S2 : qv_St, Rel (i + 6) S1 S2 → VL l D cy ax B1 B2 b L xs X 1297 [(0, .ref b), (1, .ref (qc_ad B1 ax 0)), (2, .ref (qc_ad B2 ax 0)), (3, .int (nI i))] [] S1 S2) (S1 S2 : qv_St) (hrel : Rel i S1 S2) : VL l D cy ax B1 B2 b L xs X 506 [(0, .ref b), (1, .ref (qc_ad B1 ax 0)), (2, .ref (qc_ad B2 ax 0)), (3, .int (nI i))] [] S1 S2 := by
  obtain ⟨S1', S2', r, h1, h2, hR⟩ := hop i S1 S2 (xs (i + 1)) (by omega) hrel
  refine vl_aload_n (n := 507) 1 (dkL_10 (i := 0) rfl) rfl rfl ?_
  refine vl_aload_n (n := 508) 0 (dkL_10 (i := 1) rfl) rfl rfl ?_
  refine vl_iload_n (n := 509) 3 (dkL_10 (i := 2) rfl) rfl rfl ?_
  refine vl_iconst (n := 510) 1 (dkL_10 (i := 3) rfl) rfl (by decide) ?_
  refine vl_iadd (n := 511) (nI (i + 1)) (dkL_10 (i := 4) rfl) rfl (nI_add i 1) ?_
  refine vl_sld (n := 512) (i := i + 1) hL (by omega) (dkL_10 (i := 5) rfl) rfl ?_
  refine vl_c1 (n := 515) (emb2 := qe_m) (S1', r) [.int (xs (i + 1))] (dkL_10 (i := 6) rfl) rfl kvL_58 rfl rfl (Nat.le_of_ble_eq_true rfl) rfl rfl rfl h1 (wX11_waits (l, D, qc_ad B1 ax, cy) S1 (xs (i + 1))) ?_
  show VL l D cy ax B1 B2 b L xs X 515 [(0, .ref b), (1, .ref (qc_ad B1 ax 0)), (2, .ref (qc_ad B2 ax 0)), (3, .int (nI i))] [.int r] S1' S2
  refine vl_aload_n (n := 516) 2 (dkL_10 (i := 7) rfl) rfl rfl ?_
  refine vl_aload_n (n := 517) 0 (dkL_10 (i := 8) rfl) rfl rfl ?_
  refine vl_iload_n (n := 518) 3 (dkL_10 (i := 9) rfl) rfl rfl ?_
  refine vl_iconst (n := 519) 1 (dkL_10 (i := 10) rfl) rfl (by decide) ?_
  refine vl_iadd (n := 520) (nI (i + 1)) (dkL_10 (i := 11) rfl) rfl (nI_add i 1) ?_
  refine vl_sld (n := 521) (i := i + 1) hL (by omega) (dkL_10 (i := 12) rfl) rfl ?_
  refine vl_c2 (n := 524) (emb2 := qe_m) (S2', r) [.int (xs (i + 1))] (dkL_10 (i := 13) rfl) rfl kvL_61 rfl rfl (Nat.le_of_ble_eq_true rfl) rfl rfl rfl h2 (wX12_waits (l, D, qc_ad B2 ax, cy) S2 (xs (i + 1))) ?_
  show VL l D cy ax B1 B2 b L xs X 524 [(0, .ref b), (1, .ref (qc_ad B1 ax 0)), (2, .ref (qc_ad B2 ax 0)), (3, .int (nI i))] [.int r, .int r] S1' S2'
  refine vl_same (t := 1297) (dkL_10 (i := 14) rfl) (by decide) ?_
  exact hnext S1' S2' hR
def tbL_11 : List (Nat × Instr × Nat) := [(529, .aload_n 1, 1), (530, .aload_n 0, 1), (531, .iload_n 3, 1), (532, .iconst 1, 1), (533, .iadd, 1), (534, .iaload, 1), (535, .invokevirtual 62, 3), (538, .aload_n 2, 1), (539, .aload_n 0, 1), (540, .iload_n 3, 1), (541, .iconst 1, 1), (542, .iadd, 1), (543, .iaload, 1), (544, .invokevirtual 65, 3), (547, .if_icmp .eq 750, 3), (550, .iconst 0, 1), (551, .ireturn, 1)]
set_option maxRecDepth 20000 in
theorem daL_11 : ∀ x ∈ tbL_11, decode code x.1 = .ok x.2 := by decide +kernel
theorem dkL_11 {i pc n : Nat} {ins : Instr} (h : tbL_11[i]? = some (pc, ins, n)) : decode code pc = .ok (ins, n) := daL_11 (pc, ins, n) (List.mem_of_getElem? h)
set_option maxRecDepth 20000 in
set_option maxHeartbeats 4000000 in
/-- rests -/
theorem law_case_11 {Rel : Nat → qv_St → qv_St → Prop} (hop : ∀ (i : Nat) (S1 S2 : qv_St) (a1 : Int32), i + 6 ≤ 3072 → Rel i S1 S2 → ∃ (S1' : qv_St) (S2' : qv_St) (r : Int32), fX11_rests S1 a1 = some (S1', r) ∧ fX12_rests S2 a1 = some (S2', r) ∧ Rel (i + 6) S1' S2') {l : Launch} {D : va_G} {cy ax : Nat → Nat} {B1 B2 b L : Nat} {xs : Nat → Int32} {X : qv_XT} (hL : L ≤ 3072) {i : Nat} (hi : i + 6 ≤ L) (hnext : ∀ S1 S2 : qv_St, Rel (i + 6) S1 S2 → VL l D cy ax B1 B2 b L xs X 1297 [(0, .ref b), (1, .ref (qc_ad B1 ax 0)), (2, .ref (qc_ad B2 ax 0)), (3, .int (nI i))] [] S1 S2) (S1 S2 : qv_St) (hrel : Rel i S1 S2) : VL l D cy ax B1 B2 b L xs X 529 [(0, .ref b), (1, .ref (qc_ad B1 ax 0)), (2, .ref (qc_ad B2 ax 0)), (3, .int (nI i))] [] S1 S2 := by
  obtain ⟨S1', S2', r, h1, h2, hR⟩ := hop i S1 S2 (xs (i + 1)) (by omega) hrel
  refine vl_aload_n (n := 530) 1 (dkL_11 (i := 0) rfl) rfl rfl ?_
  refine vl_aload_n (n := 531) 0 (dkL_11 (i := 1) rfl) rfl rfl ?_
  refine vl_iload_n (n := 532) 3 (dkL_11 (i := 2) rfl) rfl rfl ?_
  refine vl_iconst (n := 533) 1 (dkL_11 (i := 3) rfl) rfl (by decide) ?_
  refine vl_iadd (n := 534) (nI (i + 1)) (dkL_11 (i := 4) rfl) rfl (nI_add i 1) ?_
  refine vl_sld (n := 535) (i := i + 1) hL (by omega) (dkL_11 (i := 5) rfl) rfl ?_
  refine vl_c1 (n := 538) (emb2 := qe_m) (S1', r) [.int (xs (i + 1))] (dkL_11 (i := 6) rfl) rfl kvL_62 rfl rfl (Nat.le_of_ble_eq_true rfl) rfl rfl rfl h1 (wX11_rests (l, D, qc_ad B1 ax, cy) S1 (xs (i + 1))) ?_
  show VL l D cy ax B1 B2 b L xs X 538 [(0, .ref b), (1, .ref (qc_ad B1 ax 0)), (2, .ref (qc_ad B2 ax 0)), (3, .int (nI i))] [.int r] S1' S2
  refine vl_aload_n (n := 539) 2 (dkL_11 (i := 7) rfl) rfl rfl ?_
  refine vl_aload_n (n := 540) 0 (dkL_11 (i := 8) rfl) rfl rfl ?_
  refine vl_iload_n (n := 541) 3 (dkL_11 (i := 9) rfl) rfl rfl ?_
  refine vl_iconst (n := 542) 1 (dkL_11 (i := 10) rfl) rfl (by decide) ?_
  refine vl_iadd (n := 543) (nI (i + 1)) (dkL_11 (i := 11) rfl) rfl (nI_add i 1) ?_
  refine vl_sld (n := 544) (i := i + 1) hL (by omega) (dkL_11 (i := 12) rfl) rfl ?_
  refine vl_c2 (n := 547) (emb2 := qe_m) (S2', r) [.int (xs (i + 1))] (dkL_11 (i := 13) rfl) rfl kvL_65 rfl rfl (Nat.le_of_ble_eq_true rfl) rfl rfl rfl h2 (wX12_rests (l, D, qc_ad B2 ax, cy) S2 (xs (i + 1))) ?_
  show VL l D cy ax B1 B2 b L xs X 547 [(0, .ref b), (1, .ref (qc_ad B1 ax 0)), (2, .ref (qc_ad B2 ax 0)), (3, .int (nI i))] [.int r, .int r] S1' S2'
  refine vl_same (t := 1297) (dkL_11 (i := 14) rfl) (by decide) ?_
  exact hnext S1' S2' hR
def tbL_12 : List (Nat × Instr × Nat) := [(552, .aload_n 1, 1), (553, .aload_n 0, 1), (554, .iload_n 3, 1), (555, .iconst 1, 1), (556, .iadd, 1), (557, .iaload, 1), (558, .invokevirtual 66, 3), (561, .aload_n 2, 1), (562, .aload_n 0, 1), (563, .iload_n 3, 1), (564, .iconst 1, 1), (565, .iadd, 1), (566, .iaload, 1), (567, .invokevirtual 69, 3), (570, .if_icmp .eq 727, 3), (573, .iconst 0, 1), (574, .ireturn, 1)]
set_option maxRecDepth 20000 in
theorem daL_12 : ∀ x ∈ tbL_12, decode code x.1 = .ok x.2 := by decide +kernel
theorem dkL_12 {i pc n : Nat} {ins : Instr} (h : tbL_12[i]? = some (pc, ins, n)) : decode code pc = .ok (ins, n) := daL_12 (pc, ins, n) (List.mem_of_getElem? h)
set_option maxRecDepth 20000 in
set_option maxHeartbeats 4000000 in
/-- moves -/
theorem law_case_12 {Rel : Nat → qv_St → qv_St → Prop} (hop : ∀ (i : Nat) (S1 S2 : qv_St) (a1 : Int32), i + 6 ≤ 3072 → Rel i S1 S2 → ∃ (S1' : qv_St) (S2' : qv_St) (r : Int32), fX11_moves S1 a1 = some (S1', r) ∧ fX12_moves S2 a1 = some (S2', r) ∧ Rel (i + 6) S1' S2') {l : Launch} {D : va_G} {cy ax : Nat → Nat} {B1 B2 b L : Nat} {xs : Nat → Int32} {X : qv_XT} (hL : L ≤ 3072) {i : Nat} (hi : i + 6 ≤ L) (hnext : ∀ S1 S2 : qv_St, Rel (i + 6) S1 S2 → VL l D cy ax B1 B2 b L xs X 1297 [(0, .ref b), (1, .ref (qc_ad B1 ax 0)), (2, .ref (qc_ad B2 ax 0)), (3, .int (nI i))] [] S1 S2) (S1 S2 : qv_St) (hrel : Rel i S1 S2) : VL l D cy ax B1 B2 b L xs X 552 [(0, .ref b), (1, .ref (qc_ad B1 ax 0)), (2, .ref (qc_ad B2 ax 0)), (3, .int (nI i))] [] S1 S2 := by
  obtain ⟨S1', S2', r, h1, h2, hR⟩ := hop i S1 S2 (xs (i + 1)) (by omega) hrel
  refine vl_aload_n (n := 553) 1 (dkL_12 (i := 0) rfl) rfl rfl ?_
  refine vl_aload_n (n := 554) 0 (dkL_12 (i := 1) rfl) rfl rfl ?_
  refine vl_iload_n (n := 555) 3 (dkL_12 (i := 2) rfl) rfl rfl ?_
  refine vl_iconst (n := 556) 1 (dkL_12 (i := 3) rfl) rfl (by decide) ?_
  refine vl_iadd (n := 557) (nI (i + 1)) (dkL_12 (i := 4) rfl) rfl (nI_add i 1) ?_
  refine vl_sld (n := 558) (i := i + 1) hL (by omega) (dkL_12 (i := 5) rfl) rfl ?_
  refine vl_c1 (n := 561) (emb2 := qe_m) (S1', r) [.int (xs (i + 1))] (dkL_12 (i := 6) rfl) rfl kvL_66 rfl rfl (Nat.le_of_ble_eq_true rfl) rfl rfl rfl h1 (wX11_moves (l, D, qc_ad B1 ax, cy) S1 (xs (i + 1))) ?_
  show VL l D cy ax B1 B2 b L xs X 561 [(0, .ref b), (1, .ref (qc_ad B1 ax 0)), (2, .ref (qc_ad B2 ax 0)), (3, .int (nI i))] [.int r] S1' S2
  refine vl_aload_n (n := 562) 2 (dkL_12 (i := 7) rfl) rfl rfl ?_
  refine vl_aload_n (n := 563) 0 (dkL_12 (i := 8) rfl) rfl rfl ?_
  refine vl_iload_n (n := 564) 3 (dkL_12 (i := 9) rfl) rfl rfl ?_
  refine vl_iconst (n := 565) 1 (dkL_12 (i := 10) rfl) rfl (by decide) ?_
  refine vl_iadd (n := 566) (nI (i + 1)) (dkL_12 (i := 11) rfl) rfl (nI_add i 1) ?_
  refine vl_sld (n := 567) (i := i + 1) hL (by omega) (dkL_12 (i := 12) rfl) rfl ?_
  refine vl_c2 (n := 570) (emb2 := qe_m) (S2', r) [.int (xs (i + 1))] (dkL_12 (i := 13) rfl) rfl kvL_69 rfl rfl (Nat.le_of_ble_eq_true rfl) rfl rfl rfl h2 (wX12_moves (l, D, qc_ad B2 ax, cy) S2 (xs (i + 1))) ?_
  show VL l D cy ax B1 B2 b L xs X 570 [(0, .ref b), (1, .ref (qc_ad B1 ax 0)), (2, .ref (qc_ad B2 ax 0)), (3, .int (nI i))] [.int r, .int r] S1' S2'
  refine vl_same (t := 1297) (dkL_12 (i := 14) rfl) (by decide) ?_
  exact hnext S1' S2' hR
def tbL_13 : List (Nat × Instr × Nat) := [(575, .aload_n 1, 1), (576, .aload_n 0, 1), (577, .iload_n 3, 1), (578, .iconst 1, 1), (579, .iadd, 1), (580, .iaload, 1), (581, .aload_n 0, 1), (582, .iload_n 3, 1), (583, .iconst 2, 1), (584, .iadd, 1), (585, .iaload, 1), (586, .invokevirtual 70, 3), (589, .aload_n 2, 1), (590, .aload_n 0, 1), (591, .iload_n 3, 1), (592, .iconst 1, 1), (593, .iadd, 1), (594, .iaload, 1), (595, .aload_n 0, 1), (596, .iload_n 3, 1), (597, .iconst 2, 1), (598, .iadd, 1), (599, .iaload, 1), (600, .invokevirtual 73, 3), (603, .if_icmp .eq 694, 3), (606, .iconst 0, 1), (607, .ireturn, 1)]
set_option maxRecDepth 20000 in
theorem daL_13 : ∀ x ∈ tbL_13, decode code x.1 = .ok x.2 := by decide +kernel
theorem dkL_13 {i pc n : Nat} {ins : Instr} (h : tbL_13[i]? = some (pc, ins, n)) : decode code pc = .ok (ins, n) := daL_13 (pc, ins, n) (List.mem_of_getElem? h)
set_option maxRecDepth 20000 in
set_option maxHeartbeats 4000000 in
/-- pay -/
theorem law_case_13 {Rel : Nat → qv_St → qv_St → Prop} (hop : ∀ (i : Nat) (S1 S2 : qv_St) (a1 a2 : Int32), i + 6 ≤ 3072 → Rel i S1 S2 → ∃ (S1' : qv_St) (S2' : qv_St) (r : Int32), fX11_pay S1 a1 a2 = some (S1', r) ∧ fX12_pay S2 a1 a2 = some (S2', r) ∧ Rel (i + 6) S1' S2') {l : Launch} {D : va_G} {cy ax : Nat → Nat} {B1 B2 b L : Nat} {xs : Nat → Int32} {X : qv_XT} (hL : L ≤ 3072) {i : Nat} (hi : i + 6 ≤ L) (hnext : ∀ S1 S2 : qv_St, Rel (i + 6) S1 S2 → VL l D cy ax B1 B2 b L xs X 1297 [(0, .ref b), (1, .ref (qc_ad B1 ax 0)), (2, .ref (qc_ad B2 ax 0)), (3, .int (nI i))] [] S1 S2) (S1 S2 : qv_St) (hrel : Rel i S1 S2) : VL l D cy ax B1 B2 b L xs X 575 [(0, .ref b), (1, .ref (qc_ad B1 ax 0)), (2, .ref (qc_ad B2 ax 0)), (3, .int (nI i))] [] S1 S2 := by
  obtain ⟨S1', S2', r, h1, h2, hR⟩ := hop i S1 S2 (xs (i + 1)) (xs (i + 2)) (by omega) hrel
  refine vl_aload_n (n := 576) 1 (dkL_13 (i := 0) rfl) rfl rfl ?_
  refine vl_aload_n (n := 577) 0 (dkL_13 (i := 1) rfl) rfl rfl ?_
  refine vl_iload_n (n := 578) 3 (dkL_13 (i := 2) rfl) rfl rfl ?_
  refine vl_iconst (n := 579) 1 (dkL_13 (i := 3) rfl) rfl (by decide) ?_
  refine vl_iadd (n := 580) (nI (i + 1)) (dkL_13 (i := 4) rfl) rfl (nI_add i 1) ?_
  refine vl_sld (n := 581) (i := i + 1) hL (by omega) (dkL_13 (i := 5) rfl) rfl ?_
  refine vl_aload_n (n := 582) 0 (dkL_13 (i := 6) rfl) rfl rfl ?_
  refine vl_iload_n (n := 583) 3 (dkL_13 (i := 7) rfl) rfl rfl ?_
  refine vl_iconst (n := 584) 2 (dkL_13 (i := 8) rfl) rfl (by decide) ?_
  refine vl_iadd (n := 585) (nI (i + 2)) (dkL_13 (i := 9) rfl) rfl (nI_add i 2) ?_
  refine vl_sld (n := 586) (i := i + 2) hL (by omega) (dkL_13 (i := 10) rfl) rfl ?_
  refine vl_c1 (n := 589) (emb2 := qe_m) (S1', r) [.int (xs (i + 1)), .int (xs (i + 2))] (dkL_13 (i := 11) rfl) rfl kvL_70 rfl rfl (Nat.le_of_ble_eq_true rfl) rfl rfl rfl h1 (wX11_pay (l, D, qc_ad B1 ax, cy) S1 (xs (i + 1)) (xs (i + 2))) ?_
  show VL l D cy ax B1 B2 b L xs X 589 [(0, .ref b), (1, .ref (qc_ad B1 ax 0)), (2, .ref (qc_ad B2 ax 0)), (3, .int (nI i))] [.int r] S1' S2
  refine vl_aload_n (n := 590) 2 (dkL_13 (i := 12) rfl) rfl rfl ?_
  refine vl_aload_n (n := 591) 0 (dkL_13 (i := 13) rfl) rfl rfl ?_
  refine vl_iload_n (n := 592) 3 (dkL_13 (i := 14) rfl) rfl rfl ?_
  refine vl_iconst (n := 593) 1 (dkL_13 (i := 15) rfl) rfl (by decide) ?_
  refine vl_iadd (n := 594) (nI (i + 1)) (dkL_13 (i := 16) rfl) rfl (nI_add i 1) ?_
  refine vl_sld (n := 595) (i := i + 1) hL (by omega) (dkL_13 (i := 17) rfl) rfl ?_
  refine vl_aload_n (n := 596) 0 (dkL_13 (i := 18) rfl) rfl rfl ?_
  refine vl_iload_n (n := 597) 3 (dkL_13 (i := 19) rfl) rfl rfl ?_
  refine vl_iconst (n := 598) 2 (dkL_13 (i := 20) rfl) rfl (by decide) ?_
  refine vl_iadd (n := 599) (nI (i + 2)) (dkL_13 (i := 21) rfl) rfl (nI_add i 2) ?_
  refine vl_sld (n := 600) (i := i + 2) hL (by omega) (dkL_13 (i := 22) rfl) rfl ?_
  refine vl_c2 (n := 603) (emb2 := qe_m) (S2', r) [.int (xs (i + 1)), .int (xs (i + 2))] (dkL_13 (i := 23) rfl) rfl kvL_73 rfl rfl (Nat.le_of_ble_eq_true rfl) rfl rfl rfl h2 (wX12_pay (l, D, qc_ad B2 ax, cy) S2 (xs (i + 1)) (xs (i + 2))) ?_
  show VL l D cy ax B1 B2 b L xs X 603 [(0, .ref b), (1, .ref (qc_ad B1 ax 0)), (2, .ref (qc_ad B2 ax 0)), (3, .int (nI i))] [.int r, .int r] S1' S2'
  refine vl_same (t := 1297) (dkL_13 (i := 24) rfl) (by decide) ?_
  exact hnext S1' S2' hR
def tbL_14 : List (Nat × Instr × Nat) := [(608, .aload_n 1, 1), (609, .invokevirtual 74, 3), (612, .aload_n 2, 1), (613, .invokevirtual 78, 3), (616, .if_icmp .eq 681, 3), (619, .iconst 0, 1), (620, .ireturn, 1)]
set_option maxRecDepth 20000 in
theorem daL_14 : ∀ x ∈ tbL_14, decode code x.1 = .ok x.2 := by decide +kernel
theorem dkL_14 {i pc n : Nat} {ins : Instr} (h : tbL_14[i]? = some (pc, ins, n)) : decode code pc = .ok (ins, n) := daL_14 (pc, ins, n) (List.mem_of_getElem? h)
set_option maxRecDepth 20000 in
set_option maxHeartbeats 4000000 in
/-- undo -/
theorem law_case_14 {Rel : Nat → qv_St → qv_St → Prop} (hop : ∀ (i : Nat) (S1 S2 : qv_St), i + 6 ≤ 3072 → Rel i S1 S2 → ∃ (S1' : qv_St) (S2' : qv_St) (r : Int32), fX11_undo S1 = some (S1', r) ∧ fX12_undo S2 = some (S2', r) ∧ Rel (i + 6) S1' S2') {l : Launch} {D : va_G} {cy ax : Nat → Nat} {B1 B2 b L : Nat} {xs : Nat → Int32} {X : qv_XT} (hL : L ≤ 3072) {i : Nat} (hi : i + 6 ≤ L) (hnext : ∀ S1 S2 : qv_St, Rel (i + 6) S1 S2 → VL l D cy ax B1 B2 b L xs X 1297 [(0, .ref b), (1, .ref (qc_ad B1 ax 0)), (2, .ref (qc_ad B2 ax 0)), (3, .int (nI i))] [] S1 S2) (S1 S2 : qv_St) (hrel : Rel i S1 S2) : VL l D cy ax B1 B2 b L xs X 608 [(0, .ref b), (1, .ref (qc_ad B1 ax 0)), (2, .ref (qc_ad B2 ax 0)), (3, .int (nI i))] [] S1 S2 := by
  obtain ⟨S1', S2', r, h1, h2, hR⟩ := hop i S1 S2 (by omega) hrel
  refine vl_aload_n (n := 609) 1 (dkL_14 (i := 0) rfl) rfl rfl ?_
  refine vl_c1 (n := 612) (emb2 := qe_m) (S1', r) [] (dkL_14 (i := 1) rfl) rfl kvL_74 rfl rfl (Nat.le_of_ble_eq_true rfl) rfl rfl rfl h1 (wX11_undo (l, D, qc_ad B1 ax, cy) S1) ?_
  show VL l D cy ax B1 B2 b L xs X 612 [(0, .ref b), (1, .ref (qc_ad B1 ax 0)), (2, .ref (qc_ad B2 ax 0)), (3, .int (nI i))] [.int r] S1' S2
  refine vl_aload_n (n := 613) 2 (dkL_14 (i := 2) rfl) rfl rfl ?_
  refine vl_c2 (n := 616) (emb2 := qe_m) (S2', r) [] (dkL_14 (i := 3) rfl) rfl kvL_78 rfl rfl (Nat.le_of_ble_eq_true rfl) rfl rfl rfl h2 (wX12_undo (l, D, qc_ad B2 ax, cy) S2) ?_
  show VL l D cy ax B1 B2 b L xs X 616 [(0, .ref b), (1, .ref (qc_ad B1 ax 0)), (2, .ref (qc_ad B2 ax 0)), (3, .int (nI i))] [.int r, .int r] S1' S2'
  refine vl_same (t := 1297) (dkL_14 (i := 4) rfl) (by decide) ?_
  exact hnext S1' S2' hR
def tbL_15 : List (Nat × Instr × Nat) := [(621, .aload_n 1, 1), (622, .aload_n 0, 1), (623, .iload_n 3, 1), (624, .iconst 1, 1), (625, .iadd, 1), (626, .iaload, 1), (627, .aload_n 0, 1), (628, .iload_n 3, 1), (629, .iconst 2, 1), (630, .iadd, 1), (631, .iaload, 1), (632, .aload_n 0, 1), (633, .iload_n 3, 1), (634, .iconst 3, 1), (635, .iadd, 1), (636, .iaload, 1), (637, .invokevirtual 79, 3), (640, .aload_n 2, 1), (641, .aload_n 0, 1), (642, .iload_n 3, 1), (643, .iconst 1, 1), (644, .iadd, 1), (645, .iaload, 1), (646, .aload_n 0, 1), (647, .iload_n 3, 1), (648, .iconst 2, 1), (649, .iadd, 1), (650, .iaload, 1), (651, .aload_n 0, 1), (652, .iload_n 3, 1), (653, .iconst 3, 1), (654, .iadd, 1), (655, .iaload, 1), (656, .invokevirtual 82, 3), (659, .if_icmp .eq 638, 3), (662, .iconst 0, 1), (663, .ireturn, 1)]
set_option maxRecDepth 20000 in
theorem daL_15 : ∀ x ∈ tbL_15, decode code x.1 = .ok x.2 := by decide +kernel
theorem dkL_15 {i pc n : Nat} {ins : Instr} (h : tbL_15[i]? = some (pc, ins, n)) : decode code pc = .ok (ins, n) := daL_15 (pc, ins, n) (List.mem_of_getElem? h)
set_option maxRecDepth 20000 in
set_option maxHeartbeats 4000000 in
/-- hole -/
theorem law_case_15 {Rel : Nat → qv_St → qv_St → Prop} (hop : ∀ (i : Nat) (S1 S2 : qv_St) (a1 a2 a3 : Int32), i + 6 ≤ 3072 → Rel i S1 S2 → ∃ (S1' : qv_St) (S2' : qv_St) (r : Int32), fX11_hole S1 a1 a2 a3 = some (S1', r) ∧ fX12_hole S2 a1 a2 a3 = some (S2', r) ∧ Rel (i + 6) S1' S2') {l : Launch} {D : va_G} {cy ax : Nat → Nat} {B1 B2 b L : Nat} {xs : Nat → Int32} {X : qv_XT} (hL : L ≤ 3072) {i : Nat} (hi : i + 6 ≤ L) (hnext : ∀ S1 S2 : qv_St, Rel (i + 6) S1 S2 → VL l D cy ax B1 B2 b L xs X 1297 [(0, .ref b), (1, .ref (qc_ad B1 ax 0)), (2, .ref (qc_ad B2 ax 0)), (3, .int (nI i))] [] S1 S2) (S1 S2 : qv_St) (hrel : Rel i S1 S2) : VL l D cy ax B1 B2 b L xs X 621 [(0, .ref b), (1, .ref (qc_ad B1 ax 0)), (2, .ref (qc_ad B2 ax 0)), (3, .int (nI i))] [] S1 S2 := by
  obtain ⟨S1', S2', r, h1, h2, hR⟩ := hop i S1 S2 (xs (i + 1)) (xs (i + 2)) (xs (i + 3)) (by omega) hrel
  refine vl_aload_n (n := 622) 1 (dkL_15 (i := 0) rfl) rfl rfl ?_
  refine vl_aload_n (n := 623) 0 (dkL_15 (i := 1) rfl) rfl rfl ?_
  refine vl_iload_n (n := 624) 3 (dkL_15 (i := 2) rfl) rfl rfl ?_
  refine vl_iconst (n := 625) 1 (dkL_15 (i := 3) rfl) rfl (by decide) ?_
  refine vl_iadd (n := 626) (nI (i + 1)) (dkL_15 (i := 4) rfl) rfl (nI_add i 1) ?_
  refine vl_sld (n := 627) (i := i + 1) hL (by omega) (dkL_15 (i := 5) rfl) rfl ?_
  refine vl_aload_n (n := 628) 0 (dkL_15 (i := 6) rfl) rfl rfl ?_
  refine vl_iload_n (n := 629) 3 (dkL_15 (i := 7) rfl) rfl rfl ?_
  refine vl_iconst (n := 630) 2 (dkL_15 (i := 8) rfl) rfl (by decide) ?_
  refine vl_iadd (n := 631) (nI (i + 2)) (dkL_15 (i := 9) rfl) rfl (nI_add i 2) ?_
  refine vl_sld (n := 632) (i := i + 2) hL (by omega) (dkL_15 (i := 10) rfl) rfl ?_
  refine vl_aload_n (n := 633) 0 (dkL_15 (i := 11) rfl) rfl rfl ?_
  refine vl_iload_n (n := 634) 3 (dkL_15 (i := 12) rfl) rfl rfl ?_
  refine vl_iconst (n := 635) 3 (dkL_15 (i := 13) rfl) rfl (by decide) ?_
  refine vl_iadd (n := 636) (nI (i + 3)) (dkL_15 (i := 14) rfl) rfl (nI_add i 3) ?_
  refine vl_sld (n := 637) (i := i + 3) hL (by omega) (dkL_15 (i := 15) rfl) rfl ?_
  refine vl_c1 (n := 640) (emb2 := qe_m) (S1', r) [.int (xs (i + 1)), .int (xs (i + 2)), .int (xs (i + 3))] (dkL_15 (i := 16) rfl) rfl kvL_79 rfl rfl (Nat.le_of_ble_eq_true rfl) rfl rfl rfl h1 (wX11_hole (l, D, qc_ad B1 ax, cy) S1 (xs (i + 1)) (xs (i + 2)) (xs (i + 3))) ?_
  show VL l D cy ax B1 B2 b L xs X 640 [(0, .ref b), (1, .ref (qc_ad B1 ax 0)), (2, .ref (qc_ad B2 ax 0)), (3, .int (nI i))] [.int r] S1' S2
  refine vl_aload_n (n := 641) 2 (dkL_15 (i := 17) rfl) rfl rfl ?_
  refine vl_aload_n (n := 642) 0 (dkL_15 (i := 18) rfl) rfl rfl ?_
  refine vl_iload_n (n := 643) 3 (dkL_15 (i := 19) rfl) rfl rfl ?_
  refine vl_iconst (n := 644) 1 (dkL_15 (i := 20) rfl) rfl (by decide) ?_
  refine vl_iadd (n := 645) (nI (i + 1)) (dkL_15 (i := 21) rfl) rfl (nI_add i 1) ?_
  refine vl_sld (n := 646) (i := i + 1) hL (by omega) (dkL_15 (i := 22) rfl) rfl ?_
  refine vl_aload_n (n := 647) 0 (dkL_15 (i := 23) rfl) rfl rfl ?_
  refine vl_iload_n (n := 648) 3 (dkL_15 (i := 24) rfl) rfl rfl ?_
  refine vl_iconst (n := 649) 2 (dkL_15 (i := 25) rfl) rfl (by decide) ?_
  refine vl_iadd (n := 650) (nI (i + 2)) (dkL_15 (i := 26) rfl) rfl (nI_add i 2) ?_
  refine vl_sld (n := 651) (i := i + 2) hL (by omega) (dkL_15 (i := 27) rfl) rfl ?_
  refine vl_aload_n (n := 652) 0 (dkL_15 (i := 28) rfl) rfl rfl ?_
  refine vl_iload_n (n := 653) 3 (dkL_15 (i := 29) rfl) rfl rfl ?_
  refine vl_iconst (n := 654) 3 (dkL_15 (i := 30) rfl) rfl (by decide) ?_
  refine vl_iadd (n := 655) (nI (i + 3)) (dkL_15 (i := 31) rfl) rfl (nI_add i 3) ?_
  refine vl_sld (n := 656) (i := i + 3) hL (by omega) (dkL_15 (i := 32) rfl) rfl ?_
  refine vl_c2 (n := 659) (emb2 := qe_m) (S2', r) [.int (xs (i + 1)), .int (xs (i + 2)), .int (xs (i + 3))] (dkL_15 (i := 33) rfl) rfl kvL_82 rfl rfl (Nat.le_of_ble_eq_true rfl) rfl rfl rfl h2 (wX12_hole (l, D, qc_ad B2 ax, cy) S2 (xs (i + 1)) (xs (i + 2)) (xs (i + 3))) ?_
  show VL l D cy ax B1 B2 b L xs X 659 [(0, .ref b), (1, .ref (qc_ad B1 ax 0)), (2, .ref (qc_ad B2 ax 0)), (3, .int (nI i))] [.int r, .int r] S1' S2'
  refine vl_same (t := 1297) (dkL_15 (i := 34) rfl) (by decide) ?_
  exact hnext S1' S2' hR
def tbL_16 : List (Nat × Instr × Nat) := [(664, .aload_n 1, 1), (665, .aload_n 0, 1), (666, .iload_n 3, 1), (667, .iconst 1, 1), (668, .iadd, 1), (669, .iaload, 1), (670, .aload_n 0, 1), (671, .iload_n 3, 1), (672, .iconst 2, 1), (673, .iadd, 1), (674, .iaload, 1), (675, .aload_n 0, 1), (676, .iload_n 3, 1), (677, .iconst 3, 1), (678, .iadd, 1), (679, .iaload, 1), (680, .invokevirtual 83, 3), (683, .aload_n 2, 1), (684, .aload_n 0, 1), (685, .iload_n 3, 1), (686, .iconst 1, 1), (687, .iadd, 1), (688, .iaload, 1), (689, .aload_n 0, 1), (690, .iload_n 3, 1), (691, .iconst 2, 1), (692, .iadd, 1), (693, .iaload, 1), (694, .aload_n 0, 1), (695, .iload_n 3, 1), (696, .iconst 3, 1), (697, .iadd, 1), (698, .iaload, 1), (699, .invokevirtual 86, 3), (702, .if_icmp .eq 595, 3), (705, .iconst 0, 1), (706, .ireturn, 1)]
set_option maxRecDepth 20000 in
theorem daL_16 : ∀ x ∈ tbL_16, decode code x.1 = .ok x.2 := by decide +kernel
theorem dkL_16 {i pc n : Nat} {ins : Instr} (h : tbL_16[i]? = some (pc, ins, n)) : decode code pc = .ok (ins, n) := daL_16 (pc, ins, n) (List.mem_of_getElem? h)
set_option maxRecDepth 20000 in
set_option maxHeartbeats 4000000 in
/-- holes -/
theorem law_case_16 {Rel : Nat → qv_St → qv_St → Prop} (hop : ∀ (i : Nat) (S1 S2 : qv_St) (a1 a2 a3 : Int32), i + 6 ≤ 3072 → Rel i S1 S2 → ∃ (S1' : qv_St) (S2' : qv_St) (r : Int32), fX11_holes S1 a1 a2 a3 = some (S1', r) ∧ fX12_holes S2 a1 a2 a3 = some (S2', r) ∧ Rel (i + 6) S1' S2') {l : Launch} {D : va_G} {cy ax : Nat → Nat} {B1 B2 b L : Nat} {xs : Nat → Int32} {X : qv_XT} (hL : L ≤ 3072) {i : Nat} (hi : i + 6 ≤ L) (hnext : ∀ S1 S2 : qv_St, Rel (i + 6) S1 S2 → VL l D cy ax B1 B2 b L xs X 1297 [(0, .ref b), (1, .ref (qc_ad B1 ax 0)), (2, .ref (qc_ad B2 ax 0)), (3, .int (nI i))] [] S1 S2) (S1 S2 : qv_St) (hrel : Rel i S1 S2) : VL l D cy ax B1 B2 b L xs X 664 [(0, .ref b), (1, .ref (qc_ad B1 ax 0)), (2, .ref (qc_ad B2 ax 0)), (3, .int (nI i))] [] S1 S2 := by
  obtain ⟨S1', S2', r, h1, h2, hR⟩ := hop i S1 S2 (xs (i + 1)) (xs (i + 2)) (xs (i + 3)) (by omega) hrel
  refine vl_aload_n (n := 665) 1 (dkL_16 (i := 0) rfl) rfl rfl ?_
  refine vl_aload_n (n := 666) 0 (dkL_16 (i := 1) rfl) rfl rfl ?_
  refine vl_iload_n (n := 667) 3 (dkL_16 (i := 2) rfl) rfl rfl ?_
  refine vl_iconst (n := 668) 1 (dkL_16 (i := 3) rfl) rfl (by decide) ?_
  refine vl_iadd (n := 669) (nI (i + 1)) (dkL_16 (i := 4) rfl) rfl (nI_add i 1) ?_
  refine vl_sld (n := 670) (i := i + 1) hL (by omega) (dkL_16 (i := 5) rfl) rfl ?_
  refine vl_aload_n (n := 671) 0 (dkL_16 (i := 6) rfl) rfl rfl ?_
  refine vl_iload_n (n := 672) 3 (dkL_16 (i := 7) rfl) rfl rfl ?_
  refine vl_iconst (n := 673) 2 (dkL_16 (i := 8) rfl) rfl (by decide) ?_
  refine vl_iadd (n := 674) (nI (i + 2)) (dkL_16 (i := 9) rfl) rfl (nI_add i 2) ?_
  refine vl_sld (n := 675) (i := i + 2) hL (by omega) (dkL_16 (i := 10) rfl) rfl ?_
  refine vl_aload_n (n := 676) 0 (dkL_16 (i := 11) rfl) rfl rfl ?_
  refine vl_iload_n (n := 677) 3 (dkL_16 (i := 12) rfl) rfl rfl ?_
  refine vl_iconst (n := 678) 3 (dkL_16 (i := 13) rfl) rfl (by decide) ?_
  refine vl_iadd (n := 679) (nI (i + 3)) (dkL_16 (i := 14) rfl) rfl (nI_add i 3) ?_
  refine vl_sld (n := 680) (i := i + 3) hL (by omega) (dkL_16 (i := 15) rfl) rfl ?_
  refine vl_c1 (n := 683) (emb2 := qe_m) (S1', r) [.int (xs (i + 1)), .int (xs (i + 2)), .int (xs (i + 3))] (dkL_16 (i := 16) rfl) rfl kvL_83 rfl rfl (Nat.le_of_ble_eq_true rfl) rfl rfl rfl h1 (wX11_holes (l, D, qc_ad B1 ax, cy) S1 (xs (i + 1)) (xs (i + 2)) (xs (i + 3))) ?_
  show VL l D cy ax B1 B2 b L xs X 683 [(0, .ref b), (1, .ref (qc_ad B1 ax 0)), (2, .ref (qc_ad B2 ax 0)), (3, .int (nI i))] [.int r] S1' S2
  refine vl_aload_n (n := 684) 2 (dkL_16 (i := 17) rfl) rfl rfl ?_
  refine vl_aload_n (n := 685) 0 (dkL_16 (i := 18) rfl) rfl rfl ?_
  refine vl_iload_n (n := 686) 3 (dkL_16 (i := 19) rfl) rfl rfl ?_
  refine vl_iconst (n := 687) 1 (dkL_16 (i := 20) rfl) rfl (by decide) ?_
  refine vl_iadd (n := 688) (nI (i + 1)) (dkL_16 (i := 21) rfl) rfl (nI_add i 1) ?_
  refine vl_sld (n := 689) (i := i + 1) hL (by omega) (dkL_16 (i := 22) rfl) rfl ?_
  refine vl_aload_n (n := 690) 0 (dkL_16 (i := 23) rfl) rfl rfl ?_
  refine vl_iload_n (n := 691) 3 (dkL_16 (i := 24) rfl) rfl rfl ?_
  refine vl_iconst (n := 692) 2 (dkL_16 (i := 25) rfl) rfl (by decide) ?_
  refine vl_iadd (n := 693) (nI (i + 2)) (dkL_16 (i := 26) rfl) rfl (nI_add i 2) ?_
  refine vl_sld (n := 694) (i := i + 2) hL (by omega) (dkL_16 (i := 27) rfl) rfl ?_
  refine vl_aload_n (n := 695) 0 (dkL_16 (i := 28) rfl) rfl rfl ?_
  refine vl_iload_n (n := 696) 3 (dkL_16 (i := 29) rfl) rfl rfl ?_
  refine vl_iconst (n := 697) 3 (dkL_16 (i := 30) rfl) rfl (by decide) ?_
  refine vl_iadd (n := 698) (nI (i + 3)) (dkL_16 (i := 31) rfl) rfl (nI_add i 3) ?_
  refine vl_sld (n := 699) (i := i + 3) hL (by omega) (dkL_16 (i := 32) rfl) rfl ?_
  refine vl_c2 (n := 702) (emb2 := qe_m) (S2', r) [.int (xs (i + 1)), .int (xs (i + 2)), .int (xs (i + 3))] (dkL_16 (i := 33) rfl) rfl kvL_86 rfl rfl (Nat.le_of_ble_eq_true rfl) rfl rfl rfl h2 (wX12_holes (l, D, qc_ad B2 ax, cy) S2 (xs (i + 1)) (xs (i + 2)) (xs (i + 3))) ?_
  show VL l D cy ax B1 B2 b L xs X 702 [(0, .ref b), (1, .ref (qc_ad B1 ax 0)), (2, .ref (qc_ad B2 ax 0)), (3, .int (nI i))] [.int r, .int r] S1' S2'
  refine vl_same (t := 1297) (dkL_16 (i := 34) rfl) (by decide) ?_
  exact hnext S1' S2' hR
def tbL_17 : List (Nat × Instr × Nat) := [(707, .aload_n 1, 1), (708, .aload_n 0, 1), (709, .iload_n 3, 1), (710, .iconst 1, 1), (711, .iadd, 1), (712, .iaload, 1), (713, .aload_n 0, 1), (714, .iload_n 3, 1), (715, .iconst 2, 1), (716, .iadd, 1), (717, .iaload, 1), (718, .aload_n 0, 1), (719, .iload_n 3, 1), (720, .iconst 3, 1), (721, .iadd, 1), (722, .iaload, 1), (723, .invokevirtual 87, 3), (726, .aload_n 2, 1), (727, .aload_n 0, 1), (728, .iload_n 3, 1), (729, .iconst 1, 1), (730, .iadd, 1), (731, .iaload, 1), (732, .aload_n 0, 1), (733, .iload_n 3, 1), (734, .iconst 2, 1), (735, .iadd, 1), (736, .iaload, 1), (737, .aload_n 0, 1), (738, .iload_n 3, 1), (739, .iconst 3, 1), (740, .iadd, 1), (741, .iaload, 1), (742, .invokevirtual 90, 3), (745, .if_icmp .eq 552, 3), (748, .iconst 0, 1), (749, .ireturn, 1)]
set_option maxRecDepth 20000 in
theorem daL_17 : ∀ x ∈ tbL_17, decode code x.1 = .ok x.2 := by decide +kernel
theorem dkL_17 {i pc n : Nat} {ins : Instr} (h : tbL_17[i]? = some (pc, ins, n)) : decode code pc = .ok (ins, n) := daL_17 (pc, ins, n) (List.mem_of_getElem? h)
set_option maxRecDepth 20000 in
set_option maxHeartbeats 4000000 in
/-- softest -/
theorem law_case_17 {Rel : Nat → qv_St → qv_St → Prop} (hop : ∀ (i : Nat) (S1 S2 : qv_St) (a1 a2 a3 : Int32), i + 6 ≤ 3072 → Rel i S1 S2 → ∃ (S1' : qv_St) (S2' : qv_St) (r : Int32), fX11_softest S1 a1 a2 a3 = some (S1', r) ∧ fX12_softest S2 a1 a2 a3 = some (S2', r) ∧ Rel (i + 6) S1' S2') {l : Launch} {D : va_G} {cy ax : Nat → Nat} {B1 B2 b L : Nat} {xs : Nat → Int32} {X : qv_XT} (hL : L ≤ 3072) {i : Nat} (hi : i + 6 ≤ L) (hnext : ∀ S1 S2 : qv_St, Rel (i + 6) S1 S2 → VL l D cy ax B1 B2 b L xs X 1297 [(0, .ref b), (1, .ref (qc_ad B1 ax 0)), (2, .ref (qc_ad B2 ax 0)), (3, .int (nI i))] [] S1 S2) (S1 S2 : qv_St) (hrel : Rel i S1 S2) : VL l D cy ax B1 B2 b L xs X 707 [(0, .ref b), (1, .ref (qc_ad B1 ax 0)), (2, .ref (qc_ad B2 ax 0)), (3, .int (nI i))] [] S1 S2 := by
  obtain ⟨S1', S2', r, h1, h2, hR⟩ := hop i S1 S2 (xs (i + 1)) (xs (i + 2)) (xs (i + 3)) (by omega) hrel
  refine vl_aload_n (n := 708) 1 (dkL_17 (i := 0) rfl) rfl rfl ?_
  refine vl_aload_n (n := 709) 0 (dkL_17 (i := 1) rfl) rfl rfl ?_
  refine vl_iload_n (n := 710) 3 (dkL_17 (i := 2) rfl) rfl rfl ?_
  refine vl_iconst (n := 711) 1 (dkL_17 (i := 3) rfl) rfl (by decide) ?_
  refine vl_iadd (n := 712) (nI (i + 1)) (dkL_17 (i := 4) rfl) rfl (nI_add i 1) ?_
  refine vl_sld (n := 713) (i := i + 1) hL (by omega) (dkL_17 (i := 5) rfl) rfl ?_
  refine vl_aload_n (n := 714) 0 (dkL_17 (i := 6) rfl) rfl rfl ?_
  refine vl_iload_n (n := 715) 3 (dkL_17 (i := 7) rfl) rfl rfl ?_
  refine vl_iconst (n := 716) 2 (dkL_17 (i := 8) rfl) rfl (by decide) ?_
  refine vl_iadd (n := 717) (nI (i + 2)) (dkL_17 (i := 9) rfl) rfl (nI_add i 2) ?_
  refine vl_sld (n := 718) (i := i + 2) hL (by omega) (dkL_17 (i := 10) rfl) rfl ?_
  refine vl_aload_n (n := 719) 0 (dkL_17 (i := 11) rfl) rfl rfl ?_
  refine vl_iload_n (n := 720) 3 (dkL_17 (i := 12) rfl) rfl rfl ?_
  refine vl_iconst (n := 721) 3 (dkL_17 (i := 13) rfl) rfl (by decide) ?_
  refine vl_iadd (n := 722) (nI (i + 3)) (dkL_17 (i := 14) rfl) rfl (nI_add i 3) ?_
  refine vl_sld (n := 723) (i := i + 3) hL (by omega) (dkL_17 (i := 15) rfl) rfl ?_
  refine vl_c1 (n := 726) (emb2 := qe_m) (S1', r) [.int (xs (i + 1)), .int (xs (i + 2)), .int (xs (i + 3))] (dkL_17 (i := 16) rfl) rfl kvL_87 rfl rfl (Nat.le_of_ble_eq_true rfl) rfl rfl rfl h1 (wX11_softest (l, D, qc_ad B1 ax, cy) S1 (xs (i + 1)) (xs (i + 2)) (xs (i + 3))) ?_
  show VL l D cy ax B1 B2 b L xs X 726 [(0, .ref b), (1, .ref (qc_ad B1 ax 0)), (2, .ref (qc_ad B2 ax 0)), (3, .int (nI i))] [.int r] S1' S2
  refine vl_aload_n (n := 727) 2 (dkL_17 (i := 17) rfl) rfl rfl ?_
  refine vl_aload_n (n := 728) 0 (dkL_17 (i := 18) rfl) rfl rfl ?_
  refine vl_iload_n (n := 729) 3 (dkL_17 (i := 19) rfl) rfl rfl ?_
  refine vl_iconst (n := 730) 1 (dkL_17 (i := 20) rfl) rfl (by decide) ?_
  refine vl_iadd (n := 731) (nI (i + 1)) (dkL_17 (i := 21) rfl) rfl (nI_add i 1) ?_
  refine vl_sld (n := 732) (i := i + 1) hL (by omega) (dkL_17 (i := 22) rfl) rfl ?_
  refine vl_aload_n (n := 733) 0 (dkL_17 (i := 23) rfl) rfl rfl ?_
  refine vl_iload_n (n := 734) 3 (dkL_17 (i := 24) rfl) rfl rfl ?_
  refine vl_iconst (n := 735) 2 (dkL_17 (i := 25) rfl) rfl (by decide) ?_
  refine vl_iadd (n := 736) (nI (i + 2)) (dkL_17 (i := 26) rfl) rfl (nI_add i 2) ?_
  refine vl_sld (n := 737) (i := i + 2) hL (by omega) (dkL_17 (i := 27) rfl) rfl ?_
  refine vl_aload_n (n := 738) 0 (dkL_17 (i := 28) rfl) rfl rfl ?_
  refine vl_iload_n (n := 739) 3 (dkL_17 (i := 29) rfl) rfl rfl ?_
  refine vl_iconst (n := 740) 3 (dkL_17 (i := 30) rfl) rfl (by decide) ?_
  refine vl_iadd (n := 741) (nI (i + 3)) (dkL_17 (i := 31) rfl) rfl (nI_add i 3) ?_
  refine vl_sld (n := 742) (i := i + 3) hL (by omega) (dkL_17 (i := 32) rfl) rfl ?_
  refine vl_c2 (n := 745) (emb2 := qe_m) (S2', r) [.int (xs (i + 1)), .int (xs (i + 2)), .int (xs (i + 3))] (dkL_17 (i := 33) rfl) rfl kvL_90 rfl rfl (Nat.le_of_ble_eq_true rfl) rfl rfl rfl h2 (wX12_softest (l, D, qc_ad B2 ax, cy) S2 (xs (i + 1)) (xs (i + 2)) (xs (i + 3))) ?_
  show VL l D cy ax B1 B2 b L xs X 745 [(0, .ref b), (1, .ref (qc_ad B1 ax 0)), (2, .ref (qc_ad B2 ax 0)), (3, .int (nI i))] [.int r, .int r] S1' S2'
  refine vl_same (t := 1297) (dkL_17 (i := 34) rfl) (by decide) ?_
  exact hnext S1' S2' hR
def tbL_18 : List (Nat × Instr × Nat) := [(750, .aload_n 1, 1), (751, .aload_n 0, 1), (752, .iload_n 3, 1), (753, .iconst 1, 1), (754, .iadd, 1), (755, .iaload, 1), (756, .invokevirtual 91, 3), (759, .aload_n 2, 1), (760, .aload_n 0, 1), (761, .iload_n 3, 1), (762, .iconst 1, 1), (763, .iadd, 1), (764, .iaload, 1), (765, .invokevirtual 94, 3), (768, .if_icmp .eq 529, 3), (771, .iconst 0, 1), (772, .ireturn, 1)]
set_option maxRecDepth 20000 in
theorem daL_18 : ∀ x ∈ tbL_18, decode code x.1 = .ok x.2 := by decide +kernel
theorem dkL_18 {i pc n : Nat} {ins : Instr} (h : tbL_18[i]? = some (pc, ins, n)) : decode code pc = .ok (ins, n) := daL_18 (pc, ins, n) (List.mem_of_getElem? h)
set_option maxRecDepth 20000 in
set_option maxHeartbeats 4000000 in
/-- next -/
theorem law_case_18 {Rel : Nat → qv_St → qv_St → Prop} (hop : ∀ (i : Nat) (S1 S2 : qv_St) (a1 : Int32), i + 6 ≤ 3072 → Rel i S1 S2 → ∃ (S1' : qv_St) (S2' : qv_St) (r : Int32), fX11_next S1 a1 = some (S1', r) ∧ fX12_next S2 a1 = some (S2', r) ∧ Rel (i + 6) S1' S2') {l : Launch} {D : va_G} {cy ax : Nat → Nat} {B1 B2 b L : Nat} {xs : Nat → Int32} {X : qv_XT} (hL : L ≤ 3072) {i : Nat} (hi : i + 6 ≤ L) (hnext : ∀ S1 S2 : qv_St, Rel (i + 6) S1 S2 → VL l D cy ax B1 B2 b L xs X 1297 [(0, .ref b), (1, .ref (qc_ad B1 ax 0)), (2, .ref (qc_ad B2 ax 0)), (3, .int (nI i))] [] S1 S2) (S1 S2 : qv_St) (hrel : Rel i S1 S2) : VL l D cy ax B1 B2 b L xs X 750 [(0, .ref b), (1, .ref (qc_ad B1 ax 0)), (2, .ref (qc_ad B2 ax 0)), (3, .int (nI i))] [] S1 S2 := by
  obtain ⟨S1', S2', r, h1, h2, hR⟩ := hop i S1 S2 (xs (i + 1)) (by omega) hrel
  refine vl_aload_n (n := 751) 1 (dkL_18 (i := 0) rfl) rfl rfl ?_
  refine vl_aload_n (n := 752) 0 (dkL_18 (i := 1) rfl) rfl rfl ?_
  refine vl_iload_n (n := 753) 3 (dkL_18 (i := 2) rfl) rfl rfl ?_
  refine vl_iconst (n := 754) 1 (dkL_18 (i := 3) rfl) rfl (by decide) ?_
  refine vl_iadd (n := 755) (nI (i + 1)) (dkL_18 (i := 4) rfl) rfl (nI_add i 1) ?_
  refine vl_sld (n := 756) (i := i + 1) hL (by omega) (dkL_18 (i := 5) rfl) rfl ?_
  refine vl_c1 (n := 759) (emb2 := qe_m) (S1', r) [.int (xs (i + 1))] (dkL_18 (i := 6) rfl) rfl kvL_91 rfl rfl (Nat.le_of_ble_eq_true rfl) rfl rfl rfl h1 (wX11_next (l, D, qc_ad B1 ax, cy) S1 (xs (i + 1))) ?_
  show VL l D cy ax B1 B2 b L xs X 759 [(0, .ref b), (1, .ref (qc_ad B1 ax 0)), (2, .ref (qc_ad B2 ax 0)), (3, .int (nI i))] [.int r] S1' S2
  refine vl_aload_n (n := 760) 2 (dkL_18 (i := 7) rfl) rfl rfl ?_
  refine vl_aload_n (n := 761) 0 (dkL_18 (i := 8) rfl) rfl rfl ?_
  refine vl_iload_n (n := 762) 3 (dkL_18 (i := 9) rfl) rfl rfl ?_
  refine vl_iconst (n := 763) 1 (dkL_18 (i := 10) rfl) rfl (by decide) ?_
  refine vl_iadd (n := 764) (nI (i + 1)) (dkL_18 (i := 11) rfl) rfl (nI_add i 1) ?_
  refine vl_sld (n := 765) (i := i + 1) hL (by omega) (dkL_18 (i := 12) rfl) rfl ?_
  refine vl_c2 (n := 768) (emb2 := qe_m) (S2', r) [.int (xs (i + 1))] (dkL_18 (i := 13) rfl) rfl kvL_94 rfl rfl (Nat.le_of_ble_eq_true rfl) rfl rfl rfl h2 (wX12_next (l, D, qc_ad B2 ax, cy) S2 (xs (i + 1))) ?_
  show VL l D cy ax B1 B2 b L xs X 768 [(0, .ref b), (1, .ref (qc_ad B1 ax 0)), (2, .ref (qc_ad B2 ax 0)), (3, .int (nI i))] [.int r, .int r] S1' S2'
  refine vl_same (t := 1297) (dkL_18 (i := 14) rfl) (by decide) ?_
  exact hnext S1' S2' hR
def tbL_19 : List (Nat × Instr × Nat) := [(773, .aload_n 1, 1), (774, .aload_n 0, 1), (775, .iload_n 3, 1), (776, .iconst 1, 1), (777, .iadd, 1), (778, .iaload, 1), (779, .aload_n 0, 1), (780, .iload_n 3, 1), (781, .iconst 2, 1), (782, .iadd, 1), (783, .iaload, 1), (784, .invokevirtual 95, 3), (787, .aload_n 2, 1), (788, .aload_n 0, 1), (789, .iload_n 3, 1), (790, .iconst 1, 1), (791, .iadd, 1), (792, .iaload, 1), (793, .aload_n 0, 1), (794, .iload_n 3, 1), (795, .iconst 2, 1), (796, .iadd, 1), (797, .iaload, 1), (798, .invokevirtual 98, 3), (801, .if_icmp .eq 496, 3), (804, .iconst 0, 1), (805, .ireturn, 1)]
set_option maxRecDepth 20000 in
theorem daL_19 : ∀ x ∈ tbL_19, decode code x.1 = .ok x.2 := by decide +kernel
theorem dkL_19 {i pc n : Nat} {ins : Instr} (h : tbL_19[i]? = some (pc, ins, n)) : decode code pc = .ok (ins, n) := daL_19 (pc, ins, n) (List.mem_of_getElem? h)
set_option maxRecDepth 20000 in
set_option maxHeartbeats 4000000 in
/-- loudest -/
theorem law_case_19 {Rel : Nat → qv_St → qv_St → Prop} (hop : ∀ (i : Nat) (S1 S2 : qv_St) (a1 a2 : Int32), i + 6 ≤ 3072 → Rel i S1 S2 → ∃ (S1' : qv_St) (S2' : qv_St) (r : Int32), fX11_loudest S1 a1 a2 = some (S1', r) ∧ fX12_loudest S2 a1 a2 = some (S2', r) ∧ Rel (i + 6) S1' S2') {l : Launch} {D : va_G} {cy ax : Nat → Nat} {B1 B2 b L : Nat} {xs : Nat → Int32} {X : qv_XT} (hL : L ≤ 3072) {i : Nat} (hi : i + 6 ≤ L) (hnext : ∀ S1 S2 : qv_St, Rel (i + 6) S1 S2 → VL l D cy ax B1 B2 b L xs X 1297 [(0, .ref b), (1, .ref (qc_ad B1 ax 0)), (2, .ref (qc_ad B2 ax 0)), (3, .int (nI i))] [] S1 S2) (S1 S2 : qv_St) (hrel : Rel i S1 S2) : VL l D cy ax B1 B2 b L xs X 773 [(0, .ref b), (1, .ref (qc_ad B1 ax 0)), (2, .ref (qc_ad B2 ax 0)), (3, .int (nI i))] [] S1 S2 := by
  obtain ⟨S1', S2', r, h1, h2, hR⟩ := hop i S1 S2 (xs (i + 1)) (xs (i + 2)) (by omega) hrel
  refine vl_aload_n (n := 774) 1 (dkL_19 (i := 0) rfl) rfl rfl ?_
  refine vl_aload_n (n := 775) 0 (dkL_19 (i := 1) rfl) rfl rfl ?_
  refine vl_iload_n (n := 776) 3 (dkL_19 (i := 2) rfl) rfl rfl ?_
  refine vl_iconst (n := 777) 1 (dkL_19 (i := 3) rfl) rfl (by decide) ?_
  refine vl_iadd (n := 778) (nI (i + 1)) (dkL_19 (i := 4) rfl) rfl (nI_add i 1) ?_
  refine vl_sld (n := 779) (i := i + 1) hL (by omega) (dkL_19 (i := 5) rfl) rfl ?_
  refine vl_aload_n (n := 780) 0 (dkL_19 (i := 6) rfl) rfl rfl ?_
  refine vl_iload_n (n := 781) 3 (dkL_19 (i := 7) rfl) rfl rfl ?_
  refine vl_iconst (n := 782) 2 (dkL_19 (i := 8) rfl) rfl (by decide) ?_
  refine vl_iadd (n := 783) (nI (i + 2)) (dkL_19 (i := 9) rfl) rfl (nI_add i 2) ?_
  refine vl_sld (n := 784) (i := i + 2) hL (by omega) (dkL_19 (i := 10) rfl) rfl ?_
  refine vl_c1 (n := 787) (emb2 := qe_m) (S1', r) [.int (xs (i + 1)), .int (xs (i + 2))] (dkL_19 (i := 11) rfl) rfl kvL_95 rfl rfl (Nat.le_of_ble_eq_true rfl) rfl rfl rfl h1 (wX11_loudest (l, D, qc_ad B1 ax, cy) S1 (xs (i + 1)) (xs (i + 2))) ?_
  show VL l D cy ax B1 B2 b L xs X 787 [(0, .ref b), (1, .ref (qc_ad B1 ax 0)), (2, .ref (qc_ad B2 ax 0)), (3, .int (nI i))] [.int r] S1' S2
  refine vl_aload_n (n := 788) 2 (dkL_19 (i := 12) rfl) rfl rfl ?_
  refine vl_aload_n (n := 789) 0 (dkL_19 (i := 13) rfl) rfl rfl ?_
  refine vl_iload_n (n := 790) 3 (dkL_19 (i := 14) rfl) rfl rfl ?_
  refine vl_iconst (n := 791) 1 (dkL_19 (i := 15) rfl) rfl (by decide) ?_
  refine vl_iadd (n := 792) (nI (i + 1)) (dkL_19 (i := 16) rfl) rfl (nI_add i 1) ?_
  refine vl_sld (n := 793) (i := i + 1) hL (by omega) (dkL_19 (i := 17) rfl) rfl ?_
  refine vl_aload_n (n := 794) 0 (dkL_19 (i := 18) rfl) rfl rfl ?_
  refine vl_iload_n (n := 795) 3 (dkL_19 (i := 19) rfl) rfl rfl ?_
  refine vl_iconst (n := 796) 2 (dkL_19 (i := 20) rfl) rfl (by decide) ?_
  refine vl_iadd (n := 797) (nI (i + 2)) (dkL_19 (i := 21) rfl) rfl (nI_add i 2) ?_
  refine vl_sld (n := 798) (i := i + 2) hL (by omega) (dkL_19 (i := 22) rfl) rfl ?_
  refine vl_c2 (n := 801) (emb2 := qe_m) (S2', r) [.int (xs (i + 1)), .int (xs (i + 2))] (dkL_19 (i := 23) rfl) rfl kvL_98 rfl rfl (Nat.le_of_ble_eq_true rfl) rfl rfl rfl h2 (wX12_loudest (l, D, qc_ad B2 ax, cy) S2 (xs (i + 1)) (xs (i + 2))) ?_
  show VL l D cy ax B1 B2 b L xs X 801 [(0, .ref b), (1, .ref (qc_ad B1 ax 0)), (2, .ref (qc_ad B2 ax 0)), (3, .int (nI i))] [.int r, .int r] S1' S2'
  refine vl_same (t := 1297) (dkL_19 (i := 24) rfl) (by decide) ?_
  exact hnext S1' S2' hR
def tbL_20 : List (Nat × Instr × Nat) := [(806, .aload_n 1, 1), (807, .aload_n 0, 1), (808, .iload_n 3, 1), (809, .iconst 1, 1), (810, .iadd, 1), (811, .iaload, 1), (812, .aload_n 0, 1), (813, .iload_n 3, 1), (814, .iconst 2, 1), (815, .iadd, 1), (816, .iaload, 1), (817, .invokevirtual 99, 3), (820, .aload_n 2, 1), (821, .aload_n 0, 1), (822, .iload_n 3, 1), (823, .iconst 1, 1), (824, .iadd, 1), (825, .iaload, 1), (826, .aload_n 0, 1), (827, .iload_n 3, 1), (828, .iconst 2, 1), (829, .iadd, 1), (830, .iaload, 1), (831, .invokevirtual 102, 3), (834, .if_icmp .eq 463, 3), (837, .iconst 0, 1), (838, .ireturn, 1)]
set_option maxRecDepth 20000 in
theorem daL_20 : ∀ x ∈ tbL_20, decode code x.1 = .ok x.2 := by decide +kernel
theorem dkL_20 {i pc n : Nat} {ins : Instr} (h : tbL_20[i]? = some (pc, ins, n)) : decode code pc = .ok (ins, n) := daL_20 (pc, ins, n) (List.mem_of_getElem? h)
set_option maxRecDepth 20000 in
set_option maxHeartbeats 4000000 in
/-- peak -/
theorem law_case_20 {Rel : Nat → qv_St → qv_St → Prop} (hop : ∀ (i : Nat) (S1 S2 : qv_St) (a1 a2 : Int32), i + 6 ≤ 3072 → Rel i S1 S2 → ∃ (S1' : qv_St) (S2' : qv_St) (r : Int32), fX11_peak S1 a1 a2 = some (S1', r) ∧ fX12_peak S2 a1 a2 = some (S2', r) ∧ Rel (i + 6) S1' S2') {l : Launch} {D : va_G} {cy ax : Nat → Nat} {B1 B2 b L : Nat} {xs : Nat → Int32} {X : qv_XT} (hL : L ≤ 3072) {i : Nat} (hi : i + 6 ≤ L) (hnext : ∀ S1 S2 : qv_St, Rel (i + 6) S1 S2 → VL l D cy ax B1 B2 b L xs X 1297 [(0, .ref b), (1, .ref (qc_ad B1 ax 0)), (2, .ref (qc_ad B2 ax 0)), (3, .int (nI i))] [] S1 S2) (S1 S2 : qv_St) (hrel : Rel i S1 S2) : VL l D cy ax B1 B2 b L xs X 806 [(0, .ref b), (1, .ref (qc_ad B1 ax 0)), (2, .ref (qc_ad B2 ax 0)), (3, .int (nI i))] [] S1 S2 := by
  obtain ⟨S1', S2', r, h1, h2, hR⟩ := hop i S1 S2 (xs (i + 1)) (xs (i + 2)) (by omega) hrel
  refine vl_aload_n (n := 807) 1 (dkL_20 (i := 0) rfl) rfl rfl ?_
  refine vl_aload_n (n := 808) 0 (dkL_20 (i := 1) rfl) rfl rfl ?_
  refine vl_iload_n (n := 809) 3 (dkL_20 (i := 2) rfl) rfl rfl ?_
  refine vl_iconst (n := 810) 1 (dkL_20 (i := 3) rfl) rfl (by decide) ?_
  refine vl_iadd (n := 811) (nI (i + 1)) (dkL_20 (i := 4) rfl) rfl (nI_add i 1) ?_
  refine vl_sld (n := 812) (i := i + 1) hL (by omega) (dkL_20 (i := 5) rfl) rfl ?_
  refine vl_aload_n (n := 813) 0 (dkL_20 (i := 6) rfl) rfl rfl ?_
  refine vl_iload_n (n := 814) 3 (dkL_20 (i := 7) rfl) rfl rfl ?_
  refine vl_iconst (n := 815) 2 (dkL_20 (i := 8) rfl) rfl (by decide) ?_
  refine vl_iadd (n := 816) (nI (i + 2)) (dkL_20 (i := 9) rfl) rfl (nI_add i 2) ?_
  refine vl_sld (n := 817) (i := i + 2) hL (by omega) (dkL_20 (i := 10) rfl) rfl ?_
  refine vl_c1 (n := 820) (emb2 := qe_m) (S1', r) [.int (xs (i + 1)), .int (xs (i + 2))] (dkL_20 (i := 11) rfl) rfl kvL_99 rfl rfl (Nat.le_of_ble_eq_true rfl) rfl rfl rfl h1 (wX11_peak (l, D, qc_ad B1 ax, cy) S1 (xs (i + 1)) (xs (i + 2))) ?_
  show VL l D cy ax B1 B2 b L xs X 820 [(0, .ref b), (1, .ref (qc_ad B1 ax 0)), (2, .ref (qc_ad B2 ax 0)), (3, .int (nI i))] [.int r] S1' S2
  refine vl_aload_n (n := 821) 2 (dkL_20 (i := 12) rfl) rfl rfl ?_
  refine vl_aload_n (n := 822) 0 (dkL_20 (i := 13) rfl) rfl rfl ?_
  refine vl_iload_n (n := 823) 3 (dkL_20 (i := 14) rfl) rfl rfl ?_
  refine vl_iconst (n := 824) 1 (dkL_20 (i := 15) rfl) rfl (by decide) ?_
  refine vl_iadd (n := 825) (nI (i + 1)) (dkL_20 (i := 16) rfl) rfl (nI_add i 1) ?_
  refine vl_sld (n := 826) (i := i + 1) hL (by omega) (dkL_20 (i := 17) rfl) rfl ?_
  refine vl_aload_n (n := 827) 0 (dkL_20 (i := 18) rfl) rfl rfl ?_
  refine vl_iload_n (n := 828) 3 (dkL_20 (i := 19) rfl) rfl rfl ?_
  refine vl_iconst (n := 829) 2 (dkL_20 (i := 20) rfl) rfl (by decide) ?_
  refine vl_iadd (n := 830) (nI (i + 2)) (dkL_20 (i := 21) rfl) rfl (nI_add i 2) ?_
  refine vl_sld (n := 831) (i := i + 2) hL (by omega) (dkL_20 (i := 22) rfl) rfl ?_
  refine vl_c2 (n := 834) (emb2 := qe_m) (S2', r) [.int (xs (i + 1)), .int (xs (i + 2))] (dkL_20 (i := 23) rfl) rfl kvL_102 rfl rfl (Nat.le_of_ble_eq_true rfl) rfl rfl rfl h2 (wX12_peak (l, D, qc_ad B2 ax, cy) S2 (xs (i + 1)) (xs (i + 2))) ?_
  show VL l D cy ax B1 B2 b L xs X 834 [(0, .ref b), (1, .ref (qc_ad B1 ax 0)), (2, .ref (qc_ad B2 ax 0)), (3, .int (nI i))] [.int r, .int r] S1' S2'
  refine vl_same (t := 1297) (dkL_20 (i := 24) rfl) (by decide) ?_
  exact hnext S1' S2' hR
def tbL_21 : List (Nat × Instr × Nat) := [(839, .aload_n 1, 1), (840, .aload_n 0, 1), (841, .iload_n 3, 1), (842, .iconst 1, 1), (843, .iadd, 1), (844, .iaload, 1), (845, .invokevirtual 103, 3), (848, .aload_n 2, 1), (849, .aload_n 0, 1), (850, .iload_n 3, 1), (851, .iconst 1, 1), (852, .iadd, 1), (853, .iaload, 1), (854, .invokevirtual 106, 3), (857, .if_icmp .eq 440, 3), (860, .iconst 0, 1), (861, .ireturn, 1)]
set_option maxRecDepth 20000 in
theorem daL_21 : ∀ x ∈ tbL_21, decode code x.1 = .ok x.2 := by decide +kernel
theorem dkL_21 {i pc n : Nat} {ins : Instr} (h : tbL_21[i]? = some (pc, ins, n)) : decode code pc = .ok (ins, n) := daL_21 (pc, ins, n) (List.mem_of_getElem? h)
set_option maxRecDepth 20000 in
set_option maxHeartbeats 4000000 in
/-- calmest -/
theorem law_case_21 {Rel : Nat → qv_St → qv_St → Prop} (hop : ∀ (i : Nat) (S1 S2 : qv_St) (a1 : Int32), i + 6 ≤ 3072 → Rel i S1 S2 → ∃ (S1' : qv_St) (S2' : qv_St) (r : Int32), fX11_calmest S1 a1 = some (S1', r) ∧ fX12_calmest S2 a1 = some (S2', r) ∧ Rel (i + 6) S1' S2') {l : Launch} {D : va_G} {cy ax : Nat → Nat} {B1 B2 b L : Nat} {xs : Nat → Int32} {X : qv_XT} (hL : L ≤ 3072) {i : Nat} (hi : i + 6 ≤ L) (hnext : ∀ S1 S2 : qv_St, Rel (i + 6) S1 S2 → VL l D cy ax B1 B2 b L xs X 1297 [(0, .ref b), (1, .ref (qc_ad B1 ax 0)), (2, .ref (qc_ad B2 ax 0)), (3, .int (nI i))] [] S1 S2) (S1 S2 : qv_St) (hrel : Rel i S1 S2) : VL l D cy ax B1 B2 b L xs X 839 [(0, .ref b), (1, .ref (qc_ad B1 ax 0)), (2, .ref (qc_ad B2 ax 0)), (3, .int (nI i))] [] S1 S2 := by
  obtain ⟨S1', S2', r, h1, h2, hR⟩ := hop i S1 S2 (xs (i + 1)) (by omega) hrel
  refine vl_aload_n (n := 840) 1 (dkL_21 (i := 0) rfl) rfl rfl ?_
  refine vl_aload_n (n := 841) 0 (dkL_21 (i := 1) rfl) rfl rfl ?_
  refine vl_iload_n (n := 842) 3 (dkL_21 (i := 2) rfl) rfl rfl ?_
  refine vl_iconst (n := 843) 1 (dkL_21 (i := 3) rfl) rfl (by decide) ?_
  refine vl_iadd (n := 844) (nI (i + 1)) (dkL_21 (i := 4) rfl) rfl (nI_add i 1) ?_
  refine vl_sld (n := 845) (i := i + 1) hL (by omega) (dkL_21 (i := 5) rfl) rfl ?_
  refine vl_c1 (n := 848) (emb2 := qe_m) (S1', r) [.int (xs (i + 1))] (dkL_21 (i := 6) rfl) rfl kvL_103 rfl rfl (Nat.le_of_ble_eq_true rfl) rfl rfl rfl h1 (wX11_calmest (l, D, qc_ad B1 ax, cy) S1 (xs (i + 1))) ?_
  show VL l D cy ax B1 B2 b L xs X 848 [(0, .ref b), (1, .ref (qc_ad B1 ax 0)), (2, .ref (qc_ad B2 ax 0)), (3, .int (nI i))] [.int r] S1' S2
  refine vl_aload_n (n := 849) 2 (dkL_21 (i := 7) rfl) rfl rfl ?_
  refine vl_aload_n (n := 850) 0 (dkL_21 (i := 8) rfl) rfl rfl ?_
  refine vl_iload_n (n := 851) 3 (dkL_21 (i := 9) rfl) rfl rfl ?_
  refine vl_iconst (n := 852) 1 (dkL_21 (i := 10) rfl) rfl (by decide) ?_
  refine vl_iadd (n := 853) (nI (i + 1)) (dkL_21 (i := 11) rfl) rfl (nI_add i 1) ?_
  refine vl_sld (n := 854) (i := i + 1) hL (by omega) (dkL_21 (i := 12) rfl) rfl ?_
  refine vl_c2 (n := 857) (emb2 := qe_m) (S2', r) [.int (xs (i + 1))] (dkL_21 (i := 13) rfl) rfl kvL_106 rfl rfl (Nat.le_of_ble_eq_true rfl) rfl rfl rfl h2 (wX12_calmest (l, D, qc_ad B2 ax, cy) S2 (xs (i + 1))) ?_
  show VL l D cy ax B1 B2 b L xs X 857 [(0, .ref b), (1, .ref (qc_ad B1 ax 0)), (2, .ref (qc_ad B2 ax 0)), (3, .int (nI i))] [.int r, .int r] S1' S2'
  refine vl_same (t := 1297) (dkL_21 (i := 14) rfl) (by decide) ?_
  exact hnext S1' S2' hR
def tbL_22 : List (Nat × Instr × Nat) := [(862, .aload_n 1, 1), (863, .aload_n 0, 1), (864, .iload_n 3, 1), (865, .iconst 1, 1), (866, .iadd, 1), (867, .iaload, 1), (868, .invokevirtual 107, 3), (871, .aload_n 2, 1), (872, .aload_n 0, 1), (873, .iload_n 3, 1), (874, .iconst 1, 1), (875, .iadd, 1), (876, .iaload, 1), (877, .invokevirtual 110, 3), (880, .if_icmp .eq 417, 3), (883, .iconst 0, 1), (884, .ireturn, 1)]
set_option maxRecDepth 20000 in
theorem daL_22 : ∀ x ∈ tbL_22, decode code x.1 = .ok x.2 := by decide +kernel
theorem dkL_22 {i pc n : Nat} {ins : Instr} (h : tbL_22[i]? = some (pc, ins, n)) : decode code pc = .ok (ins, n) := daL_22 (pc, ins, n) (List.mem_of_getElem? h)
set_option maxRecDepth 20000 in
set_option maxHeartbeats 4000000 in
/-- ours -/
theorem law_case_22 {Rel : Nat → qv_St → qv_St → Prop} (hop : ∀ (i : Nat) (S1 S2 : qv_St) (a1 : Int32), i + 6 ≤ 3072 → Rel i S1 S2 → ∃ (S1' : qv_St) (S2' : qv_St) (r : Int32), fX11_ours S1 a1 = some (S1', r) ∧ fX12_ours S2 a1 = some (S2', r) ∧ Rel (i + 6) S1' S2') {l : Launch} {D : va_G} {cy ax : Nat → Nat} {B1 B2 b L : Nat} {xs : Nat → Int32} {X : qv_XT} (hL : L ≤ 3072) {i : Nat} (hi : i + 6 ≤ L) (hnext : ∀ S1 S2 : qv_St, Rel (i + 6) S1 S2 → VL l D cy ax B1 B2 b L xs X 1297 [(0, .ref b), (1, .ref (qc_ad B1 ax 0)), (2, .ref (qc_ad B2 ax 0)), (3, .int (nI i))] [] S1 S2) (S1 S2 : qv_St) (hrel : Rel i S1 S2) : VL l D cy ax B1 B2 b L xs X 862 [(0, .ref b), (1, .ref (qc_ad B1 ax 0)), (2, .ref (qc_ad B2 ax 0)), (3, .int (nI i))] [] S1 S2 := by
  obtain ⟨S1', S2', r, h1, h2, hR⟩ := hop i S1 S2 (xs (i + 1)) (by omega) hrel
  refine vl_aload_n (n := 863) 1 (dkL_22 (i := 0) rfl) rfl rfl ?_
  refine vl_aload_n (n := 864) 0 (dkL_22 (i := 1) rfl) rfl rfl ?_
  refine vl_iload_n (n := 865) 3 (dkL_22 (i := 2) rfl) rfl rfl ?_
  refine vl_iconst (n := 866) 1 (dkL_22 (i := 3) rfl) rfl (by decide) ?_
  refine vl_iadd (n := 867) (nI (i + 1)) (dkL_22 (i := 4) rfl) rfl (nI_add i 1) ?_
  refine vl_sld (n := 868) (i := i + 1) hL (by omega) (dkL_22 (i := 5) rfl) rfl ?_
  refine vl_c1 (n := 871) (emb2 := qe_m) (S1', r) [.int (xs (i + 1))] (dkL_22 (i := 6) rfl) rfl kvL_107 rfl rfl (Nat.le_of_ble_eq_true rfl) rfl rfl rfl h1 (wX11_ours (l, D, qc_ad B1 ax, cy) S1 (xs (i + 1))) ?_
  show VL l D cy ax B1 B2 b L xs X 871 [(0, .ref b), (1, .ref (qc_ad B1 ax 0)), (2, .ref (qc_ad B2 ax 0)), (3, .int (nI i))] [.int r] S1' S2
  refine vl_aload_n (n := 872) 2 (dkL_22 (i := 7) rfl) rfl rfl ?_
  refine vl_aload_n (n := 873) 0 (dkL_22 (i := 8) rfl) rfl rfl ?_
  refine vl_iload_n (n := 874) 3 (dkL_22 (i := 9) rfl) rfl rfl ?_
  refine vl_iconst (n := 875) 1 (dkL_22 (i := 10) rfl) rfl (by decide) ?_
  refine vl_iadd (n := 876) (nI (i + 1)) (dkL_22 (i := 11) rfl) rfl (nI_add i 1) ?_
  refine vl_sld (n := 877) (i := i + 1) hL (by omega) (dkL_22 (i := 12) rfl) rfl ?_
  refine vl_c2 (n := 880) (emb2 := qe_m) (S2', r) [.int (xs (i + 1))] (dkL_22 (i := 13) rfl) rfl kvL_110 rfl rfl (Nat.le_of_ble_eq_true rfl) rfl rfl rfl h2 (wX12_ours (l, D, qc_ad B2 ax, cy) S2 (xs (i + 1))) ?_
  show VL l D cy ax B1 B2 b L xs X 880 [(0, .ref b), (1, .ref (qc_ad B1 ax 0)), (2, .ref (qc_ad B2 ax 0)), (3, .int (nI i))] [.int r, .int r] S1' S2'
  refine vl_same (t := 1297) (dkL_22 (i := 14) rfl) (by decide) ?_
  exact hnext S1' S2' hR
def tbL_23 : List (Nat × Instr × Nat) := [(885, .aload_n 1, 1), (886, .aload_n 0, 1), (887, .iload_n 3, 1), (888, .iconst 1, 1), (889, .iadd, 1), (890, .iaload, 1), (891, .aload_n 0, 1), (892, .iload_n 3, 1), (893, .iconst 2, 1), (894, .iadd, 1), (895, .iaload, 1), (896, .invokevirtual 111, 3), (899, .aload_n 2, 1), (900, .aload_n 0, 1), (901, .iload_n 3, 1), (902, .iconst 1, 1), (903, .iadd, 1), (904, .iaload, 1), (905, .aload_n 0, 1), (906, .iload_n 3, 1), (907, .iconst 2, 1), (908, .iadd, 1), (909, .iaload, 1), (910, .invokevirtual 114, 3), (913, .if_icmp .eq 384, 3), (916, .iconst 0, 1), (917, .ireturn, 1)]
set_option maxRecDepth 20000 in
theorem daL_23 : ∀ x ∈ tbL_23, decode code x.1 = .ok x.2 := by decide +kernel
theorem dkL_23 {i pc n : Nat} {ins : Instr} (h : tbL_23[i]? = some (pc, ins, n)) : decode code pc = .ok (ins, n) := daL_23 (pc, ins, n) (List.mem_of_getElem? h)
set_option maxRecDepth 20000 in
set_option maxHeartbeats 4000000 in
/-- best -/
theorem law_case_23 {Rel : Nat → qv_St → qv_St → Prop} (hop : ∀ (i : Nat) (S1 S2 : qv_St) (a1 a2 : Int32), i + 6 ≤ 3072 → Rel i S1 S2 → ∃ (S1' : qv_St) (S2' : qv_St) (r : Int32), fX11_best S1 a1 a2 = some (S1', r) ∧ fX12_best S2 a1 a2 = some (S2', r) ∧ Rel (i + 6) S1' S2') {l : Launch} {D : va_G} {cy ax : Nat → Nat} {B1 B2 b L : Nat} {xs : Nat → Int32} {X : qv_XT} (hL : L ≤ 3072) {i : Nat} (hi : i + 6 ≤ L) (hnext : ∀ S1 S2 : qv_St, Rel (i + 6) S1 S2 → VL l D cy ax B1 B2 b L xs X 1297 [(0, .ref b), (1, .ref (qc_ad B1 ax 0)), (2, .ref (qc_ad B2 ax 0)), (3, .int (nI i))] [] S1 S2) (S1 S2 : qv_St) (hrel : Rel i S1 S2) : VL l D cy ax B1 B2 b L xs X 885 [(0, .ref b), (1, .ref (qc_ad B1 ax 0)), (2, .ref (qc_ad B2 ax 0)), (3, .int (nI i))] [] S1 S2 := by
  obtain ⟨S1', S2', r, h1, h2, hR⟩ := hop i S1 S2 (xs (i + 1)) (xs (i + 2)) (by omega) hrel
  refine vl_aload_n (n := 886) 1 (dkL_23 (i := 0) rfl) rfl rfl ?_
  refine vl_aload_n (n := 887) 0 (dkL_23 (i := 1) rfl) rfl rfl ?_
  refine vl_iload_n (n := 888) 3 (dkL_23 (i := 2) rfl) rfl rfl ?_
  refine vl_iconst (n := 889) 1 (dkL_23 (i := 3) rfl) rfl (by decide) ?_
  refine vl_iadd (n := 890) (nI (i + 1)) (dkL_23 (i := 4) rfl) rfl (nI_add i 1) ?_
  refine vl_sld (n := 891) (i := i + 1) hL (by omega) (dkL_23 (i := 5) rfl) rfl ?_
  refine vl_aload_n (n := 892) 0 (dkL_23 (i := 6) rfl) rfl rfl ?_
  refine vl_iload_n (n := 893) 3 (dkL_23 (i := 7) rfl) rfl rfl ?_
  refine vl_iconst (n := 894) 2 (dkL_23 (i := 8) rfl) rfl (by decide) ?_
  refine vl_iadd (n := 895) (nI (i + 2)) (dkL_23 (i := 9) rfl) rfl (nI_add i 2) ?_
  refine vl_sld (n := 896) (i := i + 2) hL (by omega) (dkL_23 (i := 10) rfl) rfl ?_
  refine vl_c1 (n := 899) (emb2 := qe_m) (S1', r) [.int (xs (i + 1)), .int (xs (i + 2))] (dkL_23 (i := 11) rfl) rfl kvL_111 rfl rfl (Nat.le_of_ble_eq_true rfl) rfl rfl rfl h1 (wX11_best (l, D, qc_ad B1 ax, cy) S1 (xs (i + 1)) (xs (i + 2))) ?_
  show VL l D cy ax B1 B2 b L xs X 899 [(0, .ref b), (1, .ref (qc_ad B1 ax 0)), (2, .ref (qc_ad B2 ax 0)), (3, .int (nI i))] [.int r] S1' S2
  refine vl_aload_n (n := 900) 2 (dkL_23 (i := 12) rfl) rfl rfl ?_
  refine vl_aload_n (n := 901) 0 (dkL_23 (i := 13) rfl) rfl rfl ?_
  refine vl_iload_n (n := 902) 3 (dkL_23 (i := 14) rfl) rfl rfl ?_
  refine vl_iconst (n := 903) 1 (dkL_23 (i := 15) rfl) rfl (by decide) ?_
  refine vl_iadd (n := 904) (nI (i + 1)) (dkL_23 (i := 16) rfl) rfl (nI_add i 1) ?_
  refine vl_sld (n := 905) (i := i + 1) hL (by omega) (dkL_23 (i := 17) rfl) rfl ?_
  refine vl_aload_n (n := 906) 0 (dkL_23 (i := 18) rfl) rfl rfl ?_
  refine vl_iload_n (n := 907) 3 (dkL_23 (i := 19) rfl) rfl rfl ?_
  refine vl_iconst (n := 908) 2 (dkL_23 (i := 20) rfl) rfl (by decide) ?_
  refine vl_iadd (n := 909) (nI (i + 2)) (dkL_23 (i := 21) rfl) rfl (nI_add i 2) ?_
  refine vl_sld (n := 910) (i := i + 2) hL (by omega) (dkL_23 (i := 22) rfl) rfl ?_
  refine vl_c2 (n := 913) (emb2 := qe_m) (S2', r) [.int (xs (i + 1)), .int (xs (i + 2))] (dkL_23 (i := 23) rfl) rfl kvL_114 rfl rfl (Nat.le_of_ble_eq_true rfl) rfl rfl rfl h2 (wX12_best (l, D, qc_ad B2 ax, cy) S2 (xs (i + 1)) (xs (i + 2))) ?_
  show VL l D cy ax B1 B2 b L xs X 913 [(0, .ref b), (1, .ref (qc_ad B1 ax 0)), (2, .ref (qc_ad B2 ax 0)), (3, .int (nI i))] [.int r, .int r] S1' S2'
  refine vl_same (t := 1297) (dkL_23 (i := 24) rfl) (by decide) ?_
  exact hnext S1' S2' hR
def tbL_24 : List (Nat × Instr × Nat) := [(918, .aload_n 1, 1), (919, .aload_n 0, 1), (920, .iload_n 3, 1), (921, .iconst 1, 1), (922, .iadd, 1), (923, .iaload, 1), (924, .invokevirtual 115, 3), (927, .aload_n 2, 1), (928, .aload_n 0, 1), (929, .iload_n 3, 1), (930, .iconst 1, 1), (931, .iadd, 1), (932, .iaload, 1), (933, .invokevirtual 118, 3), (936, .if_icmp .eq 361, 3), (939, .iconst 0, 1), (940, .ireturn, 1)]
set_option maxRecDepth 20000 in
theorem daL_24 : ∀ x ∈ tbL_24, decode code x.1 = .ok x.2 := by decide +kernel
theorem dkL_24 {i pc n : Nat} {ins : Instr} (h : tbL_24[i]? = some (pc, ins, n)) : decode code pc = .ok (ins, n) := daL_24 (pc, ins, n) (List.mem_of_getElem? h)
set_option maxRecDepth 20000 in
set_option maxHeartbeats 4000000 in
/-- order -/
theorem law_case_24 {Rel : Nat → qv_St → qv_St → Prop} (hop : ∀ (i : Nat) (S1 S2 : qv_St) (a1 : Int32), i + 6 ≤ 3072 → Rel i S1 S2 → ∃ (S1' : qv_St) (S2' : qv_St) (r : Int32), fX11_order S1 a1 = some (S1', r) ∧ fX12_order S2 a1 = some (S2', r) ∧ Rel (i + 6) S1' S2') {l : Launch} {D : va_G} {cy ax : Nat → Nat} {B1 B2 b L : Nat} {xs : Nat → Int32} {X : qv_XT} (hL : L ≤ 3072) {i : Nat} (hi : i + 6 ≤ L) (hnext : ∀ S1 S2 : qv_St, Rel (i + 6) S1 S2 → VL l D cy ax B1 B2 b L xs X 1297 [(0, .ref b), (1, .ref (qc_ad B1 ax 0)), (2, .ref (qc_ad B2 ax 0)), (3, .int (nI i))] [] S1 S2) (S1 S2 : qv_St) (hrel : Rel i S1 S2) : VL l D cy ax B1 B2 b L xs X 918 [(0, .ref b), (1, .ref (qc_ad B1 ax 0)), (2, .ref (qc_ad B2 ax 0)), (3, .int (nI i))] [] S1 S2 := by
  obtain ⟨S1', S2', r, h1, h2, hR⟩ := hop i S1 S2 (xs (i + 1)) (by omega) hrel
  refine vl_aload_n (n := 919) 1 (dkL_24 (i := 0) rfl) rfl rfl ?_
  refine vl_aload_n (n := 920) 0 (dkL_24 (i := 1) rfl) rfl rfl ?_
  refine vl_iload_n (n := 921) 3 (dkL_24 (i := 2) rfl) rfl rfl ?_
  refine vl_iconst (n := 922) 1 (dkL_24 (i := 3) rfl) rfl (by decide) ?_
  refine vl_iadd (n := 923) (nI (i + 1)) (dkL_24 (i := 4) rfl) rfl (nI_add i 1) ?_
  refine vl_sld (n := 924) (i := i + 1) hL (by omega) (dkL_24 (i := 5) rfl) rfl ?_
  refine vl_c1 (n := 927) (emb2 := qe_m) (S1', r) [.int (xs (i + 1))] (dkL_24 (i := 6) rfl) rfl kvL_115 rfl rfl (Nat.le_of_ble_eq_true rfl) rfl rfl rfl h1 (wX11_order (l, D, qc_ad B1 ax, cy) S1 (xs (i + 1))) ?_
  show VL l D cy ax B1 B2 b L xs X 927 [(0, .ref b), (1, .ref (qc_ad B1 ax 0)), (2, .ref (qc_ad B2 ax 0)), (3, .int (nI i))] [.int r] S1' S2
  refine vl_aload_n (n := 928) 2 (dkL_24 (i := 7) rfl) rfl rfl ?_
  refine vl_aload_n (n := 929) 0 (dkL_24 (i := 8) rfl) rfl rfl ?_
  refine vl_iload_n (n := 930) 3 (dkL_24 (i := 9) rfl) rfl rfl ?_
  refine vl_iconst (n := 931) 1 (dkL_24 (i := 10) rfl) rfl (by decide) ?_
  refine vl_iadd (n := 932) (nI (i + 1)) (dkL_24 (i := 11) rfl) rfl (nI_add i 1) ?_
  refine vl_sld (n := 933) (i := i + 1) hL (by omega) (dkL_24 (i := 12) rfl) rfl ?_
  refine vl_c2 (n := 936) (emb2 := qe_m) (S2', r) [.int (xs (i + 1))] (dkL_24 (i := 13) rfl) rfl kvL_118 rfl rfl (Nat.le_of_ble_eq_true rfl) rfl rfl rfl h2 (wX12_order (l, D, qc_ad B2 ax, cy) S2 (xs (i + 1))) ?_
  show VL l D cy ax B1 B2 b L xs X 936 [(0, .ref b), (1, .ref (qc_ad B1 ax 0)), (2, .ref (qc_ad B2 ax 0)), (3, .int (nI i))] [.int r, .int r] S1' S2'
  refine vl_same (t := 1297) (dkL_24 (i := 14) rfl) (by decide) ?_
  exact hnext S1' S2' hR
def tbL_25 : List (Nat × Instr × Nat) := [(941, .aload_n 1, 1), (942, .aload_n 0, 1), (943, .iload_n 3, 1), (944, .iconst 1, 1), (945, .iadd, 1), (946, .iaload, 1), (947, .aload_n 0, 1), (948, .iload_n 3, 1), (949, .iconst 2, 1), (950, .iadd, 1), (951, .iaload, 1), (952, .invokevirtual 119, 3), (955, .aload_n 2, 1), (956, .aload_n 0, 1), (957, .iload_n 3, 1), (958, .iconst 1, 1), (959, .iadd, 1), (960, .iaload, 1), (961, .aload_n 0, 1), (962, .iload_n 3, 1), (963, .iconst 2, 1), (964, .iadd, 1), (965, .iaload, 1), (966, .invokevirtual 122, 3), (969, .if_icmp .eq 328, 3), (972, .iconst 0, 1), (973, .ireturn, 1)]
set_option maxRecDepth 20000 in
theorem daL_25 : ∀ x ∈ tbL_25, decode code x.1 = .ok x.2 := by decide +kernel
theorem dkL_25 {i pc n : Nat} {ins : Instr} (h : tbL_25[i]? = some (pc, ins, n)) : decode code pc = .ok (ins, n) := daL_25 (pc, ins, n) (List.mem_of_getElem? h)
set_option maxRecDepth 20000 in
set_option maxHeartbeats 4000000 in
/-- bribe -/
theorem law_case_25 {Rel : Nat → qv_St → qv_St → Prop} (hop : ∀ (i : Nat) (S1 S2 : qv_St) (a1 a2 : Int32), i + 6 ≤ 3072 → Rel i S1 S2 → ∃ (S1' : qv_St) (S2' : qv_St) (r : Int32), fX11_bribe S1 a1 a2 = some (S1', r) ∧ fX12_bribe S2 a1 a2 = some (S2', r) ∧ Rel (i + 6) S1' S2') {l : Launch} {D : va_G} {cy ax : Nat → Nat} {B1 B2 b L : Nat} {xs : Nat → Int32} {X : qv_XT} (hL : L ≤ 3072) {i : Nat} (hi : i + 6 ≤ L) (hnext : ∀ S1 S2 : qv_St, Rel (i + 6) S1 S2 → VL l D cy ax B1 B2 b L xs X 1297 [(0, .ref b), (1, .ref (qc_ad B1 ax 0)), (2, .ref (qc_ad B2 ax 0)), (3, .int (nI i))] [] S1 S2) (S1 S2 : qv_St) (hrel : Rel i S1 S2) : VL l D cy ax B1 B2 b L xs X 941 [(0, .ref b), (1, .ref (qc_ad B1 ax 0)), (2, .ref (qc_ad B2 ax 0)), (3, .int (nI i))] [] S1 S2 := by
  obtain ⟨S1', S2', r, h1, h2, hR⟩ := hop i S1 S2 (xs (i + 1)) (xs (i + 2)) (by omega) hrel
  refine vl_aload_n (n := 942) 1 (dkL_25 (i := 0) rfl) rfl rfl ?_
  refine vl_aload_n (n := 943) 0 (dkL_25 (i := 1) rfl) rfl rfl ?_
  refine vl_iload_n (n := 944) 3 (dkL_25 (i := 2) rfl) rfl rfl ?_
  refine vl_iconst (n := 945) 1 (dkL_25 (i := 3) rfl) rfl (by decide) ?_
  refine vl_iadd (n := 946) (nI (i + 1)) (dkL_25 (i := 4) rfl) rfl (nI_add i 1) ?_
  refine vl_sld (n := 947) (i := i + 1) hL (by omega) (dkL_25 (i := 5) rfl) rfl ?_
  refine vl_aload_n (n := 948) 0 (dkL_25 (i := 6) rfl) rfl rfl ?_
  refine vl_iload_n (n := 949) 3 (dkL_25 (i := 7) rfl) rfl rfl ?_
  refine vl_iconst (n := 950) 2 (dkL_25 (i := 8) rfl) rfl (by decide) ?_
  refine vl_iadd (n := 951) (nI (i + 2)) (dkL_25 (i := 9) rfl) rfl (nI_add i 2) ?_
  refine vl_sld (n := 952) (i := i + 2) hL (by omega) (dkL_25 (i := 10) rfl) rfl ?_
  refine vl_c1 (n := 955) (emb2 := qe_m) (S1', r) [.int (xs (i + 1)), .int (xs (i + 2))] (dkL_25 (i := 11) rfl) rfl kvL_119 rfl rfl (Nat.le_of_ble_eq_true rfl) rfl rfl rfl h1 (wX11_bribe (l, D, qc_ad B1 ax, cy) S1 (xs (i + 1)) (xs (i + 2))) ?_
  show VL l D cy ax B1 B2 b L xs X 955 [(0, .ref b), (1, .ref (qc_ad B1 ax 0)), (2, .ref (qc_ad B2 ax 0)), (3, .int (nI i))] [.int r] S1' S2
  refine vl_aload_n (n := 956) 2 (dkL_25 (i := 12) rfl) rfl rfl ?_
  refine vl_aload_n (n := 957) 0 (dkL_25 (i := 13) rfl) rfl rfl ?_
  refine vl_iload_n (n := 958) 3 (dkL_25 (i := 14) rfl) rfl rfl ?_
  refine vl_iconst (n := 959) 1 (dkL_25 (i := 15) rfl) rfl (by decide) ?_
  refine vl_iadd (n := 960) (nI (i + 1)) (dkL_25 (i := 16) rfl) rfl (nI_add i 1) ?_
  refine vl_sld (n := 961) (i := i + 1) hL (by omega) (dkL_25 (i := 17) rfl) rfl ?_
  refine vl_aload_n (n := 962) 0 (dkL_25 (i := 18) rfl) rfl rfl ?_
  refine vl_iload_n (n := 963) 3 (dkL_25 (i := 19) rfl) rfl rfl ?_
  refine vl_iconst (n := 964) 2 (dkL_25 (i := 20) rfl) rfl (by decide) ?_
  refine vl_iadd (n := 965) (nI (i + 2)) (dkL_25 (i := 21) rfl) rfl (nI_add i 2) ?_
  refine vl_sld (n := 966) (i := i + 2) hL (by omega) (dkL_25 (i := 22) rfl) rfl ?_
  refine vl_c2 (n := 969) (emb2 := qe_m) (S2', r) [.int (xs (i + 1)), .int (xs (i + 2))] (dkL_25 (i := 23) rfl) rfl kvL_122 rfl rfl (Nat.le_of_ble_eq_true rfl) rfl rfl rfl h2 (wX12_bribe (l, D, qc_ad B2 ax, cy) S2 (xs (i + 1)) (xs (i + 2))) ?_
  show VL l D cy ax B1 B2 b L xs X 969 [(0, .ref b), (1, .ref (qc_ad B1 ax 0)), (2, .ref (qc_ad B2 ax 0)), (3, .int (nI i))] [.int r, .int r] S1' S2'
  refine vl_same (t := 1297) (dkL_25 (i := 24) rfl) (by decide) ?_
  exact hnext S1' S2' hR
def tbL_26 : List (Nat × Instr × Nat) := [(974, .aload_n 1, 1), (975, .aload_n 0, 1), (976, .iload_n 3, 1), (977, .iconst 1, 1), (978, .iadd, 1), (979, .iaload, 1), (980, .aload_n 0, 1), (981, .iload_n 3, 1), (982, .iconst 2, 1), (983, .iadd, 1), (984, .iaload, 1), (985, .invokevirtual 123, 3), (988, .aload_n 2, 1), (989, .aload_n 0, 1), (990, .iload_n 3, 1), (991, .iconst 1, 1), (992, .iadd, 1), (993, .iaload, 1), (994, .aload_n 0, 1), (995, .iload_n 3, 1), (996, .iconst 2, 1), (997, .iadd, 1), (998, .iaload, 1), (999, .invokevirtual 126, 3), (1002, .if_icmp .eq 295, 3), (1005, .iconst 0, 1), (1006, .ireturn, 1)]
set_option maxRecDepth 20000 in
theorem daL_26 : ∀ x ∈ tbL_26, decode code x.1 = .ok x.2 := by decide +kernel
theorem dkL_26 {i pc n : Nat} {ins : Instr} (h : tbL_26[i]? = some (pc, ins, n)) : decode code pc = .ok (ins, n) := daL_26 (pc, ins, n) (List.mem_of_getElem? h)
set_option maxRecDepth 20000 in
set_option maxHeartbeats 4000000 in
/-- cellar -/
theorem law_case_26 {Rel : Nat → qv_St → qv_St → Prop} (hop : ∀ (i : Nat) (S1 S2 : qv_St) (a1 a2 : Int32), i + 6 ≤ 3072 → Rel i S1 S2 → ∃ (S1' : qv_St) (S2' : qv_St) (r : Int32), fX11_cellar S1 a1 a2 = some (S1', r) ∧ fX12_cellar S2 a1 a2 = some (S2', r) ∧ Rel (i + 6) S1' S2') {l : Launch} {D : va_G} {cy ax : Nat → Nat} {B1 B2 b L : Nat} {xs : Nat → Int32} {X : qv_XT} (hL : L ≤ 3072) {i : Nat} (hi : i + 6 ≤ L) (hnext : ∀ S1 S2 : qv_St, Rel (i + 6) S1 S2 → VL l D cy ax B1 B2 b L xs X 1297 [(0, .ref b), (1, .ref (qc_ad B1 ax 0)), (2, .ref (qc_ad B2 ax 0)), (3, .int (nI i))] [] S1 S2) (S1 S2 : qv_St) (hrel : Rel i S1 S2) : VL l D cy ax B1 B2 b L xs X 974 [(0, .ref b), (1, .ref (qc_ad B1 ax 0)), (2, .ref (qc_ad B2 ax 0)), (3, .int (nI i))] [] S1 S2 := by
  obtain ⟨S1', S2', r, h1, h2, hR⟩ := hop i S1 S2 (xs (i + 1)) (xs (i + 2)) (by omega) hrel
  refine vl_aload_n (n := 975) 1 (dkL_26 (i := 0) rfl) rfl rfl ?_
  refine vl_aload_n (n := 976) 0 (dkL_26 (i := 1) rfl) rfl rfl ?_
  refine vl_iload_n (n := 977) 3 (dkL_26 (i := 2) rfl) rfl rfl ?_
  refine vl_iconst (n := 978) 1 (dkL_26 (i := 3) rfl) rfl (by decide) ?_
  refine vl_iadd (n := 979) (nI (i + 1)) (dkL_26 (i := 4) rfl) rfl (nI_add i 1) ?_
  refine vl_sld (n := 980) (i := i + 1) hL (by omega) (dkL_26 (i := 5) rfl) rfl ?_
  refine vl_aload_n (n := 981) 0 (dkL_26 (i := 6) rfl) rfl rfl ?_
  refine vl_iload_n (n := 982) 3 (dkL_26 (i := 7) rfl) rfl rfl ?_
  refine vl_iconst (n := 983) 2 (dkL_26 (i := 8) rfl) rfl (by decide) ?_
  refine vl_iadd (n := 984) (nI (i + 2)) (dkL_26 (i := 9) rfl) rfl (nI_add i 2) ?_
  refine vl_sld (n := 985) (i := i + 2) hL (by omega) (dkL_26 (i := 10) rfl) rfl ?_
  refine vl_c1 (n := 988) (emb2 := qe_m) (S1', r) [.int (xs (i + 1)), .int (xs (i + 2))] (dkL_26 (i := 11) rfl) rfl kvL_123 rfl rfl (Nat.le_of_ble_eq_true rfl) rfl rfl rfl h1 (wX11_cellar (l, D, qc_ad B1 ax, cy) S1 (xs (i + 1)) (xs (i + 2))) ?_
  show VL l D cy ax B1 B2 b L xs X 988 [(0, .ref b), (1, .ref (qc_ad B1 ax 0)), (2, .ref (qc_ad B2 ax 0)), (3, .int (nI i))] [.int r] S1' S2
  refine vl_aload_n (n := 989) 2 (dkL_26 (i := 12) rfl) rfl rfl ?_
  refine vl_aload_n (n := 990) 0 (dkL_26 (i := 13) rfl) rfl rfl ?_
  refine vl_iload_n (n := 991) 3 (dkL_26 (i := 14) rfl) rfl rfl ?_
  refine vl_iconst (n := 992) 1 (dkL_26 (i := 15) rfl) rfl (by decide) ?_
  refine vl_iadd (n := 993) (nI (i + 1)) (dkL_26 (i := 16) rfl) rfl (nI_add i 1) ?_
  refine vl_sld (n := 994) (i := i + 1) hL (by omega) (dkL_26 (i := 17) rfl) rfl ?_
  refine vl_aload_n (n := 995) 0 (dkL_26 (i := 18) rfl) rfl rfl ?_
  refine vl_iload_n (n := 996) 3 (dkL_26 (i := 19) rfl) rfl rfl ?_
  refine vl_iconst (n := 997) 2 (dkL_26 (i := 20) rfl) rfl (by decide) ?_
  refine vl_iadd (n := 998) (nI (i + 2)) (dkL_26 (i := 21) rfl) rfl (nI_add i 2) ?_
  refine vl_sld (n := 999) (i := i + 2) hL (by omega) (dkL_26 (i := 22) rfl) rfl ?_
  refine vl_c2 (n := 1002) (emb2 := qe_m) (S2', r) [.int (xs (i + 1)), .int (xs (i + 2))] (dkL_26 (i := 23) rfl) rfl kvL_126 rfl rfl (Nat.le_of_ble_eq_true rfl) rfl rfl rfl h2 (wX12_cellar (l, D, qc_ad B2 ax, cy) S2 (xs (i + 1)) (xs (i + 2))) ?_
  show VL l D cy ax B1 B2 b L xs X 1002 [(0, .ref b), (1, .ref (qc_ad B1 ax 0)), (2, .ref (qc_ad B2 ax 0)), (3, .int (nI i))] [.int r, .int r] S1' S2'
  refine vl_same (t := 1297) (dkL_26 (i := 24) rfl) (by decide) ?_
  exact hnext S1' S2' hR
def tbL_27 : List (Nat × Instr × Nat) := [(1007, .aload_n 1, 1), (1008, .aload_n 0, 1), (1009, .iload_n 3, 1), (1010, .iconst 1, 1), (1011, .iadd, 1), (1012, .iaload, 1), (1013, .aload_n 0, 1), (1014, .iload_n 3, 1), (1015, .iconst 2, 1), (1016, .iadd, 1), (1017, .iaload, 1), (1018, .invokevirtual 127, 3), (1021, .aload_n 2, 1), (1022, .aload_n 0, 1), (1023, .iload_n 3, 1), (1024, .iconst 1, 1), (1025, .iadd, 1), (1026, .iaload, 1), (1027, .aload_n 0, 1), (1028, .iload_n 3, 1), (1029, .iconst 2, 1), (1030, .iadd, 1), (1031, .iaload, 1), (1032, .invokevirtual 130, 3), (1035, .if_icmp .eq 262, 3), (1038, .iconst 0, 1), (1039, .ireturn, 1)]
set_option maxRecDepth 20000 in
theorem daL_27 : ∀ x ∈ tbL_27, decode code x.1 = .ok x.2 := by decide +kernel
theorem dkL_27 {i pc n : Nat} {ins : Instr} (h : tbL_27[i]? = some (pc, ins, n)) : decode code pc = .ok (ins, n) := daL_27 (pc, ins, n) (List.mem_of_getElem? h)
set_option maxRecDepth 20000 in
set_option maxHeartbeats 4000000 in
/-- cheapest -/
theorem law_case_27 {Rel : Nat → qv_St → qv_St → Prop} (hop : ∀ (i : Nat) (S1 S2 : qv_St) (a1 a2 : Int32), i + 6 ≤ 3072 → Rel i S1 S2 → ∃ (S1' : qv_St) (S2' : qv_St) (r : Int32), fX11_cheapest S1 a1 a2 = some (S1', r) ∧ fX12_cheapest S2 a1 a2 = some (S2', r) ∧ Rel (i + 6) S1' S2') {l : Launch} {D : va_G} {cy ax : Nat → Nat} {B1 B2 b L : Nat} {xs : Nat → Int32} {X : qv_XT} (hL : L ≤ 3072) {i : Nat} (hi : i + 6 ≤ L) (hnext : ∀ S1 S2 : qv_St, Rel (i + 6) S1 S2 → VL l D cy ax B1 B2 b L xs X 1297 [(0, .ref b), (1, .ref (qc_ad B1 ax 0)), (2, .ref (qc_ad B2 ax 0)), (3, .int (nI i))] [] S1 S2) (S1 S2 : qv_St) (hrel : Rel i S1 S2) : VL l D cy ax B1 B2 b L xs X 1007 [(0, .ref b), (1, .ref (qc_ad B1 ax 0)), (2, .ref (qc_ad B2 ax 0)), (3, .int (nI i))] [] S1 S2 := by
  obtain ⟨S1', S2', r, h1, h2, hR⟩ := hop i S1 S2 (xs (i + 1)) (xs (i + 2)) (by omega) hrel
  refine vl_aload_n (n := 1008) 1 (dkL_27 (i := 0) rfl) rfl rfl ?_
  refine vl_aload_n (n := 1009) 0 (dkL_27 (i := 1) rfl) rfl rfl ?_
  refine vl_iload_n (n := 1010) 3 (dkL_27 (i := 2) rfl) rfl rfl ?_
  refine vl_iconst (n := 1011) 1 (dkL_27 (i := 3) rfl) rfl (by decide) ?_
  refine vl_iadd (n := 1012) (nI (i + 1)) (dkL_27 (i := 4) rfl) rfl (nI_add i 1) ?_
  refine vl_sld (n := 1013) (i := i + 1) hL (by omega) (dkL_27 (i := 5) rfl) rfl ?_
  refine vl_aload_n (n := 1014) 0 (dkL_27 (i := 6) rfl) rfl rfl ?_
  refine vl_iload_n (n := 1015) 3 (dkL_27 (i := 7) rfl) rfl rfl ?_
  refine vl_iconst (n := 1016) 2 (dkL_27 (i := 8) rfl) rfl (by decide) ?_
  refine vl_iadd (n := 1017) (nI (i + 2)) (dkL_27 (i := 9) rfl) rfl (nI_add i 2) ?_
  refine vl_sld (n := 1018) (i := i + 2) hL (by omega) (dkL_27 (i := 10) rfl) rfl ?_
  refine vl_c1 (n := 1021) (emb2 := qe_m) (S1', r) [.int (xs (i + 1)), .int (xs (i + 2))] (dkL_27 (i := 11) rfl) rfl kvL_127 rfl rfl (Nat.le_of_ble_eq_true rfl) rfl rfl rfl h1 (wX11_cheapest (l, D, qc_ad B1 ax, cy) S1 (xs (i + 1)) (xs (i + 2))) ?_
  show VL l D cy ax B1 B2 b L xs X 1021 [(0, .ref b), (1, .ref (qc_ad B1 ax 0)), (2, .ref (qc_ad B2 ax 0)), (3, .int (nI i))] [.int r] S1' S2
  refine vl_aload_n (n := 1022) 2 (dkL_27 (i := 12) rfl) rfl rfl ?_
  refine vl_aload_n (n := 1023) 0 (dkL_27 (i := 13) rfl) rfl rfl ?_
  refine vl_iload_n (n := 1024) 3 (dkL_27 (i := 14) rfl) rfl rfl ?_
  refine vl_iconst (n := 1025) 1 (dkL_27 (i := 15) rfl) rfl (by decide) ?_
  refine vl_iadd (n := 1026) (nI (i + 1)) (dkL_27 (i := 16) rfl) rfl (nI_add i 1) ?_
  refine vl_sld (n := 1027) (i := i + 1) hL (by omega) (dkL_27 (i := 17) rfl) rfl ?_
  refine vl_aload_n (n := 1028) 0 (dkL_27 (i := 18) rfl) rfl rfl ?_
  refine vl_iload_n (n := 1029) 3 (dkL_27 (i := 19) rfl) rfl rfl ?_
  refine vl_iconst (n := 1030) 2 (dkL_27 (i := 20) rfl) rfl (by decide) ?_
  refine vl_iadd (n := 1031) (nI (i + 2)) (dkL_27 (i := 21) rfl) rfl (nI_add i 2) ?_
  refine vl_sld (n := 1032) (i := i + 2) hL (by omega) (dkL_27 (i := 22) rfl) rfl ?_
  refine vl_c2 (n := 1035) (emb2 := qe_m) (S2', r) [.int (xs (i + 1)), .int (xs (i + 2))] (dkL_27 (i := 23) rfl) rfl kvL_130 rfl rfl (Nat.le_of_ble_eq_true rfl) rfl rfl rfl h2 (wX12_cheapest (l, D, qc_ad B2 ax, cy) S2 (xs (i + 1)) (xs (i + 2))) ?_
  show VL l D cy ax B1 B2 b L xs X 1035 [(0, .ref b), (1, .ref (qc_ad B1 ax 0)), (2, .ref (qc_ad B2 ax 0)), (3, .int (nI i))] [.int r, .int r] S1' S2'
  refine vl_same (t := 1297) (dkL_27 (i := 24) rfl) (by decide) ?_
  exact hnext S1' S2' hR
def tbL_28 : List (Nat × Instr × Nat) := [(1040, .aload_n 1, 1), (1041, .aload_n 0, 1), (1042, .iload_n 3, 1), (1043, .iconst 1, 1), (1044, .iadd, 1), (1045, .iaload, 1), (1046, .aload_n 0, 1), (1047, .iload_n 3, 1), (1048, .iconst 2, 1), (1049, .iadd, 1), (1050, .iaload, 1), (1051, .invokevirtual 131, 3), (1054, .aload_n 2, 1), (1055, .aload_n 0, 1), (1056, .iload_n 3, 1), (1057, .iconst 1, 1), (1058, .iadd, 1), (1059, .iaload, 1), (1060, .aload_n 0, 1), (1061, .iload_n 3, 1), (1062, .iconst 2, 1), (1063, .iadd, 1), (1064, .iaload, 1), (1065, .invokevirtual 134, 3), (1068, .if_icmp .eq 229, 3), (1071, .iconst 0, 1), (1072, .ireturn, 1)]
set_option maxRecDepth 20000 in
theorem daL_28 : ∀ x ∈ tbL_28, decode code x.1 = .ok x.2 := by decide +kernel
theorem dkL_28 {i pc n : Nat} {ins : Instr} (h : tbL_28[i]? = some (pc, ins, n)) : decode code pc = .ok (ins, n) := daL_28 (pc, ins, n) (List.mem_of_getElem? h)
set_option maxRecDepth 20000 in
set_option maxHeartbeats 4000000 in
/-- breakOff -/
theorem law_case_28 {Rel : Nat → qv_St → qv_St → Prop} (hop : ∀ (i : Nat) (S1 S2 : qv_St) (a1 a2 : Int32), i + 6 ≤ 3072 → Rel i S1 S2 → ∃ (S1' : qv_St) (S2' : qv_St) (r : Int32), fX11_breakOff S1 a1 a2 = some (S1', r) ∧ fX12_breakOff S2 a1 a2 = some (S2', r) ∧ Rel (i + 6) S1' S2') {l : Launch} {D : va_G} {cy ax : Nat → Nat} {B1 B2 b L : Nat} {xs : Nat → Int32} {X : qv_XT} (hL : L ≤ 3072) {i : Nat} (hi : i + 6 ≤ L) (hnext : ∀ S1 S2 : qv_St, Rel (i + 6) S1 S2 → VL l D cy ax B1 B2 b L xs X 1297 [(0, .ref b), (1, .ref (qc_ad B1 ax 0)), (2, .ref (qc_ad B2 ax 0)), (3, .int (nI i))] [] S1 S2) (S1 S2 : qv_St) (hrel : Rel i S1 S2) : VL l D cy ax B1 B2 b L xs X 1040 [(0, .ref b), (1, .ref (qc_ad B1 ax 0)), (2, .ref (qc_ad B2 ax 0)), (3, .int (nI i))] [] S1 S2 := by
  obtain ⟨S1', S2', r, h1, h2, hR⟩ := hop i S1 S2 (xs (i + 1)) (xs (i + 2)) (by omega) hrel
  refine vl_aload_n (n := 1041) 1 (dkL_28 (i := 0) rfl) rfl rfl ?_
  refine vl_aload_n (n := 1042) 0 (dkL_28 (i := 1) rfl) rfl rfl ?_
  refine vl_iload_n (n := 1043) 3 (dkL_28 (i := 2) rfl) rfl rfl ?_
  refine vl_iconst (n := 1044) 1 (dkL_28 (i := 3) rfl) rfl (by decide) ?_
  refine vl_iadd (n := 1045) (nI (i + 1)) (dkL_28 (i := 4) rfl) rfl (nI_add i 1) ?_
  refine vl_sld (n := 1046) (i := i + 1) hL (by omega) (dkL_28 (i := 5) rfl) rfl ?_
  refine vl_aload_n (n := 1047) 0 (dkL_28 (i := 6) rfl) rfl rfl ?_
  refine vl_iload_n (n := 1048) 3 (dkL_28 (i := 7) rfl) rfl rfl ?_
  refine vl_iconst (n := 1049) 2 (dkL_28 (i := 8) rfl) rfl (by decide) ?_
  refine vl_iadd (n := 1050) (nI (i + 2)) (dkL_28 (i := 9) rfl) rfl (nI_add i 2) ?_
  refine vl_sld (n := 1051) (i := i + 2) hL (by omega) (dkL_28 (i := 10) rfl) rfl ?_
  refine vl_c1 (n := 1054) (emb2 := qe_m) (S1', r) [.int (xs (i + 1)), .int (xs (i + 2))] (dkL_28 (i := 11) rfl) rfl kvL_131 rfl rfl (Nat.le_of_ble_eq_true rfl) rfl rfl rfl h1 (wX11_breakOff (l, D, qc_ad B1 ax, cy) S1 (xs (i + 1)) (xs (i + 2))) ?_
  show VL l D cy ax B1 B2 b L xs X 1054 [(0, .ref b), (1, .ref (qc_ad B1 ax 0)), (2, .ref (qc_ad B2 ax 0)), (3, .int (nI i))] [.int r] S1' S2
  refine vl_aload_n (n := 1055) 2 (dkL_28 (i := 12) rfl) rfl rfl ?_
  refine vl_aload_n (n := 1056) 0 (dkL_28 (i := 13) rfl) rfl rfl ?_
  refine vl_iload_n (n := 1057) 3 (dkL_28 (i := 14) rfl) rfl rfl ?_
  refine vl_iconst (n := 1058) 1 (dkL_28 (i := 15) rfl) rfl (by decide) ?_
  refine vl_iadd (n := 1059) (nI (i + 1)) (dkL_28 (i := 16) rfl) rfl (nI_add i 1) ?_
  refine vl_sld (n := 1060) (i := i + 1) hL (by omega) (dkL_28 (i := 17) rfl) rfl ?_
  refine vl_aload_n (n := 1061) 0 (dkL_28 (i := 18) rfl) rfl rfl ?_
  refine vl_iload_n (n := 1062) 3 (dkL_28 (i := 19) rfl) rfl rfl ?_
  refine vl_iconst (n := 1063) 2 (dkL_28 (i := 20) rfl) rfl (by decide) ?_
  refine vl_iadd (n := 1064) (nI (i + 2)) (dkL_28 (i := 21) rfl) rfl (nI_add i 2) ?_
  refine vl_sld (n := 1065) (i := i + 2) hL (by omega) (dkL_28 (i := 22) rfl) rfl ?_
  refine vl_c2 (n := 1068) (emb2 := qe_m) (S2', r) [.int (xs (i + 1)), .int (xs (i + 2))] (dkL_28 (i := 23) rfl) rfl kvL_134 rfl rfl (Nat.le_of_ble_eq_true rfl) rfl rfl rfl h2 (wX12_breakOff (l, D, qc_ad B2 ax, cy) S2 (xs (i + 1)) (xs (i + 2))) ?_
  show VL l D cy ax B1 B2 b L xs X 1068 [(0, .ref b), (1, .ref (qc_ad B1 ax 0)), (2, .ref (qc_ad B2 ax 0)), (3, .int (nI i))] [.int r, .int r] S1' S2'
  refine vl_same (t := 1297) (dkL_28 (i := 24) rfl) (by decide) ?_
  exact hnext S1' S2' hR
def tbL_29 : List (Nat × Instr × Nat) := [(1073, .aload_n 1, 1), (1074, .aload_n 0, 1), (1075, .iload_n 3, 1), (1076, .iconst 1, 1), (1077, .iadd, 1), (1078, .iaload, 1), (1079, .invokevirtual 135, 3), (1082, .aload_n 2, 1), (1083, .aload_n 0, 1), (1084, .iload_n 3, 1), (1085, .iconst 1, 1), (1086, .iadd, 1), (1087, .iaload, 1), (1088, .invokevirtual 138, 3), (1091, .if_icmp .eq 206, 3), (1094, .iconst 0, 1), (1095, .ireturn, 1)]
set_option maxRecDepth 20000 in
theorem daL_29 : ∀ x ∈ tbL_29, decode code x.1 = .ok x.2 := by decide +kernel
theorem dkL_29 {i pc n : Nat} {ins : Instr} (h : tbL_29[i]? = some (pc, ins, n)) : decode code pc = .ok (ins, n) := daL_29 (pc, ins, n) (List.mem_of_getElem? h)
set_option maxRecDepth 20000 in
set_option maxHeartbeats 4000000 in
/-- join -/
theorem law_case_29 {Rel : Nat → qv_St → qv_St → Prop} (hop : ∀ (i : Nat) (S1 S2 : qv_St) (a1 : Int32), i + 6 ≤ 3072 → Rel i S1 S2 → ∃ (S1' : qv_St) (S2' : qv_St) (r : Int32), fX11_join S1 a1 = some (S1', r) ∧ fX12_join S2 a1 = some (S2', r) ∧ Rel (i + 6) S1' S2') {l : Launch} {D : va_G} {cy ax : Nat → Nat} {B1 B2 b L : Nat} {xs : Nat → Int32} {X : qv_XT} (hL : L ≤ 3072) {i : Nat} (hi : i + 6 ≤ L) (hnext : ∀ S1 S2 : qv_St, Rel (i + 6) S1 S2 → VL l D cy ax B1 B2 b L xs X 1297 [(0, .ref b), (1, .ref (qc_ad B1 ax 0)), (2, .ref (qc_ad B2 ax 0)), (3, .int (nI i))] [] S1 S2) (S1 S2 : qv_St) (hrel : Rel i S1 S2) : VL l D cy ax B1 B2 b L xs X 1073 [(0, .ref b), (1, .ref (qc_ad B1 ax 0)), (2, .ref (qc_ad B2 ax 0)), (3, .int (nI i))] [] S1 S2 := by
  obtain ⟨S1', S2', r, h1, h2, hR⟩ := hop i S1 S2 (xs (i + 1)) (by omega) hrel
  refine vl_aload_n (n := 1074) 1 (dkL_29 (i := 0) rfl) rfl rfl ?_
  refine vl_aload_n (n := 1075) 0 (dkL_29 (i := 1) rfl) rfl rfl ?_
  refine vl_iload_n (n := 1076) 3 (dkL_29 (i := 2) rfl) rfl rfl ?_
  refine vl_iconst (n := 1077) 1 (dkL_29 (i := 3) rfl) rfl (by decide) ?_
  refine vl_iadd (n := 1078) (nI (i + 1)) (dkL_29 (i := 4) rfl) rfl (nI_add i 1) ?_
  refine vl_sld (n := 1079) (i := i + 1) hL (by omega) (dkL_29 (i := 5) rfl) rfl ?_
  refine vl_c1 (n := 1082) (emb2 := qe_m) (S1', r) [.int (xs (i + 1))] (dkL_29 (i := 6) rfl) rfl kvL_135 rfl rfl (Nat.le_of_ble_eq_true rfl) rfl rfl rfl h1 (wX11_join (l, D, qc_ad B1 ax, cy) S1 (xs (i + 1))) ?_
  show VL l D cy ax B1 B2 b L xs X 1082 [(0, .ref b), (1, .ref (qc_ad B1 ax 0)), (2, .ref (qc_ad B2 ax 0)), (3, .int (nI i))] [.int r] S1' S2
  refine vl_aload_n (n := 1083) 2 (dkL_29 (i := 7) rfl) rfl rfl ?_
  refine vl_aload_n (n := 1084) 0 (dkL_29 (i := 8) rfl) rfl rfl ?_
  refine vl_iload_n (n := 1085) 3 (dkL_29 (i := 9) rfl) rfl rfl ?_
  refine vl_iconst (n := 1086) 1 (dkL_29 (i := 10) rfl) rfl (by decide) ?_
  refine vl_iadd (n := 1087) (nI (i + 1)) (dkL_29 (i := 11) rfl) rfl (nI_add i 1) ?_
  refine vl_sld (n := 1088) (i := i + 1) hL (by omega) (dkL_29 (i := 12) rfl) rfl ?_
  refine vl_c2 (n := 1091) (emb2 := qe_m) (S2', r) [.int (xs (i + 1))] (dkL_29 (i := 13) rfl) rfl kvL_138 rfl rfl (Nat.le_of_ble_eq_true rfl) rfl rfl rfl h2 (wX12_join (l, D, qc_ad B2 ax, cy) S2 (xs (i + 1))) ?_
  show VL l D cy ax B1 B2 b L xs X 1091 [(0, .ref b), (1, .ref (qc_ad B1 ax 0)), (2, .ref (qc_ad B2 ax 0)), (3, .int (nI i))] [.int r, .int r] S1' S2'
  refine vl_same (t := 1297) (dkL_29 (i := 14) rfl) (by decide) ?_
  exact hnext S1' S2' hR
def tbL_30 : List (Nat × Instr × Nat) := [(1096, .aload_n 1, 1), (1097, .aload_n 0, 1), (1098, .iload_n 3, 1), (1099, .iconst 1, 1), (1100, .iadd, 1), (1101, .iaload, 1), (1102, .aload_n 0, 1), (1103, .iload_n 3, 1), (1104, .iconst 2, 1), (1105, .iadd, 1), (1106, .iaload, 1), (1107, .aload_n 0, 1), (1108, .iload_n 3, 1), (1109, .iconst 3, 1), (1110, .iadd, 1), (1111, .iaload, 1), (1112, .invokevirtual 139, 3), (1115, .aload_n 2, 1), (1116, .aload_n 0, 1), (1117, .iload_n 3, 1), (1118, .iconst 1, 1), (1119, .iadd, 1), (1120, .iaload, 1), (1121, .aload_n 0, 1), (1122, .iload_n 3, 1), (1123, .iconst 2, 1), (1124, .iadd, 1), (1125, .iaload, 1), (1126, .aload_n 0, 1), (1127, .iload_n 3, 1), (1128, .iconst 3, 1), (1129, .iadd, 1), (1130, .iaload, 1), (1131, .invokevirtual 142, 3), (1134, .if_icmp .eq 163, 3), (1137, .iconst 0, 1), (1138, .ireturn, 1)]
set_option maxRecDepth 20000 in
theorem daL_30 : ∀ x ∈ tbL_30, decode code x.1 = .ok x.2 := by decide +kernel
theorem dkL_30 {i pc n : Nat} {ins : Instr} (h : tbL_30[i]? = some (pc, ins, n)) : decode code pc = .ok (ins, n) := daL_30 (pc, ins, n) (List.mem_of_getElem? h)
set_option maxRecDepth 20000 in
set_option maxHeartbeats 4000000 in
/-- odds -/
theorem law_case_30 {Rel : Nat → qv_St → qv_St → Prop} (hop : ∀ (i : Nat) (S1 S2 : qv_St) (a1 a2 a3 : Int32), i + 6 ≤ 3072 → Rel i S1 S2 → ∃ (S1' : qv_St) (S2' : qv_St) (r : Int32), fX11_odds S1 a1 a2 a3 = some (S1', r) ∧ fX12_odds S2 a1 a2 a3 = some (S2', r) ∧ Rel (i + 6) S1' S2') {l : Launch} {D : va_G} {cy ax : Nat → Nat} {B1 B2 b L : Nat} {xs : Nat → Int32} {X : qv_XT} (hL : L ≤ 3072) {i : Nat} (hi : i + 6 ≤ L) (hnext : ∀ S1 S2 : qv_St, Rel (i + 6) S1 S2 → VL l D cy ax B1 B2 b L xs X 1297 [(0, .ref b), (1, .ref (qc_ad B1 ax 0)), (2, .ref (qc_ad B2 ax 0)), (3, .int (nI i))] [] S1 S2) (S1 S2 : qv_St) (hrel : Rel i S1 S2) : VL l D cy ax B1 B2 b L xs X 1096 [(0, .ref b), (1, .ref (qc_ad B1 ax 0)), (2, .ref (qc_ad B2 ax 0)), (3, .int (nI i))] [] S1 S2 := by
  obtain ⟨S1', S2', r, h1, h2, hR⟩ := hop i S1 S2 (xs (i + 1)) (xs (i + 2)) (xs (i + 3)) (by omega) hrel
  refine vl_aload_n (n := 1097) 1 (dkL_30 (i := 0) rfl) rfl rfl ?_
  refine vl_aload_n (n := 1098) 0 (dkL_30 (i := 1) rfl) rfl rfl ?_
  refine vl_iload_n (n := 1099) 3 (dkL_30 (i := 2) rfl) rfl rfl ?_
  refine vl_iconst (n := 1100) 1 (dkL_30 (i := 3) rfl) rfl (by decide) ?_
  refine vl_iadd (n := 1101) (nI (i + 1)) (dkL_30 (i := 4) rfl) rfl (nI_add i 1) ?_
  refine vl_sld (n := 1102) (i := i + 1) hL (by omega) (dkL_30 (i := 5) rfl) rfl ?_
  refine vl_aload_n (n := 1103) 0 (dkL_30 (i := 6) rfl) rfl rfl ?_
  refine vl_iload_n (n := 1104) 3 (dkL_30 (i := 7) rfl) rfl rfl ?_
  refine vl_iconst (n := 1105) 2 (dkL_30 (i := 8) rfl) rfl (by decide) ?_
  refine vl_iadd (n := 1106) (nI (i + 2)) (dkL_30 (i := 9) rfl) rfl (nI_add i 2) ?_
  refine vl_sld (n := 1107) (i := i + 2) hL (by omega) (dkL_30 (i := 10) rfl) rfl ?_
  refine vl_aload_n (n := 1108) 0 (dkL_30 (i := 11) rfl) rfl rfl ?_
  refine vl_iload_n (n := 1109) 3 (dkL_30 (i := 12) rfl) rfl rfl ?_
  refine vl_iconst (n := 1110) 3 (dkL_30 (i := 13) rfl) rfl (by decide) ?_
  refine vl_iadd (n := 1111) (nI (i + 3)) (dkL_30 (i := 14) rfl) rfl (nI_add i 3) ?_
  refine vl_sld (n := 1112) (i := i + 3) hL (by omega) (dkL_30 (i := 15) rfl) rfl ?_
  refine vl_c1 (n := 1115) (emb2 := qe_m) (S1', r) [.int (xs (i + 1)), .int (xs (i + 2)), .int (xs (i + 3))] (dkL_30 (i := 16) rfl) rfl kvL_139 rfl rfl (Nat.le_of_ble_eq_true rfl) rfl rfl rfl h1 (wX11_odds (l, D, qc_ad B1 ax, cy) S1 (xs (i + 1)) (xs (i + 2)) (xs (i + 3))) ?_
  show VL l D cy ax B1 B2 b L xs X 1115 [(0, .ref b), (1, .ref (qc_ad B1 ax 0)), (2, .ref (qc_ad B2 ax 0)), (3, .int (nI i))] [.int r] S1' S2
  refine vl_aload_n (n := 1116) 2 (dkL_30 (i := 17) rfl) rfl rfl ?_
  refine vl_aload_n (n := 1117) 0 (dkL_30 (i := 18) rfl) rfl rfl ?_
  refine vl_iload_n (n := 1118) 3 (dkL_30 (i := 19) rfl) rfl rfl ?_
  refine vl_iconst (n := 1119) 1 (dkL_30 (i := 20) rfl) rfl (by decide) ?_
  refine vl_iadd (n := 1120) (nI (i + 1)) (dkL_30 (i := 21) rfl) rfl (nI_add i 1) ?_
  refine vl_sld (n := 1121) (i := i + 1) hL (by omega) (dkL_30 (i := 22) rfl) rfl ?_
  refine vl_aload_n (n := 1122) 0 (dkL_30 (i := 23) rfl) rfl rfl ?_
  refine vl_iload_n (n := 1123) 3 (dkL_30 (i := 24) rfl) rfl rfl ?_
  refine vl_iconst (n := 1124) 2 (dkL_30 (i := 25) rfl) rfl (by decide) ?_
  refine vl_iadd (n := 1125) (nI (i + 2)) (dkL_30 (i := 26) rfl) rfl (nI_add i 2) ?_
  refine vl_sld (n := 1126) (i := i + 2) hL (by omega) (dkL_30 (i := 27) rfl) rfl ?_
  refine vl_aload_n (n := 1127) 0 (dkL_30 (i := 28) rfl) rfl rfl ?_
  refine vl_iload_n (n := 1128) 3 (dkL_30 (i := 29) rfl) rfl rfl ?_
  refine vl_iconst (n := 1129) 3 (dkL_30 (i := 30) rfl) rfl (by decide) ?_
  refine vl_iadd (n := 1130) (nI (i + 3)) (dkL_30 (i := 31) rfl) rfl (nI_add i 3) ?_
  refine vl_sld (n := 1131) (i := i + 3) hL (by omega) (dkL_30 (i := 32) rfl) rfl ?_
  refine vl_c2 (n := 1134) (emb2 := qe_m) (S2', r) [.int (xs (i + 1)), .int (xs (i + 2)), .int (xs (i + 3))] (dkL_30 (i := 33) rfl) rfl kvL_142 rfl rfl (Nat.le_of_ble_eq_true rfl) rfl rfl rfl h2 (wX12_odds (l, D, qc_ad B2 ax, cy) S2 (xs (i + 1)) (xs (i + 2)) (xs (i + 3))) ?_
  show VL l D cy ax B1 B2 b L xs X 1134 [(0, .ref b), (1, .ref (qc_ad B1 ax 0)), (2, .ref (qc_ad B2 ax 0)), (3, .int (nI i))] [.int r, .int r] S1' S2'
  refine vl_same (t := 1297) (dkL_30 (i := 34) rfl) (by decide) ?_
  exact hnext S1' S2' hR
def tbL_31 : List (Nat × Instr × Nat) := [(1139, .aload_n 1, 1), (1140, .aload_n 0, 1), (1141, .iload_n 3, 1), (1142, .iconst 1, 1), (1143, .iadd, 1), (1144, .iaload, 1), (1145, .aload_n 0, 1), (1146, .iload_n 3, 1), (1147, .iconst 2, 1), (1148, .iadd, 1), (1149, .iaload, 1), (1150, .aload_n 0, 1), (1151, .iload_n 3, 1), (1152, .iconst 3, 1), (1153, .iadd, 1), (1154, .iaload, 1), (1155, .invokevirtual 143, 3), (1158, .aload_n 2, 1), (1159, .aload_n 0, 1), (1160, .iload_n 3, 1), (1161, .iconst 1, 1), (1162, .iadd, 1), (1163, .iaload, 1), (1164, .aload_n 0, 1), (1165, .iload_n 3, 1), (1166, .iconst 2, 1), (1167, .iadd, 1), (1168, .iaload, 1), (1169, .aload_n 0, 1), (1170, .iload_n 3, 1), (1171, .iconst 3, 1), (1172, .iadd, 1), (1173, .iaload, 1), (1174, .invokevirtual 146, 3), (1177, .if_icmp .eq 120, 3), (1180, .iconst 0, 1), (1181, .ireturn, 1)]
set_option maxRecDepth 20000 in
theorem daL_31 : ∀ x ∈ tbL_31, decode code x.1 = .ok x.2 := by decide +kernel
theorem dkL_31 {i pc n : Nat} {ins : Instr} (h : tbL_31[i]? = some (pc, ins, n)) : decode code pc = .ok (ins, n) := daL_31 (pc, ins, n) (List.mem_of_getElem? h)
set_option maxRecDepth 20000 in
set_option maxHeartbeats 4000000 in
/-- tell -/
theorem law_case_31 {Rel : Nat → qv_St → qv_St → Prop} (hop : ∀ (i : Nat) (S1 S2 : qv_St) (a1 a2 a3 : Int32), i + 6 ≤ 3072 → Rel i S1 S2 → ∃ (S1' : qv_St) (S2' : qv_St) (r : Int32), fX11_tell S1 a1 a2 a3 = some (S1', r) ∧ fX12_tell S2 a1 a2 a3 = some (S2', r) ∧ Rel (i + 6) S1' S2') {l : Launch} {D : va_G} {cy ax : Nat → Nat} {B1 B2 b L : Nat} {xs : Nat → Int32} {X : qv_XT} (hL : L ≤ 3072) {i : Nat} (hi : i + 6 ≤ L) (hnext : ∀ S1 S2 : qv_St, Rel (i + 6) S1 S2 → VL l D cy ax B1 B2 b L xs X 1297 [(0, .ref b), (1, .ref (qc_ad B1 ax 0)), (2, .ref (qc_ad B2 ax 0)), (3, .int (nI i))] [] S1 S2) (S1 S2 : qv_St) (hrel : Rel i S1 S2) : VL l D cy ax B1 B2 b L xs X 1139 [(0, .ref b), (1, .ref (qc_ad B1 ax 0)), (2, .ref (qc_ad B2 ax 0)), (3, .int (nI i))] [] S1 S2 := by
  obtain ⟨S1', S2', r, h1, h2, hR⟩ := hop i S1 S2 (xs (i + 1)) (xs (i + 2)) (xs (i + 3)) (by omega) hrel
  refine vl_aload_n (n := 1140) 1 (dkL_31 (i := 0) rfl) rfl rfl ?_
  refine vl_aload_n (n := 1141) 0 (dkL_31 (i := 1) rfl) rfl rfl ?_
  refine vl_iload_n (n := 1142) 3 (dkL_31 (i := 2) rfl) rfl rfl ?_
  refine vl_iconst (n := 1143) 1 (dkL_31 (i := 3) rfl) rfl (by decide) ?_
  refine vl_iadd (n := 1144) (nI (i + 1)) (dkL_31 (i := 4) rfl) rfl (nI_add i 1) ?_
  refine vl_sld (n := 1145) (i := i + 1) hL (by omega) (dkL_31 (i := 5) rfl) rfl ?_
  refine vl_aload_n (n := 1146) 0 (dkL_31 (i := 6) rfl) rfl rfl ?_
  refine vl_iload_n (n := 1147) 3 (dkL_31 (i := 7) rfl) rfl rfl ?_
  refine vl_iconst (n := 1148) 2 (dkL_31 (i := 8) rfl) rfl (by decide) ?_
  refine vl_iadd (n := 1149) (nI (i + 2)) (dkL_31 (i := 9) rfl) rfl (nI_add i 2) ?_
  refine vl_sld (n := 1150) (i := i + 2) hL (by omega) (dkL_31 (i := 10) rfl) rfl ?_
  refine vl_aload_n (n := 1151) 0 (dkL_31 (i := 11) rfl) rfl rfl ?_
  refine vl_iload_n (n := 1152) 3 (dkL_31 (i := 12) rfl) rfl rfl ?_
  refine vl_iconst (n := 1153) 3 (dkL_31 (i := 13) rfl) rfl (by decide) ?_
  refine vl_iadd (n := 1154) (nI (i + 3)) (dkL_31 (i := 14) rfl) rfl (nI_add i 3) ?_
  refine vl_sld (n := 1155) (i := i + 3) hL (by omega) (dkL_31 (i := 15) rfl) rfl ?_
  refine vl_c1 (n := 1158) (emb2 := qe_m) (S1', r) [.int (xs (i + 1)), .int (xs (i + 2)), .int (xs (i + 3))] (dkL_31 (i := 16) rfl) rfl kvL_143 rfl rfl (Nat.le_of_ble_eq_true rfl) rfl rfl rfl h1 (wX11_tell (l, D, qc_ad B1 ax, cy) S1 (xs (i + 1)) (xs (i + 2)) (xs (i + 3))) ?_
  show VL l D cy ax B1 B2 b L xs X 1158 [(0, .ref b), (1, .ref (qc_ad B1 ax 0)), (2, .ref (qc_ad B2 ax 0)), (3, .int (nI i))] [.int r] S1' S2
  refine vl_aload_n (n := 1159) 2 (dkL_31 (i := 17) rfl) rfl rfl ?_
  refine vl_aload_n (n := 1160) 0 (dkL_31 (i := 18) rfl) rfl rfl ?_
  refine vl_iload_n (n := 1161) 3 (dkL_31 (i := 19) rfl) rfl rfl ?_
  refine vl_iconst (n := 1162) 1 (dkL_31 (i := 20) rfl) rfl (by decide) ?_
  refine vl_iadd (n := 1163) (nI (i + 1)) (dkL_31 (i := 21) rfl) rfl (nI_add i 1) ?_
  refine vl_sld (n := 1164) (i := i + 1) hL (by omega) (dkL_31 (i := 22) rfl) rfl ?_
  refine vl_aload_n (n := 1165) 0 (dkL_31 (i := 23) rfl) rfl rfl ?_
  refine vl_iload_n (n := 1166) 3 (dkL_31 (i := 24) rfl) rfl rfl ?_
  refine vl_iconst (n := 1167) 2 (dkL_31 (i := 25) rfl) rfl (by decide) ?_
  refine vl_iadd (n := 1168) (nI (i + 2)) (dkL_31 (i := 26) rfl) rfl (nI_add i 2) ?_
  refine vl_sld (n := 1169) (i := i + 2) hL (by omega) (dkL_31 (i := 27) rfl) rfl ?_
  refine vl_aload_n (n := 1170) 0 (dkL_31 (i := 28) rfl) rfl rfl ?_
  refine vl_iload_n (n := 1171) 3 (dkL_31 (i := 29) rfl) rfl rfl ?_
  refine vl_iconst (n := 1172) 3 (dkL_31 (i := 30) rfl) rfl (by decide) ?_
  refine vl_iadd (n := 1173) (nI (i + 3)) (dkL_31 (i := 31) rfl) rfl (nI_add i 3) ?_
  refine vl_sld (n := 1174) (i := i + 3) hL (by omega) (dkL_31 (i := 32) rfl) rfl ?_
  refine vl_c2 (n := 1177) (emb2 := qe_m) (S2', r) [.int (xs (i + 1)), .int (xs (i + 2)), .int (xs (i + 3))] (dkL_31 (i := 33) rfl) rfl kvL_146 rfl rfl (Nat.le_of_ble_eq_true rfl) rfl rfl rfl h2 (wX12_tell (l, D, qc_ad B2 ax, cy) S2 (xs (i + 1)) (xs (i + 2)) (xs (i + 3))) ?_
  show VL l D cy ax B1 B2 b L xs X 1177 [(0, .ref b), (1, .ref (qc_ad B1 ax 0)), (2, .ref (qc_ad B2 ax 0)), (3, .int (nI i))] [.int r, .int r] S1' S2'
  refine vl_same (t := 1297) (dkL_31 (i := 34) rfl) (by decide) ?_
  exact hnext S1' S2' hR
def tbL_32 : List (Nat × Instr × Nat) := [(1182, .aload_n 1, 1), (1183, .invokevirtual 147, 3), (1186, .aload_n 2, 1), (1187, .invokevirtual 150, 3), (1190, .if_icmp .eq 107, 3), (1193, .iconst 0, 1), (1194, .ireturn, 1)]
set_option maxRecDepth 20000 in
theorem daL_32 : ∀ x ∈ tbL_32, decode code x.1 = .ok x.2 := by decide +kernel
theorem dkL_32 {i pc n : Nat} {ins : Instr} (h : tbL_32[i]? = some (pc, ins, n)) : decode code pc = .ok (ins, n) := daL_32 (pc, ins, n) (List.mem_of_getElem? h)
set_option maxRecDepth 20000 in
set_option maxHeartbeats 4000000 in
/-- forget -/
theorem law_case_32 {Rel : Nat → qv_St → qv_St → Prop} (hop : ∀ (i : Nat) (S1 S2 : qv_St), i + 6 ≤ 3072 → Rel i S1 S2 → ∃ (S1' : qv_St) (S2' : qv_St) (r : Int32), fX11_forget S1 = some (S1', r) ∧ fX12_forget S2 = some (S2', r) ∧ Rel (i + 6) S1' S2') {l : Launch} {D : va_G} {cy ax : Nat → Nat} {B1 B2 b L : Nat} {xs : Nat → Int32} {X : qv_XT} (hL : L ≤ 3072) {i : Nat} (hi : i + 6 ≤ L) (hnext : ∀ S1 S2 : qv_St, Rel (i + 6) S1 S2 → VL l D cy ax B1 B2 b L xs X 1297 [(0, .ref b), (1, .ref (qc_ad B1 ax 0)), (2, .ref (qc_ad B2 ax 0)), (3, .int (nI i))] [] S1 S2) (S1 S2 : qv_St) (hrel : Rel i S1 S2) : VL l D cy ax B1 B2 b L xs X 1182 [(0, .ref b), (1, .ref (qc_ad B1 ax 0)), (2, .ref (qc_ad B2 ax 0)), (3, .int (nI i))] [] S1 S2 := by
  obtain ⟨S1', S2', r, h1, h2, hR⟩ := hop i S1 S2 (by omega) hrel
  refine vl_aload_n (n := 1183) 1 (dkL_32 (i := 0) rfl) rfl rfl ?_
  refine vl_c1 (n := 1186) (emb2 := qe_m) (S1', r) [] (dkL_32 (i := 1) rfl) rfl kvL_147 rfl rfl (Nat.le_of_ble_eq_true rfl) rfl rfl rfl h1 (wX11_forget (l, D, qc_ad B1 ax, cy) S1) ?_
  show VL l D cy ax B1 B2 b L xs X 1186 [(0, .ref b), (1, .ref (qc_ad B1 ax 0)), (2, .ref (qc_ad B2 ax 0)), (3, .int (nI i))] [.int r] S1' S2
  refine vl_aload_n (n := 1187) 2 (dkL_32 (i := 2) rfl) rfl rfl ?_
  refine vl_c2 (n := 1190) (emb2 := qe_m) (S2', r) [] (dkL_32 (i := 3) rfl) rfl kvL_150 rfl rfl (Nat.le_of_ble_eq_true rfl) rfl rfl rfl h2 (wX12_forget (l, D, qc_ad B2 ax, cy) S2) ?_
  show VL l D cy ax B1 B2 b L xs X 1190 [(0, .ref b), (1, .ref (qc_ad B1 ax 0)), (2, .ref (qc_ad B2 ax 0)), (3, .int (nI i))] [.int r, .int r] S1' S2'
  refine vl_same (t := 1297) (dkL_32 (i := 4) rfl) (by decide) ?_
  exact hnext S1' S2' hR
def tbL_33 : List (Nat × Instr × Nat) := [(1195, .aload_n 1, 1), (1196, .aload_n 0, 1), (1197, .iload_n 3, 1), (1198, .iconst 1, 1), (1199, .iadd, 1), (1200, .iaload, 1), (1201, .aload_n 0, 1), (1202, .iload_n 3, 1), (1203, .iconst 2, 1), (1204, .iadd, 1), (1205, .iaload, 1), (1206, .invokevirtual 151, 3), (1209, .aload_n 2, 1), (1210, .aload_n 0, 1), (1211, .iload_n 3, 1), (1212, .iconst 1, 1), (1213, .iadd, 1), (1214, .iaload, 1), (1215, .aload_n 0, 1), (1216, .iload_n 3, 1), (1217, .iconst 2, 1), (1218, .iadd, 1), (1219, .iaload, 1), (1220, .invokevirtual 154, 3), (1223, .if_icmp .eq 74, 3), (1226, .iconst 0, 1), (1227, .ireturn, 1)]
set_option maxRecDepth 20000 in
theorem daL_33 : ∀ x ∈ tbL_33, decode code x.1 = .ok x.2 := by decide +kernel
theorem dkL_33 {i pc n : Nat} {ins : Instr} (h : tbL_33[i]? = some (pc, ins, n)) : decode code pc = .ok (ins, n) := daL_33 (pc, ins, n) (List.mem_of_getElem? h)
set_option maxRecDepth 20000 in
set_option maxHeartbeats 4000000 in
/-- when -/
theorem law_case_33 {Rel : Nat → qv_St → qv_St → Prop} (hop : ∀ (i : Nat) (S1 S2 : qv_St) (a1 a2 : Int32), i + 6 ≤ 3072 → Rel i S1 S2 → ∃ (S2' : qv_St) (r : Int32), fX11_when S1 a1 a2 = some r ∧ fX12_when S2 a1 a2 = some (S2', r) ∧ Rel (i + 6) S1 S2') {l : Launch} {D : va_G} {cy ax : Nat → Nat} {B1 B2 b L : Nat} {xs : Nat → Int32} {X : qv_XT} (hL : L ≤ 3072) {i : Nat} (hi : i + 6 ≤ L) (hnext : ∀ S1 S2 : qv_St, Rel (i + 6) S1 S2 → VL l D cy ax B1 B2 b L xs X 1297 [(0, .ref b), (1, .ref (qc_ad B1 ax 0)), (2, .ref (qc_ad B2 ax 0)), (3, .int (nI i))] [] S1 S2) (S1 S2 : qv_St) (hrel : Rel i S1 S2) : VL l D cy ax B1 B2 b L xs X 1195 [(0, .ref b), (1, .ref (qc_ad B1 ax 0)), (2, .ref (qc_ad B2 ax 0)), (3, .int (nI i))] [] S1 S2 := by
  obtain ⟨S2', r, h1, h2, hR⟩ := hop i S1 S2 (xs (i + 1)) (xs (i + 2)) (by omega) hrel
  refine vl_aload_n (n := 1196) 1 (dkL_33 (i := 0) rfl) rfl rfl ?_
  refine vl_aload_n (n := 1197) 0 (dkL_33 (i := 1) rfl) rfl rfl ?_
  refine vl_iload_n (n := 1198) 3 (dkL_33 (i := 2) rfl) rfl rfl ?_
  refine vl_iconst (n := 1199) 1 (dkL_33 (i := 3) rfl) rfl (by decide) ?_
  refine vl_iadd (n := 1200) (nI (i + 1)) (dkL_33 (i := 4) rfl) rfl (nI_add i 1) ?_
  refine vl_sld (n := 1201) (i := i + 1) hL (by omega) (dkL_33 (i := 5) rfl) rfl ?_
  refine vl_aload_n (n := 1202) 0 (dkL_33 (i := 6) rfl) rfl rfl ?_
  refine vl_iload_n (n := 1203) 3 (dkL_33 (i := 7) rfl) rfl rfl ?_
  refine vl_iconst (n := 1204) 2 (dkL_33 (i := 8) rfl) rfl (by decide) ?_
  refine vl_iadd (n := 1205) (nI (i + 2)) (dkL_33 (i := 9) rfl) rfl (nI_add i 2) ?_
  refine vl_sld (n := 1206) (i := i + 2) hL (by omega) (dkL_33 (i := 10) rfl) rfl ?_
  refine vl_c1 (n := 1209) (emb2 := (qe_i S1)) r [.int (xs (i + 1)), .int (xs (i + 2))] (dkL_33 (i := 11) rfl) rfl kvL_151 rfl rfl (Nat.le_of_ble_eq_true rfl) rfl rfl rfl h1 (wX11_when (l, D, qc_ad B1 ax, cy) S1 (xs (i + 1)) (xs (i + 2))) ?_
  show VL l D cy ax B1 B2 b L xs X 1209 [(0, .ref b), (1, .ref (qc_ad B1 ax 0)), (2, .ref (qc_ad B2 ax 0)), (3, .int (nI i))] [.int r] S1 S2
  refine vl_aload_n (n := 1210) 2 (dkL_33 (i := 12) rfl) rfl rfl ?_
  refine vl_aload_n (n := 1211) 0 (dkL_33 (i := 13) rfl) rfl rfl ?_
  refine vl_iload_n (n := 1212) 3 (dkL_33 (i := 14) rfl) rfl rfl ?_
  refine vl_iconst (n := 1213) 1 (dkL_33 (i := 15) rfl) rfl (by decide) ?_
  refine vl_iadd (n := 1214) (nI (i + 1)) (dkL_33 (i := 16) rfl) rfl (nI_add i 1) ?_
  refine vl_sld (n := 1215) (i := i + 1) hL (by omega) (dkL_33 (i := 17) rfl) rfl ?_
  refine vl_aload_n (n := 1216) 0 (dkL_33 (i := 18) rfl) rfl rfl ?_
  refine vl_iload_n (n := 1217) 3 (dkL_33 (i := 19) rfl) rfl rfl ?_
  refine vl_iconst (n := 1218) 2 (dkL_33 (i := 20) rfl) rfl (by decide) ?_
  refine vl_iadd (n := 1219) (nI (i + 2)) (dkL_33 (i := 21) rfl) rfl (nI_add i 2) ?_
  refine vl_sld (n := 1220) (i := i + 2) hL (by omega) (dkL_33 (i := 22) rfl) rfl ?_
  refine vl_c2 (n := 1223) (emb2 := qe_m) (S2', r) [.int (xs (i + 1)), .int (xs (i + 2))] (dkL_33 (i := 23) rfl) rfl kvL_154 rfl rfl (Nat.le_of_ble_eq_true rfl) rfl rfl rfl h2 (wX12_when (l, D, qc_ad B2 ax, cy) S2 (xs (i + 1)) (xs (i + 2))) ?_
  show VL l D cy ax B1 B2 b L xs X 1223 [(0, .ref b), (1, .ref (qc_ad B1 ax 0)), (2, .ref (qc_ad B2 ax 0)), (3, .int (nI i))] [.int r, .int r] S1 S2'
  refine vl_same (t := 1297) (dkL_33 (i := 24) rfl) (by decide) ?_
  exact hnext S1 S2' hR
def tbL_34 : List (Nat × Instr × Nat) := [(1228, .aload_n 1, 1), (1229, .aload_n 0, 1), (1230, .iload_n 3, 1), (1231, .iconst 1, 1), (1232, .iadd, 1), (1233, .iaload, 1), (1234, .invokevirtual 155, 3), (1237, .aload_n 2, 1), (1238, .aload_n 0, 1), (1239, .iload_n 3, 1), (1240, .iconst 1, 1), (1241, .iadd, 1), (1242, .iaload, 1), (1243, .invokevirtual 159, 3), (1246, .if_icmp .eq 51, 3), (1249, .iconst 0, 1), (1250, .ireturn, 1)]
set_option maxRecDepth 20000 in
theorem daL_34 : ∀ x ∈ tbL_34, decode code x.1 = .ok x.2 := by decide +kernel
theorem dkL_34 {i pc n : Nat} {ins : Instr} (h : tbL_34[i]? = some (pc, ins, n)) : decode code pc = .ok (ins, n) := daL_34 (pc, ins, n) (List.mem_of_getElem? h)
set_option maxRecDepth 20000 in
set_option maxHeartbeats 4000000 in
/-- hold -/
theorem law_case_34 {Rel : Nat → qv_St → qv_St → Prop} (hop : ∀ (i : Nat) (S1 S2 : qv_St) (a1 : Int32), i + 6 ≤ 3072 → Rel i S1 S2 → ∃ (S1' : qv_St) (S2' : qv_St) (r : Int32), fX11_hold S1 a1 = some (S1', r) ∧ fX12_hold S2 a1 = some (S2', r) ∧ Rel (i + 6) S1' S2') {l : Launch} {D : va_G} {cy ax : Nat → Nat} {B1 B2 b L : Nat} {xs : Nat → Int32} {X : qv_XT} (hL : L ≤ 3072) {i : Nat} (hi : i + 6 ≤ L) (hnext : ∀ S1 S2 : qv_St, Rel (i + 6) S1 S2 → VL l D cy ax B1 B2 b L xs X 1297 [(0, .ref b), (1, .ref (qc_ad B1 ax 0)), (2, .ref (qc_ad B2 ax 0)), (3, .int (nI i))] [] S1 S2) (S1 S2 : qv_St) (hrel : Rel i S1 S2) : VL l D cy ax B1 B2 b L xs X 1228 [(0, .ref b), (1, .ref (qc_ad B1 ax 0)), (2, .ref (qc_ad B2 ax 0)), (3, .int (nI i))] [] S1 S2 := by
  obtain ⟨S1', S2', r, h1, h2, hR⟩ := hop i S1 S2 (xs (i + 1)) (by omega) hrel
  refine vl_aload_n (n := 1229) 1 (dkL_34 (i := 0) rfl) rfl rfl ?_
  refine vl_aload_n (n := 1230) 0 (dkL_34 (i := 1) rfl) rfl rfl ?_
  refine vl_iload_n (n := 1231) 3 (dkL_34 (i := 2) rfl) rfl rfl ?_
  refine vl_iconst (n := 1232) 1 (dkL_34 (i := 3) rfl) rfl (by decide) ?_
  refine vl_iadd (n := 1233) (nI (i + 1)) (dkL_34 (i := 4) rfl) rfl (nI_add i 1) ?_
  refine vl_sld (n := 1234) (i := i + 1) hL (by omega) (dkL_34 (i := 5) rfl) rfl ?_
  refine vl_c1 (n := 1237) (emb2 := qe_m) (S1', r) [.int (xs (i + 1))] (dkL_34 (i := 6) rfl) rfl kvL_155 rfl rfl (Nat.le_of_ble_eq_true rfl) rfl rfl rfl h1 (wX11_hold (l, D, qc_ad B1 ax, cy) S1 (xs (i + 1))) ?_
  show VL l D cy ax B1 B2 b L xs X 1237 [(0, .ref b), (1, .ref (qc_ad B1 ax 0)), (2, .ref (qc_ad B2 ax 0)), (3, .int (nI i))] [.int r] S1' S2
  refine vl_aload_n (n := 1238) 2 (dkL_34 (i := 7) rfl) rfl rfl ?_
  refine vl_aload_n (n := 1239) 0 (dkL_34 (i := 8) rfl) rfl rfl ?_
  refine vl_iload_n (n := 1240) 3 (dkL_34 (i := 9) rfl) rfl rfl ?_
  refine vl_iconst (n := 1241) 1 (dkL_34 (i := 10) rfl) rfl (by decide) ?_
  refine vl_iadd (n := 1242) (nI (i + 1)) (dkL_34 (i := 11) rfl) rfl (nI_add i 1) ?_
  refine vl_sld (n := 1243) (i := i + 1) hL (by omega) (dkL_34 (i := 12) rfl) rfl ?_
  refine vl_c2 (n := 1246) (emb2 := qe_m) (S2', r) [.int (xs (i + 1))] (dkL_34 (i := 13) rfl) rfl kvL_159 rfl rfl (Nat.le_of_ble_eq_true rfl) rfl rfl rfl h2 (wX12_hold (l, D, qc_ad B2 ax, cy) S2 (xs (i + 1))) ?_
  show VL l D cy ax B1 B2 b L xs X 1246 [(0, .ref b), (1, .ref (qc_ad B1 ax 0)), (2, .ref (qc_ad B2 ax 0)), (3, .int (nI i))] [.int r, .int r] S1' S2'
  refine vl_same (t := 1297) (dkL_34 (i := 14) rfl) (by decide) ?_
  exact hnext S1' S2' hR
def tbL_35 : List (Nat × Instr × Nat) := [(1251, .aload_n 1, 1), (1252, .aload_n 0, 1), (1253, .iload_n 3, 1), (1254, .iconst 1, 1), (1255, .iadd, 1), (1256, .iaload, 1), (1257, .invokevirtual 160, 3), (1260, .aload_n 2, 1), (1261, .aload_n 0, 1), (1262, .iload_n 3, 1), (1263, .iconst 1, 1), (1264, .iadd, 1), (1265, .iaload, 1), (1266, .invokevirtual 163, 3), (1269, .if_icmp .eq 28, 3), (1272, .iconst 0, 1), (1273, .ireturn, 1)]
set_option maxRecDepth 20000 in
theorem daL_35 : ∀ x ∈ tbL_35, decode code x.1 = .ok x.2 := by decide +kernel
theorem dkL_35 {i pc n : Nat} {ins : Instr} (h : tbL_35[i]? = some (pc, ins, n)) : decode code pc = .ok (ins, n) := daL_35 (pc, ins, n) (List.mem_of_getElem? h)
set_option maxRecDepth 20000 in
set_option maxHeartbeats 4000000 in
/-- restore -/
theorem law_case_35 {Rel : Nat → qv_St → qv_St → Prop} (hop : ∀ (i : Nat) (S1 S2 : qv_St) (a1 : Int32), i + 6 ≤ 3072 → Rel i S1 S2 → ∃ (S1' : qv_St) (S2' : qv_St) (r : Int32), fX11_restore S1 a1 = some (S1', r) ∧ fX12_restore S2 a1 = some (S2', r) ∧ Rel (i + 6) S1' S2') {l : Launch} {D : va_G} {cy ax : Nat → Nat} {B1 B2 b L : Nat} {xs : Nat → Int32} {X : qv_XT} (hL : L ≤ 3072) {i : Nat} (hi : i + 6 ≤ L) (hnext : ∀ S1 S2 : qv_St, Rel (i + 6) S1 S2 → VL l D cy ax B1 B2 b L xs X 1297 [(0, .ref b), (1, .ref (qc_ad B1 ax 0)), (2, .ref (qc_ad B2 ax 0)), (3, .int (nI i))] [] S1 S2) (S1 S2 : qv_St) (hrel : Rel i S1 S2) : VL l D cy ax B1 B2 b L xs X 1251 [(0, .ref b), (1, .ref (qc_ad B1 ax 0)), (2, .ref (qc_ad B2 ax 0)), (3, .int (nI i))] [] S1 S2 := by
  obtain ⟨S1', S2', r, h1, h2, hR⟩ := hop i S1 S2 (xs (i + 1)) (by omega) hrel
  refine vl_aload_n (n := 1252) 1 (dkL_35 (i := 0) rfl) rfl rfl ?_
  refine vl_aload_n (n := 1253) 0 (dkL_35 (i := 1) rfl) rfl rfl ?_
  refine vl_iload_n (n := 1254) 3 (dkL_35 (i := 2) rfl) rfl rfl ?_
  refine vl_iconst (n := 1255) 1 (dkL_35 (i := 3) rfl) rfl (by decide) ?_
  refine vl_iadd (n := 1256) (nI (i + 1)) (dkL_35 (i := 4) rfl) rfl (nI_add i 1) ?_
  refine vl_sld (n := 1257) (i := i + 1) hL (by omega) (dkL_35 (i := 5) rfl) rfl ?_
  refine vl_c1 (n := 1260) (emb2 := qe_m) (S1', r) [.int (xs (i + 1))] (dkL_35 (i := 6) rfl) rfl kvL_160 rfl rfl (Nat.le_of_ble_eq_true rfl) rfl rfl rfl h1 (wX11_restore (l, D, qc_ad B1 ax, cy) S1 (xs (i + 1))) ?_
  show VL l D cy ax B1 B2 b L xs X 1260 [(0, .ref b), (1, .ref (qc_ad B1 ax 0)), (2, .ref (qc_ad B2 ax 0)), (3, .int (nI i))] [.int r] S1' S2
  refine vl_aload_n (n := 1261) 2 (dkL_35 (i := 7) rfl) rfl rfl ?_
  refine vl_aload_n (n := 1262) 0 (dkL_35 (i := 8) rfl) rfl rfl ?_
  refine vl_iload_n (n := 1263) 3 (dkL_35 (i := 9) rfl) rfl rfl ?_
  refine vl_iconst (n := 1264) 1 (dkL_35 (i := 10) rfl) rfl (by decide) ?_
  refine vl_iadd (n := 1265) (nI (i + 1)) (dkL_35 (i := 11) rfl) rfl (nI_add i 1) ?_
  refine vl_sld (n := 1266) (i := i + 1) hL (by omega) (dkL_35 (i := 12) rfl) rfl ?_
  refine vl_c2 (n := 1269) (emb2 := qe_m) (S2', r) [.int (xs (i + 1))] (dkL_35 (i := 13) rfl) rfl kvL_163 rfl rfl (Nat.le_of_ble_eq_true rfl) rfl rfl rfl h2 (wX12_restore (l, D, qc_ad B2 ax, cy) S2 (xs (i + 1))) ?_
  show VL l D cy ax B1 B2 b L xs X 1269 [(0, .ref b), (1, .ref (qc_ad B1 ax 0)), (2, .ref (qc_ad B2 ax 0)), (3, .int (nI i))] [.int r, .int r] S1' S2'
  refine vl_same (t := 1297) (dkL_35 (i := 14) rfl) (by decide) ?_
  exact hnext S1' S2' hR
def tbL_36 : List (Nat × Instr × Nat) := [(1274, .aload_n 1, 1), (1275, .aload_n 0, 1), (1276, .iload_n 3, 1), (1277, .iconst 1, 1), (1278, .iadd, 1), (1279, .iaload, 1), (1280, .invokevirtual 164, 3), (1283, .aload_n 2, 1), (1284, .aload_n 0, 1), (1285, .iload_n 3, 1), (1286, .iconst 1, 1), (1287, .iadd, 1), (1288, .iaload, 1), (1289, .invokevirtual 167, 3), (1292, .if_icmp .eq 5, 3), (1295, .iconst 0, 1), (1296, .ireturn, 1)]
set_option maxRecDepth 20000 in
theorem daL_36 : ∀ x ∈ tbL_36, decode code x.1 = .ok x.2 := by decide +kernel
theorem dkL_36 {i pc n : Nat} {ins : Instr} (h : tbL_36[i]? = some (pc, ins, n)) : decode code pc = .ok (ins, n) := daL_36 (pc, ins, n) (List.mem_of_getElem? h)
set_option maxRecDepth 20000 in
set_option maxHeartbeats 4000000 in
/-- count -/
theorem law_case_36 {Rel : Nat → qv_St → qv_St → Prop} (hop : ∀ (i : Nat) (S1 S2 : qv_St) (a1 : Int32), i + 6 ≤ 3072 → Rel i S1 S2 → ∃ (S1' : qv_St) (S2' : qv_St) (r : Int32), fX11_count S1 a1 = some (S1', r) ∧ fX12_count S2 a1 = some (S2', r) ∧ Rel (i + 6) S1' S2') {l : Launch} {D : va_G} {cy ax : Nat → Nat} {B1 B2 b L : Nat} {xs : Nat → Int32} {X : qv_XT} (hL : L ≤ 3072) {i : Nat} (hi : i + 6 ≤ L) (hnext : ∀ S1 S2 : qv_St, Rel (i + 6) S1 S2 → VL l D cy ax B1 B2 b L xs X 1297 [(0, .ref b), (1, .ref (qc_ad B1 ax 0)), (2, .ref (qc_ad B2 ax 0)), (3, .int (nI i))] [] S1 S2) (S1 S2 : qv_St) (hrel : Rel i S1 S2) : VL l D cy ax B1 B2 b L xs X 1274 [(0, .ref b), (1, .ref (qc_ad B1 ax 0)), (2, .ref (qc_ad B2 ax 0)), (3, .int (nI i))] [] S1 S2 := by
  obtain ⟨S1', S2', r, h1, h2, hR⟩ := hop i S1 S2 (xs (i + 1)) (by omega) hrel
  refine vl_aload_n (n := 1275) 1 (dkL_36 (i := 0) rfl) rfl rfl ?_
  refine vl_aload_n (n := 1276) 0 (dkL_36 (i := 1) rfl) rfl rfl ?_
  refine vl_iload_n (n := 1277) 3 (dkL_36 (i := 2) rfl) rfl rfl ?_
  refine vl_iconst (n := 1278) 1 (dkL_36 (i := 3) rfl) rfl (by decide) ?_
  refine vl_iadd (n := 1279) (nI (i + 1)) (dkL_36 (i := 4) rfl) rfl (nI_add i 1) ?_
  refine vl_sld (n := 1280) (i := i + 1) hL (by omega) (dkL_36 (i := 5) rfl) rfl ?_
  refine vl_c1 (n := 1283) (emb2 := qe_m) (S1', r) [.int (xs (i + 1))] (dkL_36 (i := 6) rfl) rfl kvL_164 rfl rfl (Nat.le_of_ble_eq_true rfl) rfl rfl rfl h1 (wX11_count (l, D, qc_ad B1 ax, cy) S1 (xs (i + 1))) ?_
  show VL l D cy ax B1 B2 b L xs X 1283 [(0, .ref b), (1, .ref (qc_ad B1 ax 0)), (2, .ref (qc_ad B2 ax 0)), (3, .int (nI i))] [.int r] S1' S2
  refine vl_aload_n (n := 1284) 2 (dkL_36 (i := 7) rfl) rfl rfl ?_
  refine vl_aload_n (n := 1285) 0 (dkL_36 (i := 8) rfl) rfl rfl ?_
  refine vl_iload_n (n := 1286) 3 (dkL_36 (i := 9) rfl) rfl rfl ?_
  refine vl_iconst (n := 1287) 1 (dkL_36 (i := 10) rfl) rfl (by decide) ?_
  refine vl_iadd (n := 1288) (nI (i + 1)) (dkL_36 (i := 11) rfl) rfl (nI_add i 1) ?_
  refine vl_sld (n := 1289) (i := i + 1) hL (by omega) (dkL_36 (i := 12) rfl) rfl ?_
  refine vl_c2 (n := 1292) (emb2 := qe_m) (S2', r) [.int (xs (i + 1))] (dkL_36 (i := 13) rfl) rfl kvL_167 rfl rfl (Nat.le_of_ble_eq_true rfl) rfl rfl rfl h2 (wX12_count (l, D, qc_ad B2 ax, cy) S2 (xs (i + 1))) ?_
  show VL l D cy ax B1 B2 b L xs X 1292 [(0, .ref b), (1, .ref (qc_ad B1 ax 0)), (2, .ref (qc_ad B2 ax 0)), (3, .int (nI i))] [.int r, .int r] S1' S2'
  refine vl_same (t := 1297) (dkL_36 (i := 14) rfl) (by decide) ?_
  exact hnext S1' S2' hR
