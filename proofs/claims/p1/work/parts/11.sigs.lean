/-! ===== the methods that the runs reach: names, code, locals, answers; the words of the classes ===== -/
def xNw : Cond → Bool
  | .fieldLinkNest .. => true
  | .methodLinkNest .. => true
  | _ => false
theorem xN_of {w : Cond} (h : w ∈ lw_tbl) (hg : xNw w = true) : w ∈ xN := List.mem_filter.mpr ⟨h, by cases w <;> exact hg⟩
theorem xT_c0 {w : Cond} (i : Nat) (h : (k2_sels lw_privs)[i]? = some w) (hg : goodWord w = true) : w ∈ xT := List.mem_filter.mpr ⟨(List.mem_append_left _ (List.mem_of_getElem? h) : w ∈ lw_tbl), hg⟩
theorem xT_c1 {w : Cond} (i : Nat) (h : (tables_1_1)[i]? = some w) (hg : goodWord w = true) : w ∈ xT := List.mem_filter.mpr ⟨(List.mem_append_right _ (List.mem_append_left _ (List.mem_of_getElem? h)) : w ∈ lw_tbl), hg⟩
theorem xT_c2 {w : Cond} (i : Nat) (h : (tables_1_2)[i]? = some w) (hg : goodWord w = true) : w ∈ xT := List.mem_filter.mpr ⟨(List.mem_append_right _ (List.mem_append_right _ (List.mem_append_left _ (List.mem_of_getElem? h))) : w ∈ lw_tbl), hg⟩
theorem xT_c3 {w : Cond} (i : Nat) (h : (tables_1_3)[i]? = some w) (hg : goodWord w = true) : w ∈ xT := List.mem_filter.mpr ⟨(List.mem_append_right _ (List.mem_append_right _ (List.mem_append_right _ (List.mem_append_left _ (List.mem_of_getElem? h)))) : w ∈ lw_tbl), hg⟩
theorem xT_c4 {w : Cond} (i : Nat) (h : (tables_1_4)[i]? = some w) (hg : goodWord w = true) : w ∈ xT := List.mem_filter.mpr ⟨(List.mem_append_right _ (List.mem_append_right _ (List.mem_append_right _ (List.mem_append_right _ (List.mem_append_left _ (List.mem_of_getElem? h))))) : w ∈ lw_tbl), hg⟩
theorem xT_c5 {w : Cond} (i : Nat) (h : (tables_1_5)[i]? = some w) (hg : goodWord w = true) : w ∈ xT := List.mem_filter.mpr ⟨(List.mem_append_right _ (List.mem_append_right _ (List.mem_append_right _ (List.mem_append_right _ (List.mem_append_right _ (List.mem_append_left _ (List.mem_of_getElem? h)))))) : w ∈ lw_tbl), hg⟩
theorem xT_c6 {w : Cond} (i : Nat) (h : (tables_1_6)[i]? = some w) (hg : goodWord w = true) : w ∈ xT := List.mem_filter.mpr ⟨(List.mem_append_right _ (List.mem_append_right _ (List.mem_append_right _ (List.mem_append_right _ (List.mem_append_right _ (List.mem_append_right _ (List.mem_append_left _ (List.mem_of_getElem? h))))))) : w ∈ lw_tbl), hg⟩
theorem xT_c7 {w : Cond} (i : Nat) (h : (tables_1_7)[i]? = some w) (hg : goodWord w = true) : w ∈ xT := List.mem_filter.mpr ⟨(List.mem_append_right _ (List.mem_append_right _ (List.mem_append_right _ (List.mem_append_right _ (List.mem_append_right _ (List.mem_append_right _ (List.mem_append_right _ (List.mem_append_left _ (List.mem_of_getElem? h)))))))) : w ∈ lw_tbl), hg⟩
theorem xT_c8 {w : Cond} (i : Nat) (h : (tables_1_8)[i]? = some w) (hg : goodWord w = true) : w ∈ xT := List.mem_filter.mpr ⟨(List.mem_append_right _ (List.mem_append_right _ (List.mem_append_right _ (List.mem_append_right _ (List.mem_append_right _ (List.mem_append_right _ (List.mem_append_right _ (List.mem_append_right _ (List.mem_append_left _ (List.mem_of_getElem? h))))))))) : w ∈ lw_tbl), hg⟩
theorem xT_c9 {w : Cond} (i : Nat) (h : (tables_1_9)[i]? = some w) (hg : goodWord w = true) : w ∈ xT := List.mem_filter.mpr ⟨(List.mem_append_right _ (List.mem_append_right _ (List.mem_append_right _ (List.mem_append_right _ (List.mem_append_right _ (List.mem_append_right _ (List.mem_append_right _ (List.mem_append_right _ (List.mem_append_right _ (List.mem_of_getElem? h))))))))) : w ∈ lw_tbl), hg⟩
theorem xN_c0 {w : Cond} (i : Nat) (h : (k2_sels lw_privs)[i]? = some w) (hg : xNw w = true) : w ∈ xN := xN_of (List.mem_append_left _ (List.mem_of_getElem? h)) hg
theorem xN_c1 {w : Cond} (i : Nat) (h : (tables_1_1)[i]? = some w) (hg : xNw w = true) : w ∈ xN := xN_of (List.mem_append_right _ (List.mem_append_left _ (List.mem_of_getElem? h))) hg
theorem xN_c2 {w : Cond} (i : Nat) (h : (tables_1_2)[i]? = some w) (hg : xNw w = true) : w ∈ xN := xN_of (List.mem_append_right _ (List.mem_append_right _ (List.mem_append_left _ (List.mem_of_getElem? h)))) hg
theorem xN_c3 {w : Cond} (i : Nat) (h : (tables_1_3)[i]? = some w) (hg : xNw w = true) : w ∈ xN := xN_of (List.mem_append_right _ (List.mem_append_right _ (List.mem_append_right _ (List.mem_append_left _ (List.mem_of_getElem? h))))) hg
theorem xN_c4 {w : Cond} (i : Nat) (h : (tables_1_4)[i]? = some w) (hg : xNw w = true) : w ∈ xN := xN_of (List.mem_append_right _ (List.mem_append_right _ (List.mem_append_right _ (List.mem_append_right _ (List.mem_append_left _ (List.mem_of_getElem? h)))))) hg
theorem xN_c5 {w : Cond} (i : Nat) (h : (tables_1_5)[i]? = some w) (hg : xNw w = true) : w ∈ xN := xN_of (List.mem_append_right _ (List.mem_append_right _ (List.mem_append_right _ (List.mem_append_right _ (List.mem_append_right _ (List.mem_append_left _ (List.mem_of_getElem? h))))))) hg
theorem xN_c6 {w : Cond} (i : Nat) (h : (tables_1_6)[i]? = some w) (hg : xNw w = true) : w ∈ xN := xN_of (List.mem_append_right _ (List.mem_append_right _ (List.mem_append_right _ (List.mem_append_right _ (List.mem_append_right _ (List.mem_append_right _ (List.mem_append_left _ (List.mem_of_getElem? h)))))))) hg
theorem xN_c7 {w : Cond} (i : Nat) (h : (tables_1_7)[i]? = some w) (hg : xNw w = true) : w ∈ xN := xN_of (List.mem_append_right _ (List.mem_append_right _ (List.mem_append_right _ (List.mem_append_right _ (List.mem_append_right _ (List.mem_append_right _ (List.mem_append_right _ (List.mem_append_left _ (List.mem_of_getElem? h))))))))) hg
theorem xN_c8 {w : Cond} (i : Nat) (h : (tables_1_8)[i]? = some w) (hg : xNw w = true) : w ∈ xN := xN_of (List.mem_append_right _ (List.mem_append_right _ (List.mem_append_right _ (List.mem_append_right _ (List.mem_append_right _ (List.mem_append_right _ (List.mem_append_right _ (List.mem_append_right _ (List.mem_append_left _ (List.mem_of_getElem? h)))))))))) hg
theorem xN_c9 {w : Cond} (i : Nat) (h : (tables_1_9)[i]? = some w) (hg : xNw w = true) : w ∈ xN := xN_of (List.mem_append_right _ (List.mem_append_right _ (List.mem_append_right _ (List.mem_append_right _ (List.mem_append_right _ (List.mem_append_right _ (List.mem_append_right _ (List.mem_append_right _ (List.mem_append_right _ (List.mem_of_getElem? h)))))))))) hg
theorem inX0 : ∀ w ∈ u_ws RX0 TX0 7, w ∈ xT := xT_all [520, 522, 524, 526, 528, 530, 532] (by decide +kernel) (by decide +kernel)
theorem inX1 : ∀ w ∈ u_ws RX1 TX1 8, w ∈ xT := xT_all [483, 485, 487, 489, 491, 493, 495, 497] (by decide +kernel) (by decide +kernel)
theorem inX2 : ∀ w ∈ u_ws RX2 TX2 15, w ∈ xT := xT_all [566, 568, 570, 572, 574, 576, 578, 580, 582, 584, 586, 588, 590, 592, 594] (by decide +kernel) (by decide +kernel)
theorem inX3 : ∀ w ∈ u_ws RX3 TX3 4, w ∈ xT := xT_all [655, 657, 659, 661] (by decide +kernel) (by decide +kernel)
theorem inX4 : ∀ w ∈ u_ws RX4 TX4 15, w ∈ xT := xT_all [354, 356, 358, 360, 362, 364, 366, 368, 370, 372, 374, 376, 378, 380, 382] (by decide +kernel) (by decide +kernel)
theorem inX5 : ∀ w ∈ u_ws RX5 TX5 4, w ∈ xT := xT_all [444, 446, 448, 450] (by decide +kernel) (by decide +kernel)
theorem inX6 : ∀ w ∈ u_ws RX6 TX6 3, w ∈ xT := xT_all [217, 219, 221] (by decide +kernel) (by decide +kernel)
theorem inX7 : ∀ w ∈ u_ws RX7 TX7 10, w ∈ xT := xT_all [413, 415, 417, 419, 421, 423, 425, 427, 429, 431] (by decide +kernel) (by decide +kernel)
theorem inX8 : ∀ w ∈ u_ws RX8 TX8 11, w ∈ xT := xT_all [619, 621, 623, 625, 627, 629, 631, 633, 635, 637, 639] (by decide +kernel) (by decide +kernel)
theorem inX9 : ∀ w ∈ u_ws RX9 TX9 8, w ∈ xT := xT_all [264, 266, 268, 270, 272, 274, 276, 278] (by decide +kernel) (by decide +kernel)
theorem inX10 : ∀ w ∈ u_ws RX10 TX10 3, w ∈ xT := xT_all [462, 464, 466] (by decide +kernel) (by decide +kernel)
theorem inX11 : ∀ w ∈ u_ws RX11 TX11 13, w ∈ xT := xT_all [677, 679, 681, 683, 685, 687, 689, 691, 693, 695, 697, 699, 701] (by decide +kernel) (by decide +kernel)
theorem inX12 : ∀ w ∈ u_ws RX12 TX12 125, w ∈ xT := xT_all [1550, 1552, 1554, 1556, 1558, 1560, 1562, 1564, 1566, 1568, 1570, 1572, 1574, 1576, 1578, 1580, 1582, 1584, 1586, 1588, 1590, 1592, 1594, 1596, 1598, 1600, 1602, 1604, 1606, 1608, 1610, 1612, 1614, 1616, 1618, 1620, 1622, 1624, 1626, 1628, 1630, 1632, 1634, 1636, 1638, 1640, 1642, 1644, 1646, 1648, 1650, 1652, 1654, 1656, 1658, 1660, 1662, 1664, 1666, 1668, 1670, 1672, 1674, 1676, 1678, 1680, 1682, 1684, 1686, 1688, 1690, 1692, 1694, 1696, 1698, 1700, 1702, 1704, 1706, 1708, 1710, 1712, 1714, 1716, 1718, 1720, 1722, 1724, 1726, 1728, 1730, 1732, 1734, 1736, 1738, 1740, 1742, 1744, 1746, 1748, 1750, 1752, 1754, 1756, 1758, 1760, 1762, 1764, 1766, 1768, 1770, 1772, 1774, 1776, 1778, 1780, 1782, 1784, 1786, 1788, 1790, 1792, 1794, 1796, 1798] (by decide +kernel) (by decide +kernel)
theorem xw_o2 : Cond.instanceMethod objectInit ∈ xT := (xT_c1 27 rfl rfl)
theorem xw_o3 : Cond.code objectInit ⟨#[0xb1]⟩ 1 none ∈ xT := (xT_c1 28 rfl rfl)
def xm_0 : xM := (yX11_init, cX11_init, 2, none)
def xm_1 : xM := (yX11_feed, cX11_feed, 7, some .int)
def xm_2 : xM := (yX11_program, cX11_program, 2, some .int)
def xm_3 : xM := (yX11_implementing, cX11_implementing, 3, some .int)
def xm_4 : xM := (yX11_run, cX11_run, 2, some .int)
def xm_5 : xM := (yX11_failed, cX11_failed, 1, some .int)
def xm_6 : xM := (yX11_calls, cX11_calls, 1, some .int)
def xm_7 : xM := (yX11_instances, cX11_instances, 1, some .int)
def xm_8 : xM := (yX11_made, cX11_made, 2, some .int)
def xm_9 : xM := (yX11_isMade, cX11_isMade, 2, some .int)
def xm_10 : xM := (yX11_print, cX11_print, 2, some .int)
def xm_11 : xM := (yX11_out, cX11_out, 2, some .int)
def xm_12 : xM := (yX11_count, cX11_count, 2, some .int)
def xm_13 : xM := (yX11_takeSigns, cX11_takeSigns, 5, none)
def xm_14 : xM := (yX11_readTape, cX11_readTape, 2, some .int)
def xm_15 : xM := (yX0_init, cX0_init, 3, none)
def xm_16 : xM := (yX1_init, cX1_init, 4, none)
def xm_17 : xM := (yX1_check, cX1_check, 7, none)
def xm_18 : xM := (yX2_init, cX2_init, 4, none)
def xm_19 : xM := (yX3_init, cX3_init, 2, none)
def xm_20 : xM := (yX4_init, cX4_init, 2, none)
def xm_21 : xM := (yX4_begin, cX4_begin, 2, none)
def xm_22 : xM := (yX4_typeCount, cX4_typeCount, 1, some .int)
def xm_23 : xM := (yX4_funcCount, cX4_funcCount, 1, some .int)
def xm_24 : xM := (yX4_sigCount, cX4_sigCount, 1, some .int)
def xm_25 : xM := (yX4_slotCount, cX4_slotCount, 1, some .int)
def xm_26 : xM := (yX4_declCount, cX4_declCount, 1, some .int)
def xm_27 : xM := (yX4_addType, cX4_addType, 7, none)
def xm_28 : xM := (yX4_addDecl, cX4_addDecl, 3, none)
def xm_29 : xM := (yX5_init, cX5_init, 2, none)
def xm_30 : xM := (yX5_read, cX5_read, 3, none)
def xm_31 : xM := (yX5_readType, cX5_readType, 8, none)
def xm_32 : xM := (yX5_passValue, cX5_passValue, 5, none)
def xm_33 : xM := (yX5_took, cX5_took, 3, some .boolean)
def xm_34 : xM := (yX5_expect, cX5_expect, 2, none)
def xm_35 : xM := (yX5_expectFirst, cX5_expectFirst, 2, none)
def xm_36 : xM := (yX6_init, cX6_init, 3, none)
def xm_37 : xM := (yX6_get, cX6_get, 2, some .int)
def xm_38 : xM := (yX6_set, cX6_set, 3, none)
def xm_39 : xM := (yX6_add, cX6_add, 2, none)
def xm_40 : xM := (yX6_clear, cX6_clear, 1, none)
def xm_41 : xM := (yX7_init, cX7_init, 2, none)
def xm_42 : xM := (yX7_use, cX7_use, 3, none)
def xm_43 : xM := (yX7_enter, cX7_enter, 4, none)
def xm_44 : xM := (yX8_init, cX8_init, 3, none)
def xm_45 : xM := (yX9_init, cX9_init, 1, none)
def xm_46 : xM := (yX9_scan, cX9_scan, 4, none)
def xm_47 : xM := (yX9_addToken, cX9_addToken, 5, none)
def xm_48 : xM := (yX10_init, cX10_init, 3, none)
def xm_49 : xM := (yX10_use, cX10_use, 3, none)
def xm_50 : xM := (yX10_findTwice, cX10_findTwice, 4, none)
def xm_51 : xM := (yX10_tellAll, cX10_tellAll, 5, none)
def xm_52 : xM := (yX10_lookAtAll, cX10_lookAtAll, 5, none)
def xm_53 : xM := (yX10_findHoldingItself, cX10_findHoldingItself, 6, none)
def xm_54 : xM := (yX12_init, cX12_init, 1, none)
def xm_55 : xM := (yX12_feed, cX12_feed, 7, some .int)
def xm_56 : xM := (yX12_lay, cX12_lay, 5, none)
def xm_57 : xM := (yX12_rank, cX12_rank, 1, some .int)
def xm_58 : xM := (yX12_wordOf, cX12_wordOf, 7, some .int)
def xm_59 : xM := (yX12_keptWords, cX12_keptWords, 6, none)
def xm_60 : xM := (yX12_cutAll, cX12_cutAll, 10, none)
def xm_61 : xM := (yX12_wrong, cX12_wrong, 3, none)
def xm_62 : xM := (yX12_isSign, cX12_isSign, 2, some .boolean)
def xm_63 : xM := (yX12_isWord, cX12_isWord, 2, some .boolean)
def xm_64 : xM := (yX12_isName, cX12_isName, 1, some .boolean)
def xm_65 : xM := (yX12_takeSign, cX12_takeSign, 2, none)
def xm_66 : xM := (yX12_takeWord, cX12_takeWord, 2, none)
def xm_67 : xM := (yX12_node, cX12_node, 2, some .int)
def xm_68 : xM := (yX12_within, cX12_within, 2, none)
def xm_69 : xM := (yX12_takeType, cX12_takeType, 2, some .int)
def xm_70 : xM := (yX12_readAll, cX12_readAll, 1, none)
def xm_71 : xM := (yX12_program, cX12_program, 3, some .int)
def xm_72 : xM := (yX12_askedType, cX12_askedType, 2, some .int)
def xm_73 : xM := (yX12_asks, cX12_asks, 1, none)
def xm_74 : xM := (yX12_implementing, cX12_implementing, 4, some .int)
def xm_75 : xM := (yX12_run, cX12_run, 3, some .int)
def xm_76 : xM := (yX12_failed, cX12_failed, 1, some .int)
def xm_77 : xM := (yX12_calls, cX12_calls, 1, some .int)
def xm_78 : xM := (yX12_instances, cX12_instances, 5, some .int)
def xm_79 : xM := (yX12_made, cX12_made, 2, some .int)
def xm_80 : xM := (yX12_isMade, cX12_isMade, 4, some .int)
def xm_81 : xM := (yX12_print, cX12_print, 3, some .int)
def xm_82 : xM := (yX12_out, cX12_out, 2, some .int)
def xm_83 : xM := (yX12_count, cX12_count, 2, some .int)
def xsgL : List xM := [xm_0, xm_1, xm_2, xm_3, xm_4, xm_5, xm_6, xm_7, xm_8, xm_9, xm_10, xm_11, xm_12, xm_13, xm_14, xm_15, xm_16, xm_17, xm_18, xm_19, xm_20, xm_21, xm_22, xm_23, xm_24, xm_25, xm_26, xm_27, xm_28, xm_29, xm_30, xm_31, xm_32, xm_33, xm_34, xm_35, xm_36, xm_37, xm_38, xm_39, xm_40, xm_41, xm_42, xm_43, xm_44, xm_45, xm_46, xm_47, xm_48, xm_49, xm_50, xm_51, xm_52, xm_53, xm_54, xm_55, xm_56, xm_57, xm_58, xm_59, xm_60, xm_61, xm_62, xm_63, xm_64, xm_65, xm_66, xm_67, xm_68, xm_69, xm_70, xm_71, xm_72, xm_73, xm_74, xm_75, xm_76, xm_77, xm_78, xm_79, xm_80, xm_81, xm_82, xm_83]
def xsg (i : Nat) : Option xM := xsgL[i]?
theorem xn_0 : xcB xm_0 0 := ⟨(xT_c1 25 rfl rfl), (xT_c1 1 rfl rfl), by decide +kernel, by decide⟩
theorem xn_1 : xcB xm_1 3 := ⟨(xT_c3 61 rfl rfl), (xT_c1 1 rfl rfl), by decide +kernel, by decide⟩
theorem xn_2 : xcB xm_2 0 := ⟨(xT_c3 74 rfl rfl), (xT_c1 1 rfl rfl), by decide +kernel, by decide⟩
theorem xn_3 : xcB xm_3 0 := ⟨(xT_c5 63 rfl rfl), (xT_c1 1 rfl rfl), by decide +kernel, by decide⟩
theorem xn_4 : xcB xm_4 1 := ⟨(xT_c5 91 rfl rfl), (xT_c1 1 rfl rfl), by decide +kernel, by decide⟩
theorem xn_5 : xcB xm_5 0 := ⟨(xT_c5 161 rfl rfl), (xT_c1 1 rfl rfl), by decide +kernel, by decide⟩
theorem xn_6 : xcB xm_6 0 := ⟨(xT_c5 165 rfl rfl), (xT_c1 1 rfl rfl), by decide +kernel, by decide⟩
theorem xn_7 : xcB xm_7 0 := ⟨(xT_c5 169 rfl rfl), (xT_c1 1 rfl rfl), by decide +kernel, by decide⟩
theorem xn_8 : xcB xm_8 1 := ⟨(xT_c6 2 rfl rfl), (xT_c1 1 rfl rfl), by decide +kernel, by decide⟩
theorem xn_9 : xcB xm_9 0 := ⟨(xT_c6 9 rfl rfl), (xT_c1 1 rfl rfl), by decide +kernel, by decide⟩
theorem xn_10 : xcB xm_10 1 := ⟨(xT_c6 14 rfl rfl), (xT_c1 1 rfl rfl), by decide +kernel, by decide⟩
theorem xn_11 : xcB xm_11 1 := ⟨(xT_c6 44 rfl rfl), (xT_c1 1 rfl rfl), by decide +kernel, by decide⟩
theorem xn_12 : xcB xm_12 1 := ⟨(xT_c6 49 rfl rfl), (xT_c1 1 rfl rfl), by decide +kernel, by decide⟩
theorem xn_13 : xcB xm_13 1 := ⟨(xT_c3 65 rfl rfl), (xT_c1 1 rfl rfl), by decide +kernel, by decide⟩
theorem xn_14 : xcB xm_14 1 := ⟨(xT_c5 67 rfl rfl), (xT_c1 1 rfl rfl), by decide +kernel, by decide⟩
theorem xn_15 : xcB xm_15 2 := ⟨(xT_c2 98 rfl rfl), (xT_c1 12 rfl rfl), by decide +kernel, by decide⟩
theorem xn_16 : xcB xm_16 3 := ⟨(xT_c2 67 rfl rfl), (xT_c1 11 rfl rfl), by decide +kernel, by decide⟩
theorem xn_17 : xcB xm_17 1 := ⟨(xT_c4 219 rfl rfl), (xT_c1 11 rfl rfl), by decide +kernel, by decide⟩
theorem xn_18 : xcB xm_18 2 := ⟨(xT_c2 133 rfl rfl), (xT_c1 13 rfl rfl), by decide +kernel, by decide⟩
theorem xn_19 : xcB xm_19 1 := ⟨(xT_c3 0 rfl rfl), (xT_c1 15 rfl rfl), by decide +kernel, by decide⟩
theorem xn_20 : xcB xm_20 0 := ⟨(xT_c1 63 rfl rfl), (xT_c1 4 rfl rfl), by decide +kernel, by decide⟩
theorem xn_21 : xcB xm_21 1 := ⟨(xT_c3 78 rfl rfl), (xT_c1 4 rfl rfl), by decide +kernel, by decide⟩
theorem xn_22 : xcB xm_22 0 := ⟨(xT_c4 51 rfl rfl), (xT_c1 4 rfl rfl), by decide +kernel, by decide⟩
theorem xn_23 : xcB xm_23 0 := ⟨(xT_c3 202 rfl rfl), (xT_c1 4 rfl rfl), by decide +kernel, by decide⟩
theorem xn_24 : xcB xm_24 0 := ⟨(xT_c3 219 rfl rfl), (xT_c1 4 rfl rfl), by decide +kernel, by decide⟩
theorem xn_25 : xcB xm_25 0 := ⟨(xT_c3 215 rfl rfl), (xT_c1 4 rfl rfl), by decide +kernel, by decide⟩
theorem xn_26 : xcB xm_26 0 := ⟨(xT_c4 69 rfl rfl), (xT_c1 4 rfl rfl), by decide +kernel, by decide⟩
theorem xn_27 : xcB xm_27 6 := ⟨(xT_c4 55 rfl rfl), (xT_c1 4 rfl rfl), by decide +kernel, by decide⟩
theorem xn_28 : xcB xm_28 2 := ⟨(xT_c4 38 rfl rfl), (xT_c1 4 rfl rfl), by decide +kernel, by decide⟩
theorem xn_29 : xcB xm_29 1 := ⟨(xT_c2 32 rfl rfl), (xT_c1 9 rfl rfl), by decide +kernel, by decide⟩
theorem xn_30 : xcB xm_30 1 := ⟨(xT_c3 193 rfl rfl), (xT_c1 9 rfl rfl), by decide +kernel, by decide⟩
theorem xn_31 : xcB xm_31 0 := ⟨(xT_c4 47 rfl rfl), (xT_c1 9 rfl rfl), by decide +kernel, by decide⟩
theorem xn_32 : xcB xm_32 2 := ⟨(xT_c4 21 rfl rfl), (xT_c1 9 rfl rfl), by decide +kernel, by decide⟩
theorem xn_33 : xcB xm_33 1 := ⟨(xT_c3 228 rfl rfl), (xT_c1 9 rfl rfl), by decide +kernel, by decide⟩
theorem xn_34 : xcB xm_34 1 := ⟨(xT_c3 211 rfl rfl), (xT_c1 9 rfl rfl), by decide +kernel, by decide⟩
theorem xn_35 : xcB xm_35 1 := ⟨(xT_c3 236 rfl rfl), (xT_c1 9 rfl rfl), by decide +kernel, by decide⟩
theorem xn_36 : xcB xm_36 2 := ⟨(xT_c1 33 rfl rfl), (xT_c1 2 rfl rfl), by decide +kernel, by decide⟩
theorem xn_37 : xcB xm_37 1 := ⟨(xT_c3 90 rfl rfl), (xT_c1 2 rfl rfl), by decide +kernel, by decide⟩
theorem xn_38 : xcB xm_38 2 := ⟨(xT_c1 122 rfl rfl), (xT_c1 2 rfl rfl), by decide +kernel, by decide⟩
theorem xn_39 : xcB xm_39 1 := ⟨(xT_c3 69 rfl rfl), (xT_c1 2 rfl rfl), by decide +kernel, by decide⟩
theorem xn_40 : xcB xm_40 0 := ⟨(xT_c3 86 rfl rfl), (xT_c1 2 rfl rfl), by decide +kernel, by decide⟩
theorem xn_41 : xcB xm_41 1 := ⟨(xT_c1 223 rfl rfl), (xT_c1 8 rfl rfl), by decide +kernel, by decide⟩
theorem xn_42 : xcB xm_42 2 := ⟨(xT_c3 185 rfl rfl), (xT_c1 8 rfl rfl), by decide +kernel, by decide⟩
theorem xn_43 : xcB xm_43 3 := ⟨(xT_c3 189 rfl rfl), (xT_c1 8 rfl rfl), by decide +kernel, by decide⟩
theorem xn_44 : xcB xm_44 2 := ⟨(xT_c2 195 rfl rfl), (xT_c1 14 rfl rfl), by decide +kernel, by decide⟩
theorem xn_45 : xcB xm_45 0 := ⟨(xT_c1 69 rfl rfl), (xT_c1 5 rfl rfl), by decide +kernel, by decide⟩
theorem xn_46 : xcB xm_46 1 := ⟨(xT_c3 82 rfl rfl), (xT_c1 5 rfl rfl), by decide +kernel, by decide⟩
theorem xn_47 : xcB xm_47 3 := ⟨(xT_c3 106 rfl rfl), (xT_c1 5 rfl rfl), by decide +kernel, by decide⟩
theorem xn_48 : xcB xm_48 2 := ⟨(xT_c2 51 rfl rfl), (xT_c1 10 rfl rfl), by decide +kernel, by decide⟩
theorem xn_49 : xcB xm_49 2 := ⟨(xT_c4 64 rfl rfl), (xT_c1 10 rfl rfl), by decide +kernel, by decide⟩
theorem xn_50 : xcB xm_50 1 := ⟨(xT_c4 60 rfl rfl), (xT_c1 10 rfl rfl), by decide +kernel, by decide⟩
theorem xn_51 : xcB xm_51 1 := ⟨(xT_c4 119 rfl rfl), (xT_c1 10 rfl rfl), by decide +kernel, by decide⟩
theorem xn_52 : xcB xm_52 1 := ⟨(xT_c4 155 rfl rfl), (xT_c1 10 rfl rfl), by decide +kernel, by decide⟩
theorem xn_53 : xcB xm_53 1 := ⟨(xT_c4 211 rfl rfl), (xT_c1 10 rfl rfl), by decide +kernel, by decide⟩
theorem xn_54 : xcB xm_54 0 := ⟨(xT_c6 56 rfl rfl), (xT_c1 16 rfl rfl), by decide +kernel, by decide⟩
theorem xn_55 : xcB xm_55 3 := ⟨(xT_c7 200 rfl rfl), (xT_c1 16 rfl rfl), by decide +kernel, by decide⟩
theorem xn_56 : xcB xm_56 1 := ⟨(xT_c7 204 rfl rfl), (xT_c1 16 rfl rfl), by decide +kernel, by decide⟩
theorem xn_57 : xcB xm_57 1 := ⟨(xT_c7 222 rfl rfl), (xT_c1 16 rfl rfl), by decide +kernel, by decide⟩
theorem xn_58 : xcB xm_58 2 := ⟨(xT_c7 218 rfl rfl), (xT_c1 16 rfl rfl), by decide +kernel, by decide⟩
theorem xn_59 : xcB xm_59 0 := ⟨(xT_c7 212 rfl rfl), (xT_c1 16 rfl rfl), by decide +kernel, by decide⟩
theorem xn_60 : xcB xm_60 0 := ⟨(xT_c7 226 rfl rfl), (xT_c1 16 rfl rfl), by decide +kernel, by decide⟩
theorem xn_61 : xcB xm_61 2 := ⟨(xT_c8 11 rfl rfl), (xT_c1 16 rfl rfl), by decide +kernel, by decide⟩
theorem xn_62 : xcB xm_62 1 := ⟨(xT_c8 23 rfl rfl), (xT_c1 16 rfl rfl), by decide +kernel, by decide⟩
theorem xn_63 : xcB xm_63 1 := ⟨(xT_c8 3 rfl rfl), (xT_c1 16 rfl rfl), by decide +kernel, by decide⟩
theorem xn_64 : xcB xm_64 0 := ⟨(xT_c8 19 rfl rfl), (xT_c1 16 rfl rfl), by decide +kernel, by decide⟩
theorem xn_65 : xcB xm_65 1 := ⟨(xT_c8 31 rfl rfl), (xT_c1 16 rfl rfl), by decide +kernel, by decide⟩
theorem xn_66 : xcB xm_66 1 := ⟨(xT_c8 55 rfl rfl), (xT_c1 16 rfl rfl), by decide +kernel, by decide⟩
theorem xn_67 : xcB xm_67 1 := ⟨(xT_c8 43 rfl rfl), (xT_c1 16 rfl rfl), by decide +kernel, by decide⟩
theorem xn_68 : xcB xm_68 1 := ⟨(xT_c8 39 rfl rfl), (xT_c1 16 rfl rfl), by decide +kernel, by decide⟩
theorem xn_69 : xcB xm_69 0 := ⟨(xT_c8 35 rfl rfl), (xT_c1 16 rfl rfl), by decide +kernel, by decide⟩
theorem xn_70 : xcB xm_70 0 := ⟨(xT_c7 239 rfl rfl), (xT_c1 16 rfl rfl), by decide +kernel, by decide⟩
theorem xn_71 : xcB xm_71 0 := ⟨(xT_c7 208 rfl rfl), (xT_c1 16 rfl rfl), by decide +kernel, by decide⟩
theorem xn_72 : xcB xm_72 0 := ⟨(xT_c9 44 rfl rfl), (xT_c1 16 rfl rfl), by decide +kernel, by decide⟩
theorem xn_73 : xcB xm_73 0 := ⟨(xT_c9 40 rfl rfl), (xT_c1 16 rfl rfl), by decide +kernel, by decide⟩
theorem xn_74 : xcB xm_74 0 := ⟨(xT_c9 36 rfl rfl), (xT_c1 16 rfl rfl), by decide +kernel, by decide⟩
theorem xn_75 : xcB xm_75 1 := ⟨(xT_c9 52 rfl rfl), (xT_c1 16 rfl rfl), by decide +kernel, by decide⟩
theorem xn_76 : xcB xm_76 0 := ⟨(xT_c9 96 rfl rfl), (xT_c1 16 rfl rfl), by decide +kernel, by decide⟩
theorem xn_77 : xcB xm_77 0 := ⟨(xT_c9 100 rfl rfl), (xT_c1 16 rfl rfl), by decide +kernel, by decide⟩
theorem xn_78 : xcB xm_78 0 := ⟨(xT_c9 104 rfl rfl), (xT_c1 16 rfl rfl), by decide +kernel, by decide⟩
theorem xn_79 : xcB xm_79 1 := ⟨(xT_c9 140 rfl rfl), (xT_c1 16 rfl rfl), by decide +kernel, by decide⟩
theorem xn_80 : xcB xm_80 0 := ⟨(xT_c9 144 rfl rfl), (xT_c1 16 rfl rfl), by decide +kernel, by decide⟩
theorem xn_81 : xcB xm_81 1 := ⟨(xT_c9 148 rfl rfl), (xT_c1 16 rfl rfl), by decide +kernel, by decide⟩
theorem xn_82 : xcB xm_82 1 := ⟨(xT_c9 179 rfl rfl), (xT_c1 16 rfl rfl), by decide +kernel, by decide⟩
theorem xn_83 : xcB xm_83 1 := ⟨(xT_c9 183 rfl rfl), (xT_c1 16 rfl rfl), by decide +kernel, by decide⟩
