/-! THE ENGINE: what the tables say of the classes -/
def a_tyok (c : Nat) (ty : FieldType) (fin : Bool) : Bool := match c with
  | 0 => decide (ty = .int) && !fin
  | 1 => decide (ty = .long) && !fin
  | 2 => fin && (match ty with
    | .object _ => true
    | .array _ => true
    | _ => false)
  | 3 => decide (ty = .object a_TOK) && !fin
  | 4 => decide (ty = .boolean) && !fin
  | _ => false
def a_cok (ci : Nat) (C : String) (T : u_T) (N : Nat) (ty : Nat → FieldType) : Prop := vwCl[ci]? = some (C, T, N) ∧ N = a_clsN ci ∧ (∀ j, j < N → parseFieldDescriptor (T j).2.2.1 = some (ty j)) ∧ (∀ a, a < N → ∀ b, b < N → a ≠ b → (T a).2.1 ≠ (T b).2.1) ∧ (∀ w ∈ u_ws C T N, w ∈ a_LW) ∧ Cond.instantiable C N ∈ a_LW ∧ Cond.initialized C ∈ a_LW ∧ ∀ j, j < N → a_tyok (a_ty ci j) (ty j) (T j).2.2.2 = true
theorem a_in_LW {ws : List Cond} (ps : List Nat) (hp : ws = ps.filterMap (fun i => lw_tbl[i]?)) (h : ws.all goodWord = true) : ∀ w ∈ ws, w ∈ a_LW := fun w hw => by
  have h1 := List.all_eq_true.mp h w hw
  rw [hp] at hw
  obtain ⟨i, -, hi⟩ := List.mem_filterMap.mp hw
  exact a_LW_mem hi h1
set_option maxRecDepth 20000 in
theorem a_cw_0 : ∀ w ∈ u_ws RX1 TX1 7, w ∈ a_LW := a_in_LW [577, 579, 581, 583, 585, 587, 589] (by decide +kernel) (by decide +kernel)
set_option maxRecDepth 20000 in
theorem a_ck_0 : a_cok 0 RX1 TX1 7 tyX1 := ⟨rfl, by decide +kernel, tyX1_ok, nmX1, a_cw_0, a_lnk_in (i := 563) (by decide +kernel), a_lnk_in (i := 141) (by decide +kernel), by decide +kernel⟩
set_option maxRecDepth 20000 in
theorem a_cw_1 : ∀ w ∈ u_ws RX2 TX2 14, w ∈ a_LW := a_in_LW [214, 216, 218, 220, 222, 224, 226, 228, 230, 232, 234, 236, 238, 240] (by decide +kernel) (by decide +kernel)
set_option maxRecDepth 20000 in
theorem a_ck_1 : a_cok 1 RX2 TX2 14 tyX2 := ⟨rfl, by decide +kernel, tyX2_ok, nmX2, a_cw_1, a_lnk_in (i := 192) (by decide +kernel), a_lnk_in (i := 132) (by decide +kernel), by decide +kernel⟩
set_option maxRecDepth 20000 in
theorem a_cw_2 : ∀ w ∈ u_ws RX3 TX3 5, w ∈ a_LW := a_in_LW [473, 475, 477, 479, 481] (by decide +kernel) (by decide +kernel)
set_option maxRecDepth 20000 in
theorem a_ck_2 : a_cok 2 RX3 TX3 5 tyX3 := ⟨rfl, by decide +kernel, tyX3_ok, nmX3, a_cw_2, a_lnk_in (i := 457) (by decide +kernel), a_lnk_in (i := 138) (by decide +kernel), by decide +kernel⟩
set_option maxRecDepth 20000 in
theorem a_cw_3 : ∀ w ∈ u_ws RX4 TX4 10, w ∈ a_LW := a_in_LW [502, 504, 506, 508, 510, 512, 514, 516, 518, 520] (by decide +kernel) (by decide +kernel)
set_option maxRecDepth 20000 in
theorem a_ck_3 : a_cok 3 RX4 TX4 10 tyX4 := ⟨rfl, by decide +kernel, tyX4_ok, nmX4, a_cw_3, a_lnk_in (i := 485) (by decide +kernel), a_lnk_in (i := 139) (by decide +kernel), by decide +kernel⟩
set_option maxRecDepth 20000 in
theorem a_cw_4 : ∀ w ∈ u_ws RX5 TX5 9, w ∈ a_LW := a_in_LW [543, 545, 547, 549, 551, 553, 555, 557, 559] (by decide +kernel) (by decide +kernel)
set_option maxRecDepth 20000 in
theorem a_ck_4 : a_cok 4 RX5 TX5 9 tyX5 := ⟨rfl, by decide +kernel, tyX5_ok, nmX5, a_cw_4, a_lnk_in (i := 524) (by decide +kernel), a_lnk_in (i := 140) (by decide +kernel), by decide +kernel⟩
set_option maxRecDepth 20000 in
theorem a_cw_5 : ∀ w ∈ u_ws RX6 TX6 2, w ∈ a_LW := a_in_LW [184, 186] (by decide +kernel) (by decide +kernel)
set_option maxRecDepth 20000 in
theorem a_ck_5 : a_cok 5 RX6 TX6 2 tyX6 := ⟨rfl, by decide +kernel, tyX6_ok, nmX6, a_cw_5, a_lnk_in (i := 173) (by decide +kernel), a_lnk_in (i := 131) (by decide +kernel), by decide +kernel⟩
set_option maxRecDepth 20000 in
theorem a_cw_6 : ∀ w ∈ u_ws RX7 TX7 8, w ∈ a_LW := a_in_LW [360, 362, 364, 366, 368, 370, 372, 374] (by decide +kernel) (by decide +kernel)
set_option maxRecDepth 20000 in
theorem a_ck_6 : a_cok 6 RX7 TX7 8 tyX7 := ⟨rfl, by decide +kernel, tyX7_ok, nmX7, a_cw_6, a_lnk_in (i := 340) (by decide +kernel), a_lnk_in (i := 134) (by decide +kernel), by decide +kernel⟩
set_option maxRecDepth 20000 in
theorem a_cw_7 : ∀ w ∈ u_ws RX8 TX8 12, w ∈ a_LW := a_in_LW [431, 433, 435, 437, 439, 441, 443, 445, 447, 449, 451, 453] (by decide +kernel) (by decide +kernel)
set_option maxRecDepth 20000 in
theorem a_ck_7 : a_cok 7 RX8 TX8 12 tyX8 := ⟨rfl, by decide +kernel, tyX8_ok, nmX8, a_cw_7, a_lnk_in (i := 402) (by decide +kernel), a_lnk_in (i := 137) (by decide +kernel), by decide +kernel⟩
set_option maxRecDepth 20000 in
theorem a_cw_8 : ∀ w ∈ u_ws RX9 TX9 17, w ∈ a_LW := a_in_LW [298, 300, 302, 304, 306, 308, 310, 312, 314, 316, 318, 320, 322, 324, 326, 328, 330] (by decide +kernel) (by decide +kernel)
set_option maxRecDepth 20000 in
theorem a_ck_8 : a_cok 8 RX9 TX9 17 tyX9 := ⟨rfl, by decide +kernel, tyX9_ok, nmX9, a_cw_8, a_lnk_in (i := 167) (by decide +kernel), a_lnk_in (i := 130) (by decide +kernel), by decide +kernel⟩
set_option maxRecDepth 20000 in
theorem a_cw_9 : ∀ w ∈ u_ws RX10 TX10 7, w ∈ a_LW := a_in_LW [386, 388, 390, 392, 394, 396, 398] (by decide +kernel) (by decide +kernel)
set_option maxRecDepth 20000 in
theorem a_ck_9 : a_cok 9 RX10 TX10 7 tyX10 := ⟨rfl, by decide +kernel, tyX10_ok, nmX10, a_cw_9, a_lnk_in (i := 334) (by decide +kernel), a_lnk_in (i := 133) (by decide +kernel), by decide +kernel⟩
set_option maxRecDepth 20000 in
theorem a_cw_10 : ∀ w ∈ u_ws RX12 TX12 12, w ∈ a_LW := a_in_LW [618, 620, 622, 624, 626, 628, 630, 632, 634, 636, 638, 640] (by decide +kernel) (by decide +kernel)
set_option maxRecDepth 20000 in
theorem a_ck_10 : a_cok 10 RX12 TX12 12 tyX12 := ⟨rfl, by decide +kernel, tyX12_ok, nmX12, a_cw_10, a_lnk_in (i := 159) (by decide +kernel), a_lnk_in (i := 129) (by decide +kernel), by decide +kernel⟩
set_option maxRecDepth 20000 in
theorem a_cw_11 : ∀ w ∈ u_ws RX13 TX13 102, w ∈ a_LW := a_in_LW [1658, 1660, 1662, 1664, 1666, 1668, 1670, 1672, 1674, 1676, 1678, 1680, 1682, 1684, 1686, 1688, 1690, 1692, 1694, 1696, 1698, 1700, 1702, 1704, 1706, 1708, 1710, 1712, 1714, 1716, 1718, 1720, 1722, 1724, 1726, 1728, 1730, 1732, 1734, 1736, 1738, 1740, 1742, 1744, 1746, 1748, 1750, 1752, 1754, 1756, 1758, 1760, 1762, 1764, 1766, 1768, 1770, 1772, 1774, 1776, 1778, 1780, 1782, 1784, 1786, 1788, 1790, 1792, 1794, 1796, 1798, 1800, 1802, 1804, 1806, 1808, 1810, 1812, 1814, 1816, 1818, 1820, 1822, 1824, 1826, 1828, 1830, 1832, 1834, 1836, 1838, 1840, 1842, 1844, 1846, 1848, 1850, 1852, 1854, 1856, 1858, 1860] (by decide +kernel) (by decide +kernel)
set_option maxRecDepth 20000 in
theorem a_ck_11 : a_cok 11 RX13 TX13 102 tyX13 := ⟨rfl, by decide +kernel, tyX13_ok, nmX13, a_cw_11, a_lnk_in (i := 1536) (by decide +kernel), a_lnk_in (i := 143) (by decide +kernel), by decide +kernel⟩
theorem a_clsOK : ∀ ci, ci < 12 → ∃ (C : String) (T : u_T) (N : Nat) (ty : Nat → FieldType), a_cok ci C T N ty
  | 0, _ => ⟨_, _, _, _, a_ck_0⟩
  | 1, _ => ⟨_, _, _, _, a_ck_1⟩
  | 2, _ => ⟨_, _, _, _, a_ck_2⟩
  | 3, _ => ⟨_, _, _, _, a_ck_3⟩
  | 4, _ => ⟨_, _, _, _, a_ck_4⟩
  | 5, _ => ⟨_, _, _, _, a_ck_5⟩
  | 6, _ => ⟨_, _, _, _, a_ck_6⟩
  | 7, _ => ⟨_, _, _, _, a_ck_7⟩
  | 8, _ => ⟨_, _, _, _, a_ck_8⟩
  | 9, _ => ⟨_, _, _, _, a_ck_9⟩
  | 10, _ => ⟨_, _, _, _, a_ck_10⟩
  | 11, _ => ⟨_, _, _, _, a_ck_11⟩
  | n + 12, h => absurd h (by omega)
theorem a_ac_int : Cond.arrayClass .int ∈ a_LW := a_lnk_in (i := 190) (by decide +kernel)
theorem a_ac_long : Cond.arrayClass .long ∈ a_LW := a_lnk_in (i := 243) (by decide +kernel)
theorem a_ac_byte : Cond.arrayClass .byte ∈ a_LW := a_lnk_in (i := 189) (by decide +kernel)
theorem a_ac_boolean : Cond.arrayClass .boolean ∈ a_LW := a_lnk_in (i := 244) (by decide +kernel)
