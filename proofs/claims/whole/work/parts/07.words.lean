/-! the tables by their pieces -/
theorem gc1 {w : Cond} (i : Nat) (h : tables_1_1[i]? = some w) (hg : goodWord w = true) : w ∈ gtbl := List.mem_filter.mpr ⟨List.mem_append_right _ (List.mem_append_left _ (List.mem_of_getElem? h)), hg⟩
theorem gc2 {w : Cond} (i : Nat) (h : tables_1_2[i]? = some w) (hg : goodWord w = true) : w ∈ gtbl := List.mem_filter.mpr ⟨List.mem_append_right _ (List.mem_append_right _ (List.mem_append_left _ (List.mem_of_getElem? h))), hg⟩
theorem gc3 {w : Cond} (i : Nat) (h : tables_1_3[i]? = some w) (hg : goodWord w = true) : w ∈ gtbl := List.mem_filter.mpr ⟨List.mem_append_right _ (List.mem_append_right _ (List.mem_append_right _ (List.mem_append_left _ (List.mem_of_getElem? h)))), hg⟩
theorem gc4 {w : Cond} (i : Nat) (h : tables_1_4[i]? = some w) (hg : goodWord w = true) : w ∈ gtbl := List.mem_filter.mpr ⟨List.mem_append_right _ (List.mem_append_right _ (List.mem_append_right _ (List.mem_append_right _ (List.mem_append_left _ (List.mem_of_getElem? h))))), hg⟩
theorem gc5 {w : Cond} (i : Nat) (h : tables_1_5[i]? = some w) (hg : goodWord w = true) : w ∈ gtbl := List.mem_filter.mpr ⟨List.mem_append_right _ (List.mem_append_right _ (List.mem_append_right _ (List.mem_append_right _ (List.mem_append_right _ (List.mem_append_left _ (List.mem_of_getElem? h)))))), hg⟩
theorem gc6 {w : Cond} (i : Nat) (h : tables_1_6[i]? = some w) (hg : goodWord w = true) : w ∈ gtbl := List.mem_filter.mpr ⟨List.mem_append_right _ (List.mem_append_right _ (List.mem_append_right _ (List.mem_append_right _ (List.mem_append_right _ (List.mem_append_right _ (List.mem_append_left _ (List.mem_of_getElem? h))))))), hg⟩
theorem gc7 {w : Cond} (i : Nat) (h : tables_1_7[i]? = some w) (hg : goodWord w = true) : w ∈ gtbl := List.mem_filter.mpr ⟨List.mem_append_right _ (List.mem_append_right _ (List.mem_append_right _ (List.mem_append_right _ (List.mem_append_right _ (List.mem_append_right _ (List.mem_append_right _ (List.mem_append_left _ (List.mem_of_getElem? h)))))))), hg⟩
theorem gc8 {w : Cond} (i : Nat) (h : tables_1_8[i]? = some w) (hg : goodWord w = true) : w ∈ gtbl := List.mem_filter.mpr ⟨List.mem_append_right _ (List.mem_append_right _ (List.mem_append_right _ (List.mem_append_right _ (List.mem_append_right _ (List.mem_append_right _ (List.mem_append_right _ (List.mem_append_right _ (List.mem_append_left _ (List.mem_of_getElem? h))))))))), hg⟩
theorem gc9 {w : Cond} (i : Nat) (h : tables_1_9[i]? = some w) (hg : goodWord w = true) : w ∈ gtbl := List.mem_filter.mpr ⟨List.mem_append_right _ (List.mem_append_right _ (List.mem_append_right _ (List.mem_append_right _ (List.mem_append_right _ (List.mem_append_right _ (List.mem_append_right _ (List.mem_append_right _ (List.mem_append_right _ (List.mem_of_getElem? h))))))))), hg⟩
theorem gs1 {y : MethodName} {n : Nat} (i : Nat) (h : lw_privs_1[i]? = some (y, n)) : Cond.selects y.cls y y ∈ gtbl := List.mem_filter.mpr ⟨List.mem_append_left _ (List.mem_map.mpr ⟨(y, n), List.mem_append_left _ (List.mem_of_getElem? h), rfl⟩), rfl⟩
theorem gs2 {y : MethodName} {n : Nat} (i : Nat) (h : lw_privs_2[i]? = some (y, n)) : Cond.selects y.cls y y ∈ gtbl := List.mem_filter.mpr ⟨List.mem_append_left _ (List.mem_map.mpr ⟨(y, n), List.mem_append_right _ (List.mem_append_left _ (List.mem_of_getElem? h)), rfl⟩), rfl⟩
theorem gs3 {y : MethodName} {n : Nat} (i : Nat) (h : lw_privs_3[i]? = some (y, n)) : Cond.selects y.cls y y ∈ gtbl := List.mem_filter.mpr ⟨List.mem_append_left _ (List.mem_map.mpr ⟨(y, n), List.mem_append_right _ (List.mem_append_right _ (List.mem_append_left _ (List.mem_of_getElem? h))), rfl⟩), rfl⟩
theorem gs4 {y : MethodName} {n : Nat} (i : Nat) (h : lw_privs_4[i]? = some (y, n)) : Cond.selects y.cls y y ∈ gtbl := List.mem_filter.mpr ⟨List.mem_append_left _ (List.mem_map.mpr ⟨(y, n), List.mem_append_right _ (List.mem_append_right _ (List.mem_append_right _ (List.mem_append_left _ (List.mem_of_getElem? h)))), rfl⟩), rfl⟩
theorem gs5 {y : MethodName} {n : Nat} (i : Nat) (h : lw_privs_5[i]? = some (y, n)) : Cond.selects y.cls y y ∈ gtbl := List.mem_filter.mpr ⟨List.mem_append_left _ (List.mem_map.mpr ⟨(y, n), List.mem_append_right _ (List.mem_append_right _ (List.mem_append_right _ (List.mem_append_right _ (List.mem_append_left _ (List.mem_of_getElem? h))))), rfl⟩), rfl⟩
theorem gs6 {y : MethodName} {n : Nat} (i : Nat) (h : lw_privs_6[i]? = some (y, n)) : Cond.selects y.cls y y ∈ gtbl := List.mem_filter.mpr ⟨List.mem_append_left _ (List.mem_map.mpr ⟨(y, n), List.mem_append_right _ (List.mem_append_right _ (List.mem_append_right _ (List.mem_append_right _ (List.mem_append_right _ (List.mem_append_left _ (List.mem_of_getElem? h)))))), rfl⟩), rfl⟩
theorem gs7 {y : MethodName} {n : Nat} (i : Nat) (h : lw_privs_7[i]? = some (y, n)) : Cond.selects y.cls y y ∈ gtbl := List.mem_filter.mpr ⟨List.mem_append_left _ (List.mem_map.mpr ⟨(y, n), List.mem_append_right _ (List.mem_append_right _ (List.mem_append_right _ (List.mem_append_right _ (List.mem_append_right _ (List.mem_append_right _ (List.mem_append_left _ (List.mem_of_getElem? h))))))), rfl⟩), rfl⟩
theorem gs8 {y : MethodName} {n : Nat} (i : Nat) (h : lw_privs_8[i]? = some (y, n)) : Cond.selects y.cls y y ∈ gtbl := List.mem_filter.mpr ⟨List.mem_append_left _ (List.mem_map.mpr ⟨(y, n), List.mem_append_right _ (List.mem_append_right _ (List.mem_append_right _ (List.mem_append_right _ (List.mem_append_right _ (List.mem_append_right _ (List.mem_append_right _ (List.mem_append_left _ (List.mem_of_getElem? h)))))))), rfl⟩), rfl⟩
theorem gs9 {y : MethodName} {n : Nat} (i : Nat) (h : lw_privs_9[i]? = some (y, n)) : Cond.selects y.cls y y ∈ gtbl := List.mem_filter.mpr ⟨List.mem_append_left _ (List.mem_map.mpr ⟨(y, n), List.mem_append_right _ (List.mem_append_right _ (List.mem_append_right _ (List.mem_append_right _ (List.mem_append_right _ (List.mem_append_right _ (List.mem_append_right _ (List.mem_append_right _ (List.mem_of_getElem? h)))))))), rfl⟩), rfl⟩
/-! the classes: fields and words -/
set_option maxRecDepth 20000 in
theorem kl_0 : Kl 0 RX0 TX0 3 := ⟨rfl, rfl, by decide, gms [210, 212, 214] (by decide +kernel) (by decide +kernel), tyX0_ok, nmX0⟩
set_option maxRecDepth 20000 in
theorem kl_1 : Kl 1 RX1 TX1 10 := ⟨rfl, rfl, by decide, gms [315, 317, 319, 321, 323, 325, 327, 329, 331, 333] (by decide +kernel) (by decide +kernel), tyX1_ok, nmX1⟩
set_option maxRecDepth 20000 in
theorem kl_2 : Kl 2 RX2 TX2 12 := ⟨rfl, rfl, by decide, gms [378, 380, 382, 384, 386, 388, 390, 392, 394, 396, 398, 400] (by decide +kernel) (by decide +kernel), tyX2_ok, nmX2⟩
set_option maxRecDepth 20000 in
theorem kl_3 : Kl 3 RX3 TX3 4 := ⟨rfl, rfl, by decide, gms [230, 232, 234, 236] (by decide +kernel) (by decide +kernel), tyX3_ok, nmX3⟩
set_option maxRecDepth 20000 in
theorem kl_4 : Kl 4 RX4 TX4 6 := ⟨rfl, rfl, by decide, gms [251, 253, 255, 257, 259, 261] (by decide +kernel) (by decide +kernel), tyX4_ok, nmX4⟩
set_option maxRecDepth 20000 in
theorem kl_5 : Kl 5 RX5 TX5 6 := ⟨rfl, rfl, by decide, gms [452, 454, 456, 458, 460, 462] (by decide +kernel) (by decide +kernel), tyX5_ok, nmX5⟩
set_option maxRecDepth 20000 in
theorem kl_6 : Kl 6 RX6 TX6 6 := ⟨rfl, rfl, by decide, gms [419, 421, 423, 425, 427, 429] (by decide +kernel) (by decide +kernel), tyX6_ok, nmX6⟩
set_option maxRecDepth 20000 in
theorem kl_7 : Kl 7 RX7 TX7 11 := ⟨rfl, rfl, by decide, gms [511, 513, 515, 517, 519, 521, 523, 525, 527, 529, 531] (by decide +kernel) (by decide +kernel), tyX7_ok, nmX7⟩
set_option maxRecDepth 20000 in
theorem kl_8 : Kl 8 RX8 TX8 7 := ⟨rfl, rfl, by decide, gms [183, 185, 187, 189, 191, 193, 195] (by decide +kernel) (by decide +kernel), tyX8_ok, nmX8⟩
set_option maxRecDepth 20000 in
theorem kl_9 : Kl 9 RX9 TX9 8 := ⟨rfl, rfl, by decide, gms [548, 550, 552, 554, 556, 558, 560, 562] (by decide +kernel) (by decide +kernel), tyX9_ok, nmX9⟩
set_option maxRecDepth 20000 in
theorem kl_10 : Kl 10 RX10 TX10 14 := ⟨rfl, rfl, by decide, gms [593, 595, 597, 599, 601, 603, 605, 607, 609, 611, 613, 615, 617, 619] (by decide +kernel) (by decide +kernel), tyX10_ok, nmX10⟩
set_option maxRecDepth 20000 in
theorem kl_11 : Kl 11 RX11 TX11 13 := ⟨rfl, rfl, by decide, gms [635, 637, 639, 641, 643, 645, 647, 649, 651, 653, 655, 657, 659] (by decide +kernel) (by decide +kernel), tyX11_ok, nmX11⟩
set_option maxRecDepth 20000 in
theorem kl_12 : Kl 12 RX12 TX12 95 := ⟨rfl, rfl, by decide, gms [1669, 1671, 1673, 1675, 1677, 1679, 1681, 1683, 1685, 1687, 1689, 1691, 1693, 1695, 1697, 1699, 1701, 1703, 1705, 1707, 1709, 1711, 1713, 1715, 1717, 1719, 1721, 1723, 1725, 1727, 1729, 1731, 1733, 1735, 1737, 1739, 1741, 1743, 1745, 1747, 1749, 1751, 1753, 1755, 1757, 1759, 1761, 1763, 1765, 1767, 1769, 1771, 1773, 1775, 1777, 1779, 1781, 1783, 1785, 1787, 1789, 1791, 1793, 1795, 1797, 1799, 1801, 1803, 1805, 1807, 1809, 1811, 1813, 1815, 1817, 1819, 1821, 1823, 1825, 1827, 1829, 1831, 1833, 1835, 1837, 1839, 1841, 1843, 1845, 1847, 1849, 1851, 1853, 1855, 1857] (by decide +kernel) (by decide +kernel), tyX12_ok, nmX12⟩
set_option maxRecDepth 20000 in
theorem fl_X0_9 : Cond.fieldLink RX0 9 (TX0 0).1 (TX0 0).2.1 (TX0 0).2.2.1 ∈ gtbl := gc1 69 rfl rfl
set_option maxRecDepth 20000 in
theorem fl_X0_15 : Cond.fieldLink RX0 15 (TX0 1).1 (TX0 1).2.1 (TX0 1).2.2.1 ∈ gtbl := gc1 70 rfl rfl
set_option maxRecDepth 20000 in
theorem fl_X0_24 : Cond.fieldLink RX0 24 (TX0 2).1 (TX0 2).2.1 (TX0 2).2.2.1 ∈ gtbl := gc1 71 rfl rfl
set_option maxRecDepth 20000 in
theorem fl_X0_70 : Cond.fieldLink RX0 70 (TX6 0).1 (TX6 0).2.1 (TX6 0).2.2.1 ∈ gtbl := gc2 26 rfl rfl
set_option maxRecDepth 20000 in
theorem fl_X0_118 : Cond.fieldLink RX0 118 (TX1 6).1 (TX1 6).2.1 (TX1 6).2.2.1 ∈ gtbl := gc1 170 rfl rfl
set_option maxRecDepth 20000 in
theorem fl_X0_128 : Cond.fieldLink RX0 128 (TX1 5).1 (TX1 5).2.1 (TX1 5).2.2.1 ∈ gtbl := gc1 165 rfl rfl
set_option maxRecDepth 20000 in
theorem fl_X0_132 : Cond.fieldLink RX0 132 (TX2 2).1 (TX2 2).2.1 (TX2 2).2.2.1 ∈ gtbl := gc1 211 rfl rfl
set_option maxRecDepth 20000 in
theorem fl_X0_142 : Cond.fieldLink RX0 142 (TX1 7).1 (TX1 7).2.1 (TX1 7).2.2.1 ∈ gtbl := gc1 172 rfl rfl
set_option maxRecDepth 20000 in
theorem fl_X0_146 : Cond.fieldLink RX0 146 (TX1 8).1 (TX1 8).2.1 (TX1 8).2.2.1 ∈ gtbl := gc1 174 rfl rfl
set_option maxRecDepth 20000 in
theorem fl_X0_150 : Cond.fieldLink RX0 150 (TX1 9).1 (TX1 9).2.1 (TX1 9).2.2.1 ∈ gtbl := gc1 176 rfl rfl
set_option maxRecDepth 20000 in
theorem fl_X0_158 : Cond.fieldLink RX0 158 (TX1 4).1 (TX1 4).2.1 (TX1 4).2.2.1 ∈ gtbl := gc1 159 rfl rfl
set_option maxRecDepth 20000 in
theorem fl_X0_198 : Cond.fieldLink RX0 198 (TX6 4).1 (TX6 4).2.1 (TX6 4).2.2.1 ∈ gtbl := gc2 38 rfl rfl
set_option maxRecDepth 20000 in
theorem fl_X0_201 : Cond.fieldLink RX0 201 (TX2 4).1 (TX2 4).2.1 (TX2 4).2.2.1 ∈ gtbl := gc1 220 rfl rfl
set_option maxRecDepth 20000 in
theorem fl_X0_204 : Cond.fieldLink RX0 204 (TX6 5).1 (TX6 5).2.1 (TX6 5).2.2.1 ∈ gtbl := gc2 40 rfl rfl
set_option maxRecDepth 20000 in
theorem fl_X0_212 : Cond.fieldLink RX0 212 (TX2 5).1 (TX2 5).2.1 (TX2 5).2.2.1 ∈ gtbl := gc1 224 rfl rfl
set_option maxRecDepth 20000 in
theorem fl_X0_228 : Cond.fieldLink RX0 228 (TX2 9).1 (TX2 9).2.1 (TX2 9).2.2.1 ∈ gtbl := gc1 234 rfl rfl
set_option maxRecDepth 20000 in
theorem fl_X0_235 : Cond.fieldLink RX0 235 (TX2 10).1 (TX2 10).2.1 (TX2 10).2.2.1 ∈ gtbl := gc1 235 rfl rfl
set_option maxRecDepth 20000 in
theorem fl_X0_238 : Cond.fieldLink RX0 238 (TX2 6).1 (TX2 6).2.1 (TX2 6).2.2.1 ∈ gtbl := gc1 225 rfl rfl
set_option maxRecDepth 20000 in
theorem fl_X0_241 : Cond.fieldLink RX0 241 (TX2 7).1 (TX2 7).2.1 (TX2 7).2.2.1 ∈ gtbl := gc1 226 rfl rfl
set_option maxRecDepth 20000 in
theorem fl_X0_244 : Cond.fieldLink RX0 244 (TX2 3).1 (TX2 3).2.1 (TX2 3).2.2.1 ∈ gtbl := gc1 218 rfl rfl
set_option maxRecDepth 20000 in
theorem fl_X0_247 : Cond.fieldLink RX0 247 (TX6 2).1 (TX6 2).2.1 (TX6 2).2.2.1 ∈ gtbl := gc2 34 rfl rfl
set_option maxRecDepth 20000 in
theorem fl_X0_250 : Cond.fieldLink RX0 250 (TX6 3).1 (TX6 3).2.1 (TX6 3).2.2.1 ∈ gtbl := gc2 36 rfl rfl
set_option maxRecDepth 20000 in
theorem fl_X0_256 : Cond.fieldLink RX0 256 (TX2 8).1 (TX2 8).2.1 (TX2 8).2.2.1 ∈ gtbl := gc1 233 rfl rfl
set_option maxRecDepth 20000 in
theorem fl_X0_273 : Cond.fieldLink RX0 273 (TX2 1).1 (TX2 1).2.1 (TX2 1).2.2.1 ∈ gtbl := gc1 208 rfl rfl
set_option maxRecDepth 20000 in
theorem fl_X0_279 : Cond.fieldLink RX0 279 (TX2 11).1 (TX2 11).2.1 (TX2 11).2.2.1 ∈ gtbl := gc1 239 rfl rfl
set_option maxRecDepth 20000 in
theorem fl_X1_11 : Cond.fieldLink RX1 11 (TX1 5).1 (TX1 5).2.1 (TX1 5).2.2.1 ∈ gtbl := gc1 163 rfl rfl
set_option maxRecDepth 20000 in
theorem fl_X1_17 : Cond.fieldLink RX1 17 (TX1 7).1 (TX1 7).2.1 (TX1 7).2.2.1 ∈ gtbl := gc1 171 rfl rfl
set_option maxRecDepth 20000 in
theorem fl_X1_21 : Cond.fieldLink RX1 21 (TX1 8).1 (TX1 8).2.1 (TX1 8).2.2.1 ∈ gtbl := gc1 173 rfl rfl
set_option maxRecDepth 20000 in
theorem fl_X1_25 : Cond.fieldLink RX1 25 (TX1 9).1 (TX1 9).2.1 (TX1 9).2.2.1 ∈ gtbl := gc1 175 rfl rfl
set_option maxRecDepth 20000 in
theorem fl_X1_28 : Cond.fieldLink RX1 28 (TX1 0).1 (TX1 0).2.1 (TX1 0).2.2.1 ∈ gtbl := gc1 144 rfl rfl
set_option maxRecDepth 20000 in
theorem fl_X1_32 : Cond.fieldLink RX1 32 (TX1 1).1 (TX1 1).2.1 (TX1 1).2.2.1 ∈ gtbl := gc1 146 rfl rfl
set_option maxRecDepth 20000 in
theorem fl_X1_36 : Cond.fieldLink RX1 36 (TX1 2).1 (TX1 2).2.1 (TX1 2).2.2.1 ∈ gtbl := gc1 150 rfl rfl
set_option maxRecDepth 20000 in
theorem fl_X1_39 : Cond.fieldLink RX1 39 (TX1 3).1 (TX1 3).2.1 (TX1 3).2.2.1 ∈ gtbl := gc1 153 rfl rfl
set_option maxRecDepth 20000 in
theorem fl_X1_42 : Cond.fieldLink RX1 42 (TX1 4).1 (TX1 4).2.1 (TX1 4).2.2.1 ∈ gtbl := gc1 156 rfl rfl
set_option maxRecDepth 20000 in
theorem fl_X1_45 : Cond.fieldLink RX1 45 (TX1 6).1 (TX1 6).2.1 (TX1 6).2.2.1 ∈ gtbl := gc1 169 rfl rfl
set_option maxRecDepth 20000 in
theorem fl_X1_48 : Cond.fieldLink RX1 48 (TX2 0).1 (TX2 0).2.1 (TX2 0).2.2.1 ∈ gtbl := gc1 205 rfl rfl
set_option maxRecDepth 20000 in
theorem fl_X1_49 : Cond.fieldLink RX1 49 (TX7 6).1 (TX7 6).2.1 (TX7 6).2.2.1 ∈ gtbl := gc2 124 rfl rfl
set_option maxRecDepth 20000 in
theorem fl_X2_9 : Cond.fieldLink RX2 9 (TX2 0).1 (TX2 0).2.1 (TX2 0).2.2.1 ∈ gtbl := gc1 204 rfl rfl
set_option maxRecDepth 20000 in
theorem fl_X2_15 : Cond.fieldLink RX2 15 (TX2 1).1 (TX2 1).2.1 (TX2 1).2.2.1 ∈ gtbl := gc1 206 rfl rfl
set_option maxRecDepth 20000 in
theorem fl_X2_19 : Cond.fieldLink RX2 19 (TX2 3).1 (TX2 3).2.1 (TX2 3).2.2.1 ∈ gtbl := gc1 216 rfl rfl
set_option maxRecDepth 20000 in
theorem fl_X2_22 : Cond.fieldLink RX2 22 (TX2 5).1 (TX2 5).2.1 (TX2 5).2.2.1 ∈ gtbl := gc1 221 rfl rfl
set_option maxRecDepth 20000 in
theorem fl_X2_25 : Cond.fieldLink RX2 25 (TX2 8).1 (TX2 8).2.1 (TX2 8).2.2.1 ∈ gtbl := gc1 227 rfl rfl
set_option maxRecDepth 20000 in
theorem fl_X2_28 : Cond.fieldLink RX2 28 (TX2 11).1 (TX2 11).2.1 (TX2 11).2.2.1 ∈ gtbl := gc1 236 rfl rfl
set_option maxRecDepth 20000 in
theorem fl_X2_31 : Cond.fieldLink RX2 31 (TX2 2).1 (TX2 2).2.1 (TX2 2).2.2.1 ∈ gtbl := gc1 209 rfl rfl
set_option maxRecDepth 20000 in
theorem fl_X3_9 : Cond.fieldLink RX3 9 (TX3 2).1 (TX3 2).2.1 (TX3 2).2.2.1 ∈ gtbl := gc1 90 rfl rfl
set_option maxRecDepth 20000 in
theorem fl_X3_15 : Cond.fieldLink RX3 15 (TX3 3).1 (TX3 3).2.1 (TX3 3).2.2.1 ∈ gtbl := gc1 91 rfl rfl
set_option maxRecDepth 20000 in
theorem fl_X3_18 : Cond.fieldLink RX3 18 (TX3 0).1 (TX3 0).2.1 (TX3 0).2.2.1 ∈ gtbl := gc1 85 rfl rfl
set_option maxRecDepth 20000 in
theorem fl_X3_22 : Cond.fieldLink RX3 22 (TX3 1).1 (TX3 1).2.1 (TX3 1).2.2.1 ∈ gtbl := gc1 88 rfl rfl
set_option maxRecDepth 20000 in
theorem fl_X4_11 : Cond.fieldLink RX4 11 (TX4 3).1 (TX4 3).2.1 (TX4 3).2.2.1 ∈ gtbl := gc1 110 rfl rfl
set_option maxRecDepth 20000 in
theorem fl_X4_15 : Cond.fieldLink RX4 15 (TX4 0).1 (TX4 0).2.1 (TX4 0).2.2.1 ∈ gtbl := gc1 107 rfl rfl
set_option maxRecDepth 20000 in
theorem fl_X4_19 : Cond.fieldLink RX4 19 (TX4 1).1 (TX4 1).2.1 (TX4 1).2.2.1 ∈ gtbl := gc1 108 rfl rfl
set_option maxRecDepth 20000 in
theorem fl_X4_23 : Cond.fieldLink RX4 23 (TX4 2).1 (TX4 2).2.1 (TX4 2).2.2.1 ∈ gtbl := gc1 109 rfl rfl
set_option maxRecDepth 20000 in
theorem fl_X4_71 : Cond.fieldLink RX4 71 (TX4 4).1 (TX4 4).2.1 (TX4 4).2.2.1 ∈ gtbl := gc1 111 rfl rfl
set_option maxRecDepth 20000 in
theorem fl_X4_75 : Cond.fieldLink RX4 75 (TX4 5).1 (TX4 5).2.1 (TX4 5).2.2.1 ∈ gtbl := gc1 112 rfl rfl
set_option maxRecDepth 20000 in
theorem fl_X4_132 : Cond.fieldLink RX4 132 (TX3 1).1 (TX3 1).2.1 (TX3 1).2.2.1 ∈ gtbl := gc1 89 rfl rfl
set_option maxRecDepth 20000 in
theorem fl_X4_135 : Cond.fieldLink RX4 135 (TX3 0).1 (TX3 0).2.1 (TX3 0).2.2.1 ∈ gtbl := gc1 86 rfl rfl
set_option maxRecDepth 20000 in
theorem fl_X4_159 : Cond.fieldLink RX4 159 (TX2 8).1 (TX2 8).2.1 (TX2 8).2.2.1 ∈ gtbl := gc1 231 rfl rfl
set_option maxRecDepth 20000 in
theorem fl_X4_164 : Cond.fieldLink RX4 164 (TX2 2).1 (TX2 2).2.1 (TX2 2).2.2.1 ∈ gtbl := gc1 213 rfl rfl
set_option maxRecDepth 20000 in
theorem fl_X5_9 : Cond.fieldLink RX5 9 (TX5 1).1 (TX5 1).2.1 (TX5 1).2.2.1 ∈ gtbl := gc2 62 rfl rfl
set_option maxRecDepth 20000 in
theorem fl_X5_15 : Cond.fieldLink RX5 15 (TX5 2).1 (TX5 2).2.1 (TX5 2).2.2.1 ∈ gtbl := gc2 63 rfl rfl
set_option maxRecDepth 20000 in
theorem fl_X5_18 : Cond.fieldLink RX5 18 (TX5 3).1 (TX5 3).2.1 (TX5 3).2.2.1 ∈ gtbl := gc2 66 rfl rfl
set_option maxRecDepth 20000 in
theorem fl_X5_21 : Cond.fieldLink RX5 21 (TX5 4).1 (TX5 4).2.1 (TX5 4).2.2.1 ∈ gtbl := gc2 69 rfl rfl
set_option maxRecDepth 20000 in
theorem fl_X5_24 : Cond.fieldLink RX5 24 (TX5 5).1 (TX5 5).2.1 (TX5 5).2.2.1 ∈ gtbl := gc2 73 rfl rfl
set_option maxRecDepth 20000 in
theorem fl_X5_27 : Cond.fieldLink RX5 27 (TX5 0).1 (TX5 0).2.1 (TX5 0).2.2.1 ∈ gtbl := gc2 58 rfl rfl
set_option maxRecDepth 20000 in
theorem fl_X5_47 : Cond.fieldLink RX5 47 (TX2 8).1 (TX2 8).2.1 (TX2 8).2.2.1 ∈ gtbl := gc1 232 rfl rfl
set_option maxRecDepth 20000 in
theorem fl_X5_70 : Cond.fieldLink RX5 70 (TX2 2).1 (TX2 2).2.1 (TX2 2).2.2.1 ∈ gtbl := gc1 215 rfl rfl
set_option maxRecDepth 20000 in
theorem fl_X5_84 : Cond.fieldLink RX5 84 (TX2 1).1 (TX2 1).2.1 (TX2 1).2.2.1 ∈ gtbl := gc1 207 rfl rfl
set_option maxRecDepth 20000 in
theorem fl_X5_91 : Cond.fieldLink RX5 91 (TX6 0).1 (TX6 0).2.1 (TX6 0).2.2.1 ∈ gtbl := gc2 28 rfl rfl
set_option maxRecDepth 20000 in
theorem fl_X5_98 : Cond.fieldLink RX5 98 (TX6 1).1 (TX6 1).2.1 (TX6 1).2.2.1 ∈ gtbl := gc2 32 rfl rfl
set_option maxRecDepth 20000 in
theorem fl_X5_101 : Cond.fieldLink RX5 101 (TX1 4).1 (TX1 4).2.1 (TX1 4).2.2.1 ∈ gtbl := gc1 162 rfl rfl
set_option maxRecDepth 20000 in
theorem fl_X5_106 : Cond.fieldLink RX5 106 (TX1 5).1 (TX1 5).2.1 (TX1 5).2.2.1 ∈ gtbl := gc1 168 rfl rfl
set_option maxRecDepth 20000 in
theorem fl_X5_128 : Cond.fieldLink RX5 128 (TX1 1).1 (TX1 1).2.1 (TX1 1).2.2.1 ∈ gtbl := gc1 149 rfl rfl
set_option maxRecDepth 20000 in
theorem fl_X6_11 : Cond.fieldLink RX6 11 (TX6 1).1 (TX6 1).2.1 (TX6 1).2.2.1 ∈ gtbl := gc2 29 rfl rfl
set_option maxRecDepth 20000 in
theorem fl_X6_19 : Cond.fieldLink RX6 19 (TX6 3).1 (TX6 3).2.1 (TX6 3).2.2.1 ∈ gtbl := gc2 35 rfl rfl
set_option maxRecDepth 20000 in
theorem fl_X6_23 : Cond.fieldLink RX6 23 (TX6 5).1 (TX6 5).2.1 (TX6 5).2.2.1 ∈ gtbl := gc2 39 rfl rfl
set_option maxRecDepth 20000 in
theorem fl_X6_29 : Cond.fieldLink RX6 29 (TX6 0).1 (TX6 0).2.1 (TX6 0).2.2.1 ∈ gtbl := gc2 25 rfl rfl
set_option maxRecDepth 20000 in
theorem fl_X6_33 : Cond.fieldLink RX6 33 (TX6 2).1 (TX6 2).2.1 (TX6 2).2.2.1 ∈ gtbl := gc2 33 rfl rfl
set_option maxRecDepth 20000 in
theorem fl_X6_36 : Cond.fieldLink RX6 36 (TX6 4).1 (TX6 4).2.1 (TX6 4).2.2.1 ∈ gtbl := gc2 37 rfl rfl
set_option maxRecDepth 20000 in
theorem fl_X6_39 : Cond.fieldLink RX6 39 (TX1 2).1 (TX1 2).2.1 (TX1 2).2.2.1 ∈ gtbl := gc1 151 rfl rfl
set_option maxRecDepth 20000 in
theorem fl_X6_46 : Cond.fieldLink RX6 46 (TX1 4).1 (TX1 4).2.1 (TX1 4).2.2.1 ∈ gtbl := gc1 157 rfl rfl
set_option maxRecDepth 20000 in
theorem fl_X6_49 : Cond.fieldLink RX6 49 (TX1 5).1 (TX1 5).2.1 (TX1 5).2.2.1 ∈ gtbl := gc1 164 rfl rfl
set_option maxRecDepth 20000 in
theorem fl_X6_56 : Cond.fieldLink RX6 56 (TX1 0).1 (TX1 0).2.1 (TX1 0).2.2.1 ∈ gtbl := gc1 145 rfl rfl
set_option maxRecDepth 20000 in
theorem fl_X6_60 : Cond.fieldLink RX6 60 (TX1 1).1 (TX1 1).2.1 (TX1 1).2.2.1 ∈ gtbl := gc1 148 rfl rfl
set_option maxRecDepth 20000 in
theorem fl_X6_63 : Cond.fieldLink RX6 63 (TX2 5).1 (TX2 5).2.1 (TX2 5).2.2.1 ∈ gtbl := gc1 223 rfl rfl
set_option maxRecDepth 20000 in
theorem fl_X6_66 : Cond.fieldLink RX6 66 (TX2 4).1 (TX2 4).2.1 (TX2 4).2.2.1 ∈ gtbl := gc1 219 rfl rfl
set_option maxRecDepth 20000 in
theorem fl_X6_73 : Cond.fieldLink RX6 73 (TX1 3).1 (TX1 3).2.1 (TX1 3).2.2.1 ∈ gtbl := gc1 155 rfl rfl
set_option maxRecDepth 20000 in
theorem fl_X6_79 : Cond.fieldLink RX6 79 (TX7 4).1 (TX7 4).2.1 (TX7 4).2.2.1 ∈ gtbl := gc2 118 rfl rfl
set_option maxRecDepth 20000 in
theorem fl_X7_9 : Cond.fieldLink RX7 9 (TX7 6).1 (TX7 6).2.1 (TX7 6).2.2.1 ∈ gtbl := gc2 123 rfl rfl
set_option maxRecDepth 20000 in
theorem fl_X7_15 : Cond.fieldLink RX7 15 (TX7 7).1 (TX7 7).2.1 (TX7 7).2.2.1 ∈ gtbl := gc2 128 rfl rfl
set_option maxRecDepth 20000 in
theorem fl_X7_22 : Cond.fieldLink RX7 22 (TX7 1).1 (TX7 1).2.1 (TX7 1).2.2.1 ∈ gtbl := gc2 104 rfl rfl
set_option maxRecDepth 20000 in
theorem fl_X7_25 : Cond.fieldLink RX7 25 (TX7 2).1 (TX7 2).2.1 (TX7 2).2.2.1 ∈ gtbl := gc2 108 rfl rfl
set_option maxRecDepth 20000 in
theorem fl_X7_28 : Cond.fieldLink RX7 28 (TX7 3).1 (TX7 3).2.1 (TX7 3).2.2.1 ∈ gtbl := gc2 111 rfl rfl
set_option maxRecDepth 20000 in
theorem fl_X7_31 : Cond.fieldLink RX7 31 (TX7 4).1 (TX7 4).2.1 (TX7 4).2.2.1 ∈ gtbl := gc2 115 rfl rfl
set_option maxRecDepth 20000 in
theorem fl_X7_34 : Cond.fieldLink RX7 34 (TX7 5).1 (TX7 5).2.1 (TX7 5).2.2.1 ∈ gtbl := gc2 120 rfl rfl
set_option maxRecDepth 20000 in
theorem fl_X7_37 : Cond.fieldLink RX7 37 (TX7 8).1 (TX7 8).2.1 (TX7 8).2.2.1 ∈ gtbl := gc2 129 rfl rfl
set_option maxRecDepth 20000 in
theorem fl_X8_9 : Cond.fieldLink RX8 9 (TX8 0).1 (TX8 0).2.1 (TX8 0).2.2.1 ∈ gtbl := gc1 36 rfl rfl
set_option maxRecDepth 20000 in
theorem fl_X8_15 : Cond.fieldLink RX8 15 (TX8 1).1 (TX8 1).2.1 (TX8 1).2.2.1 ∈ gtbl := gc1 37 rfl rfl
set_option maxRecDepth 20000 in
theorem fl_X8_18 : Cond.fieldLink RX8 18 (TX8 2).1 (TX8 2).2.1 (TX8 2).2.2.1 ∈ gtbl := gc1 38 rfl rfl
set_option maxRecDepth 20000 in
theorem fl_X8_22 : Cond.fieldLink RX8 22 (TX8 6).1 (TX8 6).2.1 (TX8 6).2.2.1 ∈ gtbl := gc1 43 rfl rfl
set_option maxRecDepth 20000 in
theorem fl_X8_26 : Cond.fieldLink RX8 26 (TX8 5).1 (TX8 5).2.1 (TX8 5).2.2.1 ∈ gtbl := gc1 41 rfl rfl
set_option maxRecDepth 20000 in
theorem fl_X8_29 : Cond.fieldLink RX8 29 (TX8 4).1 (TX8 4).2.1 (TX8 4).2.2.1 ∈ gtbl := gc1 40 rfl rfl
set_option maxRecDepth 20000 in
theorem fl_X8_32 : Cond.fieldLink RX8 32 (TX8 3).1 (TX8 3).2.1 (TX8 3).2.2.1 ∈ gtbl := gc1 39 rfl rfl
set_option maxRecDepth 20000 in
theorem fl_X9_11 : Cond.fieldLink RX9 11 (TX9 1).1 (TX9 1).2.1 (TX9 1).2.2.1 ∈ gtbl := gc2 157 rfl rfl
set_option maxRecDepth 20000 in
theorem fl_X9_17 : Cond.fieldLink RX9 17 (TX9 2).1 (TX9 2).2.1 (TX9 2).2.2.1 ∈ gtbl := gc2 159 rfl rfl
set_option maxRecDepth 20000 in
theorem fl_X9_20 : Cond.fieldLink RX9 20 (TX9 3).1 (TX9 3).2.1 (TX9 3).2.2.1 ∈ gtbl := gc2 160 rfl rfl
set_option maxRecDepth 20000 in
theorem fl_X9_24 : Cond.fieldLink RX9 24 (TX9 0).1 (TX9 0).2.1 (TX9 0).2.2.1 ∈ gtbl := gc2 156 rfl rfl
set_option maxRecDepth 20000 in
theorem fl_X9_31 : Cond.fieldLink RX9 31 (TX9 4).1 (TX9 4).2.1 (TX9 4).2.2.1 ∈ gtbl := gc2 162 rfl rfl
set_option maxRecDepth 20000 in
theorem fl_X9_35 : Cond.fieldLink RX9 35 (TX9 5).1 (TX9 5).2.1 (TX9 5).2.2.1 ∈ gtbl := gc2 165 rfl rfl
set_option maxRecDepth 20000 in
theorem fl_X9_39 : Cond.fieldLink RX9 39 (TX9 6).1 (TX9 6).2.1 (TX9 6).2.2.1 ∈ gtbl := gc2 167 rfl rfl
set_option maxRecDepth 20000 in
theorem fl_X9_42 : Cond.fieldLink RX9 42 (TX7 3).1 (TX7 3).2.1 (TX7 3).2.2.1 ∈ gtbl := gc2 112 rfl rfl
set_option maxRecDepth 20000 in
theorem fl_X9_45 : Cond.fieldLink RX9 45 (TX7 2).1 (TX7 2).2.1 (TX7 2).2.2.1 ∈ gtbl := gc2 109 rfl rfl
set_option maxRecDepth 20000 in
theorem fl_X9_63 : Cond.fieldLink RX9 63 (TX7 0).1 (TX7 0).2.1 (TX7 0).2.2.1 ∈ gtbl := gc2 102 rfl rfl
set_option maxRecDepth 20000 in
theorem fl_X9_66 : Cond.fieldLink RX9 66 (TX7 1).1 (TX7 1).2.1 (TX7 1).2.2.1 ∈ gtbl := gc2 106 rfl rfl
set_option maxRecDepth 20000 in
theorem fl_X9_75 : Cond.fieldLink RX9 75 (TX5 3).1 (TX5 3).2.1 (TX5 3).2.2.1 ∈ gtbl := gc2 67 rfl rfl
set_option maxRecDepth 20000 in
theorem fl_X9_78 : Cond.fieldLink RX9 78 (TX7 4).1 (TX7 4).2.1 (TX7 4).2.2.1 ∈ gtbl := gc2 116 rfl rfl
set_option maxRecDepth 20000 in
theorem fl_X9_80 : Cond.fieldLink RX9 80 (TX7 6).1 (TX7 6).2.1 (TX7 6).2.2.1 ∈ gtbl := gc2 125 rfl rfl
set_option maxRecDepth 20000 in
theorem fl_X9_87 : Cond.fieldLink RX9 87 (TX5 4).1 (TX5 4).2.1 (TX5 4).2.2.1 ∈ gtbl := gc2 70 rfl rfl
set_option maxRecDepth 20000 in
theorem fl_X9_97 : Cond.fieldLink RX9 97 (TX5 0).1 (TX5 0).2.1 (TX5 0).2.2.1 ∈ gtbl := gc2 61 rfl rfl
set_option maxRecDepth 20000 in
theorem fl_X9_111 : Cond.fieldLink RX9 111 (TX2 8).1 (TX2 8).2.1 (TX2 8).2.2.1 ∈ gtbl := gc1 229 rfl rfl
set_option maxRecDepth 20000 in
theorem fl_X9_126 : Cond.fieldLink RX9 126 (TX2 11).1 (TX2 11).2.1 (TX2 11).2.2.1 ∈ gtbl := gc1 238 rfl rfl
set_option maxRecDepth 20000 in
theorem fl_X9_132 : Cond.fieldLink RX9 132 (TX5 2).1 (TX5 2).2.1 (TX5 2).2.2.1 ∈ gtbl := gc2 64 rfl rfl
set_option maxRecDepth 20000 in
theorem fl_X9_141 : Cond.fieldLink RX9 141 (TX7 8).1 (TX7 8).2.1 (TX7 8).2.2.1 ∈ gtbl := gc2 130 rfl rfl
set_option maxRecDepth 20000 in
theorem fl_X9_144 : Cond.fieldLink RX9 144 (TX9 7).1 (TX9 7).2.1 (TX9 7).2.2.1 ∈ gtbl := gc2 169 rfl rfl
set_option maxRecDepth 20000 in
theorem fl_X9_154 : Cond.fieldLink RX9 154 (TX6 1).1 (TX6 1).2.1 (TX6 1).2.2.1 ∈ gtbl := gc2 31 rfl rfl
set_option maxRecDepth 20000 in
theorem fl_X9_157 : Cond.fieldLink RX9 157 (TX1 4).1 (TX1 4).2.1 (TX1 4).2.2.1 ∈ gtbl := gc1 161 rfl rfl
set_option maxRecDepth 20000 in
theorem fl_X9_162 : Cond.fieldLink RX9 162 (TX1 5).1 (TX1 5).2.1 (TX1 5).2.2.1 ∈ gtbl := gc1 167 rfl rfl
set_option maxRecDepth 20000 in
theorem fl_X9_174 : Cond.fieldLink RX9 174 (TX2 2).1 (TX2 2).2.1 (TX2 2).2.2.1 ∈ gtbl := gc1 214 rfl rfl
set_option maxRecDepth 20000 in
theorem fl_X10_11 : Cond.fieldLink RX10 11 (TX10 2).1 (TX10 2).2.1 (TX10 2).2.2.1 ∈ gtbl := gc2 198 rfl rfl
set_option maxRecDepth 20000 in
theorem fl_X10_17 : Cond.fieldLink RX10 17 (TX10 5).1 (TX10 5).2.1 (TX10 5).2.2.1 ∈ gtbl := gc2 202 rfl rfl
set_option maxRecDepth 20000 in
theorem fl_X10_21 : Cond.fieldLink RX10 21 (TX10 6).1 (TX10 6).2.1 (TX10 6).2.2.1 ∈ gtbl := gc2 204 rfl rfl
set_option maxRecDepth 20000 in
theorem fl_X10_24 : Cond.fieldLink RX10 24 (TX10 7).1 (TX10 7).2.1 (TX10 7).2.2.1 ∈ gtbl := gc2 206 rfl rfl
set_option maxRecDepth 20000 in
theorem fl_X10_27 : Cond.fieldLink RX10 27 (TX10 8).1 (TX10 8).2.1 (TX10 8).2.2.1 ∈ gtbl := gc2 208 rfl rfl
set_option maxRecDepth 20000 in
theorem fl_X10_30 : Cond.fieldLink RX10 30 (TX10 10).1 (TX10 10).2.1 (TX10 10).2.2.1 ∈ gtbl := gc2 211 rfl rfl
set_option maxRecDepth 20000 in
theorem fl_X10_34 : Cond.fieldLink RX10 34 (TX10 11).1 (TX10 11).2.1 (TX10 11).2.2.1 ∈ gtbl := gc2 212 rfl rfl
set_option maxRecDepth 20000 in
theorem fl_X10_37 : Cond.fieldLink RX10 37 (TX10 12).1 (TX10 12).2.1 (TX10 12).2.2.1 ∈ gtbl := gc2 213 rfl rfl
set_option maxRecDepth 20000 in
theorem fl_X10_40 : Cond.fieldLink RX10 40 (TX10 13).1 (TX10 13).2.1 (TX10 13).2.2.1 ∈ gtbl := gc2 214 rfl rfl
set_option maxRecDepth 20000 in
theorem fl_X10_43 : Cond.fieldLink RX10 43 (TX10 0).1 (TX10 0).2.1 (TX10 0).2.2.1 ∈ gtbl := gc2 196 rfl rfl
set_option maxRecDepth 20000 in
theorem fl_X10_49 : Cond.fieldLink RX10 49 (TX5 0).1 (TX5 0).2.1 (TX5 0).2.2.1 ∈ gtbl := gc2 59 rfl rfl
set_option maxRecDepth 20000 in
theorem fl_X10_59 : Cond.fieldLink RX10 59 (TX10 9).1 (TX10 9).2.1 (TX10 9).2.2.1 ∈ gtbl := gc2 210 rfl rfl
set_option maxRecDepth 20000 in
theorem fl_X10_91 : Cond.fieldLink RX10 91 (TX10 4).1 (TX10 4).2.1 (TX10 4).2.2.1 ∈ gtbl := gc2 200 rfl rfl
set_option maxRecDepth 20000 in
theorem fl_X10_100 : Cond.fieldLink RX10 100 (TX10 3).1 (TX10 3).2.1 (TX10 3).2.2.1 ∈ gtbl := gc2 199 rfl rfl
set_option maxRecDepth 20000 in
theorem fl_X10_103 : Cond.fieldLink RX10 103 (TX9 5).1 (TX9 5).2.1 (TX9 5).2.2.1 ∈ gtbl := gc2 166 rfl rfl
set_option maxRecDepth 20000 in
theorem fl_X10_106 : Cond.fieldLink RX10 106 (TX9 1).1 (TX9 1).2.1 (TX9 1).2.2.1 ∈ gtbl := gc2 158 rfl rfl
set_option maxRecDepth 20000 in
theorem fl_X10_109 : Cond.fieldLink RX10 109 (TX7 9).1 (TX7 9).2.1 (TX7 9).2.2.1 ∈ gtbl := gc2 131 rfl rfl
set_option maxRecDepth 20000 in
theorem fl_X10_112 : Cond.fieldLink RX10 112 (TX7 10).1 (TX7 10).2.1 (TX7 10).2.2.1 ∈ gtbl := gc2 132 rfl rfl
set_option maxRecDepth 20000 in
theorem fl_X10_118 : Cond.fieldLink RX10 118 (TX7 1).1 (TX7 1).2.1 (TX7 1).2.2.1 ∈ gtbl := gc2 105 rfl rfl
set_option maxRecDepth 20000 in
theorem fl_X10_161 : Cond.fieldLink RX10 161 (TX6 1).1 (TX6 1).2.1 (TX6 1).2.2.1 ∈ gtbl := gc2 30 rfl rfl
set_option maxRecDepth 20000 in
theorem fl_X10_165 : Cond.fieldLink RX10 165 (TX7 4).1 (TX7 4).2.1 (TX7 4).2.2.1 ∈ gtbl := gc2 117 rfl rfl
set_option maxRecDepth 20000 in
theorem fl_X10_167 : Cond.fieldLink RX10 167 (TX1 4).1 (TX1 4).2.1 (TX1 4).2.2.1 ∈ gtbl := gc1 160 rfl rfl
set_option maxRecDepth 20000 in
theorem fl_X10_172 : Cond.fieldLink RX10 172 (TX1 5).1 (TX1 5).2.1 (TX1 5).2.2.1 ∈ gtbl := gc1 166 rfl rfl
set_option maxRecDepth 20000 in
theorem fl_X10_176 : Cond.fieldLink RX10 176 (TX2 2).1 (TX2 2).2.1 (TX2 2).2.2.1 ∈ gtbl := gc1 212 rfl rfl
set_option maxRecDepth 20000 in
theorem fl_X10_181 : Cond.fieldLink RX10 181 (TX7 6).1 (TX7 6).2.1 (TX7 6).2.2.1 ∈ gtbl := gc2 126 rfl rfl
set_option maxRecDepth 20000 in
theorem fl_X10_184 : Cond.fieldLink RX10 184 (TX2 8).1 (TX2 8).2.1 (TX2 8).2.2.1 ∈ gtbl := gc1 230 rfl rfl
set_option maxRecDepth 20000 in
theorem fl_X10_198 : Cond.fieldLink RX10 198 (TX7 2).1 (TX7 2).2.1 (TX7 2).2.2.1 ∈ gtbl := gc2 110 rfl rfl
set_option maxRecDepth 20000 in
theorem fl_X10_207 : Cond.fieldLink RX10 207 (TX7 3).1 (TX7 3).2.1 (TX7 3).2.2.1 ∈ gtbl := gc2 113 rfl rfl
set_option maxRecDepth 20000 in
theorem fl_X10_233 : Cond.fieldLink RX10 233 (TX5 4).1 (TX5 4).2.1 (TX5 4).2.2.1 ∈ gtbl := gc2 71 rfl rfl
set_option maxRecDepth 20000 in
theorem fl_X10_236 : Cond.fieldLink RX10 236 (TX7 5).1 (TX7 5).2.1 (TX7 5).2.2.1 ∈ gtbl := gc2 122 rfl rfl
set_option maxRecDepth 20000 in
theorem fl_X11_9 : Cond.fieldLink RX11 9 (TX11 0).1 (TX11 0).2.1 (TX11 0).2.2.1 ∈ gtbl := gc3 4 rfl rfl
set_option maxRecDepth 20000 in
theorem fl_X11_16 : Cond.fieldLink RX11 16 (TX11 2).1 (TX11 2).2.1 (TX11 2).2.2.1 ∈ gtbl := gc3 6 rfl rfl
set_option maxRecDepth 20000 in
theorem fl_X11_32 : Cond.fieldLink RX11 32 (TX11 5).1 (TX11 5).2.1 (TX11 5).2.2.1 ∈ gtbl := gc3 9 rfl rfl
set_option maxRecDepth 20000 in
theorem fl_X11_53 : Cond.fieldLink RX11 53 (TX11 6).1 (TX11 6).2.1 (TX11 6).2.2.1 ∈ gtbl := gc3 10 rfl rfl
set_option maxRecDepth 20000 in
theorem fl_X11_61 : Cond.fieldLink RX11 61 (TX11 8).1 (TX11 8).2.1 (TX11 8).2.2.1 ∈ gtbl := gc3 12 rfl rfl
set_option maxRecDepth 20000 in
theorem fl_X11_67 : Cond.fieldLink RX11 67 (TX11 9).1 (TX11 9).2.1 (TX11 9).2.2.1 ∈ gtbl := gc3 13 rfl rfl
set_option maxRecDepth 20000 in
theorem fl_X11_79 : Cond.fieldLink RX11 79 (TX11 10).1 (TX11 10).2.1 (TX11 10).2.2.1 ∈ gtbl := gc3 14 rfl rfl
set_option maxRecDepth 20000 in
theorem fl_X11_83 : Cond.fieldLink RX11 83 (TX11 11).1 (TX11 11).2.1 (TX11 11).2.2.1 ∈ gtbl := gc3 15 rfl rfl
set_option maxRecDepth 20000 in
theorem fl_X11_86 : Cond.fieldLink RX11 86 (TX11 1).1 (TX11 1).2.1 (TX11 1).2.2.1 ∈ gtbl := gc3 5 rfl rfl
set_option maxRecDepth 20000 in
theorem fl_X11_102 : Cond.fieldLink RX11 102 (TX5 0).1 (TX5 0).2.1 (TX5 0).2.2.1 ∈ gtbl := gc2 60 rfl rfl
set_option maxRecDepth 20000 in
theorem fl_X11_108 : Cond.fieldLink RX11 108 (TX6 0).1 (TX6 0).2.1 (TX6 0).2.2.1 ∈ gtbl := gc2 27 rfl rfl
set_option maxRecDepth 20000 in
theorem fl_X11_111 : Cond.fieldLink RX11 111 (TX8 5).1 (TX8 5).2.1 (TX8 5).2.2.1 ∈ gtbl := gc1 42 rfl rfl
set_option maxRecDepth 20000 in
theorem fl_X11_114 : Cond.fieldLink RX11 114 (TX8 6).1 (TX8 6).2.1 (TX8 6).2.2.1 ∈ gtbl := gc1 44 rfl rfl
set_option maxRecDepth 20000 in
theorem fl_X11_121 : Cond.fieldLink RX11 121 (TX1 1).1 (TX1 1).2.1 (TX1 1).2.2.1 ∈ gtbl := gc1 147 rfl rfl
set_option maxRecDepth 20000 in
theorem fl_X11_126 : Cond.fieldLink RX11 126 (TX1 2).1 (TX1 2).2.1 (TX1 2).2.2.1 ∈ gtbl := gc1 152 rfl rfl
set_option maxRecDepth 20000 in
theorem fl_X11_129 : Cond.fieldLink RX11 129 (TX1 3).1 (TX1 3).2.1 (TX1 3).2.2.1 ∈ gtbl := gc1 154 rfl rfl
set_option maxRecDepth 20000 in
theorem fl_X11_132 : Cond.fieldLink RX11 132 (TX1 4).1 (TX1 4).2.1 (TX1 4).2.2.1 ∈ gtbl := gc1 158 rfl rfl
set_option maxRecDepth 20000 in
theorem fl_X11_139 : Cond.fieldLink RX11 139 (TX2 2).1 (TX2 2).2.1 (TX2 2).2.2.1 ∈ gtbl := gc1 210 rfl rfl
set_option maxRecDepth 20000 in
theorem fl_X11_148 : Cond.fieldLink RX11 148 (TX2 8).1 (TX2 8).2.1 (TX2 8).2.2.1 ∈ gtbl := gc1 228 rfl rfl
set_option maxRecDepth 20000 in
theorem fl_X11_151 : Cond.fieldLink RX11 151 (TX2 5).1 (TX2 5).2.1 (TX2 5).2.2.1 ∈ gtbl := gc1 222 rfl rfl
set_option maxRecDepth 20000 in
theorem fl_X11_154 : Cond.fieldLink RX11 154 (TX2 3).1 (TX2 3).2.1 (TX2 3).2.2.1 ∈ gtbl := gc1 217 rfl rfl
set_option maxRecDepth 20000 in
theorem fl_X11_157 : Cond.fieldLink RX11 157 (TX2 11).1 (TX2 11).2.1 (TX2 11).2.2.1 ∈ gtbl := gc1 237 rfl rfl
set_option maxRecDepth 20000 in
theorem fl_X11_160 : Cond.fieldLink RX11 160 (TX9 4).1 (TX9 4).2.1 (TX9 4).2.2.1 ∈ gtbl := gc2 164 rfl rfl
set_option maxRecDepth 20000 in
theorem fl_X11_175 : Cond.fieldLink RX11 175 (TX10 4).1 (TX10 4).2.1 (TX10 4).2.2.1 ∈ gtbl := gc2 201 rfl rfl
set_option maxRecDepth 20000 in
theorem fl_X11_178 : Cond.fieldLink RX11 178 (TX10 5).1 (TX10 5).2.1 (TX10 5).2.2.1 ∈ gtbl := gc2 203 rfl rfl
set_option maxRecDepth 20000 in
theorem fl_X11_181 : Cond.fieldLink RX11 181 (TX10 6).1 (TX10 6).2.1 (TX10 6).2.2.1 ∈ gtbl := gc2 205 rfl rfl
set_option maxRecDepth 20000 in
theorem fl_X11_184 : Cond.fieldLink RX11 184 (TX10 7).1 (TX10 7).2.1 (TX10 7).2.2.1 ∈ gtbl := gc2 207 rfl rfl
set_option maxRecDepth 20000 in
theorem fl_X11_187 : Cond.fieldLink RX11 187 (TX10 8).1 (TX10 8).2.1 (TX10 8).2.2.1 ∈ gtbl := gc2 209 rfl rfl
set_option maxRecDepth 20000 in
theorem fl_X11_200 : Cond.fieldLink RX11 200 (TX7 4).1 (TX7 4).2.1 (TX7 4).2.2.1 ∈ gtbl := gc2 119 rfl rfl
set_option maxRecDepth 20000 in
theorem fl_X11_203 : Cond.fieldLink RX11 203 (TX7 0).1 (TX7 0).2.1 (TX7 0).2.2.1 ∈ gtbl := gc2 103 rfl rfl
set_option maxRecDepth 20000 in
theorem fl_X11_214 : Cond.fieldLink RX11 214 (TX7 1).1 (TX7 1).2.1 (TX7 1).2.2.1 ∈ gtbl := gc2 107 rfl rfl
set_option maxRecDepth 20000 in
theorem fl_X11_217 : Cond.fieldLink RX11 217 (TX7 3).1 (TX7 3).2.1 (TX7 3).2.2.1 ∈ gtbl := gc2 114 rfl rfl
set_option maxRecDepth 20000 in
theorem fl_X11_224 : Cond.fieldLink RX11 224 (TX7 5).1 (TX7 5).2.1 (TX7 5).2.2.1 ∈ gtbl := gc2 121 rfl rfl
set_option maxRecDepth 20000 in
theorem fl_X11_238 : Cond.fieldLink RX11 238 (TX7 6).1 (TX7 6).2.1 (TX7 6).2.2.1 ∈ gtbl := gc2 127 rfl rfl
set_option maxRecDepth 20000 in
theorem fl_X11_265 : Cond.fieldLink RX11 265 (TX9 3).1 (TX9 3).2.1 (TX9 3).2.2.1 ∈ gtbl := gc2 161 rfl rfl
set_option maxRecDepth 20000 in
theorem fl_X11_272 : Cond.fieldLink RX11 272 (TX9 6).1 (TX9 6).2.1 (TX9 6).2.2.1 ∈ gtbl := gc2 168 rfl rfl
set_option maxRecDepth 20000 in
theorem fl_X11_278 : Cond.fieldLink RX11 278 (TX5 3).1 (TX5 3).2.1 (TX5 3).2.2.1 ∈ gtbl := gc2 68 rfl rfl
set_option maxRecDepth 20000 in
theorem fl_X11_288 : Cond.fieldLink RX11 288 (TX5 4).1 (TX5 4).2.1 (TX5 4).2.2.1 ∈ gtbl := gc2 72 rfl rfl
set_option maxRecDepth 20000 in
theorem fl_X11_306 : Cond.fieldLink RX11 306 (TX11 12).1 (TX11 12).2.1 (TX11 12).2.2.1 ∈ gtbl := gc3 16 rfl rfl
set_option maxRecDepth 20000 in
theorem fl_X11_319 : Cond.fieldLink RX11 319 (TX3 0).1 (TX3 0).2.1 (TX3 0).2.2.1 ∈ gtbl := gc1 87 rfl rfl
set_option maxRecDepth 20000 in
theorem fl_X11_332 : Cond.fieldLink RX11 332 (TX5 2).1 (TX5 2).2.1 (TX5 2).2.2.1 ∈ gtbl := gc2 65 rfl rfl
set_option maxRecDepth 20000 in
theorem fl_X12_7 : Cond.fieldLink RX12 7 (TX12 0).1 (TX12 0).2.1 (TX12 0).2.2.1 ∈ gtbl := gc6 236 rfl rfl
set_option maxRecDepth 20000 in
theorem fl_X12_13 : Cond.fieldLink RX12 13 (TX12 3).1 (TX12 3).2.1 (TX12 3).2.2.1 ∈ gtbl := gc6 239 rfl rfl
set_option maxRecDepth 20000 in
theorem fl_X12_17 : Cond.fieldLink RX12 17 (TX12 4).1 (TX12 4).2.1 (TX12 4).2.2.1 ∈ gtbl := gc7 0 rfl rfl
set_option maxRecDepth 20000 in
theorem fl_X12_20 : Cond.fieldLink RX12 20 (TX12 5).1 (TX12 5).2.1 (TX12 5).2.2.1 ∈ gtbl := gc7 1 rfl rfl
set_option maxRecDepth 20000 in
theorem fl_X12_23 : Cond.fieldLink RX12 23 (TX12 6).1 (TX12 6).2.1 (TX12 6).2.2.1 ∈ gtbl := gc7 2 rfl rfl
set_option maxRecDepth 20000 in
theorem fl_X12_26 : Cond.fieldLink RX12 26 (TX12 7).1 (TX12 7).2.1 (TX12 7).2.2.1 ∈ gtbl := gc7 3 rfl rfl
set_option maxRecDepth 20000 in
theorem fl_X12_29 : Cond.fieldLink RX12 29 (TX12 8).1 (TX12 8).2.1 (TX12 8).2.2.1 ∈ gtbl := gc7 4 rfl rfl
set_option maxRecDepth 20000 in
theorem fl_X12_32 : Cond.fieldLink RX12 32 (TX12 9).1 (TX12 9).2.1 (TX12 9).2.2.1 ∈ gtbl := gc7 5 rfl rfl
set_option maxRecDepth 20000 in
theorem fl_X12_35 : Cond.fieldLink RX12 35 (TX12 10).1 (TX12 10).2.1 (TX12 10).2.2.1 ∈ gtbl := gc7 6 rfl rfl
set_option maxRecDepth 20000 in
theorem fl_X12_38 : Cond.fieldLink RX12 38 (TX12 11).1 (TX12 11).2.1 (TX12 11).2.2.1 ∈ gtbl := gc7 7 rfl rfl
set_option maxRecDepth 20000 in
theorem fl_X12_41 : Cond.fieldLink RX12 41 (TX12 12).1 (TX12 12).2.1 (TX12 12).2.2.1 ∈ gtbl := gc7 8 rfl rfl
set_option maxRecDepth 20000 in
theorem fl_X12_44 : Cond.fieldLink RX12 44 (TX12 13).1 (TX12 13).2.1 (TX12 13).2.2.1 ∈ gtbl := gc7 9 rfl rfl
set_option maxRecDepth 20000 in
theorem fl_X12_47 : Cond.fieldLink RX12 47 (TX12 14).1 (TX12 14).2.1 (TX12 14).2.2.1 ∈ gtbl := gc7 10 rfl rfl
set_option maxRecDepth 20000 in
theorem fl_X12_50 : Cond.fieldLink RX12 50 (TX12 15).1 (TX12 15).2.1 (TX12 15).2.2.1 ∈ gtbl := gc7 11 rfl rfl
set_option maxRecDepth 20000 in
theorem fl_X12_53 : Cond.fieldLink RX12 53 (TX12 16).1 (TX12 16).2.1 (TX12 16).2.2.1 ∈ gtbl := gc7 12 rfl rfl
set_option maxRecDepth 20000 in
theorem fl_X12_56 : Cond.fieldLink RX12 56 (TX12 17).1 (TX12 17).2.1 (TX12 17).2.2.1 ∈ gtbl := gc7 13 rfl rfl
set_option maxRecDepth 20000 in
theorem fl_X12_59 : Cond.fieldLink RX12 59 (TX12 18).1 (TX12 18).2.1 (TX12 18).2.2.1 ∈ gtbl := gc7 14 rfl rfl
set_option maxRecDepth 20000 in
theorem fl_X12_62 : Cond.fieldLink RX12 62 (TX12 19).1 (TX12 19).2.1 (TX12 19).2.2.1 ∈ gtbl := gc7 15 rfl rfl
set_option maxRecDepth 20000 in
theorem fl_X12_65 : Cond.fieldLink RX12 65 (TX12 20).1 (TX12 20).2.1 (TX12 20).2.2.1 ∈ gtbl := gc7 16 rfl rfl
set_option maxRecDepth 20000 in
theorem fl_X12_68 : Cond.fieldLink RX12 68 (TX12 21).1 (TX12 21).2.1 (TX12 21).2.2.1 ∈ gtbl := gc7 17 rfl rfl
set_option maxRecDepth 20000 in
theorem fl_X12_71 : Cond.fieldLink RX12 71 (TX12 22).1 (TX12 22).2.1 (TX12 22).2.2.1 ∈ gtbl := gc7 18 rfl rfl
set_option maxRecDepth 20000 in
theorem fl_X12_74 : Cond.fieldLink RX12 74 (TX12 23).1 (TX12 23).2.1 (TX12 23).2.2.1 ∈ gtbl := gc7 19 rfl rfl
set_option maxRecDepth 20000 in
theorem fl_X12_77 : Cond.fieldLink RX12 77 (TX12 27).1 (TX12 27).2.1 (TX12 27).2.2.1 ∈ gtbl := gc7 23 rfl rfl
set_option maxRecDepth 20000 in
theorem fl_X12_80 : Cond.fieldLink RX12 80 (TX12 28).1 (TX12 28).2.1 (TX12 28).2.2.1 ∈ gtbl := gc7 24 rfl rfl
set_option maxRecDepth 20000 in
theorem fl_X12_83 : Cond.fieldLink RX12 83 (TX12 29).1 (TX12 29).2.1 (TX12 29).2.2.1 ∈ gtbl := gc7 25 rfl rfl
set_option maxRecDepth 20000 in
theorem fl_X12_86 : Cond.fieldLink RX12 86 (TX12 30).1 (TX12 30).2.1 (TX12 30).2.2.1 ∈ gtbl := gc7 26 rfl rfl
set_option maxRecDepth 20000 in
theorem fl_X12_89 : Cond.fieldLink RX12 89 (TX12 31).1 (TX12 31).2.1 (TX12 31).2.2.1 ∈ gtbl := gc7 27 rfl rfl
set_option maxRecDepth 20000 in
theorem fl_X12_92 : Cond.fieldLink RX12 92 (TX12 32).1 (TX12 32).2.1 (TX12 32).2.2.1 ∈ gtbl := gc7 28 rfl rfl
set_option maxRecDepth 20000 in
theorem fl_X12_95 : Cond.fieldLink RX12 95 (TX12 34).1 (TX12 34).2.1 (TX12 34).2.2.1 ∈ gtbl := gc7 30 rfl rfl
set_option maxRecDepth 20000 in
theorem fl_X12_98 : Cond.fieldLink RX12 98 (TX12 35).1 (TX12 35).2.1 (TX12 35).2.2.1 ∈ gtbl := gc7 31 rfl rfl
set_option maxRecDepth 20000 in
theorem fl_X12_101 : Cond.fieldLink RX12 101 (TX12 36).1 (TX12 36).2.1 (TX12 36).2.2.1 ∈ gtbl := gc7 32 rfl rfl
set_option maxRecDepth 20000 in
theorem fl_X12_104 : Cond.fieldLink RX12 104 (TX12 37).1 (TX12 37).2.1 (TX12 37).2.2.1 ∈ gtbl := gc7 33 rfl rfl
set_option maxRecDepth 20000 in
theorem fl_X12_107 : Cond.fieldLink RX12 107 (TX12 38).1 (TX12 38).2.1 (TX12 38).2.2.1 ∈ gtbl := gc7 34 rfl rfl
set_option maxRecDepth 20000 in
theorem fl_X12_110 : Cond.fieldLink RX12 110 (TX12 39).1 (TX12 39).2.1 (TX12 39).2.2.1 ∈ gtbl := gc7 35 rfl rfl
set_option maxRecDepth 20000 in
theorem fl_X12_114 : Cond.fieldLink RX12 114 (TX12 40).1 (TX12 40).2.1 (TX12 40).2.2.1 ∈ gtbl := gc7 36 rfl rfl
set_option maxRecDepth 20000 in
theorem fl_X12_117 : Cond.fieldLink RX12 117 (TX12 41).1 (TX12 41).2.1 (TX12 41).2.2.1 ∈ gtbl := gc7 37 rfl rfl
set_option maxRecDepth 20000 in
theorem fl_X12_120 : Cond.fieldLink RX12 120 (TX12 42).1 (TX12 42).2.1 (TX12 42).2.2.1 ∈ gtbl := gc7 38 rfl rfl
set_option maxRecDepth 20000 in
theorem fl_X12_123 : Cond.fieldLink RX12 123 (TX12 43).1 (TX12 43).2.1 (TX12 43).2.2.1 ∈ gtbl := gc7 39 rfl rfl
set_option maxRecDepth 20000 in
theorem fl_X12_126 : Cond.fieldLink RX12 126 (TX12 44).1 (TX12 44).2.1 (TX12 44).2.2.1 ∈ gtbl := gc7 40 rfl rfl
set_option maxRecDepth 20000 in
theorem fl_X12_129 : Cond.fieldLink RX12 129 (TX12 45).1 (TX12 45).2.1 (TX12 45).2.2.1 ∈ gtbl := gc7 41 rfl rfl
set_option maxRecDepth 20000 in
theorem fl_X12_132 : Cond.fieldLink RX12 132 (TX12 46).1 (TX12 46).2.1 (TX12 46).2.2.1 ∈ gtbl := gc7 42 rfl rfl
set_option maxRecDepth 20000 in
theorem fl_X12_135 : Cond.fieldLink RX12 135 (TX12 47).1 (TX12 47).2.1 (TX12 47).2.2.1 ∈ gtbl := gc7 43 rfl rfl
set_option maxRecDepth 20000 in
theorem fl_X12_138 : Cond.fieldLink RX12 138 (TX12 48).1 (TX12 48).2.1 (TX12 48).2.2.1 ∈ gtbl := gc7 44 rfl rfl
set_option maxRecDepth 20000 in
theorem fl_X12_141 : Cond.fieldLink RX12 141 (TX12 55).1 (TX12 55).2.1 (TX12 55).2.2.1 ∈ gtbl := gc7 51 rfl rfl
set_option maxRecDepth 20000 in
theorem fl_X12_148 : Cond.fieldLink RX12 148 (TX12 61).1 (TX12 61).2.1 (TX12 61).2.2.1 ∈ gtbl := gc7 57 rfl rfl
set_option maxRecDepth 20000 in
theorem fl_X12_151 : Cond.fieldLink RX12 151 (TX12 62).1 (TX12 62).2.1 (TX12 62).2.2.1 ∈ gtbl := gc7 58 rfl rfl
set_option maxRecDepth 20000 in
theorem fl_X12_154 : Cond.fieldLink RX12 154 (TX12 63).1 (TX12 63).2.1 (TX12 63).2.2.1 ∈ gtbl := gc7 59 rfl rfl
set_option maxRecDepth 20000 in
theorem fl_X12_157 : Cond.fieldLink RX12 157 (TX12 65).1 (TX12 65).2.1 (TX12 65).2.2.1 ∈ gtbl := gc7 61 rfl rfl
set_option maxRecDepth 20000 in
theorem fl_X12_160 : Cond.fieldLink RX12 160 (TX12 66).1 (TX12 66).2.1 (TX12 66).2.2.1 ∈ gtbl := gc7 62 rfl rfl
set_option maxRecDepth 20000 in
theorem fl_X12_163 : Cond.fieldLink RX12 163 (TX12 67).1 (TX12 67).2.1 (TX12 67).2.2.1 ∈ gtbl := gc7 63 rfl rfl
set_option maxRecDepth 20000 in
theorem fl_X12_166 : Cond.fieldLink RX12 166 (TX12 68).1 (TX12 68).2.1 (TX12 68).2.2.1 ∈ gtbl := gc7 64 rfl rfl
set_option maxRecDepth 20000 in
theorem fl_X12_169 : Cond.fieldLink RX12 169 (TX12 70).1 (TX12 70).2.1 (TX12 70).2.2.1 ∈ gtbl := gc7 66 rfl rfl
set_option maxRecDepth 20000 in
theorem fl_X12_172 : Cond.fieldLink RX12 172 (TX12 71).1 (TX12 71).2.1 (TX12 71).2.2.1 ∈ gtbl := gc7 67 rfl rfl
set_option maxRecDepth 20000 in
theorem fl_X12_175 : Cond.fieldLink RX12 175 (TX12 72).1 (TX12 72).2.1 (TX12 72).2.2.1 ∈ gtbl := gc7 68 rfl rfl
set_option maxRecDepth 20000 in
theorem fl_X12_178 : Cond.fieldLink RX12 178 (TX12 73).1 (TX12 73).2.1 (TX12 73).2.2.1 ∈ gtbl := gc7 69 rfl rfl
set_option maxRecDepth 20000 in
theorem fl_X12_181 : Cond.fieldLink RX12 181 (TX12 74).1 (TX12 74).2.1 (TX12 74).2.2.1 ∈ gtbl := gc7 70 rfl rfl
set_option maxRecDepth 20000 in
theorem fl_X12_184 : Cond.fieldLink RX12 184 (TX12 76).1 (TX12 76).2.1 (TX12 76).2.2.1 ∈ gtbl := gc7 72 rfl rfl
set_option maxRecDepth 20000 in
theorem fl_X12_187 : Cond.fieldLink RX12 187 (TX12 77).1 (TX12 77).2.1 (TX12 77).2.2.1 ∈ gtbl := gc7 73 rfl rfl
set_option maxRecDepth 20000 in
theorem fl_X12_190 : Cond.fieldLink RX12 190 (TX12 78).1 (TX12 78).2.1 (TX12 78).2.2.1 ∈ gtbl := gc7 74 rfl rfl
set_option maxRecDepth 20000 in
theorem fl_X12_193 : Cond.fieldLink RX12 193 (TX12 79).1 (TX12 79).2.1 (TX12 79).2.2.1 ∈ gtbl := gc7 75 rfl rfl
set_option maxRecDepth 20000 in
theorem fl_X12_196 : Cond.fieldLink RX12 196 (TX12 81).1 (TX12 81).2.1 (TX12 81).2.2.1 ∈ gtbl := gc7 77 rfl rfl
set_option maxRecDepth 20000 in
theorem fl_X12_199 : Cond.fieldLink RX12 199 (TX12 82).1 (TX12 82).2.1 (TX12 82).2.2.1 ∈ gtbl := gc7 78 rfl rfl
set_option maxRecDepth 20000 in
theorem fl_X12_202 : Cond.fieldLink RX12 202 (TX12 83).1 (TX12 83).2.1 (TX12 83).2.2.1 ∈ gtbl := gc7 79 rfl rfl
set_option maxRecDepth 20000 in
theorem fl_X12_205 : Cond.fieldLink RX12 205 (TX12 84).1 (TX12 84).2.1 (TX12 84).2.2.1 ∈ gtbl := gc7 80 rfl rfl
set_option maxRecDepth 20000 in
theorem fl_X12_208 : Cond.fieldLink RX12 208 (TX12 85).1 (TX12 85).2.1 (TX12 85).2.2.1 ∈ gtbl := gc7 81 rfl rfl
set_option maxRecDepth 20000 in
theorem fl_X12_211 : Cond.fieldLink RX12 211 (TX12 86).1 (TX12 86).2.1 (TX12 86).2.2.1 ∈ gtbl := gc7 82 rfl rfl
set_option maxRecDepth 20000 in
theorem fl_X12_214 : Cond.fieldLink RX12 214 (TX12 91).1 (TX12 91).2.1 (TX12 91).2.2.1 ∈ gtbl := gc7 87 rfl rfl
set_option maxRecDepth 20000 in
theorem fl_X12_217 : Cond.fieldLink RX12 217 (TX12 92).1 (TX12 92).2.1 (TX12 92).2.2.1 ∈ gtbl := gc7 88 rfl rfl
set_option maxRecDepth 20000 in
theorem fl_X12_220 : Cond.fieldLink RX12 220 (TX12 94).1 (TX12 94).2.1 (TX12 94).2.2.1 ∈ gtbl := gc7 90 rfl rfl
set_option maxRecDepth 20000 in
theorem fl_X12_223 : Cond.fieldLink RX12 223 (TX12 1).1 (TX12 1).2.1 (TX12 1).2.2.1 ∈ gtbl := gc6 237 rfl rfl
set_option maxRecDepth 20000 in
theorem fl_X12_226 : Cond.fieldLink RX12 226 (TX12 50).1 (TX12 50).2.1 (TX12 50).2.2.1 ∈ gtbl := gc7 46 rfl rfl
set_option maxRecDepth 20000 in
theorem fl_X12_237 : Cond.fieldLink RX12 237 (TX12 49).1 (TX12 49).2.1 (TX12 49).2.2.1 ∈ gtbl := gc7 45 rfl rfl
set_option maxRecDepth 20000 in
theorem fl_X12_243 : Cond.fieldLink RX12 243 (TX12 51).1 (TX12 51).2.1 (TX12 51).2.2.1 ∈ gtbl := gc7 47 rfl rfl
set_option maxRecDepth 20000 in
theorem fl_X12_246 : Cond.fieldLink RX12 246 (TX12 52).1 (TX12 52).2.1 (TX12 52).2.2.1 ∈ gtbl := gc7 48 rfl rfl
set_option maxRecDepth 20000 in
theorem fl_X12_252 : Cond.fieldLink RX12 252 (TX12 53).1 (TX12 53).2.1 (TX12 53).2.2.1 ∈ gtbl := gc7 49 rfl rfl
set_option maxRecDepth 20000 in
theorem fl_X12_258 : Cond.fieldLink RX12 258 (TX12 54).1 (TX12 54).2.1 (TX12 54).2.2.1 ∈ gtbl := gc7 50 rfl rfl
set_option maxRecDepth 20000 in
theorem fl_X12_288 : Cond.fieldLink RX12 288 (TX12 24).1 (TX12 24).2.1 (TX12 24).2.2.1 ∈ gtbl := gc7 20 rfl rfl
set_option maxRecDepth 20000 in
theorem fl_X12_291 : Cond.fieldLink RX12 291 (TX12 56).1 (TX12 56).2.1 (TX12 56).2.2.1 ∈ gtbl := gc7 52 rfl rfl
set_option maxRecDepth 20000 in
theorem fl_X12_294 : Cond.fieldLink RX12 294 (TX12 25).1 (TX12 25).2.1 (TX12 25).2.2.1 ∈ gtbl := gc7 21 rfl rfl
set_option maxRecDepth 20000 in
theorem fl_X12_341 : Cond.fieldLink RX12 341 (TX12 2).1 (TX12 2).2.1 (TX12 2).2.2.1 ∈ gtbl := gc6 238 rfl rfl
set_option maxRecDepth 20000 in
theorem fl_X12_344 : Cond.fieldLink RX12 344 (TX12 26).1 (TX12 26).2.1 (TX12 26).2.2.1 ∈ gtbl := gc7 22 rfl rfl
set_option maxRecDepth 20000 in
theorem fl_X12_347 : Cond.fieldLink RX12 347 (TX12 90).1 (TX12 90).2.1 (TX12 90).2.2.1 ∈ gtbl := gc7 86 rfl rfl
set_option maxRecDepth 20000 in
theorem fl_X12_356 : Cond.fieldLink RX12 356 (TX12 57).1 (TX12 57).2.1 (TX12 57).2.2.1 ∈ gtbl := gc7 53 rfl rfl
set_option maxRecDepth 20000 in
theorem fl_X12_359 : Cond.fieldLink RX12 359 (TX12 58).1 (TX12 58).2.1 (TX12 58).2.2.1 ∈ gtbl := gc7 54 rfl rfl
set_option maxRecDepth 20000 in
theorem fl_X12_377 : Cond.fieldLink RX12 377 (TX12 33).1 (TX12 33).2.1 (TX12 33).2.2.1 ∈ gtbl := gc7 29 rfl rfl
set_option maxRecDepth 20000 in
theorem fl_X12_421 : Cond.fieldLink RX12 421 (TX12 60).1 (TX12 60).2.1 (TX12 60).2.2.1 ∈ gtbl := gc7 56 rfl rfl
set_option maxRecDepth 20000 in
theorem fl_X12_434 : Cond.fieldLink RX12 434 (TX12 64).1 (TX12 64).2.1 (TX12 64).2.2.1 ∈ gtbl := gc7 60 rfl rfl
set_option maxRecDepth 20000 in
theorem fl_X12_437 : Cond.fieldLink RX12 437 (TX12 69).1 (TX12 69).2.1 (TX12 69).2.2.1 ∈ gtbl := gc7 65 rfl rfl
set_option maxRecDepth 20000 in
theorem fl_X12_440 : Cond.fieldLink RX12 440 (TX12 75).1 (TX12 75).2.1 (TX12 75).2.2.1 ∈ gtbl := gc7 71 rfl rfl
set_option maxRecDepth 20000 in
theorem fl_X12_497 : Cond.fieldLink RX12 497 (TX12 80).1 (TX12 80).2.1 (TX12 80).2.2.1 ∈ gtbl := gc7 76 rfl rfl
set_option maxRecDepth 20000 in
theorem fl_X12_500 : Cond.fieldLink RX12 500 (TX12 93).1 (TX12 93).2.1 (TX12 93).2.2.1 ∈ gtbl := gc7 89 rfl rfl
set_option maxRecDepth 20000 in
theorem fl_X12_513 : Cond.fieldLink RX12 513 (TX12 88).1 (TX12 88).2.1 (TX12 88).2.2.1 ∈ gtbl := gc7 84 rfl rfl
set_option maxRecDepth 20000 in
theorem fl_X12_526 : Cond.fieldLink RX12 526 (TX12 89).1 (TX12 89).2.1 (TX12 89).2.2.1 ∈ gtbl := gc7 85 rfl rfl
set_option maxRecDepth 20000 in
theorem fl_X12_529 : Cond.fieldLink RX12 529 (TX12 87).1 (TX12 87).2.1 (TX12 87).2.2.1 ∈ gtbl := gc7 83 rfl rfl
set_option maxRecDepth 20000 in
theorem yv_X6_clear : YV RX6 yX6_clear cX6_clear 1 ((none : Option FieldType)) 0 := ⟨gc3 186 rfl rfl, gc3 187 rfl rfl, gc1 7 rfl rfl, gc3 188 rfl rfl, rfl, by decide, by decide, by decide +kernel⟩
set_option maxRecDepth 20000 in
theorem yv_X8_isEnd : YV RX8 yX8_isEnd cX8_isEnd 1 ((some FieldType.boolean)) 0 := ⟨gc3 190 rfl rfl, gc3 191 rfl rfl, gc1 2 rfl rfl, gc3 192 rfl rfl, rfl, by decide, by decide, by decide +kernel⟩
set_option maxRecDepth 20000 in
theorem yv_X8_takes : YV RX8 yX8_takes cX8_takes 4 ((some FieldType.boolean)) 1 := ⟨gc3 203 rfl rfl, gc3 204 rfl rfl, gc1 2 rfl rfl, gc3 205 rfl rfl, rfl, by decide, by decide, by decide +kernel⟩
set_option maxRecDepth 20000 in
theorem yv_X8_misplaced : YV RX8 yX8_misplaced cX8_misplaced 1 ((some FieldType.boolean)) 0 := ⟨gc3 207 rfl rfl, gc3 208 rfl rfl, gc1 2 rfl rfl, gc3 209 rfl rfl, rfl, by decide, by decide, by decide +kernel⟩
set_option maxRecDepth 20000 in
theorem yv_X8_expects : YV RX8 yX8_expects cX8_expects 3 ((some FieldType.boolean)) 1 := ⟨gc3 199 rfl rfl, gc3 200 rfl rfl, gc1 2 rfl rfl, gc3 201 rfl rfl, rfl, by decide, by decide, by decide +kernel⟩
set_option maxRecDepth 20000 in
theorem yv_X8_isName : YV RX8 yX8_isName cX8_isName 1 ((some FieldType.boolean)) 0 := ⟨gc3 211 rfl rfl, gc3 212 rfl rfl, gc1 2 rfl rfl, gc3 213 rfl rfl, rfl, by decide, by decide, by decide +kernel⟩
set_option maxRecDepth 20000 in
theorem yv_X8_word : YV RX8 yX8_word cX8_word 1 ((some FieldType.long)) 0 := ⟨gc3 216 rfl rfl, gc3 217 rfl rfl, gc1 2 rfl rfl, gc3 218 rfl rfl, rfl, by decide, by decide, by decide +kernel⟩
set_option maxRecDepth 20000 in
theorem yv_X6_classNamed : YV RX6 yX6_classNamed cX6_classNamed 4 ((some FieldType.int)) 1 := ⟨gc3 220 rfl rfl, gc3 221 rfl rfl, gc1 7 rfl rfl, gc3 222 rfl rfl, rfl, by decide, by decide, by decide +kernel⟩
set_option maxRecDepth 20000 in
theorem yv_X8_refuseAt : YV RX8 yX8_refuseAt cX8_refuseAt 3 ((some FieldType.boolean)) 2 := ⟨gc3 228 rfl rfl, gc3 229 rfl rfl, gc1 2 rfl rfl, gc3 230 rfl rfl, rfl, by decide, by decide, by decide +kernel⟩
set_option maxRecDepth 20000 in
theorem yv_X8_refuse : YV RX8 yX8_refuse cX8_refuse 2 ((some FieldType.boolean)) 1 := ⟨gc3 224 rfl rfl, gc3 225 rfl rfl, gc1 2 rfl rfl, gc3 226 rfl rfl, rfl, by decide, by decide, by decide +kernel⟩
set_option maxRecDepth 20000 in
theorem yv_X8_pass : YV RX8 yX8_pass cX8_pass 1 ((none : Option FieldType)) 0 := ⟨gc3 232 rfl rfl, gc3 233 rfl rfl, gc1 2 rfl rfl, gc3 234 rfl rfl, rfl, by decide, by decide, by decide +kernel⟩
set_option maxRecDepth 20000 in
theorem yv_X8_isAt : YV RX8 yX8_isAt cX8_isAt 3 ((some FieldType.boolean)) 1 := ⟨gc4 8 rfl rfl, gc4 9 rfl rfl, gc1 2 rfl rfl, gc4 10 rfl rfl, rfl, by decide, by decide, by decide +kernel⟩
set_option maxRecDepth 20000 in
theorem yv_X0_wayNow : YV RX0 yX0_wayNow cX0_wayNow 1 ((some FieldType.int)) 0 := ⟨gc4 4 rfl rfl, gs1 6 rfl, gc1 3 rfl rfl, gc4 5 rfl rfl, rfl, by decide, by decide, by decide +kernel⟩
set_option maxRecDepth 20000 in
theorem yv_X1_begin : YV RX1 yX1_begin cX1_begin 5 ((none : Option FieldType)) 3 := ⟨gc4 19 rfl rfl, gc4 20 rfl rfl, gc1 8 rfl rfl, gc4 21 rfl rfl, rfl, by decide, by decide, by decide +kernel⟩
set_option maxRecDepth 20000 in
theorem yv_X6_kindAt : YV RX6 yX6_kindAt cX6_kindAt 2 ((some (FieldType.object "BeeRegister$Kind"))) 1 := ⟨gc4 23 rfl rfl, gc4 24 rfl rfl, gc1 7 rfl rfl, gc4 25 rfl rfl, rfl, by decide, by decide, by decide +kernel⟩
set_option maxRecDepth 20000 in
theorem yv_X6_addClass : YV RX6 yX6_addClass cX6_addClass 8 ((some (FieldType.object "BeeRegister$Kind"))) 3 := ⟨gc4 15 rfl rfl, gc4 16 rfl rfl, gc1 7 rfl rfl, gc4 17 rfl rfl, rfl, by decide, by decide, by decide +kernel⟩
set_option maxRecDepth 20000 in
theorem yv_X0_readOrigin : YV RX0 yX0_readOrigin cX0_readOrigin 5 ((some FieldType.boolean)) 1 := ⟨gc3 237 rfl rfl, gs1 5 rfl, gc1 3 rfl rfl, gc3 238 rfl rfl, rfl, by decide, by decide, by decide +kernel⟩
set_option maxRecDepth 20000 in
theorem yv_X0_readHead : YV RX0 yX0_readHead cX0_readHead 3 ((some FieldType.boolean)) 0 := ⟨gc3 195 rfl rfl, gs1 4 rfl, gc1 3 rfl rfl, gc3 196 rfl rfl, rfl, by decide, by decide, by decide +kernel⟩
set_option maxRecDepth 20000 in
theorem yv_X1_memberNamed : YV RX1 yX1_memberNamed cX1_memberNamed 4 ((some FieldType.int)) 1 := ⟨gc4 39 rfl rfl, gc4 40 rfl rfl, gc1 8 rfl rfl, gc4 41 rfl rfl, rfl, by decide, by decide, by decide +kernel⟩
set_option maxRecDepth 20000 in
theorem yv_X8_isNumber : YV RX8 yX8_isNumber cX8_isNumber 1 ((some FieldType.boolean)) 0 := ⟨gc4 44 rfl rfl, gc4 45 rfl rfl, gc1 2 rfl rfl, gc4 46 rfl rfl, rfl, by decide, by decide, by decide +kernel⟩
set_option maxRecDepth 20000 in
theorem yv_X8_number : YV RX8 yX8_number cX8_number 1 ((some FieldType.int)) 0 := ⟨gc4 48 rfl rfl, gc4 49 rfl rfl, gc1 2 rfl rfl, gc4 50 rfl rfl, rfl, by decide, by decide, by decide +kernel⟩
set_option maxRecDepth 20000 in
theorem yv_X0_readHook : YV RX0 yX0_readHook cX0_readHook 3 ((some FieldType.boolean)) 0 := ⟨gc4 34 rfl rfl, gs1 8 rfl, gc1 3 rfl rfl, gc4 35 rfl rfl, rfl, by decide, by decide, by decide +kernel⟩
set_option maxRecDepth 20000 in
theorem yv_X2_begin : YV RX2 yX2_begin cX2_begin 4 ((none : Option FieldType)) 2 := ⟨gc4 61 rfl rfl, gc4 62 rfl rfl, gc1 9 rfl rfl, gc4 63 rfl rfl, rfl, by decide, by decide, by decide +kernel⟩
set_option maxRecDepth 20000 in
theorem yv_X6_addMember : YV RX6 yX6_addMember cX6_addMember 5 ((some (FieldType.object "BeeRegister$Member"))) 2 := ⟨gc4 57 rfl rfl, gc4 58 rfl rfl, gc1 7 rfl rfl, gc4 59 rfl rfl, rfl, by decide, by decide, by decide +kernel⟩
set_option maxRecDepth 20000 in
theorem yv_X8_placeNow : YV RX8 yX8_placeNow cX8_placeNow 1 ((some FieldType.int)) 0 := ⟨gc4 79 rfl rfl, gc4 80 rfl rfl, gc1 2 rfl rfl, gc4 81 rfl rfl, rfl, by decide, by decide, by decide +kernel⟩
set_option maxRecDepth 20000 in
theorem yv_X0_readTarget : YV RX0 yX0_readTarget cX0_readTarget 2 ((some FieldType.boolean)) 1 := ⟨gc4 76 rfl rfl, gs1 12 rfl, gc1 3 rfl rfl, gc4 77 rfl rfl, rfl, by decide, by decide, by decide +kernel⟩
set_option maxRecDepth 20000 in
theorem yv_X0_takeFlag : YV RX0 yX0_takeFlag cX0_takeFlag 5 ((none : Option FieldType)) 3 := ⟨gc4 85 rfl rfl, gs1 13 rfl, gc1 3 rfl rfl, gc4 86 rfl rfl, rfl, by decide, by decide, by decide +kernel⟩
set_option maxRecDepth 20000 in
theorem yv_X0_readReference : YV RX0 yX0_readReference cX0_readReference 2 ((some FieldType.boolean)) 1 := ⟨gc4 72 rfl rfl, gs1 11 rfl, gc1 3 rfl rfl, gc4 73 rfl rfl, rfl, by decide, by decide, by decide +kernel⟩
set_option maxRecDepth 20000 in
theorem yv_X0_readList : YV RX0 yX0_readList cX0_readList 2 ((some FieldType.boolean)) 1 := ⟨gc4 91 rfl rfl, gs1 14 rfl, gc1 3 rfl rfl, gc4 92 rfl rfl, rfl, by decide, by decide, by decide +kernel⟩
set_option maxRecDepth 20000 in
theorem yv_X6_nameNumber : YV RX6 yX6_nameNumber cX6_nameNumber 5 ((some FieldType.int)) 2 := ⟨gc4 103 rfl rfl, gc4 104 rfl rfl, gc1 7 rfl rfl, gc4 105 rfl rfl, rfl, by decide, by decide, by decide +kernel⟩
set_option maxRecDepth 20000 in
theorem yv_X0_readNames : YV RX0 yX0_readNames cX0_readNames 4 ((some FieldType.boolean)) 1 := ⟨gc4 100 rfl rfl, gs1 15 rfl, gc1 3 rfl rfl, gc4 101 rfl rfl, rfl, by decide, by decide, by decide +kernel⟩
set_option maxRecDepth 20000 in
theorem yv_X0_readSort : YV RX0 yX0_readSort cX0_readSort 2 ((some FieldType.boolean)) 1 := ⟨gc4 67 rfl rfl, gs1 10 rfl, gc1 3 rfl rfl, gc4 68 rfl rfl, rfl, by decide, by decide, by decide +kernel⟩
set_option maxRecDepth 20000 in
theorem yv_X0_readMember : YV RX0 yX0_readMember cX0_readMember 2 ((some FieldType.boolean)) 0 := ⟨gc4 54 rfl rfl, gs1 9 rfl, gc1 3 rfl rfl, gc4 55 rfl rfl, rfl, by decide, by decide, by decide +kernel⟩
set_option maxRecDepth 20000 in
theorem yv_X0_readPart : YV RX0 yX0_readPart cX0_readPart 1 ((some FieldType.boolean)) 0 := ⟨gc4 28 rfl rfl, gs1 7 rfl, gc1 3 rfl rfl, gc4 29 rfl rfl, rfl, by decide, by decide, by decide +kernel⟩
set_option maxRecDepth 20000 in
theorem yv_X2_isLeading : YV RX2 yX2_isLeading cX2_isLeading 1 ((some FieldType.boolean)) 0 := ⟨gc4 114 rfl rfl, gc4 115 rfl rfl, gc1 9 rfl rfl, gc4 116 rfl rfl, rfl, by decide, by decide, by decide +kernel⟩
set_option maxRecDepth 20000 in
theorem yv_X0_findTargets : YV RX0 yX0_findTargets cX0_findTargets 3 ((none : Option FieldType)) 0 := ⟨gc4 111 rfl rfl, gs2 0 rfl, gc1 3 rfl rfl, gc4 112 rfl rfl, rfl, by decide, by decide, by decide +kernel⟩
set_option maxRecDepth 20000 in
theorem yv_X6_memberNamed : YV RX6 yX6_memberNamed cX6_memberNamed 5 ((some FieldType.int)) 2 := ⟨gc4 127 rfl rfl, gc4 128 rfl rfl, gc1 7 rfl rfl, gc4 129 rfl rfl, rfl, by decide, by decide, by decide +kernel⟩
set_option maxRecDepth 20000 in
theorem yv_X6_memberAt : YV RX6 yX6_memberAt cX6_memberAt 4 ((some (FieldType.object "BeeRegister$Member"))) 2 := ⟨gc4 132 rfl rfl, gc4 133 rfl rfl, gc1 7 rfl rfl, gc4 134 rfl rfl, rfl, by decide, by decide, by decide +kernel⟩
set_option maxRecDepth 20000 in
theorem yv_X6_isOf : YV RX6 yX6_isOf cX6_isOf 5 ((some FieldType.boolean)) 2 := ⟨gc4 136 rfl rfl, gc4 137 rfl rfl, gc1 7 rfl rfl, gc4 138 rfl rfl, rfl, by decide, by decide, by decide +kernel⟩
set_option maxRecDepth 20000 in
theorem yv_X0_findBy : YV RX0 yX0_findBy cX0_findBy 4 ((some FieldType.boolean)) 1 := ⟨gc4 124 rfl rfl, gs2 2 rfl, gc1 3 rfl rfl, gc4 125 rfl rfl, rfl, by decide, by decide, by decide +kernel⟩
set_option maxRecDepth 20000 in
theorem yv_X0_checkLeads : YV RX0 yX0_checkLeads cX0_checkLeads 3 ((some FieldType.boolean)) 0 := ⟨gc4 119 rfl rfl, gs2 1 rfl, gc1 3 rfl rfl, gc4 120 rfl rfl, rfl, by decide, by decide, by decide +kernel⟩
set_option maxRecDepth 20000 in
theorem yv_X0_readClasses : YV RX0 yX0_readClasses cX0_readClasses 4 ((some FieldType.boolean)) 1 := ⟨gc3 182 rfl rfl, gc3 183 rfl rfl, gc1 3 rfl rfl, gc3 184 rfl rfl, rfl, by decide, by decide, by decide +kernel⟩
set_option maxRecDepth 20000 in
theorem yv_X1_runHooks : YV RX1 yX1_runHooks cX1_runHooks 4 ((none : Option FieldType)) 2 := ⟨gc4 212 rfl rfl, gc4 213 rfl rfl, gc1 8 rfl rfl, gc4 214 rfl rfl, rfl, by decide, by decide, by decide +kernel⟩
set_option maxRecDepth 20000 in
theorem yv_X2_has : YV RX2 yX2_has cX2_has 2 ((some FieldType.boolean)) 1 := ⟨gc5 11 rfl rfl, gc5 12 rfl rfl, gc1 9 rfl rfl, gc5 13 rfl rfl, rfl, by decide, by decide, by decide +kernel⟩
set_option maxRecDepth 20000 in
theorem yv_X2_holds : YV RX2 yX2_holds cX2_holds 2 ((some FieldType.boolean)) 1 := ⟨gc5 222 rfl rfl, gc5 223 rfl rfl, gc1 9 rfl rfl, gc5 224 rfl rfl, rfl, by decide, by decide, by decide +kernel⟩
set_option maxRecDepth 20000 in
theorem yv_X3_begin : YV RX3 yX3_begin cX3_begin 2 ((none : Option FieldType)) 1 := ⟨gc6 101 rfl rfl, gc6 102 rfl rfl, gc1 4 rfl rfl, gc6 103 rfl rfl, rfl, by decide, by decide, by decide +kernel⟩
set_option maxRecDepth 20000 in
theorem yv_X3_add : YV RX3 yX3_add cX3_add 2 ((none : Option FieldType)) 1 := ⟨gc6 134 rfl rfl, gc6 135 rfl rfl, gc1 4 rfl rfl, gc6 136 rfl rfl, rfl, by decide, by decide, by decide +kernel⟩
set_option maxRecDepth 20000 in
theorem yv_X3_set : YV RX3 yX3_set cX3_set 3 ((none : Option FieldType)) 2 := ⟨gc6 153 rfl rfl, gc6 154 rfl rfl, gc1 4 rfl rfl, gc6 155 rfl rfl, rfl, by decide, by decide, by decide +kernel⟩
set_option maxRecDepth 20000 in
theorem yv_X5_get : YV RX5 yX5_get cX5_get 3 ((some FieldType.int)) 2 := ⟨gc5 55 rfl rfl, gc5 56 rfl rfl, gc1 6 rfl rfl, gc5 57 rfl rfl, rfl, by decide, by decide, by decide +kernel⟩
set_option maxRecDepth 20000 in
theorem yv_X6_rootOf : YV RX6 yX6_rootOf cX6_rootOf 2 ((some FieldType.int)) 1 := ⟨gc4 239 rfl rfl, gc5 0 rfl rfl, gc1 7 rfl rfl, gc5 1 rfl rfl, rfl, by decide, by decide, by decide +kernel⟩
set_option maxRecDepth 20000 in
theorem yv_X5_rowOf : YV RX5 yX5_rowOf cX5_rowOf 5 ((some FieldType.int)) 2 := ⟨gc5 63 rfl rfl, gc5 64 rfl rfl, gc1 6 rfl rfl, gc5 65 rfl rfl, rfl, by decide, by decide, by decide +kernel⟩
set_option maxRecDepth 20000 in
theorem yv_X5_rowLedTo : YV RX5 yX5_rowLedTo cX5_rowLedTo 4 ((some FieldType.int)) 2 := ⟨gc6 201 rfl rfl, gc6 202 rfl rfl, gc1 6 rfl rfl, gc6 203 rfl rfl, rfl, by decide, by decide, by decide +kernel⟩
set_option maxRecDepth 20000 in
theorem yv_X3_compares : YS yX3_compares cX3_compares 3 ((some FieldType.boolean)) 3 := ⟨gc6 206 rfl rfl, gc1 4 rfl rfl, gc6 207 rfl rfl, by decide, by decide, by decide +kernel⟩
set_option maxRecDepth 20000 in
theorem yv_X3_truthOfTerm : YV RX3 yX3_truthOfTerm cX3_truthOfTerm 8 ((some FieldType.int)) 3 := ⟨gc6 198 rfl rfl, gs5 6 rfl, gc1 4 rfl rfl, gc6 199 rfl rfl, rfl, by decide, by decide, by decide +kernel⟩
set_option maxRecDepth 20000 in
theorem yv_X3_join : YV RX3 yX3_join cX3_join 5 ((some FieldType.int)) 2 := ⟨gc6 210 rfl rfl, gs5 7 rfl, gc1 4 rfl rfl, gc6 211 rfl rfl, rfl, by decide, by decide, by decide +kernel⟩
set_option maxRecDepth 20000 in
theorem yv_X3_isTrueOf : YV RX3 yX3_isTrueOf cX3_isTrueOf 7 ((some FieldType.boolean)) 2 := ⟨gc6 193 rfl rfl, gc6 194 rfl rfl, gc1 4 rfl rfl, gc6 195 rfl rfl, rfl, by decide, by decide, by decide +kernel⟩
set_option maxRecDepth 20000 in
theorem yv_X4_openingNow : YV RX4 yX4_openingNow cX4_openingNow 1 ((some FieldType.int)) 0 := ⟨gc6 118 rfl rfl, gs4 12 rfl, gc1 5 rfl rfl, gc6 119 rfl rfl, rfl, by decide, by decide, by decide +kernel⟩
set_option maxRecDepth 20000 in
theorem yv_X4_push : YV RX4 yX4_push cX4_push 2 ((none : Option FieldType)) 1 := ⟨gc6 125 rfl rfl, gs4 13 rfl, gc1 5 rfl rfl, gc6 126 rfl rfl, rfl, by decide, by decide, by decide +kernel⟩
set_option maxRecDepth 20000 in
theorem yv_X4_readOpenings : YV RX4 yX4_readOpenings cX4_readOpenings 3 ((some FieldType.boolean)) 0 := ⟨gc6 114 rfl rfl, gs4 11 rfl, gc1 5 rfl rfl, gc6 115 rfl rfl, rfl, by decide, by decide, by decide +kernel⟩
set_option maxRecDepth 20000 in
theorem yv_X8_isAhead : YV RX8 yX8_isAhead cX8_isAhead 3 ((some FieldType.boolean)) 1 := ⟨gc6 145 rfl rfl, gc6 146 rfl rfl, gc1 2 rfl rfl, gc6 147 rfl rfl, rfl, by decide, by decide, by decide +kernel⟩
set_option maxRecDepth 20000 in
theorem yv_X4_canStand : YS yX4_canStand cX4_canStand 3 ((some FieldType.boolean)) 3 := ⟨gc6 149 rfl rfl, gc1 5 rfl rfl, gc6 150 rfl rfl, by decide, by decide, by decide +kernel⟩
set_option maxRecDepth 20000 in
theorem yv_X4_readPath : YV RX4 yX4_readPath cX4_readPath 8 ((some (FieldType.object "BeeRegister$Member"))) 1 := ⟨gc6 139 rfl rfl, gs4 15 rfl, gc1 5 rfl rfl, gc6 140 rfl rfl, rfl, by decide, by decide, by decide +kernel⟩
set_option maxRecDepth 20000 in
theorem yv_X4_readSign : YV RX4 yX4_readSign cX4_readSign 1 ((some FieldType.boolean)) 0 := ⟨gc6 158 rfl rfl, gs5 0 rfl, gc1 5 rfl rfl, gc6 159 rfl rfl, rfl, by decide, by decide, by decide +kernel⟩
set_option maxRecDepth 20000 in
theorem yv_X4_readOperand : YV RX4 yX4_readOperand cX4_readOperand 3 ((some FieldType.boolean)) 1 := ⟨gc6 165 rfl rfl, gs5 1 rfl, gc1 5 rfl rfl, gc6 166 rfl rfl, rfl, by decide, by decide, by decide +kernel⟩
set_option maxRecDepth 20000 in
theorem yv_X4_readTerm : YV RX4 yX4_readTerm cX4_readTerm 2 ((some FieldType.boolean)) 0 := ⟨gc6 129 rfl rfl, gs4 14 rfl, gc1 5 rfl rfl, gc6 130 rfl rfl, rfl, by decide, by decide, by decide +kernel⟩
set_option maxRecDepth 20000 in
theorem yv_X4_joinDown : YV RX4 yX4_joinDown cX4_joinDown 2 ((none : Option FieldType)) 1 := ⟨gc6 178 rfl rfl, gs5 3 rfl, gc1 5 rfl rfl, gc6 179 rfl rfl, rfl, by decide, by decide, by decide +kernel⟩
set_option maxRecDepth 20000 in
theorem yv_X4_readClosings : YV RX4 yX4_readClosings cX4_readClosings 2 ((some FieldType.boolean)) 0 := ⟨gc6 173 rfl rfl, gs5 2 rfl, gc1 5 rfl rfl, gc6 174 rfl rfl, rfl, by decide, by decide, by decide +kernel⟩
set_option maxRecDepth 20000 in
theorem yv_X4_readJoiner : YV RX4 yX4_readJoiner cX4_readJoiner 2 ((some FieldType.boolean)) 0 := ⟨gc6 182 rfl rfl, gs5 4 rfl, gc1 5 rfl rfl, gc6 183 rfl rfl, rfl, by decide, by decide, by decide +kernel⟩
set_option maxRecDepth 20000 in
theorem yv_X4_readTerms : YV RX4 yX4_readTerms cX4_readTerms 2 ((some FieldType.boolean)) 0 := ⟨gc6 110 rfl rfl, gs4 10 rfl, gc1 5 rfl rfl, gc6 111 rfl rfl, rfl, by decide, by decide, by decide +kernel⟩
set_option maxRecDepth 20000 in
theorem yv_X4_readQuestion : YV RX4 yX4_readQuestion cX4_readQuestion 3 ((some FieldType.boolean)) 1 := ⟨gc6 92 rfl rfl, gc6 93 rfl rfl, gc1 5 rfl rfl, gc6 94 rfl rfl, rfl, by decide, by decide, by decide +kernel⟩
set_option maxRecDepth 20000 in
theorem yv_X5_clear : YV RX5 yX5_clear cX5_clear 2 ((none : Option FieldType)) 0 := ⟨gc4 144 rfl rfl, gc4 145 rfl rfl, gc1 6 rfl rfl, gc4 146 rfl rfl, rfl, by decide, by decide, by decide +kernel⟩
set_option maxRecDepth 20000 in
theorem yv_X5_copyFrom : YV RX5 yX5_copyFrom cX5_copyFrom 5 ((none : Option FieldType)) 1 := ⟨gc4 216 rfl rfl, gc4 217 rfl rfl, gc1 6 rfl rfl, gc4 218 rfl rfl, rfl, by decide, by decide, by decide +kernel⟩
set_option maxRecDepth 20000 in
theorem yv_X5_total : YV RX5 yX5_total cX5_total 3 ((some FieldType.int)) 0 := ⟨gc6 227 rfl rfl, gc6 228 rfl rfl, gc1 6 rfl rfl, gc6 229 rfl rfl, rfl, by decide, by decide, by decide +kernel⟩
set_option maxRecDepth 20000 in
theorem yv_X5_firstOf : YV RX5 yX5_firstOf cX5_firstOf 2 ((some FieldType.int)) 1 := ⟨gc5 46 rfl rfl, gc5 47 rfl rfl, gc1 6 rfl rfl, gc5 48 rfl rfl, rfl, by decide, by decide, by decide +kernel⟩
set_option maxRecDepth 20000 in
theorem yv_X5_endOf : YV RX5 yX5_endOf cX5_endOf 2 ((some FieldType.int)) 1 := ⟨gc5 50 rfl rfl, gc5 51 rfl rfl, gc1 6 rfl rfl, gc5 52 rfl rfl, rfl, by decide, by decide, by decide +kernel⟩
set_option maxRecDepth 20000 in
theorem yv_X5_isFull : YV RX5 yX5_isFull cX5_isFull 2 ((some FieldType.boolean)) 1 := ⟨gc5 27 rfl rfl, gc5 28 rfl rfl, gc1 6 rfl rfl, gc5 29 rfl rfl, rfl, by decide, by decide, by decide +kernel⟩
set_option maxRecDepth 20000 in
theorem yv_X5_set : YV RX5 yX5_set cX5_set 4 ((none : Option FieldType)) 3 := ⟨gc5 75 rfl rfl, gc5 76 rfl rfl, gc1 6 rfl rfl, gc5 77 rfl rfl, rfl, by decide, by decide, by decide +kernel⟩
set_option maxRecDepth 20000 in
theorem yv_X5_copyValues : YV RX5 yX5_copyValues cX5_copyValues 3 ((none : Option FieldType)) 2 := ⟨gc5 180 rfl rfl, gc5 181 rfl rfl, gc1 6 rfl rfl, gc5 182 rfl rfl, rfl, by decide, by decide, by decide +kernel⟩
set_option maxRecDepth 20000 in
theorem yv_X5_move : YV RX5 yX5_move cX5_move 4 ((none : Option FieldType)) 3 := ⟨gc5 72 rfl rfl, gs3 3 rfl, gc1 6 rfl rfl, gc5 73 rfl rfl, rfl, by decide, by decide, by decide +kernel⟩
set_option maxRecDepth 20000 in
theorem yv_X5_add : YV RX5 yX5_add cX5_add 5 ((some FieldType.int)) 3 := ⟨gc5 67 rfl rfl, gc5 68 rfl rfl, gc1 6 rfl rfl, gc5 69 rfl rfl, rfl, by decide, by decide, by decide +kernel⟩
set_option maxRecDepth 20000 in
theorem yv_X5_remove : YV RX5 yX5_remove cX5_remove 3 ((none : Option FieldType)) 2 := ⟨gc5 118 rfl rfl, gc5 119 rfl rfl, gc1 6 rfl rfl, gc5 120 rfl rfl, rfl, by decide, by decide, by decide +kernel⟩
set_option maxRecDepth 20000 in
theorem yv_X5_isTaken : YV RX5 yX5_isTaken cX5_isTaken 7 ((some FieldType.boolean)) 4 := ⟨gc5 42 rfl rfl, gs3 1 rfl, gc1 6 rfl rfl, gc5 43 rfl rfl, rfl, by decide, by decide, by decide +kernel⟩
set_option maxRecDepth 20000 in
theorem yv_X5_leads : YV RX5 yX5_leads cX5_leads 7 ((some FieldType.boolean)) 4 := ⟨gc5 60 rfl rfl, gs3 2 rfl, gc1 6 rfl rfl, gc5 61 rfl rfl, rfl, by decide, by decide, by decide +kernel⟩
set_option maxRecDepth 20000 in
theorem yv_X5_brokenRule : YV RX5 yX5_brokenRule cX5_brokenRule 6 ((some FieldType.int)) 4 := ⟨gc5 35 rfl rfl, gc5 36 rfl rfl, gc1 6 rfl rfl, gc5 37 rfl rfl, rfl, by decide, by decide, by decide +kernel⟩
set_option maxRecDepth 20000 in
theorem yv_X5_memberLeading : YV RX5 yX5_memberLeading cX5_memberLeading 7 ((some FieldType.int)) 3 := ⟨gc5 111 rfl rfl, gs3 9 rfl, gc1 6 rfl rfl, gc5 112 rfl rfl, rfl, by decide, by decide, by decide +kernel⟩
set_option maxRecDepth 20000 in
theorem yv_X5_leadingMember : YV RX5 yX5_leadingMember cX5_leadingMember 7 ((some FieldType.int)) 2 := ⟨gc5 106 rfl rfl, gc5 107 rfl rfl, gc1 6 rfl rfl, gc5 108 rfl rfl, rfl, by decide, by decide, by decide +kernel⟩
set_option maxRecDepth 20000 in
theorem yv_X5_firstOwn : YV RX5 yX5_firstOwn cX5_firstOwn 3 ((some FieldType.int)) 1 := ⟨gc6 67 rfl rfl, gs4 7 rfl, gc1 6 rfl rfl, gc6 68 rfl rfl, rfl, by decide, by decide, by decide +kernel⟩
set_option maxRecDepth 20000 in
theorem yv_X5_columnFrom : YV RX5 yX5_columnFrom cX5_columnFrom 7 ((some FieldType.int)) 3 := ⟨gc6 72 rfl rfl, gs4 8 rfl, gc1 6 rfl rfl, gc6 73 rfl rfl, rfl, by decide, by decide, by decide +kernel⟩
set_option maxRecDepth 20000 in
theorem yv_X5_ownColumn : YV RX5 yX5_ownColumn cX5_ownColumn 3 ((some FieldType.int)) 2 := ⟨gc6 63 rfl rfl, gs4 6 rfl, gc1 6 rfl rfl, gc6 64 rfl rfl, rfl, by decide, by decide, by decide +kernel⟩
set_option maxRecDepth 20000 in
theorem yv_X5_ownColumns : YV RX5 yX5_ownColumns cX5_ownColumns 5 ((some FieldType.int)) 1 := ⟨gc6 85 rfl rfl, gs4 9 rfl, gc1 6 rfl rfl, gc6 86 rfl rfl, rfl, by decide, by decide, by decide +kernel⟩
set_option maxRecDepth 20000 in
theorem yv_X5_oneCell : YV RX5 yX5_oneCell cX5_oneCell 7 ((some FieldType.long)) 3 := ⟨gc6 79 rfl rfl, gc6 80 rfl rfl, gc1 6 rfl rfl, gc6 81 rfl rfl, rfl, by decide, by decide, by decide +kernel⟩
set_option maxRecDepth 20000 in
theorem yv_X5_joinedCell : YV RX5 yX5_joinedCell cX5_joinedCell 6 ((some FieldType.long)) 3 := ⟨gc6 57 rfl rfl, gc6 58 rfl rfl, gc1 6 rfl rfl, gc6 59 rfl rfl, rfl, by decide, by decide, by decide +kernel⟩
set_option maxRecDepth 20000 in
theorem yv_X5_ownCell : YV RX5 yX5_ownCell cX5_ownCell 5 ((some FieldType.long)) 3 := ⟨gc6 75 rfl rfl, gc6 76 rfl rfl, gc1 6 rfl rfl, gc6 77 rfl rfl, rfl, by decide, by decide, by decide +kernel⟩
set_option maxRecDepth 20000 in
theorem yv_X6_runHooks : YV RX6 yX6_runHooks cX6_runHooks 4 ((none : Option FieldType)) 2 := ⟨gc4 207 rfl rfl, gc4 208 rfl rfl, gc1 7 rfl rfl, gc4 209 rfl rfl, rfl, by decide, by decide, by decide +kernel⟩
set_option maxRecDepth 20000 in
theorem yv_X7_begin : YV RX7 yX7_begin cX7_begin 5 ((none : Option FieldType)) 3 := ⟨gc5 155 rfl rfl, gc5 156 rfl rfl, gc1 11 rfl rfl, gc5 157 rfl rfl, rfl, by decide, by decide, by decide +kernel⟩
set_option maxRecDepth 20000 in
theorem yv_X7_isLive : YV RX7 yX7_isLive cX7_isLive 1 ((some FieldType.boolean)) 0 := ⟨gc4 191 rfl rfl, gc4 192 rfl rfl, gc1 11 rfl rfl, gc4 193 rfl rfl, rfl, by decide, by decide, by decide +kernel⟩
set_option maxRecDepth 20000 in
theorem yv_X7_keepCopy : YV RX7 yX7_keepCopy cX7_keepCopy 2 ((none : Option FieldType)) 1 := ⟨gc5 126 rfl rfl, gc5 127 rfl rfl, gc1 11 rfl rfl, gc5 128 rfl rfl, rfl, by decide, by decide, by decide +kernel⟩
set_option maxRecDepth 20000 in
theorem yv_X7_changes : YV RX7 yX7_changes cX7_changes 3 ((some FieldType.int)) 0 := ⟨gc4 203 rfl rfl, gc4 204 rfl rfl, gc1 11 rfl rfl, gc4 205 rfl rfl, rfl, by decide, by decide, by decide +kernel⟩
set_option maxRecDepth 20000 in
theorem yv_X7_isAhead : YV RX7 yX7_isAhead cX7_isAhead 2 ((some FieldType.boolean)) 1 := ⟨gc4 195 rfl rfl, gc4 196 rfl rfl, gc1 11 rfl rfl, gc4 197 rfl rfl, rfl, by decide, by decide, by decide +kernel⟩
set_option maxRecDepth 20000 in
theorem yv_X8_isBlank : YS yX8_isBlank cX8_isBlank 1 ((some FieldType.boolean)) 1 := ⟨gc3 65 rfl rfl, gc1 2 rfl rfl, gc3 66 rfl rfl, by decide, by decide, by decide +kernel⟩
set_option maxRecDepth 20000 in
theorem yv_X8_isLetter : YS yX8_isLetter cX8_isLetter 1 ((some FieldType.boolean)) 1 := ⟨gc3 71 rfl rfl, gc1 2 rfl rfl, gc3 72 rfl rfl, by decide, by decide, by decide +kernel⟩
set_option maxRecDepth 20000 in
theorem yv_X8_isDigit : YS yX8_isDigit cX8_isDigit 1 ((some FieldType.boolean)) 1 := ⟨gc3 74 rfl rfl, gc1 2 rfl rfl, gc3 75 rfl rfl, by decide, by decide, by decide +kernel⟩
set_option maxRecDepth 20000 in
theorem yv_X8_endOfToken : YS yX8_endOfToken cX8_endOfToken 4 ((some FieldType.int)) 3 := ⟨gc3 68 rfl rfl, gc1 2 rfl rfl, gc3 69 rfl rfl, by decide, by decide, by decide +kernel⟩
set_option maxRecDepth 20000 in
theorem yv_X8_keepNumber : YV RX8 yX8_keepNumber cX8_keepNumber 7 ((none : Option FieldType)) 3 := ⟨gc3 91 rfl rfl, gs1 3 rfl, gc1 2 rfl rfl, gc3 92 rfl rfl, rfl, by decide, by decide, by decide +kernel⟩
set_option maxRecDepth 20000 in
theorem yv_X9_begin : YV RX9 yX9_begin cX9_begin 1 ((none : Option FieldType)) 0 := ⟨gc4 167 rfl rfl, gc4 168 rfl rfl, gc1 10 rfl rfl, gc4 169 rfl rfl, rfl, by decide, by decide, by decide +kernel⟩
set_option maxRecDepth 20000 in
theorem yv_X9_thingAt : YV RX9 yX9_thingAt cX9_thingAt 2 ((some (FieldType.object "BeeRegister$Thing"))) 1 := ⟨gc5 193 rfl rfl, gc5 194 rfl rfl, gc1 10 rfl rfl, gc5 195 rfl rfl, rfl, by decide, by decide, by decide +kernel⟩
set_option maxRecDepth 20000 in
theorem yv_X9_thingFor : YV RX9 yX9_thingFor cX9_thingFor 4 ((some (FieldType.object "BeeRegister$Thing"))) 2 := ⟨gc5 3 rfl rfl, gc5 4 rfl rfl, gc1 10 rfl rfl, gc5 5 rfl rfl, rfl, by decide, by decide, by decide +kernel⟩
set_option maxRecDepth 20000 in
theorem yv_X9_comes : YV RX9 yX9_comes cX9_comes 5 ((some (FieldType.object "BeeRegister$Thing"))) 3 := ⟨gc5 151 rfl rfl, gc5 152 rfl rfl, gc1 10 rfl rfl, gc5 153 rfl rfl, rfl, by decide, by decide, by decide +kernel⟩
set_option maxRecDepth 20000 in
theorem yv_X9_meet : YV RX9 yX9_meet cX9_meet 4 ((some (FieldType.object "BeeRegister$Thing"))) 2 := ⟨gc5 172 rfl rfl, gs3 12 rfl, gc1 10 rfl rfl, gc5 173 rfl rfl, rfl, by decide, by decide, by decide +kernel⟩
set_option maxRecDepth 20000 in
theorem yv_X9_numberMet : YV RX9 yX9_numberMet cX9_numberMet 4 ((some FieldType.int)) 2 := ⟨gc5 214 rfl rfl, gc5 215 rfl rfl, gc1 10 rfl rfl, gc5 216 rfl rfl, rfl, by decide, by decide, by decide +kernel⟩
set_option maxRecDepth 20000 in
theorem yv_X9_loadStand : YV RX9 yX9_loadStand cX9_loadStand 3 ((none : Option FieldType)) 1 := ⟨gc5 176 rfl rfl, gc5 177 rfl rfl, gc1 10 rfl rfl, gc5 178 rfl rfl, rfl, by decide, by decide, by decide +kernel⟩
set_option maxRecDepth 20000 in
theorem yv_X9_fetch : YV RX9 yX9_fetch cX9_fetch 7 ((some FieldType.int)) 3 := ⟨gc5 163 rfl rfl, gc5 164 rfl rfl, gc1 10 rfl rfl, gc5 165 rfl rfl, rfl, by decide, by decide, by decide +kernel⟩
set_option maxRecDepth 20000 in
theorem yv_X9_isToldByRow : YV RX9 yX9_isToldByRow cX9_isToldByRow 4 ((some FieldType.boolean)) 2 := ⟨gc6 4 rfl rfl, gs4 0 rfl, gc1 10 rfl rfl, gc6 5 rfl rfl, rfl, by decide, by decide, by decide +kernel⟩
set_option maxRecDepth 20000 in
theorem yv_X9_enlist : YV RX9 yX9_enlist cX9_enlist 4 ((none : Option FieldType)) 2 := ⟨gc6 8 rfl rfl, gs4 1 rfl, gc1 10 rfl rfl, gc6 9 rfl rfl, rfl, by decide, by decide, by decide +kernel⟩
set_option maxRecDepth 20000 in
theorem yv_X9_gather : YV RX9 yX9_gather cX9_gather 7 ((some FieldType.int)) 2 := ⟨gc5 235 rfl rfl, gc5 236 rfl rfl, gc1 10 rfl rfl, gc5 237 rfl rfl, rfl, by decide, by decide, by decide +kernel⟩
set_option maxRecDepth 20000 in
theorem yv_X9_joinDropRow : YV RX9 yX9_joinDropRow cX9_joinDropRow 2 ((none : Option FieldType)) 1 := ⟨gc6 25 rfl rfl, gs4 2 rfl, gc1 10 rfl rfl, gc6 26 rfl rfl, rfl, by decide, by decide, by decide +kernel⟩
set_option maxRecDepth 20000 in
theorem yv_X9_followKey : YV RX9 yX9_followKey cX9_followKey 4 ((some FieldType.boolean)) 2 := ⟨gc6 38 rfl rfl, gs4 5 rfl, gc1 10 rfl rfl, gc6 39 rfl rfl, rfl, by decide, by decide, by decide +kernel⟩
set_option maxRecDepth 20000 in
theorem yv_X9_followMember : YV RX9 yX9_followMember cX9_followMember 7 ((some FieldType.boolean)) 3 := ⟨gc6 34 rfl rfl, gs4 4 rfl, gc1 10 rfl rfl, gc6 35 rfl rfl, rfl, by decide, by decide, by decide +kernel⟩
set_option maxRecDepth 20000 in
theorem yv_X9_followOwned : YV RX9 yX9_followOwned cX9_followOwned 5 ((some FieldType.boolean)) 1 := ⟨gc6 29 rfl rfl, gs4 3 rfl, gc1 10 rfl rfl, gc6 30 rfl rfl, rfl, by decide, by decide, by decide +kernel⟩
set_option maxRecDepth 20000 in
theorem yv_X9_dropFrom : YV RX9 yX9_dropFrom cX9_dropFrom 4 ((some FieldType.int)) 1 := ⟨gc6 20 rfl rfl, gc6 21 rfl rfl, gc1 10 rfl rfl, gc6 22 rfl rfl, rfl, by decide, by decide, by decide +kernel⟩
set_option maxRecDepth 20000 in
theorem yv_X10_logged : YV RX10 yX10_logged cX10_logged 3 ((some FieldType.int)) 2 := ⟨gc5 143 rfl rfl, gc5 144 rfl rfl, gc1 12 rfl rfl, gc5 145 rfl rfl, rfl, by decide, by decide, by decide +kernel⟩
set_option maxRecDepth 20000 in
theorem yv_X10_begin : YV RX10 yX10_begin cX10_begin 1 ((none : Option FieldType)) 0 := ⟨gc4 184 rfl rfl, gs2 5 rfl, gc1 12 rfl rfl, gc4 185 rfl rfl, rfl, by decide, by decide, by decide +kernel⟩
set_option maxRecDepth 20000 in
theorem yv_X10_arrange : YV RX10 yX10_arrange cX10_arrange 5 ((none : Option FieldType)) 1 := ⟨gc4 188 rfl rfl, gs2 6 rfl, gc1 12 rfl rfl, gc4 189 rfl rfl, rfl, by decide, by decide, by decide +kernel⟩
set_option maxRecDepth 20000 in
theorem yv_X10_runHooks : YV RX10 yX10_runHooks cX10_runHooks 4 ((none : Option FieldType)) 1 := ⟨gc4 200 rfl rfl, gs2 7 rfl, gc1 12 rfl rfl, gc4 201 rfl rfl, rfl, by decide, by decide, by decide +kernel⟩
set_option maxRecDepth 20000 in
theorem yv_X10_countIn : YV RX10 yX10_countIn cX10_countIn 4 ((some FieldType.int)) 1 := ⟨gc4 228 rfl rfl, gs2 9 rfl, gc1 12 rfl rfl, gc4 229 rfl rfl, rfl, by decide, by decide, by decide +kernel⟩
set_option maxRecDepth 20000 in
theorem yv_X10_earlyReferences : YV RX10 yX10_earlyReferences cX10_earlyReferences 8 ((some FieldType.int)) 2 := ⟨gc4 236 rfl rfl, gs2 11 rfl, gc1 12 rfl rfl, gc4 237 rfl rfl, rfl, by decide, by decide, by decide +kernel⟩
set_option maxRecDepth 20000 in
theorem yv_X10_hasMust : YV RX10 yX10_hasMust cX10_hasMust 5 ((some FieldType.boolean)) 2 := ⟨gc5 8 rfl rfl, gs2 12 rfl, gc1 12 rfl rfl, gc5 9 rfl rfl, rfl, by decide, by decide, by decide +kernel⟩
set_option maxRecDepth 20000 in
theorem yv_X10_nextInsert : YV RX10 yX10_nextInsert cX10_nextInsert 7 ((some (FieldType.object "BeeRegister$Thing"))) 1 := ⟨gc4 232 rfl rfl, gs2 10 rfl, gc1 12 rfl rfl, gc4 233 rfl rfl, rfl, by decide, by decide, by decide +kernel⟩
set_option maxRecDepth 20000 in
theorem yv_X10_firstUnwritten : YV RX10 yX10_firstUnwritten cX10_firstUnwritten 3 ((some (FieldType.object "BeeRegister$Thing"))) 1 := ⟨gc5 16 rfl rfl, gs2 13 rfl, gc1 12 rfl rfl, gc5 17 rfl rfl, rfl, by decide, by decide, by decide +kernel⟩
set_option maxRecDepth 20000 in
theorem yv_X10_breakOff : YV RX10 yX10_breakOff cX10_breakOff 5 ((some FieldType.boolean)) 4 := ⟨gc5 20 rfl rfl, gs2 14 rfl, gc1 12 rfl rfl, gc5 21 rfl rfl, rfl, by decide, by decide, by decide +kernel⟩
set_option maxRecDepth 20000 in
theorem yv_X10_keepsRules : YV RX10 yX10_keepsRules cX10_keepsRules 5 ((some FieldType.boolean)) 2 := ⟨gc5 32 rfl rfl, gs3 0 rfl, gc1 12 rfl rfl, gc5 33 rfl rfl, rfl, by decide, by decide, by decide +kernel⟩
set_option maxRecDepth 20000 in
theorem yv_X10_noteWrite : YV RX10 yX10_noteWrite cX10_noteWrite 4 ((none : Option FieldType)) 3 := ⟨gc5 80 rfl rfl, gs3 4 rfl, gc1 12 rfl rfl, gc5 81 rfl rfl, rfl, by decide, by decide, by decide +kernel⟩
set_option maxRecDepth 20000 in
theorem yv_X10_insert : YV RX10 yX10_insert cX10_insert 5 ((some FieldType.boolean)) 1 := ⟨gc5 24 rfl rfl, gs2 15 rfl, gc1 12 rfl rfl, gc5 25 rfl rfl, rfl, by decide, by decide, by decide +kernel⟩
set_option maxRecDepth 20000 in
theorem yv_X10_insertAll : YV RX10 yX10_insertAll cX10_insertAll 5 ((some FieldType.boolean)) 1 := ⟨gc4 224 rfl rfl, gs2 8 rfl, gc1 12 rfl rfl, gc4 225 rfl rfl, rfl, by decide, by decide, by decide +kernel⟩
set_option maxRecDepth 20000 in
theorem yv_X10_nextDelete : YV RX10 yX10_nextDelete cX10_nextDelete 3 ((some (FieldType.object "BeeRegister$Thing"))) 0 := ⟨gc5 103 rfl rfl, gs3 8 rfl, gc1 12 rfl rfl, gc5 104 rfl rfl, rfl, by decide, by decide, by decide +kernel⟩
set_option maxRecDepth 20000 in
theorem yv_X10_delete : YV RX10 yX10_delete cX10_delete 4 ((some FieldType.boolean)) 1 := ⟨gc5 115 rfl rfl, gs3 10 rfl, gc1 12 rfl rfl, gc5 116 rfl rfl, rfl, by decide, by decide, by decide +kernel⟩
set_option maxRecDepth 20000 in
theorem yv_X10_deleteAll : YV RX10 yX10_deleteAll cX10_deleteAll 4 ((some FieldType.boolean)) 0 := ⟨gc5 99 rfl rfl, gs3 7 rfl, gc1 12 rfl rfl, gc5 100 rfl rfl, rfl, by decide, by decide, by decide +kernel⟩
set_option maxRecDepth 20000 in
theorem yv_X10_settle : YV RX10 yX10_settle cX10_settle 4 ((none : Option FieldType)) 0 := ⟨gc5 123 rfl rfl, gs3 11 rfl, gc1 12 rfl rfl, gc5 124 rfl rfl, rfl, by decide, by decide, by decide +kernel⟩
set_option maxRecDepth 20000 in
theorem yv_X11_feedNumber : YV RX11 yX11_feedNumber cX11_feedNumber 3 ((none : Option FieldType)) 1 := ⟨gc3 50 rfl rfl, gs1 0 rfl, gc1 1 rfl rfl, gc3 51 rfl rfl, rfl, by decide, by decide, by decide +kernel⟩
set_option maxRecDepth 20000 in
theorem yv_X11_feed : YV RX11 yX11_feed cX11_feed 6 ((some FieldType.int)) 5 := ⟨gc3 45 rfl rfl, gc3 46 rfl rfl, gc1 1 rfl rfl, gc3 47 rfl rfl, rfl, by decide, by decide, by decide +kernel⟩
set_option maxRecDepth 20000 in
theorem yv_X11_end : YV RX11 yX11_end cX11_end 2 ((some FieldType.int)) 1 := ⟨gc3 53 rfl rfl, gc3 54 rfl rfl, gc1 1 rfl rfl, gc3 55 rfl rfl, rfl, by decide, by decide, by decide +kernel⟩
set_option maxRecDepth 20000 in
theorem yv_X11_beginAnew : YV RX11 yX11_beginAnew cX11_beginAnew 2 ((none : Option FieldType)) 0 := ⟨gc4 141 rfl rfl, gs2 3 rfl, gc1 1 rfl rfl, gc4 142 rfl rfl, rfl, by decide, by decide, by decide +kernel⟩
set_option maxRecDepth 20000 in
theorem yv_X11_fault : YV RX11 yX11_fault cX11_fault 2 ((some FieldType.int)) 1 := ⟨gc4 148 rfl rfl, gc4 149 rfl rfl, gc1 1 rfl rfl, gc4 150 rfl rfl, rfl, by decide, by decide, by decide +kernel⟩
set_option maxRecDepth 20000 in
theorem yv_X11_look : YV RX11 yX11_look cX11_look 4 ((some FieldType.int)) 2 := ⟨gc4 152 rfl rfl, gc4 153 rfl rfl, gc1 1 rfl rfl, gc4 154 rfl rfl, rfl, by decide, by decide, by decide +kernel⟩
set_option maxRecDepth 20000 in
theorem yv_X11_member : YV RX11 yX11_member cX11_member 5 ((some FieldType.int)) 3 := ⟨gc4 157 rfl rfl, gc4 158 rfl rfl, gc1 1 rfl rfl, gc4 159 rfl rfl, rfl, by decide, by decide, by decide +kernel⟩
set_option maxRecDepth 20000 in
theorem yv_X11_unit : YV RX11 yX11_unit cX11_unit 2 ((some FieldType.int)) 0 := ⟨gc4 163 rfl rfl, gc4 164 rfl rfl, gc1 1 rfl rfl, gc4 165 rfl rfl, rfl, by decide, by decide, by decide +kernel⟩
set_option maxRecDepth 20000 in
theorem yv_X11_openUnit : YV RX11 yX11_openUnit cX11_openUnit 2 ((some (FieldType.object "BeeRegister$Unit"))) 1 := ⟨gc4 176 rfl rfl, gs2 4 rfl, gc1 1 rfl rfl, gc4 177 rfl rfl, rfl, by decide, by decide, by decide +kernel⟩
set_option maxRecDepth 20000 in
theorem yv_X11_outcome : YV RX11 yX11_outcome cX11_outcome 2 ((some FieldType.int)) 1 := ⟨gc5 135 rfl rfl, gc5 136 rfl rfl, gc1 1 rfl rfl, gc5 137 rfl rfl, rfl, by decide, by decide, by decide +kernel⟩
set_option maxRecDepth 20000 in
theorem yv_X11_write : YV RX11 yX11_write cX11_write 3 ((some FieldType.int)) 2 := ⟨gc5 139 rfl rfl, gc5 140 rfl rfl, gc1 1 rfl rfl, gc5 141 rfl rfl, rfl, by decide, by decide, by decide +kernel⟩
set_option maxRecDepth 20000 in
theorem yv_X11_make : YV RX11 yX11_make cX11_make 6 ((some FieldType.int)) 2 := ⟨gc5 147 rfl rfl, gc5 148 rfl rfl, gc1 1 rfl rfl, gc5 149 rfl rfl, rfl, by decide, by decide, by decide +kernel⟩
set_option maxRecDepth 20000 in
theorem yv_X11_find : YV RX11 yX11_find cX11_find 6 ((some FieldType.int)) 3 := ⟨gc5 159 rfl rfl, gc5 160 rfl rfl, gc1 1 rfl rfl, gc5 161 rfl rfl, rfl, by decide, by decide, by decide +kernel⟩
set_option maxRecDepth 20000 in
theorem yv_X11_thingNumbered : YV RX11 yX11_thingNumbered cX11_thingNumbered 3 ((some (FieldType.object "BeeRegister$Thing"))) 1 := ⟨gc5 190 rfl rfl, gs3 13 rfl, gc1 1 rfl rfl, gc5 191 rfl rfl, rfl, by decide, by decide, by decide +kernel⟩
set_option maxRecDepth 20000 in
theorem yv_X11_object : YV RX11 yX11_object cX11_object 4 ((some FieldType.int)) 2 := ⟨gc5 185 rfl rfl, gc5 186 rfl rfl, gc1 1 rfl rfl, gc5 187 rfl rfl, rfl, by decide, by decide, by decide +kernel⟩
set_option maxRecDepth 20000 in
theorem yv_X11_usableThing : YV RX11 yX11_usableThing cX11_usableThing 3 ((some (FieldType.object "BeeRegister$Thing"))) 1 := ⟨gc5 203 rfl rfl, gs3 14 rfl, gc1 1 rfl rfl, gc5 204 rfl rfl, rfl, by decide, by decide, by decide +kernel⟩
set_option maxRecDepth 20000 in
theorem yv_X11_memberOf : YV RX11 yX11_memberOf cX11_memberOf 3 ((some (FieldType.object "BeeRegister$Member"))) 2 := ⟨gc5 208 rfl rfl, gs3 15 rfl, gc1 1 rfl rfl, gc5 209 rfl rfl, rfl, by decide, by decide, by decide +kernel⟩
set_option maxRecDepth 20000 in
theorem yv_X11_value : YV RX11 yX11_value cX11_value 5 ((some FieldType.long)) 2 := ⟨gc5 198 rfl rfl, gc5 199 rfl rfl, gc1 1 rfl rfl, gc5 200 rfl rfl, rfl, by decide, by decide, by decide +kernel⟩
set_option maxRecDepth 20000 in
theorem yv_X11_put : YV RX11 yX11_put cX11_put 6 ((some FieldType.boolean)) 3 := ⟨gc5 218 rfl rfl, gc5 219 rfl rfl, gc1 1 rfl rfl, gc5 220 rfl rfl, rfl, by decide, by decide, by decide +kernel⟩
set_option maxRecDepth 20000 in
theorem yv_X11_link : YV RX11 yX11_link cX11_link 7 ((some FieldType.boolean)) 3 := ⟨gc5 226 rfl rfl, gc5 227 rfl rfl, gc1 1 rfl rfl, gc5 228 rfl rfl, rfl, by decide, by decide, by decide +kernel⟩
set_option maxRecDepth 20000 in
theorem yv_X11_size : YV RX11 yX11_size cX11_size 5 ((some FieldType.int)) 2 := ⟨gc5 231 rfl rfl, gc5 232 rfl rfl, gc1 1 rfl rfl, gc5 233 rfl rfl, rfl, by decide, by decide, by decide +kernel⟩
set_option maxRecDepth 20000 in
theorem yv_X11_item : YV RX11 yX11_item cX11_item 8 ((some FieldType.int)) 3 := ⟨gc6 11 rfl rfl, gc6 12 rfl rfl, gc1 1 rfl rfl, gc6 13 rfl rfl, rfl, by decide, by decide, by decide +kernel⟩
set_option maxRecDepth 20000 in
theorem yv_X11_drop : YV RX11 yX11_drop cX11_drop 3 ((some FieldType.int)) 1 := ⟨gc6 16 rfl rfl, gc6 17 rfl rfl, gc1 1 rfl rfl, gc6 18 rfl rfl, rfl, by decide, by decide, by decide +kernel⟩
set_option maxRecDepth 20000 in
theorem yv_X11_loads : YV RX11 yX11_loads cX11_loads 3 ((some FieldType.int)) 1 := ⟨gc6 42 rfl rfl, gc6 43 rfl rfl, gc1 1 rfl rfl, gc6 44 rfl rfl, rfl, by decide, by decide, by decide +kernel⟩
set_option maxRecDepth 20000 in
theorem yv_X11_other : YV RX11 yX11_other cX11_other 8 ((some FieldType.boolean)) 4 := ⟨gc6 46 rfl rfl, gc6 47 rfl rfl, gc1 1 rfl rfl, gc6 48 rfl rfl, rfl, by decide, by decide, by decide +kernel⟩
set_option maxRecDepth 20000 in
theorem yv_X11_cell : YV RX11 yX11_cell cX11_cell 6 ((some FieldType.long)) 3 := ⟨gc6 53 rfl rfl, gc6 54 rfl rfl, gc1 1 rfl rfl, gc6 55 rfl rfl, rfl, by decide, by decide, by decide +kernel⟩
set_option maxRecDepth 20000 in
theorem yv_X11_tellRows : YV RX11 yX11_tellRows cX11_tellRows 3 ((none : Option FieldType)) 0 := ⟨gc6 188 rfl rfl, gs5 5 rfl, gc1 1 rfl rfl, gc6 189 rfl rfl, rfl, by decide, by decide, by decide +kernel⟩
set_option maxRecDepth 20000 in
theorem yv_X11_found : YV RX11 yX11_found cX11_found 2 ((some FieldType.int)) 1 := ⟨gc6 215 rfl rfl, gc6 216 rfl rfl, gc1 1 rfl rfl, gc6 217 rfl rfl, rfl, by decide, by decide, by decide +kernel⟩
set_option maxRecDepth 20000 in
theorem yv_X11_openUnits : YV RX11 yX11_openUnits cX11_openUnits 3 ((some FieldType.int)) 0 := ⟨gc6 224 rfl rfl, gs5 8 rfl, gc1 1 rfl rfl, gc6 225 rfl rfl, rfl, by decide, by decide, by decide +kernel⟩
set_option maxRecDepth 20000 in
theorem yv_X11_count : YV RX11 yX11_count cX11_count 2 ((some FieldType.int)) 1 := ⟨gc6 219 rfl rfl, gc6 220 rfl rfl, gc1 1 rfl rfl, gc6 221 rfl rfl, rfl, by decide, by decide, by decide +kernel⟩
set_option maxRecDepth 20000 in
theorem yv_X12_feed : YV RX12 yX12_feed cX12_feed 8 ((some FieldType.int)) 5 := ⟨gc8 43 rfl rfl, gc8 44 rfl rfl, gc1 13 rfl rfl, gc8 45 rfl rfl, rfl, by decide, by decide, by decide +kernel⟩
set_option maxRecDepth 20000 in
theorem yv_X12_end : YV RX12 yX12_end cX12_end 2 ((some FieldType.int)) 1 := ⟨gc8 47 rfl rfl, gc8 48 rfl rfl, gc1 13 rfl rfl, gc8 49 rfl rfl, rfl, by decide, by decide, by decide +kernel⟩
set_option maxRecDepth 20000 in
theorem yv_X12_letterOf : YS yX12_letterOf cX12_letterOf 1 ((some FieldType.int)) 1 := ⟨gc8 70 rfl rfl, gc1 13 rfl rfl, gc8 71 rfl rfl, by decide, by decide, by decide +kernel⟩
set_option maxRecDepth 20000 in
theorem yv_X12_see : YV RX12 yX12_see cX12_see 2 ((some FieldType.int)) 1 := ⟨gc8 64 rfl rfl, gs5 11 rfl, gc1 13 rfl rfl, gc8 65 rfl rfl, rfl, by decide, by decide, by decide +kernel⟩
set_option maxRecDepth 20000 in
theorem yv_X12_isBlank : YS yX12_isBlank cX12_isBlank 1 ((some FieldType.boolean)) 1 := ⟨gc8 67 rfl rfl, gc1 13 rfl rfl, gc8 68 rfl rfl, by decide, by decide, by decide +kernel⟩
set_option maxRecDepth 20000 in
theorem yv_X12_isSign : YS yX12_isSign cX12_isSign 1 ((some FieldType.boolean)) 1 := ⟨gc8 74 rfl rfl, gc1 13 rfl rfl, gc8 75 rfl rfl, by decide, by decide, by decide +kernel⟩
set_option maxRecDepth 20000 in
theorem yv_X12_advance : YV RX12 yX12_advance cX12_advance 4 ((none : Option FieldType)) 0 := ⟨gc8 60 rfl rfl, gs5 10 rfl, gc1 13 rfl rfl, gc8 61 rfl rfl, rfl, by decide, by decide, by decide +kernel⟩
set_option maxRecDepth 20000 in
theorem yv_X12_fails : YV RX12 yX12_fails cX12_fails 2 ((some FieldType.boolean)) 1 := ⟨gc8 97 rfl rfl, gs5 15 rfl, gc1 13 rfl rfl, gc8 98 rfl rfl, rfl, by decide, by decide, by decide +kernel⟩
set_option maxRecDepth 20000 in
theorem yv_X12_wrong : YV RX12 yX12_wrong cX12_wrong 1 ((some FieldType.boolean)) 0 := ⟨gc8 93 rfl rfl, gs5 14 rfl, gc1 13 rfl rfl, gc8 94 rfl rfl, rfl, by decide, by decide, by decide +kernel⟩
set_option maxRecDepth 20000 in
theorem yv_X12_is : YV RX12 yX12_is cX12_is 2 ((some FieldType.boolean)) 1 := ⟨gc8 121 rfl rfl, gs6 5 rfl, gc1 13 rfl rfl, gc8 122 rfl rfl, rfl, by decide, by decide, by decide +kernel⟩
set_option maxRecDepth 20000 in
theorem yv_X12_needs : YV RX12 yX12_needs cX12_needs 2 ((some FieldType.boolean)) 1 := ⟨gc8 117 rfl rfl, gs6 4 rfl, gc1 13 rfl rfl, gc8 118 rfl rfl, rfl, by decide, by decide, by decide +kernel⟩
set_option maxRecDepth 20000 in
theorem yv_X12_two : YS yX12_two cX12_two 4 ((some FieldType.long)) 3 := ⟨gc8 85 rfl rfl, gc1 13 rfl rfl, gc8 86 rfl rfl, by decide, by decide, by decide +kernel⟩
set_option maxRecDepth 20000 in
theorem yv_X12_one : YS yX12_one cX12_one 3 ((some FieldType.long)) 2 := ⟨gc8 89 rfl rfl, gc1 13 rfl rfl, gc8 90 rfl rfl, by decide, by decide, by decide +kernel⟩
set_option maxRecDepth 20000 in
theorem yv_X12_toldWord : YV RX12 yX12_toldWord cX12_toldWord 3 ((some FieldType.int)) 0 := ⟨gc8 82 rfl rfl, gs5 13 rfl, gc1 13 rfl rfl, gc8 83 rfl rfl, rfl, by decide, by decide, by decide +kernel⟩
set_option maxRecDepth 20000 in
theorem yv_X12_isName : YV RX12 yX12_isName cX12_isName 1 ((some FieldType.boolean)) 0 := ⟨gc8 105 rfl rfl, gs6 1 rfl, gc1 13 rfl rfl, gc8 106 rfl rfl, rfl, by decide, by decide, by decide +kernel⟩
set_option maxRecDepth 20000 in
theorem yv_X12_needsWord : YV RX12 yX12_needsWord cX12_needsWord 2 ((some FieldType.boolean)) 1 := ⟨gc8 78 rfl rfl, gs5 12 rfl, gc1 13 rfl rfl, gc8 79 rfl rfl, rfl, by decide, by decide, by decide +kernel⟩
set_option maxRecDepth 20000 in
theorem yv_X12_classNamed : YV RX12 yX12_classNamed cX12_classNamed 6 ((some FieldType.int)) 3 := ⟨gc8 109 rfl rfl, gs6 2 rfl, gc1 13 rfl rfl, gc8 110 rfl rfl, rfl, by decide, by decide, by decide +kernel⟩
set_option maxRecDepth 20000 in
theorem yv_X12_memberNamed : YV RX12 yX12_memberNamed cX12_memberNamed 5 ((some FieldType.int)) 2 := ⟨gc8 129 rfl rfl, gs6 7 rfl, gc1 13 rfl rfl, gc8 130 rfl rfl, rfl, by decide, by decide, by decide +kernel⟩
set_option maxRecDepth 20000 in
theorem yv_X12_isA : YV RX12 yX12_isA cX12_isA 5 ((some FieldType.boolean)) 3 := ⟨gc8 145 rfl rfl, gs6 11 rfl, gc1 13 rfl rfl, gc8 146 rfl rfl, rfl, by decide, by decide, by decide +kernel⟩
set_option maxRecDepth 20000 in
theorem yv_X12_copyMember : YV RX12 yX12_copyMember cX12_copyMember 6 ((none : Option FieldType)) 3 := ⟨gc8 113 rfl rfl, gs6 3 rfl, gc1 13 rfl rfl, gc8 114 rfl rfl, rfl, by decide, by decide, by decide +kernel⟩
set_option maxRecDepth 20000 in
theorem yv_X12_readHook : YV RX12 yX12_readHook cX12_readHook 5 ((some FieldType.boolean)) 1 := ⟨gc8 125 rfl rfl, gs6 6 rfl, gc1 13 rfl rfl, gc8 126 rfl rfl, rfl, by decide, by decide, by decide +kernel⟩
set_option maxRecDepth 20000 in
theorem yv_X12_readNames : YV RX12 yX12_readNames cX12_readNames 4 ((some FieldType.boolean)) 1 := ⟨gc8 137 rfl rfl, gs6 9 rfl, gc1 13 rfl rfl, gc8 138 rfl rfl, rfl, by decide, by decide, by decide +kernel⟩
set_option maxRecDepth 20000 in
theorem yv_X12_readMember : YV RX12 yX12_readMember cX12_readMember 4 ((some FieldType.boolean)) 1 := ⟨gc8 133 rfl rfl, gs6 8 rfl, gc1 13 rfl rfl, gc8 134 rfl rfl, rfl, by decide, by decide, by decide +kernel⟩
set_option maxRecDepth 20000 in
theorem yv_X12_readClass : YV RX12 yX12_readClass cX12_readClass 4 ((some FieldType.boolean)) 0 := ⟨gc8 101 rfl rfl, gs6 0 rfl, gc1 13 rfl rfl, gc8 102 rfl rfl, rfl, by decide, by decide, by decide +kernel⟩
set_option maxRecDepth 20000 in
theorem yv_X12_copyMeant : YV RX12 yX12_copyMeant cX12_copyMeant 5 ((none : Option FieldType)) 2 := ⟨gc8 141 rfl rfl, gs6 10 rfl, gc1 13 rfl rfl, gc8 142 rfl rfl, rfl, by decide, by decide, by decide +kernel⟩
set_option maxRecDepth 20000 in
theorem yv_X12_readClasses : YV RX12 yX12_readClasses cX12_readClasses 6 ((some FieldType.boolean)) 0 := ⟨gc8 56 rfl rfl, gs5 9 rfl, gc1 13 rfl rfl, gc8 57 rfl rfl, rfl, by decide, by decide, by decide +kernel⟩
set_option maxRecDepth 20000 in
theorem yv_X12_map : YV RX12 yX12_map cX12_map 4 ((some FieldType.int)) 0 := ⟨gc8 51 rfl rfl, gc8 52 rfl rfl, gc1 13 rfl rfl, gc8 53 rfl rfl, rfl, by decide, by decide, by decide +kernel⟩
set_option maxRecDepth 20000 in
theorem yv_X12_fault : YV RX12 yX12_fault cX12_fault 2 ((some FieldType.int)) 1 := ⟨gc8 148 rfl rfl, gc8 149 rfl rfl, gc1 13 rfl rfl, gc8 150 rfl rfl, rfl, by decide, by decide, by decide +kernel⟩
set_option maxRecDepth 20000 in
theorem yv_X12_isClass : YV RX12 yX12_isClass cX12_isClass 2 ((some FieldType.boolean)) 1 := ⟨gc8 157 rfl rfl, gs6 12 rfl, gc1 13 rfl rfl, gc8 158 rfl rfl, rfl, by decide, by decide, by decide +kernel⟩
set_option maxRecDepth 20000 in
theorem yv_X12_rootOf : YV RX12 yX12_rootOf cX12_rootOf 3 ((some FieldType.int)) 1 := ⟨gc8 161 rfl rfl, gs6 13 rfl, gc1 13 rfl rfl, gc8 162 rfl rfl, rfl, by decide, by decide, by decide +kernel⟩
set_option maxRecDepth 20000 in
theorem yv_X12_look : YV RX12 yX12_look cX12_look 3 ((some FieldType.int)) 2 := ⟨gc8 152 rfl rfl, gc8 153 rfl rfl, gc1 13 rfl rfl, gc8 154 rfl rfl, rfl, by decide, by decide, by decide +kernel⟩
set_option maxRecDepth 20000 in
theorem yv_X12_member : YV RX12 yX12_member cX12_member 5 ((some FieldType.int)) 3 := ⟨gc8 164 rfl rfl, gc8 165 rfl rfl, gc1 13 rfl rfl, gc8 166 rfl rfl, rfl, by decide, by decide, by decide +kernel⟩
set_option maxRecDepth 20000 in
theorem yv_X12_rowOf : YV RX12 yX12_rowOf cX12_rowOf 4 ((some FieldType.int)) 2 := ⟨gc8 200 rfl rfl, gs7 2 rfl, gc1 13 rfl rfl, gc8 201 rfl rfl, rfl, by decide, by decide, by decide +kernel⟩
set_option maxRecDepth 20000 in
theorem yv_X12_hasMember : YV RX12 yX12_hasMember cX12_hasMember 4 ((some FieldType.boolean)) 3 := ⟨gc9 43 rfl rfl, gs7 13 rfl, gc1 13 rfl rfl, gc9 44 rfl rfl, rfl, by decide, by decide, by decide +kernel⟩
set_option maxRecDepth 20000 in
theorem yv_X12_breaks : YV RX12 yX12_breaks cX12_breaks 3 ((some FieldType.boolean)) 2 := ⟨gc9 39 rfl rfl, gs7 12 rfl, gc1 13 rfl rfl, gc9 40 rfl rfl, rfl, by decide, by decide, by decide +kernel⟩
set_option maxRecDepth 20000 in
theorem yv_X12_broken : YV RX12 yX12_broken cX12_broken 13 ((some FieldType.boolean)) 5 := ⟨gc9 35 rfl rfl, gs7 11 rfl, gc1 13 rfl rfl, gc9 36 rfl rfl, rfl, by decide, by decide, by decide +kernel⟩
set_option maxRecDepth 20000 in
theorem yv_X12_leads : YV RX12 yX12_leads cX12_leads 7 ((some FieldType.int)) 3 := ⟨gc9 111 rfl rfl, gs8 13 rfl, gc1 13 rfl rfl, gc9 112 rfl rfl, rfl, by decide, by decide, by decide +kernel⟩
set_option maxRecDepth 20000 in
theorem yv_X12_leadsTo : YV RX12 yX12_leadsTo cX12_leadsTo 6 ((some FieldType.int)) 2 := ⟨gc9 107 rfl rfl, gs8 12 rfl, gc1 13 rfl rfl, gc9 108 rfl rfl, rfl, by decide, by decide, by decide +kernel⟩
set_option maxRecDepth 20000 in
theorem yv_X12_keepRows : YV RX12 yX12_keepRows cX12_keepRows 2 ((none : Option FieldType)) 0 := ⟨gc9 67 rfl rfl, gs8 2 rfl, gc1 13 rfl rfl, gc9 68 rfl rfl, rfl, by decide, by decide, by decide +kernel⟩
set_option maxRecDepth 20000 in
theorem yv_X12_backRows : YV RX12 yX12_backRows cX12_backRows 2 ((none : Option FieldType)) 0 := ⟨gc9 119 rfl rfl, gs8 15 rfl, gc1 13 rfl rfl, gc9 120 rfl rfl, rfl, by decide, by decide, by decide +kernel⟩
set_option maxRecDepth 20000 in
theorem yv_X12_isValue : YV RX12 yX12_isValue cX12_isValue 5 ((some FieldType.boolean)) 3 := ⟨gc8 239 rfl rfl, gs7 8 rfl, gc1 13 rfl rfl, gc9 0 rfl rfl, rfl, by decide, by decide, by decide +kernel⟩
set_option maxRecDepth 20000 in
theorem yv_X12_isUnit : YV RX12 yX12_isUnit cX12_isUnit 2 ((some FieldType.boolean)) 1 := ⟨gc8 177 rfl rfl, gs6 14 rfl, gc1 13 rfl rfl, gc8 178 rfl rfl, rfl, by decide, by decide, by decide +kernel⟩
set_option maxRecDepth 20000 in
theorem yv_X12_unit : YV RX12 yX12_unit cX12_unit 2 ((some FieldType.int)) 0 := ⟨gc8 168 rfl rfl, gc8 169 rfl rfl, gc1 13 rfl rfl, gc8 170 rfl rfl, rfl, by decide, by decide, by decide +kernel⟩
set_option maxRecDepth 20000 in
theorem yv_X12_placeOf : YV RX12 yX12_placeOf cX12_placeOf 4 ((some FieldType.int)) 1 := ⟨gc8 220 rfl rfl, gs7 6 rfl, gc1 13 rfl rfl, gc8 221 rfl rfl, rfl, by decide, by decide, by decide +kernel⟩
set_option maxRecDepth 20000 in
theorem yv_X12_numberOf : YS yX12_numberOf cX12_numberOf 1 ((some FieldType.int)) 1 := ⟨gc8 184 rfl rfl, gc1 13 rfl rfl, gc8 185 rfl rfl, by decide, by decide, by decide +kernel⟩
set_option maxRecDepth 20000 in
theorem yv_X12_objectOf : YV RX12 yX12_objectOf cX12_objectOf 6 ((some FieldType.int)) 3 := ⟨gc8 192 rfl rfl, gs7 0 rfl, gc1 13 rfl rfl, gc8 193 rfl rfl, rfl, by decide, by decide, by decide +kernel⟩
set_option maxRecDepth 20000 in
theorem yv_X12_newObject : YV RX12 yX12_newObject cX12_newObject 7 ((some FieldType.int)) 4 := ⟨gc8 181 rfl rfl, gs6 15 rfl, gc1 13 rfl rfl, gc8 182 rfl rfl, rfl, by decide, by decide, by decide +kernel⟩
set_option maxRecDepth 20000 in
theorem yv_X12_meet : YV RX12 yX12_meet cX12_meet 5 ((some FieldType.int)) 3 := ⟨gc8 204 rfl rfl, gs7 3 rfl, gc1 13 rfl rfl, gc8 205 rfl rfl, rfl, by decide, by decide, by decide +kernel⟩
set_option maxRecDepth 20000 in
theorem yv_X12_copies : YV RX12 yX12_copies cX12_copies 4 ((none : Option FieldType)) 2 := ⟨gc8 212 rfl rfl, gs7 5 rfl, gc1 13 rfl rfl, gc8 213 rfl rfl, rfl, by decide, by decide, by decide +kernel⟩
set_option maxRecDepth 20000 in
theorem yv_X12_load : YV RX12 yX12_load cX12_load 3 ((none : Option FieldType)) 1 := ⟨gc8 208 rfl rfl, gs7 4 rfl, gc1 13 rfl rfl, gc8 209 rfl rfl, rfl, by decide, by decide, by decide +kernel⟩
set_option maxRecDepth 20000 in
theorem yv_X12_isLive : YV RX12 yX12_isLive cX12_isLive 2 ((some FieldType.boolean)) 1 := ⟨gc8 196 rfl rfl, gs7 1 rfl, gc1 13 rfl rfl, gc8 197 rfl rfl, rfl, by decide, by decide, by decide +kernel⟩
set_option maxRecDepth 20000 in
theorem yv_X12_liveOf : YV RX12 yX12_liveOf cX12_liveOf 3 ((some FieldType.int)) 1 := ⟨gc8 228 rfl rfl, gs7 7 rfl, gc1 13 rfl rfl, gc8 229 rfl rfl, rfl, by decide, by decide, by decide +kernel⟩
set_option maxRecDepth 20000 in
theorem yv_X12_make : YV RX12 yX12_make cX12_make 5 ((some FieldType.int)) 2 := ⟨gc8 172 rfl rfl, gc8 173 rfl rfl, gc1 13 rfl rfl, gc8 174 rfl rfl, rfl, by decide, by decide, by decide +kernel⟩
set_option maxRecDepth 20000 in
theorem yv_X12_find : YV RX12 yX12_find cX12_find 7 ((some FieldType.int)) 3 := ⟨gc8 187 rfl rfl, gc8 188 rfl rfl, gc1 13 rfl rfl, gc8 189 rfl rfl, rfl, by decide, by decide, by decide +kernel⟩
set_option maxRecDepth 20000 in
theorem yv_X12_object : YV RX12 yX12_object cX12_object 4 ((some FieldType.int)) 2 := ⟨gc8 215 rfl rfl, gc8 216 rfl rfl, gc1 13 rfl rfl, gc8 217 rfl rfl, rfl, by decide, by decide, by decide +kernel⟩
set_option maxRecDepth 20000 in
theorem yv_X12_value : YV RX12 yX12_value cX12_value 7 ((some FieldType.long)) 2 := ⟨gc8 223 rfl rfl, gc8 224 rfl rfl, gc1 13 rfl rfl, gc8 225 rfl rfl, rfl, by decide, by decide, by decide +kernel⟩
set_option maxRecDepth 20000 in
theorem yv_X12_put : YV RX12 yX12_put cX12_put 5 ((some FieldType.boolean)) 3 := ⟨gc8 234 rfl rfl, gc8 235 rfl rfl, gc1 13 rfl rfl, gc8 236 rfl rfl, rfl, by decide, by decide, by decide +kernel⟩
set_option maxRecDepth 20000 in
theorem yv_X12_link : YV RX12 yX12_link cX12_link 7 ((some FieldType.boolean)) 3 := ⟨gc9 2 rfl rfl, gc9 3 rfl rfl, gc1 13 rfl rfl, gc9 4 rfl rfl, rfl, by decide, by decide, by decide +kernel⟩
set_option maxRecDepth 20000 in
theorem yv_X12_addKey : YV RX12 yX12_addKey cX12_addKey 3 ((none : Option FieldType)) 1 := ⟨gc9 15 rfl rfl, gs7 10 rfl, gc1 13 rfl rfl, gc9 16 rfl rfl, rfl, by decide, by decide, by decide +kernel⟩
set_option maxRecDepth 20000 in
theorem yv_X12_isList : YV RX12 yX12_isList cX12_isList 11 ((some FieldType.boolean)) 2 := ⟨gc9 11 rfl rfl, gs7 9 rfl, gc1 13 rfl rfl, gc9 12 rfl rfl, rfl, by decide, by decide, by decide +kernel⟩
set_option maxRecDepth 20000 in
theorem yv_X12_size : YV RX12 yX12_size cX12_size 4 ((some FieldType.int)) 2 := ⟨gc9 6 rfl rfl, gc9 7 rfl rfl, gc1 13 rfl rfl, gc9 8 rfl rfl, rfl, by decide, by decide, by decide +kernel⟩
set_option maxRecDepth 20000 in
theorem yv_X12_item : YV RX12 yX12_item cX12_item 6 ((some FieldType.int)) 3 := ⟨gc9 18 rfl rfl, gc9 19 rfl rfl, gc1 13 rfl rfl, gc9 20 rfl rfl, rfl, by decide, by decide, by decide +kernel⟩
set_option maxRecDepth 20000 in
theorem yv_X12_drop : YV RX12 yX12_drop cX12_drop 14 ((some FieldType.int)) 1 := ⟨gc9 22 rfl rfl, gc9 23 rfl rfl, gc1 13 rfl rfl, gc9 24 rfl rfl, rfl, by decide, by decide, by decide +kernel⟩
set_option maxRecDepth 20000 in
theorem yv_X12_loads : YV RX12 yX12_loads cX12_loads 2 ((some FieldType.int)) 1 := ⟨gc9 26 rfl rfl, gc9 27 rfl rfl, gc1 13 rfl rfl, gc9 28 rfl rfl, rfl, by decide, by decide, by decide +kernel⟩
set_option maxRecDepth 20000 in
theorem yv_X12_other : YV RX12 yX12_other cX12_other 8 ((some FieldType.boolean)) 4 := ⟨gc9 30 rfl rfl, gc9 31 rfl rfl, gc1 13 rfl rfl, gc9 32 rfl rfl, rfl, by decide, by decide, by decide +kernel⟩
set_option maxRecDepth 20000 in
theorem yv_X12_ends : YV RX12 yX12_ends cX12_ends 3 ((some FieldType.boolean)) 2 := ⟨gc9 83 rfl rfl, gs8 6 rfl, gc1 13 rfl rfl, gc9 84 rfl rfl, rfl, by decide, by decide, by decide +kernel⟩
set_option maxRecDepth 20000 in
theorem yv_X12_written : YV RX12 yX12_written cX12_written 4 ((none : Option FieldType)) 3 := ⟨gc9 91 rfl rfl, gs8 8 rfl, gc1 13 rfl rfl, gc9 92 rfl rfl, rfl, by decide, by decide, by decide +kernel⟩
set_option maxRecDepth 20000 in
theorem yv_X12_inOrder : YV RX12 yX12_inOrder cX12_inOrder 9 ((none : Option FieldType)) 4 := ⟨gc9 55 rfl rfl, gs7 15 rfl, gc1 13 rfl rfl, gc9 56 rfl rfl, rfl, by decide, by decide, by decide +kernel⟩
set_option maxRecDepth 20000 in
theorem yv_X12_changed : YV RX12 yX12_changed cX12_changed 4 ((some FieldType.int)) 1 := ⟨gc9 63 rfl rfl, gs8 1 rfl, gc1 13 rfl rfl, gc9 64 rfl rfl, rfl, by decide, by decide, by decide +kernel⟩
set_option maxRecDepth 20000 in
theorem yv_X12_hooks : YV RX12 yX12_hooks cX12_hooks 6 ((none : Option FieldType)) 2 := ⟨gc9 59 rfl rfl, gs8 0 rfl, gc1 13 rfl rfl, gc9 60 rfl rfl, rfl, by decide, by decide, by decide +kernel⟩
set_option maxRecDepth 20000 in
theorem yv_X12_waitsFor : YV RX12 yX12_waitsFor cX12_waitsFor 6 ((some FieldType.int)) 2 := ⟨gc9 79 rfl rfl, gs8 5 rfl, gc1 13 rfl rfl, gc9 80 rfl rfl, rfl, by decide, by decide, by decide +kernel⟩
set_option maxRecDepth 20000 in
theorem yv_X12_waitsHow : YV RX12 yX12_waitsHow cX12_waitsHow 5 ((some FieldType.int)) 1 := ⟨gc9 75 rfl rfl, gs8 4 rfl, gc1 13 rfl rfl, gc9 76 rfl rfl, rfl, by decide, by decide, by decide +kernel⟩
set_option maxRecDepth 20000 in
theorem yv_X12_insert : YV RX12 yX12_insert cX12_insert 5 ((some FieldType.boolean)) 1 := ⟨gc9 87 rfl rfl, gs8 7 rfl, gc1 13 rfl rfl, gc9 88 rfl rfl, rfl, by decide, by decide, by decide +kernel⟩
set_option maxRecDepth 20000 in
theorem yv_X12_insertAll : YV RX12 yX12_insertAll cX12_insertAll 6 ((some FieldType.boolean)) 1 := ⟨gc9 71 rfl rfl, gs8 3 rfl, gc1 13 rfl rfl, gc9 72 rfl rfl, rfl, by decide, by decide, by decide +kernel⟩
set_option maxRecDepth 20000 in
theorem yv_X12_change : YV RX12 yX12_change cX12_change 6 ((some FieldType.boolean)) 2 := ⟨gc9 99 rfl rfl, gs8 10 rfl, gc1 13 rfl rfl, gc9 100 rfl rfl, rfl, by decide, by decide, by decide +kernel⟩
set_option maxRecDepth 20000 in
theorem yv_X12_changeAll : YV RX12 yX12_changeAll cX12_changeAll 6 ((some FieldType.boolean)) 1 := ⟨gc9 95 rfl rfl, gs8 9 rfl, gc1 13 rfl rfl, gc9 96 rfl rfl, rfl, by decide, by decide, by decide +kernel⟩
set_option maxRecDepth 20000 in
theorem yv_X12_goRow : YV RX12 yX12_goRow cX12_goRow 4 ((none : Option FieldType)) 1 := ⟨gc9 115 rfl rfl, gs8 14 rfl, gc1 13 rfl rfl, gc9 116 rfl rfl, rfl, by decide, by decide, by decide +kernel⟩
set_option maxRecDepth 20000 in
theorem yv_X12_deleteAll : YV RX12 yX12_deleteAll cX12_deleteAll 7 ((some FieldType.boolean)) 1 := ⟨gc9 103 rfl rfl, gs8 11 rfl, gc1 13 rfl rfl, gc9 104 rfl rfl, rfl, by decide, by decide, by decide +kernel⟩
set_option maxRecDepth 20000 in
theorem yv_X12_writeUnit : YV RX12 yX12_writeUnit cX12_writeUnit 5 ((some FieldType.int)) 1 := ⟨gc9 51 rfl rfl, gs7 14 rfl, gc1 13 rfl rfl, gc9 52 rfl rfl, rfl, by decide, by decide, by decide +kernel⟩
set_option maxRecDepth 20000 in
theorem yv_X12_flush : YV RX12 yX12_flush cX12_flush 2 ((some FieldType.int)) 1 := ⟨gc9 46 rfl rfl, gc9 47 rfl rfl, gc1 13 rfl rfl, gc9 48 rfl rfl, rfl, by decide, by decide, by decide +kernel⟩
set_option maxRecDepth 20000 in
theorem yv_X12_close : YV RX12 yX12_close cX12_close 4 ((some FieldType.int)) 2 := ⟨gc9 122 rfl rfl, gc9 123 rfl rfl, gc1 13 rfl rfl, gc9 124 rfl rfl, rfl, by decide, by decide, by decide +kernel⟩
set_option maxRecDepth 20000 in
theorem yv_X12_outcome : YV RX12 yX12_outcome cX12_outcome 2 ((some FieldType.int)) 1 := ⟨gc9 126 rfl rfl, gc9 127 rfl rfl, gc1 13 rfl rfl, gc9 128 rfl rfl, rfl, by decide, by decide, by decide +kernel⟩
set_option maxRecDepth 20000 in
theorem yv_X12_write : YV RX12 yX12_write cX12_write 3 ((some FieldType.int)) 2 := ⟨gc9 130 rfl rfl, gc9 131 rfl rfl, gc1 13 rfl rfl, gc9 132 rfl rfl, rfl, by decide, by decide, by decide +kernel⟩
set_option maxRecDepth 20000 in
theorem yv_X12_cell : YV RX12 yX12_cell cX12_cell 12 ((some FieldType.long)) 3 := ⟨gc9 134 rfl rfl, gc9 135 rfl rfl, gc1 13 rfl rfl, gc9 136 rfl rfl, rfl, by decide, by decide, by decide +kernel⟩
set_option maxRecDepth 20000 in
theorem yv_X12_does : YV RX12 yX12_does cX12_does 6 ((none : Option FieldType)) 5 := ⟨gc9 160 rfl rfl, gs9 4 rfl, gc1 13 rfl rfl, gc9 161 rfl rfl, rfl, by decide, by decide, by decide +kernel⟩
set_option maxRecDepth 20000 in
theorem yv_X12_isWaiting : YV RX12 yX12_isWaiting cX12_isWaiting 2 ((some FieldType.boolean)) 1 := ⟨gc9 168 rfl rfl, gs9 6 rfl, gc1 13 rfl rfl, gc9 169 rfl rfl, rfl, by decide, by decide, by decide +kernel⟩
set_option maxRecDepth 20000 in
theorem yv_X12_goes : YV RX12 yX12_goes cX12_goes 1 ((none : Option FieldType)) 0 := ⟨gc9 172 rfl rfl, gs9 7 rfl, gc1 13 rfl rfl, gc9 173 rfl rfl, rfl, by decide, by decide, by decide +kernel⟩
set_option maxRecDepth 20000 in
theorem yv_X12_waitsToo : YV RX12 yX12_waitsToo cX12_waitsToo 2 ((none : Option FieldType)) 1 := ⟨gc9 152 rfl rfl, gs9 2 rfl, gc1 13 rfl rfl, gc9 153 rfl rfl, rfl, by decide, by decide, by decide +kernel⟩
set_option maxRecDepth 20000 in
theorem yv_X12_endsNot : YV RX12 yX12_endsNot cX12_endsNot 1 ((none : Option FieldType)) 0 := ⟨gc9 164 rfl rfl, gs9 5 rfl, gc1 13 rfl rfl, gc9 165 rfl rfl, rfl, by decide, by decide, by decide +kernel⟩
set_option maxRecDepth 20000 in
theorem yv_X12_readPath : YV RX12 yX12_readPath cX12_readPath 10 ((some FieldType.boolean)) 1 := ⟨gc9 156 rfl rfl, gs9 3 rfl, gc1 13 rfl rfl, gc9 157 rfl rfl, rfl, by decide, by decide, by decide +kernel⟩
set_option maxRecDepth 20000 in
theorem yv_X12_readTruth : YV RX12 yX12_readTruth cX12_readTruth 4 ((some FieldType.boolean)) 0 := ⟨gc9 148 rfl rfl, gs9 1 rfl, gc1 13 rfl rfl, gc9 149 rfl rfl, rfl, by decide, by decide, by decide +kernel⟩
set_option maxRecDepth 20000 in
theorem yv_X12_readQuestion : YV RX12 yX12_readQuestion cX12_readQuestion 1 ((some FieldType.boolean)) 0 := ⟨gc9 144 rfl rfl, gs9 0 rfl, gc1 13 rfl rfl, gc9 145 rfl rfl, rfl, by decide, by decide, by decide +kernel⟩
set_option maxRecDepth 20000 in
theorem yv_X12_told : YV RX12 yX12_told cX12_told 8 ((some FieldType.int)) 2 := ⟨gc9 180 rfl rfl, gs9 9 rfl, gc1 13 rfl rfl, gc9 181 rfl rfl, rfl, by decide, by decide, by decide +kernel⟩
set_option maxRecDepth 20000 in
theorem yv_X12_isTold : YV RX12 yX12_isTold cX12_isTold 7 ((some FieldType.boolean)) 1 := ⟨gc9 176 rfl rfl, gs9 8 rfl, gc1 13 rfl rfl, gc9 177 rfl rfl, rfl, by decide, by decide, by decide +kernel⟩
set_option maxRecDepth 20000 in
theorem yv_X12_ask : YV RX12 yX12_ask cX12_ask 5 ((some FieldType.int)) 1 := ⟨gc9 139 rfl rfl, gc9 140 rfl rfl, gc1 13 rfl rfl, gc9 141 rfl rfl, rfl, by decide, by decide, by decide +kernel⟩
set_option maxRecDepth 20000 in
theorem yv_X12_found : YV RX12 yX12_found cX12_found 2 ((some FieldType.int)) 1 := ⟨gc9 183 rfl rfl, gc9 184 rfl rfl, gc1 13 rfl rfl, gc9 185 rfl rfl, rfl, by decide, by decide, by decide +kernel⟩
set_option maxRecDepth 20000 in
theorem yv_X12_count : YV RX12 yX12_count cX12_count 2 ((some FieldType.int)) 1 := ⟨gc9 187 rfl rfl, gc9 188 rfl rfl, gc1 13 rfl rfl, gc9 189 rfl rfl, rfl, by decide, by decide, by decide +kernel⟩
set_option maxRecDepth 20000 in
theorem ml_X0_19 : Cond.methodLink RX0 19 yX6_clear ∈ gtbl := gc3 185 rfl rfl
set_option maxRecDepth 20000 in
theorem ml_X0_28 : Cond.methodLink RX0 28 yX8_isEnd ∈ gtbl := gc3 189 rfl rfl
set_option maxRecDepth 20000 in
theorem ml_X0_34 : Cond.methodLink RX0 34 yX0_readHead ∈ gtbl := gc3 193 rfl rfl
set_option maxRecDepth 20000 in
theorem ml_X0_37 : Cond.methodLink RX0 37 yX0_readPart ∈ gtbl := gc4 26 rfl rfl
set_option maxRecDepth 20000 in
theorem ml_X0_40 : Cond.methodLink RX0 40 yX0_findTargets ∈ gtbl := gc4 109 rfl rfl
set_option maxRecDepth 20000 in
theorem ml_X0_43 : Cond.methodLink RX0 43 yX0_checkLeads ∈ gtbl := gc4 117 rfl rfl
set_option maxRecDepth 20000 in
theorem ml_X0_48 : Cond.methodLink RX0 48 yX8_expects ∈ gtbl := gc3 198 rfl rfl
set_option maxRecDepth 20000 in
theorem ml_X0_52 : Cond.methodLink RX0 52 yX8_isName ∈ gtbl := gc3 210 rfl rfl
set_option maxRecDepth 20000 in
theorem ml_X0_55 : Cond.methodLink RX0 55 yX8_misplaced ∈ gtbl := gc3 214 rfl rfl
set_option maxRecDepth 20000 in
theorem ml_X0_58 : Cond.methodLink RX0 58 yX8_word ∈ gtbl := gc3 215 rfl rfl
set_option maxRecDepth 20000 in
theorem ml_X0_62 : Cond.methodLink RX0 62 yX6_classNamed ∈ gtbl := gc3 219 rfl rfl
set_option maxRecDepth 20000 in
theorem ml_X0_66 : Cond.methodLink RX0 66 yX8_refuse ∈ gtbl := gc3 223 rfl rfl
set_option maxRecDepth 20000 in
theorem ml_X0_74 : Cond.methodLink RX0 74 yX8_pass ∈ gtbl := gc3 231 rfl rfl
set_option maxRecDepth 20000 in
theorem ml_X0_77 : Cond.methodLink RX0 77 yX0_readOrigin ∈ gtbl := gc3 235 rfl rfl
set_option maxRecDepth 20000 in
theorem ml_X0_84 : Cond.methodLink RX0 84 yX8_takes ∈ gtbl := gc4 0 rfl rfl
set_option maxRecDepth 20000 in
theorem ml_X0_89 : Cond.methodLink RX0 89 yX0_wayNow ∈ gtbl := gc4 2 rfl rfl
set_option maxRecDepth 20000 in
theorem ml_X0_95 : Cond.methodLink RX0 95 yX6_addClass ∈ gtbl := gc4 14 rfl rfl
set_option maxRecDepth 20000 in
theorem ml_X0_101 : Cond.methodLink RX0 101 yX8_isAt ∈ gtbl := gc4 7 rfl rfl
set_option maxRecDepth 20000 in
theorem ml_X0_112 : Cond.methodLink RX0 112 yX0_readHook ∈ gtbl := gc4 32 rfl rfl
set_option maxRecDepth 20000 in
theorem ml_X0_115 : Cond.methodLink RX0 115 yX0_readMember ∈ gtbl := gc4 52 rfl rfl
set_option maxRecDepth 20000 in
theorem ml_X0_125 : Cond.methodLink RX0 125 yX1_memberNamed ∈ gtbl := gc4 38 rfl rfl
set_option maxRecDepth 20000 in
theorem ml_X0_139 : Cond.methodLink RX0 139 yX8_isNumber ∈ gtbl := gc4 43 rfl rfl
set_option maxRecDepth 20000 in
theorem ml_X0_153 : Cond.methodLink RX0 153 yX8_number ∈ gtbl := gc4 47 rfl rfl
set_option maxRecDepth 20000 in
theorem ml_X0_161 : Cond.methodLink RX0 161 yX6_addMember ∈ gtbl := gc4 56 rfl rfl
set_option maxRecDepth 20000 in
theorem ml_X0_167 : Cond.methodLink RX0 167 yX0_readSort ∈ gtbl := gc4 65 rfl rfl
set_option maxRecDepth 20000 in
theorem ml_X0_173 : Cond.methodLink RX0 173 yX0_readReference ∈ gtbl := gc4 70 rfl rfl
set_option maxRecDepth 20000 in
theorem ml_X0_178 : Cond.methodLink RX0 178 yX0_readList ∈ gtbl := gc4 89 rfl rfl
set_option maxRecDepth 20000 in
theorem ml_X0_189 : Cond.methodLink RX0 189 yX0_readNames ∈ gtbl := gc4 98 rfl rfl
set_option maxRecDepth 20000 in
theorem ml_X0_194 : Cond.methodLink RX0 194 yX0_takeFlag ∈ gtbl := gc4 83 rfl rfl
set_option maxRecDepth 20000 in
theorem ml_X0_208 : Cond.methodLink RX0 208 yX6_nameNumber ∈ gtbl := gc4 102 rfl rfl
set_option maxRecDepth 20000 in
theorem ml_X0_219 : Cond.methodLink RX0 219 yX0_readTarget ∈ gtbl := gc4 74 rfl rfl
set_option maxRecDepth 20000 in
theorem ml_X0_232 : Cond.methodLink RX0 232 yX8_placeNow ∈ gtbl := gc4 78 rfl rfl
set_option maxRecDepth 20000 in
theorem ml_X0_253 : Cond.methodLink RX0 253 yX2_isLeading ∈ gtbl := gc4 113 rfl rfl
set_option maxRecDepth 20000 in
theorem ml_X0_259 : Cond.methodLink RX0 259 yX8_refuseAt ∈ gtbl := gc4 121 rfl rfl
set_option maxRecDepth 20000 in
theorem ml_X0_263 : Cond.methodLink RX0 263 yX0_findBy ∈ gtbl := gc4 122 rfl rfl
set_option maxRecDepth 20000 in
theorem ml_X0_266 : Cond.methodLink RX0 266 yX6_memberNamed ∈ gtbl := gc4 126 rfl rfl
set_option maxRecDepth 20000 in
theorem ml_X0_269 : Cond.methodLink RX0 269 yX6_memberAt ∈ gtbl := gc4 131 rfl rfl
set_option maxRecDepth 20000 in
theorem ml_X0_276 : Cond.methodLink RX0 276 yX6_isOf ∈ gtbl := gc4 135 rfl rfl
set_option maxRecDepth 20000 in
theorem ml_X3_25 : Cond.methodLink RX3 25 yX3_truthOfTerm ∈ gtbl := gc6 196 rfl rfl
set_option maxRecDepth 20000 in
theorem ml_X3_29 : Cond.methodLink RX3 29 yX3_join ∈ gtbl := gc6 208 rfl rfl
set_option maxRecDepth 20000 in
theorem ml_X3_41 : Cond.methodLink RX3 41 yX5_rowLedTo ∈ gtbl := gc6 200 rfl rfl
set_option maxRecDepth 20000 in
theorem ml_X3_46 : Cond.methodLink RX3 46 yX5_get ∈ gtbl := gc6 204 rfl rfl
set_option maxRecDepth 20000 in
theorem ml_X3_49 : Cond.methodLink RX3 49 yX3_compares ∈ gtbl := gc6 205 rfl rfl
set_option maxRecDepth 20000 in
theorem ml_X4_27 : Cond.methodLink RX4 27 yX8_isName ∈ gtbl := gc6 95 rfl rfl
set_option maxRecDepth 20000 in
theorem ml_X4_33 : Cond.methodLink RX4 33 yX8_misplaced ∈ gtbl := gc6 96 rfl rfl
set_option maxRecDepth 20000 in
theorem ml_X4_36 : Cond.methodLink RX4 36 yX8_word ∈ gtbl := gc6 97 rfl rfl
set_option maxRecDepth 20000 in
theorem ml_X4_40 : Cond.methodLink RX4 40 yX6_classNamed ∈ gtbl := gc6 98 rfl rfl
set_option maxRecDepth 20000 in
theorem ml_X4_46 : Cond.methodLink RX4 46 yX8_refuse ∈ gtbl := gc6 99 rfl rfl
set_option maxRecDepth 20000 in
theorem ml_X4_50 : Cond.methodLink RX4 50 yX3_begin ∈ gtbl := gc6 100 rfl rfl
set_option maxRecDepth 20000 in
theorem ml_X4_56 : Cond.methodLink RX4 56 yX8_pass ∈ gtbl := gc6 104 rfl rfl
set_option maxRecDepth 20000 in
theorem ml_X4_59 : Cond.methodLink RX4 59 yX8_isEnd ∈ gtbl := gc6 105 rfl rfl
set_option maxRecDepth 20000 in
theorem ml_X4_64 : Cond.methodLink RX4 64 yX8_expects ∈ gtbl := gc6 107 rfl rfl
set_option maxRecDepth 20000 in
theorem ml_X4_68 : Cond.methodLink RX4 68 yX4_readTerms ∈ gtbl := gc6 108 rfl rfl
set_option maxRecDepth 20000 in
theorem ml_X4_78 : Cond.methodLink RX4 78 yX4_readOpenings ∈ gtbl := gc6 112 rfl rfl
set_option maxRecDepth 20000 in
theorem ml_X4_81 : Cond.methodLink RX4 81 yX4_readTerm ∈ gtbl := gc6 127 rfl rfl
set_option maxRecDepth 20000 in
theorem ml_X4_84 : Cond.methodLink RX4 84 yX4_readClosings ∈ gtbl := gc6 171 rfl rfl
set_option maxRecDepth 20000 in
theorem ml_X4_87 : Cond.methodLink RX4 87 yX4_joinDown ∈ gtbl := gc6 176 rfl rfl
set_option maxRecDepth 20000 in
theorem ml_X4_90 : Cond.methodLink RX4 90 yX4_readJoiner ∈ gtbl := gc6 180 rfl rfl
set_option maxRecDepth 20000 in
theorem ml_X4_93 : Cond.methodLink RX4 93 yX4_openingNow ∈ gtbl := gc6 116 rfl rfl
set_option maxRecDepth 20000 in
theorem ml_X4_97 : Cond.methodLink RX4 97 yX4_push ∈ gtbl := gc6 123 rfl rfl
set_option maxRecDepth 20000 in
theorem ml_X4_102 : Cond.methodLink RX4 102 yX8_isAt ∈ gtbl := gc6 121 rfl rfl
set_option maxRecDepth 20000 in
theorem ml_X4_111 : Cond.methodLink RX4 111 yX8_takes ∈ gtbl := gc6 132 rfl rfl
set_option maxRecDepth 20000 in
theorem ml_X4_116 : Cond.methodLink RX4 116 yX3_add ∈ gtbl := gc6 133 rfl rfl
set_option maxRecDepth 20000 in
theorem ml_X4_121 : Cond.methodLink RX4 121 yX4_readPath ∈ gtbl := gc6 137 rfl rfl
set_option maxRecDepth 20000 in
theorem ml_X4_125 : Cond.methodLink RX4 125 yX4_readSign ∈ gtbl := gc6 156 rfl rfl
set_option maxRecDepth 20000 in
theorem ml_X4_128 : Cond.methodLink RX4 128 yX4_readOperand ∈ gtbl := gc6 163 rfl rfl
set_option maxRecDepth 20000 in
theorem ml_X4_138 : Cond.methodLink RX4 138 yX6_memberNamed ∈ gtbl := gc6 141 rfl rfl
set_option maxRecDepth 20000 in
theorem ml_X4_142 : Cond.methodLink RX4 142 yX6_memberAt ∈ gtbl := gc6 142 rfl rfl
set_option maxRecDepth 20000 in
theorem ml_X4_148 : Cond.methodLink RX4 148 yX8_isAhead ∈ gtbl := gc6 144 rfl rfl
set_option maxRecDepth 20000 in
theorem ml_X4_151 : Cond.methodLink RX4 151 yX4_canStand ∈ gtbl := gc6 148 rfl rfl
set_option maxRecDepth 20000 in
theorem ml_X4_155 : Cond.methodLink RX4 155 yX3_set ∈ gtbl := gc6 152 rfl rfl
set_option maxRecDepth 20000 in
theorem ml_X4_167 : Cond.methodLink RX4 167 yX2_isLeading ∈ gtbl := gc6 151 rfl rfl
set_option maxRecDepth 20000 in
theorem ml_X4_176 : Cond.methodLink RX4 176 yX6_nameNumber ∈ gtbl := gc6 167 rfl rfl
set_option maxRecDepth 20000 in
theorem ml_X4_182 : Cond.methodLink RX4 182 yX8_isNumber ∈ gtbl := gc6 169 rfl rfl
set_option maxRecDepth 20000 in
theorem ml_X4_185 : Cond.methodLink RX4 185 yX8_number ∈ gtbl := gc6 170 rfl rfl
set_option maxRecDepth 20000 in
theorem ml_X5_37 : Cond.methodLink RX5 37 yX6_memberAt ∈ gtbl := gc5 38 rfl rfl
set_option maxRecDepth 20000 in
theorem ml_X5_43 : Cond.methodLink RX5 43 yX5_get ∈ gtbl := gc5 54 rfl rfl
set_option maxRecDepth 20000 in
theorem ml_X5_53 : Cond.methodLink RX5 53 yX6_rootOf ∈ gtbl := gc5 44 rfl rfl
set_option maxRecDepth 20000 in
theorem ml_X5_57 : Cond.methodLink RX5 57 yX5_rowOf ∈ gtbl := gc5 62 rfl rfl
set_option maxRecDepth 20000 in
theorem ml_X5_60 : Cond.methodLink RX5 60 yX5_endOf ∈ gtbl := gc5 49 rfl rfl
set_option maxRecDepth 20000 in
theorem ml_X5_63 : Cond.methodLink RX5 63 yX5_firstOf ∈ gtbl := gc5 45 rfl rfl
set_option maxRecDepth 20000 in
theorem ml_X5_66 : Cond.methodLink RX5 66 yX5_move ∈ gtbl := gc5 70 rfl rfl
set_option maxRecDepth 20000 in
theorem ml_X5_73 : Cond.methodLink RX5 73 yX2_has ∈ gtbl := gc5 39 rfl rfl
set_option maxRecDepth 20000 in
theorem ml_X5_77 : Cond.methodLink RX5 77 yX5_isTaken ∈ gtbl := gc5 40 rfl rfl
set_option maxRecDepth 20000 in
theorem ml_X5_81 : Cond.methodLink RX5 81 yX5_leads ∈ gtbl := gc5 58 rfl rfl
set_option maxRecDepth 20000 in
theorem ml_X5_87 : Cond.methodLink RX5 87 yX6_isOf ∈ gtbl := gc5 53 rfl rfl
set_option maxRecDepth 20000 in
theorem ml_X5_94 : Cond.methodLink RX5 94 yX5_memberLeading ∈ gtbl := gc5 109 rfl rfl
set_option maxRecDepth 20000 in
theorem ml_X5_110 : Cond.methodLink RX5 110 yX5_ownColumn ∈ gtbl := gc6 61 rfl rfl
set_option maxRecDepth 20000 in
theorem ml_X5_115 : Cond.methodLink RX5 115 yX5_ownColumns ∈ gtbl := gc6 83 rfl rfl
set_option maxRecDepth 20000 in
theorem ml_X5_122 : Cond.methodLink RX5 122 yX5_columnFrom ∈ gtbl := gc6 70 rfl rfl
set_option maxRecDepth 20000 in
theorem ml_X5_125 : Cond.methodLink RX5 125 yX5_firstOwn ∈ gtbl := gc6 65 rfl rfl
set_option maxRecDepth 20000 in
theorem ml_X5_131 : Cond.methodLink RX5 131 yX6_kindAt ∈ gtbl := gc6 69 rfl rfl
set_option maxRecDepth 20000 in
theorem ml_X6_42 : Cond.methodLink RX6 42 yX6_kindAt ∈ gtbl := gc4 22 rfl rfl
set_option maxRecDepth 20000 in
theorem ml_X6_52 : Cond.methodLink RX6 52 yX1_memberNamed ∈ gtbl := gc4 130 rfl rfl
set_option maxRecDepth 20000 in
theorem ml_X6_69 : Cond.methodLink RX6 69 yX1_begin ∈ gtbl := gc4 18 rfl rfl
set_option maxRecDepth 20000 in
theorem ml_X6_76 : Cond.methodLink RX6 76 yX2_begin ∈ gtbl := gc4 60 rfl rfl
set_option maxRecDepth 20000 in
theorem ml_X6_83 : Cond.methodLink RX6 83 yX6_isOf ∈ gtbl := gc4 210 rfl rfl
set_option maxRecDepth 20000 in
theorem ml_X6_87 : Cond.methodLink RX6 87 yX1_runHooks ∈ gtbl := gc4 211 rfl rfl
set_option maxRecDepth 20000 in
theorem ml_X8_47 : Cond.methodLink RX8 47 yX8_isLetter ∈ gtbl := gc3 70 rfl rfl
set_option maxRecDepth 20000 in
theorem ml_X8_53 : Cond.methodLink RX8 53 yX8_isDigit ∈ gtbl := gc3 73 rfl rfl
set_option maxRecDepth 20000 in
theorem ml_X8_76 : Cond.methodLink RX8 76 yX8_takes ∈ gtbl := gc3 202 rfl rfl
set_option maxRecDepth 20000 in
theorem ml_X8_79 : Cond.methodLink RX8 79 yX8_misplaced ∈ gtbl := gc3 206 rfl rfl
set_option maxRecDepth 20000 in
theorem ml_X8_83 : Cond.methodLink RX8 83 yX8_refuseAt ∈ gtbl := gc3 227 rfl rfl
set_option maxRecDepth 20000 in
theorem ml_X9_48 : Cond.methodLink RX9 48 yX7_begin ∈ gtbl := gc5 154 rfl rfl
set_option maxRecDepth 20000 in
theorem ml_X9_52 : Cond.methodLink RX9 52 yX9_thingFor ∈ gtbl := gc5 166 rfl rfl
set_option maxRecDepth 20000 in
theorem ml_X9_56 : Cond.methodLink RX9 56 yX9_comes ∈ gtbl := gc5 174 rfl rfl
set_option maxRecDepth 20000 in
theorem ml_X9_60 : Cond.methodLink RX9 60 yX9_meet ∈ gtbl := gc5 170 rfl rfl
set_option maxRecDepth 20000 in
theorem ml_X9_69 : Cond.methodLink RX9 69 yX5_rowOf ∈ gtbl := gc5 169 rfl rfl
set_option maxRecDepth 20000 in
theorem ml_X9_83 : Cond.methodLink RX9 83 yX5_copyValues ∈ gtbl := gc5 179 rfl rfl
set_option maxRecDepth 20000 in
theorem ml_X9_90 : Cond.methodLink RX9 90 yX7_keepCopy ∈ gtbl := gc5 183 rfl rfl
set_option maxRecDepth 20000 in
theorem ml_X9_93 : Cond.methodLink RX9 93 yX7_isLive ∈ gtbl := gc5 167 rfl rfl
set_option maxRecDepth 20000 in
theorem ml_X9_101 : Cond.methodLink RX9 101 yX6_isOf ∈ gtbl := gc5 168 rfl rfl
set_option maxRecDepth 20000 in
theorem ml_X9_107 : Cond.methodLink RX9 107 yX9_loadStand ∈ gtbl := gc5 175 rfl rfl
set_option maxRecDepth 20000 in
theorem ml_X9_116 : Cond.methodLink RX9 116 yX6_rootOf ∈ gtbl := gc5 238 rfl rfl
set_option maxRecDepth 20000 in
theorem ml_X9_120 : Cond.methodLink RX9 120 yX5_firstOf ∈ gtbl := gc5 239 rfl rfl
set_option maxRecDepth 20000 in
theorem ml_X9_123 : Cond.methodLink RX9 123 yX5_endOf ∈ gtbl := gc6 0 rfl rfl
set_option maxRecDepth 20000 in
theorem ml_X9_129 : Cond.methodLink RX9 129 yX5_get ∈ gtbl := gc6 1 rfl rfl
set_option maxRecDepth 20000 in
theorem ml_X9_134 : Cond.methodLink RX9 134 yX9_isToldByRow ∈ gtbl := gc6 2 rfl rfl
set_option maxRecDepth 20000 in
theorem ml_X9_137 : Cond.methodLink RX9 137 yX9_enlist ∈ gtbl := gc6 6 rfl rfl
set_option maxRecDepth 20000 in
theorem ml_X9_147 : Cond.methodLink RX9 147 yX9_joinDropRow ∈ gtbl := gc6 23 rfl rfl
set_option maxRecDepth 20000 in
theorem ml_X9_150 : Cond.methodLink RX9 150 yX9_followOwned ∈ gtbl := gc6 27 rfl rfl
set_option maxRecDepth 20000 in
theorem ml_X9_166 : Cond.methodLink RX9 166 yX2_has ∈ gtbl := gc6 31 rfl rfl
set_option maxRecDepth 20000 in
theorem ml_X9_170 : Cond.methodLink RX9 170 yX9_followMember ∈ gtbl := gc6 32 rfl rfl
set_option maxRecDepth 20000 in
theorem ml_X9_177 : Cond.methodLink RX9 177 yX9_followKey ∈ gtbl := gc6 36 rfl rfl
set_option maxRecDepth 20000 in
theorem ml_X9_180 : Cond.methodLink RX9 180 yX9_gather ∈ gtbl := gc6 40 rfl rfl
set_option maxRecDepth 20000 in
theorem ml_X10_115 : Cond.methodLink RX10 115 yX7_isLive ∈ gtbl := gc4 190 rfl rfl
set_option maxRecDepth 20000 in
theorem ml_X10_121 : Cond.methodLink RX10 121 yX7_isAhead ∈ gtbl := gc4 194 rfl rfl
set_option maxRecDepth 20000 in
theorem ml_X10_125 : Cond.methodLink RX10 125 yX7_changes ∈ gtbl := gc4 202 rfl rfl
set_option maxRecDepth 20000 in
theorem ml_X10_129 : Cond.methodLink RX10 129 yX6_runHooks ∈ gtbl := gc4 206 rfl rfl
set_option maxRecDepth 20000 in
theorem ml_X10_134 : Cond.methodLink RX10 134 yX10_countIn ∈ gtbl := gc4 226 rfl rfl
set_option maxRecDepth 20000 in
theorem ml_X10_138 : Cond.methodLink RX10 138 yX10_nextInsert ∈ gtbl := gc4 230 rfl rfl
set_option maxRecDepth 20000 in
theorem ml_X10_142 : Cond.methodLink RX10 142 yX10_firstUnwritten ∈ gtbl := gc5 14 rfl rfl
set_option maxRecDepth 20000 in
theorem ml_X10_146 : Cond.methodLink RX10 146 yX10_breakOff ∈ gtbl := gc5 18 rfl rfl
set_option maxRecDepth 20000 in
theorem ml_X10_150 : Cond.methodLink RX10 150 yX10_insert ∈ gtbl := gc5 22 rfl rfl
set_option maxRecDepth 20000 in
theorem ml_X10_153 : Cond.methodLink RX10 153 yX10_earlyReferences ∈ gtbl := gc4 234 rfl rfl
set_option maxRecDepth 20000 in
theorem ml_X10_157 : Cond.methodLink RX10 157 yX10_hasMust ∈ gtbl := gc5 6 rfl rfl
set_option maxRecDepth 20000 in
theorem ml_X10_187 : Cond.methodLink RX10 187 yX6_rootOf ∈ gtbl := gc4 238 rfl rfl
set_option maxRecDepth 20000 in
theorem ml_X10_190 : Cond.methodLink RX10 190 yX9_thingFor ∈ gtbl := gc5 2 rfl rfl
set_option maxRecDepth 20000 in
theorem ml_X10_194 : Cond.methodLink RX10 194 yX2_has ∈ gtbl := gc5 10 rfl rfl
set_option maxRecDepth 20000 in
theorem ml_X10_201 : Cond.methodLink RX10 201 yX5_isFull ∈ gtbl := gc5 26 rfl rfl
set_option maxRecDepth 20000 in
theorem ml_X10_204 : Cond.methodLink RX10 204 yX10_keepsRules ∈ gtbl := gc5 30 rfl rfl
set_option maxRecDepth 20000 in
theorem ml_X10_210 : Cond.methodLink RX10 210 yX5_add ∈ gtbl := gc5 66 rfl rfl
set_option maxRecDepth 20000 in
theorem ml_X10_214 : Cond.methodLink RX10 214 yX5_set ∈ gtbl := gc5 74 rfl rfl
set_option maxRecDepth 20000 in
theorem ml_X10_218 : Cond.methodLink RX10 218 yX10_noteWrite ∈ gtbl := gc5 78 rfl rfl
set_option maxRecDepth 20000 in
theorem ml_X10_222 : Cond.methodLink RX10 222 yX5_brokenRule ∈ gtbl := gc5 34 rfl rfl
set_option maxRecDepth 20000 in
theorem ml_X10_229 : Cond.methodLink RX10 229 yX5_rowOf ∈ gtbl := gc5 90 rfl rfl
set_option maxRecDepth 20000 in
theorem ml_X10_243 : Cond.methodLink RX10 243 yX10_nextDelete ∈ gtbl := gc5 101 rfl rfl
set_option maxRecDepth 20000 in
theorem ml_X10_247 : Cond.methodLink RX10 247 yX10_delete ∈ gtbl := gc5 113 rfl rfl
set_option maxRecDepth 20000 in
theorem ml_X10_250 : Cond.methodLink RX10 250 yX5_leadingMember ∈ gtbl := gc5 105 rfl rfl
set_option maxRecDepth 20000 in
theorem ml_X10_253 : Cond.methodLink RX10 253 yX5_remove ∈ gtbl := gc5 117 rfl rfl
set_option maxRecDepth 20000 in
theorem ml_X10_257 : Cond.methodLink RX10 257 yX7_keepCopy ∈ gtbl := gc5 125 rfl rfl
set_option maxRecDepth 20000 in
theorem ml_X11_90 : Cond.methodLink RX11 90 yX11_feedNumber ∈ gtbl := gc3 48 rfl rfl
set_option maxRecDepth 20000 in
theorem ml_X11_117 : Cond.methodLink RX11 117 yX6_kindAt ∈ gtbl := gc4 155 rfl rfl
set_option maxRecDepth 20000 in
theorem ml_X11_135 : Cond.methodLink RX11 135 yX6_memberAt ∈ gtbl := gc4 160 rfl rfl
set_option maxRecDepth 20000 in
theorem ml_X11_144 : Cond.methodLink RX11 144 yX2_isLeading ∈ gtbl := gc4 161 rfl rfl
set_option maxRecDepth 20000 in
theorem ml_X11_164 : Cond.methodLink RX11 164 yX9_begin ∈ gtbl := gc4 166 rfl rfl
set_option maxRecDepth 20000 in
theorem ml_X11_167 : Cond.methodLink RX11 167 yX11_openUnit ∈ gtbl := gc4 174 rfl rfl
set_option maxRecDepth 20000 in
theorem ml_X11_190 : Cond.methodLink RX11 190 yX10_logged ∈ gtbl := gc5 142 rfl rfl
set_option maxRecDepth 20000 in
theorem ml_X11_196 : Cond.methodLink RX11 196 yX9_comes ∈ gtbl := gc5 150 rfl rfl
set_option maxRecDepth 20000 in
theorem ml_X11_206 : Cond.methodLink RX11 206 yX9_fetch ∈ gtbl := gc5 162 rfl rfl
set_option maxRecDepth 20000 in
theorem ml_X11_210 : Cond.methodLink RX11 210 yX11_thingNumbered ∈ gtbl := gc5 188 rfl rfl
set_option maxRecDepth 20000 in
theorem ml_X11_220 : Cond.methodLink RX11 220 yX9_loadStand ∈ gtbl := gc5 196 rfl rfl
set_option maxRecDepth 20000 in
theorem ml_X11_227 : Cond.methodLink RX11 227 yX11_usableThing ∈ gtbl := gc5 201 rfl rfl
set_option maxRecDepth 20000 in
theorem ml_X11_230 : Cond.methodLink RX11 230 yX11_memberOf ∈ gtbl := gc5 206 rfl rfl
set_option maxRecDepth 20000 in
theorem ml_X11_243 : Cond.methodLink RX11 243 yX6_rootOf ∈ gtbl := gc5 212 rfl rfl
set_option maxRecDepth 20000 in
theorem ml_X11_247 : Cond.methodLink RX11 247 yX9_numberMet ∈ gtbl := gc5 213 rfl rfl
set_option maxRecDepth 20000 in
theorem ml_X11_250 : Cond.methodLink RX11 250 yX2_holds ∈ gtbl := gc5 221 rfl rfl
set_option maxRecDepth 20000 in
theorem ml_X11_254 : Cond.methodLink RX11 254 yX6_isOf ∈ gtbl := gc5 229 rfl rfl
set_option maxRecDepth 20000 in
theorem ml_X11_258 : Cond.methodLink RX11 258 yX9_gather ∈ gtbl := gc5 234 rfl rfl
set_option maxRecDepth 20000 in
theorem ml_X11_262 : Cond.methodLink RX11 262 yX11_size ∈ gtbl := gc6 14 rfl rfl
set_option maxRecDepth 20000 in
theorem ml_X11_268 : Cond.methodLink RX11 268 yX9_dropFrom ∈ gtbl := gc6 19 rfl rfl
set_option maxRecDepth 20000 in
theorem ml_X11_275 : Cond.methodLink RX11 275 yX5_rowOf ∈ gtbl := gc6 49 rfl rfl
set_option maxRecDepth 20000 in
theorem ml_X11_280 : Cond.methodLink RX11 280 yX5_brokenRule ∈ gtbl := gc6 50 rfl rfl
set_option maxRecDepth 20000 in
theorem ml_X11_284 : Cond.methodLink RX11 284 yX5_set ∈ gtbl := gc6 51 rfl rfl
set_option maxRecDepth 20000 in
theorem ml_X11_290 : Cond.methodLink RX11 290 yX5_joinedCell ∈ gtbl := gc6 56 rfl rfl
set_option maxRecDepth 20000 in
theorem ml_X11_294 : Cond.methodLink RX11 294 yX5_ownCell ∈ gtbl := gc6 74 rfl rfl
set_option maxRecDepth 20000 in
theorem ml_X11_297 : Cond.methodLink RX11 297 yX5_oneCell ∈ gtbl := gc6 78 rfl rfl
set_option maxRecDepth 20000 in
theorem ml_X11_309 : Cond.methodLink RX11 309 yX11_openUnits ∈ gtbl := gc6 222 rfl rfl
set_option maxRecDepth 20000 in
theorem ml_X11_313 : Cond.methodLink RX11 313 yX5_total ∈ gtbl := gc6 226 rfl rfl
set_option maxRecDepth 20000 in
theorem ml_X11_316 : Cond.methodLink RX11 316 yX5_clear ∈ gtbl := gc4 143 rfl rfl
set_option maxRecDepth 20000 in
theorem ml_X11_322 : Cond.methodLink RX11 322 yX5_firstOf ∈ gtbl := gc6 190 rfl rfl
set_option maxRecDepth 20000 in
theorem ml_X11_325 : Cond.methodLink RX11 325 yX5_endOf ∈ gtbl := gc6 191 rfl rfl
set_option maxRecDepth 20000 in
theorem ml_X11_328 : Cond.methodLink RX11 328 yX3_isTrueOf ∈ gtbl := gc6 192 rfl rfl
set_option maxRecDepth 20000 in
theorem ml_X11_334 : Cond.methodLink RX11 334 yX9_thingAt ∈ gtbl := gc5 192 rfl rfl
set_option maxRecDepth 20000 in
theorem ml_X11_337 : Cond.methodLink RX11 337 yX7_isLive ∈ gtbl := gc5 205 rfl rfl
set_option maxRecDepth 20000 in
theorem ml_X12_229 : Cond.methodLink RX12 229 yX12_see ∈ gtbl := gc8 62 rfl rfl
set_option maxRecDepth 20000 in
theorem ml_X12_233 : Cond.methodLink RX12 233 yX12_isBlank ∈ gtbl := gc8 66 rfl rfl
set_option maxRecDepth 20000 in
theorem ml_X12_240 : Cond.methodLink RX12 240 yX12_letterOf ∈ gtbl := gc8 69 rfl rfl
set_option maxRecDepth 20000 in
theorem ml_X12_255 : Cond.methodLink RX12 255 yX12_isSign ∈ gtbl := gc8 73 rfl rfl
set_option maxRecDepth 20000 in
theorem ml_X12_261 : Cond.methodLink RX12 261 yX12_fails ∈ gtbl := gc8 95 rfl rfl
set_option maxRecDepth 20000 in
theorem ml_X12_264 : Cond.methodLink RX12 264 yX12_is ∈ gtbl := gc8 119 rfl rfl
set_option maxRecDepth 20000 in
theorem ml_X12_267 : Cond.methodLink RX12 267 yX12_wrong ∈ gtbl := gc8 91 rfl rfl
set_option maxRecDepth 20000 in
theorem ml_X12_271 : Cond.methodLink RX12 271 yX12_advance ∈ gtbl := gc8 58 rfl rfl
set_option maxRecDepth 20000 in
theorem ml_X12_276 : Cond.methodLink RX12 276 yX12_two ∈ gtbl := gc8 84 rfl rfl
set_option maxRecDepth 20000 in
theorem ml_X12_280 : Cond.methodLink RX12 280 yX12_one ∈ gtbl := gc8 88 rfl rfl
set_option maxRecDepth 20000 in
theorem ml_X12_284 : Cond.methodLink RX12 284 yX12_toldWord ∈ gtbl := gc8 80 rfl rfl
set_option maxRecDepth 20000 in
theorem ml_X12_297 : Cond.methodLink RX12 297 yX12_needsWord ∈ gtbl := gc8 76 rfl rfl
set_option maxRecDepth 20000 in
theorem ml_X12_300 : Cond.methodLink RX12 300 yX12_readClass ∈ gtbl := gc8 99 rfl rfl
set_option maxRecDepth 20000 in
theorem ml_X12_303 : Cond.methodLink RX12 303 yX12_classNamed ∈ gtbl := gc8 107 rfl rfl
set_option maxRecDepth 20000 in
theorem ml_X12_307 : Cond.methodLink RX12 307 yX12_copyMeant ∈ gtbl := gc8 139 rfl rfl
set_option maxRecDepth 20000 in
theorem ml_X12_311 : Cond.methodLink RX12 311 yX12_memberNamed ∈ gtbl := gc8 127 rfl rfl
set_option maxRecDepth 20000 in
theorem ml_X12_315 : Cond.methodLink RX12 315 yX12_isA ∈ gtbl := gc8 143 rfl rfl
set_option maxRecDepth 20000 in
theorem ml_X12_319 : Cond.methodLink RX12 319 yX12_isName ∈ gtbl := gc8 103 rfl rfl
set_option maxRecDepth 20000 in
theorem ml_X12_322 : Cond.methodLink RX12 322 yX12_copyMember ∈ gtbl := gc8 111 rfl rfl
set_option maxRecDepth 20000 in
theorem ml_X12_326 : Cond.methodLink RX12 326 yX12_needs ∈ gtbl := gc8 115 rfl rfl
set_option maxRecDepth 20000 in
theorem ml_X12_329 : Cond.methodLink RX12 329 yX12_readHook ∈ gtbl := gc8 123 rfl rfl
set_option maxRecDepth 20000 in
theorem ml_X12_332 : Cond.methodLink RX12 332 yX12_readMember ∈ gtbl := gc8 131 rfl rfl
set_option maxRecDepth 20000 in
theorem ml_X12_335 : Cond.methodLink RX12 335 yX12_readNames ∈ gtbl := gc8 135 rfl rfl
set_option maxRecDepth 20000 in
theorem ml_X12_338 : Cond.methodLink RX12 338 yX12_readClasses ∈ gtbl := gc8 54 rfl rfl
set_option maxRecDepth 20000 in
theorem ml_X12_350 : Cond.methodLink RX12 350 yX12_isClass ∈ gtbl := gc8 155 rfl rfl
set_option maxRecDepth 20000 in
theorem ml_X12_353 : Cond.methodLink RX12 353 yX12_rootOf ∈ gtbl := gc8 159 rfl rfl
set_option maxRecDepth 20000 in
theorem ml_X12_362 : Cond.methodLink RX12 362 yX12_breaks ∈ gtbl := gc9 37 rfl rfl
set_option maxRecDepth 20000 in
theorem ml_X12_366 : Cond.methodLink RX12 366 yX12_hasMember ∈ gtbl := gc9 41 rfl rfl
set_option maxRecDepth 20000 in
theorem ml_X12_369 : Cond.methodLink RX12 369 yX12_rowOf ∈ gtbl := gc8 198 rfl rfl
set_option maxRecDepth 20000 in
theorem ml_X12_373 : Cond.methodLink RX12 373 yX12_leads ∈ gtbl := gc9 109 rfl rfl
set_option maxRecDepth 20000 in
theorem ml_X12_380 : Cond.methodLink RX12 380 yX12_isUnit ∈ gtbl := gc8 175 rfl rfl
set_option maxRecDepth 20000 in
theorem ml_X12_383 : Cond.methodLink RX12 383 yX12_objectOf ∈ gtbl := gc8 190 rfl rfl
set_option maxRecDepth 20000 in
theorem ml_X12_386 : Cond.methodLink RX12 386 yX12_newObject ∈ gtbl := gc8 179 rfl rfl
set_option maxRecDepth 20000 in
theorem ml_X12_390 : Cond.methodLink RX12 390 yX12_copies ∈ gtbl := gc8 210 rfl rfl
set_option maxRecDepth 20000 in
theorem ml_X12_393 : Cond.methodLink RX12 393 yX12_placeOf ∈ gtbl := gc8 218 rfl rfl
set_option maxRecDepth 20000 in
theorem ml_X12_396 : Cond.methodLink RX12 396 yX12_load ∈ gtbl := gc8 206 rfl rfl
set_option maxRecDepth 20000 in
theorem ml_X12_400 : Cond.methodLink RX12 400 yX12_isLive ∈ gtbl := gc8 194 rfl rfl
set_option maxRecDepth 20000 in
theorem ml_X12_403 : Cond.methodLink RX12 403 yX12_numberOf ∈ gtbl := gc8 183 rfl rfl
set_option maxRecDepth 20000 in
theorem ml_X12_406 : Cond.methodLink RX12 406 yX12_meet ∈ gtbl := gc8 202 rfl rfl
set_option maxRecDepth 20000 in
theorem ml_X12_409 : Cond.methodLink RX12 409 yX12_liveOf ∈ gtbl := gc8 226 rfl rfl
set_option maxRecDepth 20000 in
theorem ml_X12_418 : Cond.methodLink RX12 418 yX12_isValue ∈ gtbl := gc8 237 rfl rfl
set_option maxRecDepth 20000 in
theorem ml_X12_424 : Cond.methodLink RX12 424 yX12_addKey ∈ gtbl := gc9 13 rfl rfl
set_option maxRecDepth 20000 in
theorem ml_X12_427 : Cond.methodLink RX12 427 yX12_isList ∈ gtbl := gc9 9 rfl rfl
set_option maxRecDepth 20000 in
theorem ml_X12_430 : Cond.methodLink RX12 430 yX12_broken ∈ gtbl := gc9 33 rfl rfl
set_option maxRecDepth 20000 in
theorem ml_X12_443 : Cond.methodLink RX12 443 yX12_waitsFor ∈ gtbl := gc9 77 rfl rfl
set_option maxRecDepth 20000 in
theorem ml_X12_446 : Cond.methodLink RX12 446 yX12_inOrder ∈ gtbl := gc9 53 rfl rfl
set_option maxRecDepth 20000 in
theorem ml_X12_450 : Cond.methodLink RX12 450 yX12_waitsHow ∈ gtbl := gc9 73 rfl rfl
set_option maxRecDepth 20000 in
theorem ml_X12_453 : Cond.methodLink RX12 453 yX12_ends ∈ gtbl := gc9 81 rfl rfl
set_option maxRecDepth 20000 in
theorem ml_X12_456 : Cond.methodLink RX12 456 yX12_insert ∈ gtbl := gc9 85 rfl rfl
set_option maxRecDepth 20000 in
theorem ml_X12_459 : Cond.methodLink RX12 459 yX12_written ∈ gtbl := gc9 89 rfl rfl
set_option maxRecDepth 20000 in
theorem ml_X12_462 : Cond.methodLink RX12 462 yX12_changed ∈ gtbl := gc9 61 rfl rfl
set_option maxRecDepth 20000 in
theorem ml_X12_465 : Cond.methodLink RX12 465 yX12_change ∈ gtbl := gc9 97 rfl rfl
set_option maxRecDepth 20000 in
theorem ml_X12_468 : Cond.methodLink RX12 468 yX12_leadsTo ∈ gtbl := gc9 105 rfl rfl
set_option maxRecDepth 20000 in
theorem ml_X12_471 : Cond.methodLink RX12 471 yX12_goRow ∈ gtbl := gc9 113 rfl rfl
set_option maxRecDepth 20000 in
theorem ml_X12_474 : Cond.methodLink RX12 474 yX12_hooks ∈ gtbl := gc9 57 rfl rfl
set_option maxRecDepth 20000 in
theorem ml_X12_477 : Cond.methodLink RX12 477 yX12_keepRows ∈ gtbl := gc9 65 rfl rfl
set_option maxRecDepth 20000 in
theorem ml_X12_480 : Cond.methodLink RX12 480 yX12_insertAll ∈ gtbl := gc9 69 rfl rfl
set_option maxRecDepth 20000 in
theorem ml_X12_483 : Cond.methodLink RX12 483 yX12_changeAll ∈ gtbl := gc9 93 rfl rfl
set_option maxRecDepth 20000 in
theorem ml_X12_486 : Cond.methodLink RX12 486 yX12_deleteAll ∈ gtbl := gc9 101 rfl rfl
set_option maxRecDepth 20000 in
theorem ml_X12_489 : Cond.methodLink RX12 489 yX12_backRows ∈ gtbl := gc9 117 rfl rfl
set_option maxRecDepth 20000 in
theorem ml_X12_492 : Cond.methodLink RX12 492 yX12_writeUnit ∈ gtbl := gc9 49 rfl rfl
set_option maxRecDepth 20000 in
theorem ml_X12_503 : Cond.methodLink RX12 503 yX12_does ∈ gtbl := gc9 158 rfl rfl
set_option maxRecDepth 20000 in
theorem ml_X12_507 : Cond.methodLink RX12 507 yX12_isWaiting ∈ gtbl := gc9 166 rfl rfl
set_option maxRecDepth 20000 in
theorem ml_X12_510 : Cond.methodLink RX12 510 yX12_goes ∈ gtbl := gc9 170 rfl rfl
set_option maxRecDepth 20000 in
theorem ml_X12_516 : Cond.methodLink RX12 516 yX12_waitsToo ∈ gtbl := gc9 150 rfl rfl
set_option maxRecDepth 20000 in
theorem ml_X12_519 : Cond.methodLink RX12 519 yX12_readPath ∈ gtbl := gc9 154 rfl rfl
set_option maxRecDepth 20000 in
theorem ml_X12_523 : Cond.methodLink RX12 523 yX12_endsNot ∈ gtbl := gc9 162 rfl rfl
set_option maxRecDepth 20000 in
theorem ml_X12_532 : Cond.methodLink RX12 532 yX12_readTruth ∈ gtbl := gc9 146 rfl rfl
set_option maxRecDepth 20000 in
theorem ml_X12_535 : Cond.methodLink RX12 535 yX12_told ∈ gtbl := gc9 178 rfl rfl
set_option maxRecDepth 20000 in
theorem ml_X12_538 : Cond.methodLink RX12 538 yX12_readQuestion ∈ gtbl := gc9 142 rfl rfl
set_option maxRecDepth 20000 in
theorem ml_X12_541 : Cond.methodLink RX12 541 yX12_isTold ∈ gtbl := gc9 174 rfl rfl
