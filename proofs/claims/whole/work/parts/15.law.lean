theorem ik_L_76 : Cond.methodLink RL 76 yX9_init ∈ TB ∧ Cond.instanceMethod yX9_init ∈ TB := ⟨tb (List.mem_of_getElem? (i := 165) (by decide +kernel)) (by decide +kernel), tb (List.mem_of_getElem? (i := 166) (by decide +kernel)) (by decide +kernel)⟩
theorem ik_L_79 : Cond.methodLink RL 79 yX10_init ∈ TB ∧ Cond.instanceMethod yX10_init ∈ TB := ⟨tb (List.mem_of_getElem? (i := 1375) (by decide +kernel)) (by decide +kernel), tb (List.mem_of_getElem? (i := 1376) (by decide +kernel)) (by decide +kernel)⟩
theorem nk_L_77 : nOK RL 77 8 := ⟨(RX10, TX10, 41), tyX10, rfl, rfl, inX10, tyX10_ok, by decide, tb (List.mem_of_getElem? (i := 1373) (by decide +kernel)) (by decide +kernel), tb (List.mem_of_getElem? (i := 1374) (by decide +kernel)) (by decide +kernel), tb (List.mem_of_getElem? (i := 148) (by decide +kernel)) (by decide +kernel)⟩
theorem nk_L_8 : nOK RL 8 7 := ⟨(RX9, TX9, 13), tyX9, rfl, rfl, inX9, tyX9_ok, by decide, tb (List.mem_of_getElem? (i := 163) (by decide +kernel)) (by decide +kernel), tb (List.mem_of_getElem? (i := 164) (by decide +kernel)) (by decide +kernel), tb (List.mem_of_getElem? (i := 139) (by decide +kernel)) (by decide +kernel)⟩
theorem sk_L_102 : sOK RL 102 yL_table := ⟨tb (List.mem_of_getElem? (i := 1126) (by decide +kernel)) (by decide +kernel), tb (List.mem_of_getElem? (i := 1127) (by decide +kernel)) (by decide +kernel)⟩
theorem sk_L_106 : sOK RL 106 yL_column := ⟨tb (List.mem_of_getElem? (i := 1139) (by decide +kernel)) (by decide +kernel), tb (List.mem_of_getElem? (i := 1140) (by decide +kernel)) (by decide +kernel)⟩
theorem sk_L_110 : sOK RL 110 yL_cell := ⟨tb (List.mem_of_getElem? (i := 1148) (by decide +kernel)) (by decide +kernel), tb (List.mem_of_getElem? (i := 1149) (by decide +kernel)) (by decide +kernel)⟩
theorem sk_L_113 : sOK RL 113 yL_whose := ⟨tb (List.mem_of_getElem? (i := 1158) (by decide +kernel)) (by decide +kernel), tb (List.mem_of_getElem? (i := 1159) (by decide +kernel)) (by decide +kernel)⟩
theorem sk_L_116 : sOK RL 116 yL_conflict := ⟨tb (List.mem_of_getElem? (i := 1166) (by decide +kernel)) (by decide +kernel), tb (List.mem_of_getElem? (i := 1167) (by decide +kernel)) (by decide +kernel)⟩
theorem sk_L_119 : sOK RL 119 yL_set := ⟨tb (List.mem_of_getElem? (i := 1182) (by decide +kernel)) (by decide +kernel), tb (List.mem_of_getElem? (i := 1183) (by decide +kernel)) (by decide +kernel)⟩
theorem sk_L_123 : sOK RL 123 yL_insert := ⟨tb (List.mem_of_getElem? (i := 1198) (by decide +kernel)) (by decide +kernel), tb (List.mem_of_getElem? (i := 1199) (by decide +kernel)) (by decide +kernel)⟩
theorem sk_L_126 : sOK RL 126 yL_delete := ⟨tb (List.mem_of_getElem? (i := 1205) (by decide +kernel)) (by decide +kernel), tb (List.mem_of_getElem? (i := 1206) (by decide +kernel)) (by decide +kernel)⟩
theorem sk_L_129 : sOK RL 129 yL_rename := ⟨tb (List.mem_of_getElem? (i := 1212) (by decide +kernel)) (by decide +kernel), tb (List.mem_of_getElem? (i := 1213) (by decide +kernel)) (by decide +kernel)⟩
theorem sk_L_132 : sOK RL 132 yL_retype := ⟨tb (List.mem_of_getElem? (i := 1219) (by decide +kernel)) (by decide +kernel), tb (List.mem_of_getElem? (i := 1220) (by decide +kernel)) (by decide +kernel)⟩
theorem sk_L_135 : sOK RL 135 yL_add := ⟨tb (List.mem_of_getElem? (i := 1226) (by decide +kernel)) (by decide +kernel), tb (List.mem_of_getElem? (i := 1227) (by decide +kernel)) (by decide +kernel)⟩
theorem sk_L_138 : sOK RL 138 yL_drop := ⟨tb (List.mem_of_getElem? (i := 1233) (by decide +kernel)) (by decide +kernel), tb (List.mem_of_getElem? (i := 1234) (by decide +kernel)) (by decide +kernel)⟩
theorem sk_L_162 : sOK RL 162 yL_difference := ⟨tb (List.mem_of_getElem? (i := 1240) (by decide +kernel)) (by decide +kernel), tb (List.mem_of_getElem? (i := 1241) (by decide +kernel)) (by decide +kernel)⟩
theorem sk_L_165 : sOK RL 165 yL_along := ⟨tb (List.mem_of_getElem? (i := 1261) (by decide +kernel)) (by decide +kernel), tb (List.mem_of_getElem? (i := 1262) (by decide +kernel)) (by decide +kernel)⟩
theorem sk_L_168 : sOK RL 168 yL_alone := ⟨tb (List.mem_of_getElem? (i := 1294) (by decide +kernel)) (by decide +kernel), tb (List.mem_of_getElem? (i := 1295) (by decide +kernel)) (by decide +kernel)⟩
theorem sk_L_179 : sOK RL 179 yL_edited := ⟨tb (List.mem_of_getElem? (i := 1326) (by decide +kernel)) (by decide +kernel), tb (List.mem_of_getElem? (i := 1327) (by decide +kernel)) (by decide +kernel)⟩
theorem sk_L_182 : sOK RL 182 yL_years := ⟨tb (List.mem_of_getElem? (i := 1349) (by decide +kernel)) (by decide +kernel), tb (List.mem_of_getElem? (i := 1350) (by decide +kernel)) (by decide +kernel)⟩
theorem sk_L_85 : sOK RL 85 yL_tables := ⟨tb (List.mem_of_getElem? (i := 815) (by decide +kernel)) (by decide +kernel), tb (List.mem_of_getElem? (i := 816) (by decide +kernel)) (by decide +kernel)⟩
theorem sk_L_99 : sOK RL 99 yL_count := ⟨tb (List.mem_of_getElem? (i := 1094) (by decide +kernel)) (by decide +kernel), tb (List.mem_of_getElem? (i := 1095) (by decide +kernel)) (by decide +kernel)⟩
theorem vk_L_101 : vOK RL 101 yX10_count := ⟨tb (List.mem_of_getElem? (i := 1731) (by decide +kernel)) (by decide +kernel), tb (List.mem_of_getElem? (i := 1732) (by decide +kernel)) (by decide +kernel), tb (List.mem_of_getElem? (i := 1733) (by decide +kernel)) (by decide +kernel)⟩
theorem vk_L_105 : vOK RL 105 yX10_table := ⟨tb (List.mem_of_getElem? (i := 1834) (by decide +kernel)) (by decide +kernel), tb (List.mem_of_getElem? (i := 1835) (by decide +kernel)) (by decide +kernel), tb (List.mem_of_getElem? (i := 1836) (by decide +kernel)) (by decide +kernel)⟩
theorem vk_L_109 : vOK RL 109 yX10_column := ⟨tb (List.mem_of_getElem? (i := 1854) (by decide +kernel)) (by decide +kernel), tb (List.mem_of_getElem? (i := 1855) (by decide +kernel)) (by decide +kernel), tb (List.mem_of_getElem? (i := 1856) (by decide +kernel)) (by decide +kernel)⟩
theorem vk_L_112 : vOK RL 112 yX10_cell := ⟨tb (List.mem_of_getElem? (i := 1862) (by decide +kernel)) (by decide +kernel), tb (List.mem_of_getElem? (i := 1863) (by decide +kernel)) (by decide +kernel), tb (List.mem_of_getElem? (i := 1864) (by decide +kernel)) (by decide +kernel)⟩
theorem vk_L_115 : vOK RL 115 yX10_whose := ⟨tb (List.mem_of_getElem? (i := 1870) (by decide +kernel)) (by decide +kernel), tb (List.mem_of_getElem? (i := 1871) (by decide +kernel)) (by decide +kernel), tb (List.mem_of_getElem? (i := 1872) (by decide +kernel)) (by decide +kernel)⟩
theorem vk_L_118 : vOK RL 118 yX10_conflict := ⟨tb (List.mem_of_getElem? (i := 1874) (by decide +kernel)) (by decide +kernel), tb (List.mem_of_getElem? (i := 1875) (by decide +kernel)) (by decide +kernel), tb (List.mem_of_getElem? (i := 1876) (by decide +kernel)) (by decide +kernel)⟩
theorem vk_L_122 : vOK RL 122 yX10_set := ⟨tb (List.mem_of_getElem? (i := 1687) (by decide +kernel)) (by decide +kernel), tb (List.mem_of_getElem? (i := 1688) (by decide +kernel)) (by decide +kernel), tb (List.mem_of_getElem? (i := 1689) (by decide +kernel)) (by decide +kernel)⟩
theorem vk_L_125 : vOK RL 125 yX10_insert := ⟨tb (List.mem_of_getElem? (i := 1707) (by decide +kernel)) (by decide +kernel), tb (List.mem_of_getElem? (i := 1708) (by decide +kernel)) (by decide +kernel), tb (List.mem_of_getElem? (i := 1709) (by decide +kernel)) (by decide +kernel)⟩
theorem vk_L_128 : vOK RL 128 yX10_delete := ⟨tb (List.mem_of_getElem? (i := 1711) (by decide +kernel)) (by decide +kernel), tb (List.mem_of_getElem? (i := 1712) (by decide +kernel)) (by decide +kernel), tb (List.mem_of_getElem? (i := 1713) (by decide +kernel)) (by decide +kernel)⟩
theorem vk_L_131 : vOK RL 131 yX10_rename := ⟨tb (List.mem_of_getElem? (i := 1715) (by decide +kernel)) (by decide +kernel), tb (List.mem_of_getElem? (i := 1716) (by decide +kernel)) (by decide +kernel), tb (List.mem_of_getElem? (i := 1717) (by decide +kernel)) (by decide +kernel)⟩
theorem vk_L_134 : vOK RL 134 yX10_retype := ⟨tb (List.mem_of_getElem? (i := 1719) (by decide +kernel)) (by decide +kernel), tb (List.mem_of_getElem? (i := 1720) (by decide +kernel)) (by decide +kernel), tb (List.mem_of_getElem? (i := 1721) (by decide +kernel)) (by decide +kernel)⟩
theorem vk_L_137 : vOK RL 137 yX10_add := ⟨tb (List.mem_of_getElem? (i := 1723) (by decide +kernel)) (by decide +kernel), tb (List.mem_of_getElem? (i := 1724) (by decide +kernel)) (by decide +kernel), tb (List.mem_of_getElem? (i := 1725) (by decide +kernel)) (by decide +kernel)⟩
theorem vk_L_140 : vOK RL 140 yX10_drop := ⟨tb (List.mem_of_getElem? (i := 1727) (by decide +kernel)) (by decide +kernel), tb (List.mem_of_getElem? (i := 1728) (by decide +kernel)) (by decide +kernel), tb (List.mem_of_getElem? (i := 1729) (by decide +kernel)) (by decide +kernel)⟩
theorem vk_L_141 : vOK RL 141 yX9_settle := ⟨tb (List.mem_of_getElem? (i := 485) (by decide +kernel)) (by decide +kernel), tb (List.mem_of_getElem? (i := 486) (by decide +kernel)) (by decide +kernel), tb (List.mem_of_getElem? (i := 487) (by decide +kernel)) (by decide +kernel)⟩
theorem vk_L_145 : vOK RL 145 yX10_settle := ⟨tb (List.mem_of_getElem? (i := 1881) (by decide +kernel)) (by decide +kernel), tb (List.mem_of_getElem? (i := 1882) (by decide +kernel)) (by decide +kernel), tb (List.mem_of_getElem? (i := 1883) (by decide +kernel)) (by decide +kernel)⟩
theorem vk_L_146 : vOK RL 146 yX9_unsettle := ⟨tb (List.mem_of_getElem? (i := 706) (by decide +kernel)) (by decide +kernel), tb (List.mem_of_getElem? (i := 707) (by decide +kernel)) (by decide +kernel), tb (List.mem_of_getElem? (i := 708) (by decide +kernel)) (by decide +kernel)⟩
theorem vk_L_149 : vOK RL 149 yX10_unsettle := ⟨tb (List.mem_of_getElem? (i := 1889) (by decide +kernel)) (by decide +kernel), tb (List.mem_of_getElem? (i := 1890) (by decide +kernel)) (by decide +kernel), tb (List.mem_of_getElem? (i := 1891) (by decide +kernel)) (by decide +kernel)⟩
theorem vk_L_150 : vOK RL 150 yX9_flip := ⟨tb (List.mem_of_getElem? (i := 710) (by decide +kernel)) (by decide +kernel), tb (List.mem_of_getElem? (i := 711) (by decide +kernel)) (by decide +kernel), tb (List.mem_of_getElem? (i := 712) (by decide +kernel)) (by decide +kernel)⟩
theorem vk_L_153 : vOK RL 153 yX10_flip := ⟨tb (List.mem_of_getElem? (i := 1893) (by decide +kernel)) (by decide +kernel), tb (List.mem_of_getElem? (i := 1894) (by decide +kernel)) (by decide +kernel), tb (List.mem_of_getElem? (i := 1895) (by decide +kernel)) (by decide +kernel)⟩
theorem vk_L_154 : vOK RL 154 yX9_commit := ⟨tb (List.mem_of_getElem? (i := 736) (by decide +kernel)) (by decide +kernel), tb (List.mem_of_getElem? (i := 737) (by decide +kernel)) (by decide +kernel), tb (List.mem_of_getElem? (i := 738) (by decide +kernel)) (by decide +kernel)⟩
theorem vk_L_157 : vOK RL 157 yX10_commit := ⟨tb (List.mem_of_getElem? (i := 1908) (by decide +kernel)) (by decide +kernel), tb (List.mem_of_getElem? (i := 1909) (by decide +kernel)) (by decide +kernel), tb (List.mem_of_getElem? (i := 1910) (by decide +kernel)) (by decide +kernel)⟩
theorem vk_L_158 : vOK RL 158 yX9_undo := ⟨tb (List.mem_of_getElem? (i := 770) (by decide +kernel)) (by decide +kernel), tb (List.mem_of_getElem? (i := 771) (by decide +kernel)) (by decide +kernel), tb (List.mem_of_getElem? (i := 772) (by decide +kernel)) (by decide +kernel)⟩
theorem vk_L_161 : vOK RL 161 yX10_undo := ⟨tb (List.mem_of_getElem? (i := 1683) (by decide +kernel)) (by decide +kernel), tb (List.mem_of_getElem? (i := 1684) (by decide +kernel)) (by decide +kernel), tb (List.mem_of_getElem? (i := 1685) (by decide +kernel)) (by decide +kernel)⟩
theorem vk_L_164 : vOK RL 164 yX10_difference := ⟨tb (List.mem_of_getElem? (i := 1920) (by decide +kernel)) (by decide +kernel), tb (List.mem_of_getElem? (i := 1921) (by decide +kernel)) (by decide +kernel), tb (List.mem_of_getElem? (i := 1922) (by decide +kernel)) (by decide +kernel)⟩
theorem vk_L_167 : vOK RL 167 yX10_along := ⟨tb (List.mem_of_getElem? (i := 1936) (by decide +kernel)) (by decide +kernel), tb (List.mem_of_getElem? (i := 1937) (by decide +kernel)) (by decide +kernel), tb (List.mem_of_getElem? (i := 1938) (by decide +kernel)) (by decide +kernel)⟩
theorem vk_L_170 : vOK RL 170 yX10_alone := ⟨tb (List.mem_of_getElem? (i := 1943) (by decide +kernel)) (by decide +kernel), tb (List.mem_of_getElem? (i := 1944) (by decide +kernel)) (by decide +kernel), tb (List.mem_of_getElem? (i := 1945) (by decide +kernel)) (by decide +kernel)⟩
theorem vk_L_171 : vOK RL 171 yX9_see := ⟨tb (List.mem_of_getElem? (i := 778) (by decide +kernel)) (by decide +kernel), tb (List.mem_of_getElem? (i := 779) (by decide +kernel)) (by decide +kernel), tb (List.mem_of_getElem? (i := 780) (by decide +kernel)) (by decide +kernel)⟩
theorem vk_L_174 : vOK RL 174 yX10_see := ⟨tb (List.mem_of_getElem? (i := 1951) (by decide +kernel)) (by decide +kernel), tb (List.mem_of_getElem? (i := 1952) (by decide +kernel)) (by decide +kernel), tb (List.mem_of_getElem? (i := 1953) (by decide +kernel)) (by decide +kernel)⟩
theorem vk_L_175 : vOK RL 175 yX9_forget := ⟨tb (List.mem_of_getElem? (i := 789) (by decide +kernel)) (by decide +kernel), tb (List.mem_of_getElem? (i := 790) (by decide +kernel)) (by decide +kernel), tb (List.mem_of_getElem? (i := 791) (by decide +kernel)) (by decide +kernel)⟩
theorem vk_L_178 : vOK RL 178 yX10_forget := ⟨tb (List.mem_of_getElem? (i := 1955) (by decide +kernel)) (by decide +kernel), tb (List.mem_of_getElem? (i := 1956) (by decide +kernel)) (by decide +kernel), tb (List.mem_of_getElem? (i := 1957) (by decide +kernel)) (by decide +kernel)⟩
theorem vk_L_181 : vOK RL 181 yX10_edited := ⟨tb (List.mem_of_getElem? (i := 1959) (by decide +kernel)) (by decide +kernel), tb (List.mem_of_getElem? (i := 1960) (by decide +kernel)) (by decide +kernel), tb (List.mem_of_getElem? (i := 1961) (by decide +kernel)) (by decide +kernel)⟩
theorem vk_L_184 : vOK RL 184 yX10_years := ⟨tb (List.mem_of_getElem? (i := 1967) (by decide +kernel)) (by decide +kernel), tb (List.mem_of_getElem? (i := 1968) (by decide +kernel)) (by decide +kernel), tb (List.mem_of_getElem? (i := 1969) (by decide +kernel)) (by decide +kernel)⟩
theorem vk_L_185 : vOK RL 185 yX9_image := ⟨tb (List.mem_of_getElem? (i := 797) (by decide +kernel)) (by decide +kernel), tb (List.mem_of_getElem? (i := 798) (by decide +kernel)) (by decide +kernel), tb (List.mem_of_getElem? (i := 799) (by decide +kernel)) (by decide +kernel)⟩
theorem vk_L_188 : vOK RL 188 yX10_image := ⟨tb (List.mem_of_getElem? (i := 1980) (by decide +kernel)) (by decide +kernel), tb (List.mem_of_getElem? (i := 1981) (by decide +kernel)) (by decide +kernel), tb (List.mem_of_getElem? (i := 1982) (by decide +kernel)) (by decide +kernel)⟩
theorem vk_L_189 : vOK RL 189 yX9_restore := ⟨tb (List.mem_of_getElem? (i := 811) (by decide +kernel)) (by decide +kernel), tb (List.mem_of_getElem? (i := 812) (by decide +kernel)) (by decide +kernel), tb (List.mem_of_getElem? (i := 813) (by decide +kernel)) (by decide +kernel)⟩
theorem vk_L_193 : vOK RL 193 yX10_restore := ⟨tb (List.mem_of_getElem? (i := 1988) (by decide +kernel)) (by decide +kernel), tb (List.mem_of_getElem? (i := 1989) (by decide +kernel)) (by decide +kernel), tb (List.mem_of_getElem? (i := 1990) (by decide +kernel)) (by decide +kernel)⟩
theorem vk_L_80 : vOK RL 80 yX9_feed := ⟨tb (List.mem_of_getElem? (i := 468) (by decide +kernel)) (by decide +kernel), tb (List.mem_of_getElem? (i := 469) (by decide +kernel)) (by decide +kernel), tb (List.mem_of_getElem? (i := 470) (by decide +kernel)) (by decide +kernel)⟩
theorem vk_L_84 : vOK RL 84 yX10_feed := ⟨tb (List.mem_of_getElem? (i := 1507) (by decide +kernel)) (by decide +kernel), tb (List.mem_of_getElem? (i := 1508) (by decide +kernel)) (by decide +kernel), tb (List.mem_of_getElem? (i := 1509) (by decide +kernel)) (by decide +kernel)⟩
theorem vk_L_90 : vOK RL 90 yX10_tables := ⟨tb (List.mem_of_getElem? (i := 1515) (by decide +kernel)) (by decide +kernel), tb (List.mem_of_getElem? (i := 1516) (by decide +kernel)) (by decide +kernel), tb (List.mem_of_getElem? (i := 1517) (by decide +kernel)) (by decide +kernel)⟩
theorem vk_L_91 : vOK RL 91 yX10_thrown := ⟨tb (List.mem_of_getElem? (i := 1503) (by decide +kernel)) (by decide +kernel), tb (List.mem_of_getElem? (i := 1504) (by decide +kernel)) (by decide +kernel), tb (List.mem_of_getElem? (i := 1505) (by decide +kernel)) (by decide +kernel)⟩
theorem vk_L_95 : vOK RL 95 yX9_fault := ⟨tb (List.mem_of_getElem? (i := 481) (by decide +kernel)) (by decide +kernel), tb (List.mem_of_getElem? (i := 482) (by decide +kernel)) (by decide +kernel), tb (List.mem_of_getElem? (i := 483) (by decide +kernel)) (by decide +kernel)⟩
theorem vk_L_98 : vOK RL 98 yX10_fault := ⟨tb (List.mem_of_getElem? (i := 1679) (by decide +kernel)) (by decide +kernel), tb (List.mem_of_getElem? (i := 1680) (by decide +kernel)) (by decide +kernel), tb (List.mem_of_getElem? (i := 1681) (by decide +kernel)) (by decide +kernel)⟩
def f_L_law_0 (K D : Nat) (σ : Sh) (X : Mx) (z : Nat) : Option (Hr (Nat × Nat × Nat)) := nwO σ X z 7 fun σ1 X2 => bndH (f_X9_init σ1 X2 (z + 1) z) fun u3 σ3 X3 c3 d3 => nwO σ3 X3 ((z + 1) + c3) 8 fun σ4 X5 => bndH (f_X10_init σ4 X5 (((z + 1) + c3) + 1) ((z + 1) + c3)) fun u6 σ6 X6 c6 d6 => nwA σ6 X6 ((((z + 1) + c3) + 1) + c6) 12 1 fun σ7 X8 => some ((z, ((z + 1) + c3), ((((z + 1) + c3) + 1) + c6)), σ7, X8, K, D)
def f_L_law_1307 (L : Nat) (xs : Nat → Int32) (x0 : Nat) (a1 : Nat) (a2 : Nat) (a3 : Nat) (x4 : Int32) (σ : Sh) (X : Mx) (y0 : Int64) (y1 : Int64) : Option (Hr Unit) := (if (lg_cmp y0 y1) = 0 then some ((), σ, X, 0, 0) else none)
def f_L_law_1152 (L : Nat) (xs : Nat → Int32) (x0 : Nat) (a1 : Nat) (a2 : Nat) (a3 : Nat) (x4 : Int32) (σ : Sh) (X : Mx) (y0 : Int64) (y1 : Int64) : Option (Hr Unit) := (if (lg_cmp y0 y1) = 0 then some ((), σ, X, 0, 0) else none)
def f_L_law_1065 (L : Nat) (xs : Nat → Int32) (x0 : Nat) (a1 : Nat) (a2 : Nat) (a3 : Nat) (x4 : Int32) (σ : Sh) (X : Mx) (y0 : Int64) (y1 : Int64) : Option (Hr Unit) := (if (lg_cmp y0 y1) = 0 then some ((), σ, X, 0, 0) else none)
def f_L_law_978 (L : Nat) (xs : Nat → Int32) (x0 : Nat) (a1 : Nat) (a2 : Nat) (a3 : Nat) (x4 : Int32) (σ : Sh) (X : Mx) (y0 : Int64) (y1 : Int64) : Option (Hr Unit) := (if (lg_cmp y0 y1) = 0 then some ((), σ, X, 0, 0) else none)
def f_L_law_903 (L : Nat) (xs : Nat → Int32) (x0 : Nat) (a1 : Nat) (a2 : Nat) (a3 : Nat) (x4 : Int32) (σ : Sh) (X : Mx) (y0 : Int64) (y1 : Int64) : Option (Hr Unit) := (if (lg_cmp y0 y1) = 0 then some ((), σ, X, 0, 0) else none)
def f_L_law_828 (L : Nat) (xs : Nat → Int32) (x0 : Nat) (a1 : Nat) (a2 : Nat) (a3 : Nat) (x4 : Int32) (σ : Sh) (X : Mx) (y0 : Int64) (y1 : Int64) : Option (Hr Unit) := (if (lg_cmp y0 y1) = 0 then some ((), σ, X, 0, 0) else none)
def f_L_law_33 (L : Nat) (xs : Nat → Int32) (x0 : Nat) (a1 : Nat) (a2 : Nat) (a3 : Nat) (x4 : Int32) (σ : Sh) (X : Mx) (z : Nat) : Option (Hr Unit) := ldS L xs x4 fun v1 => (if (v1 &&& 31) = 0 then ldS L xs (x4 + 1) fun v2 => ldS L xs (x4 + 2) fun v3 => ldS L xs (x4 + 3) fun v4 => ldS L xs (x4 + 4) fun v5 => ldS L xs (x4 + 5) fun v6 => bnd2 (f_X9_feed σ X a1 v2 v3 v4 v5 v6) fun v9 X8 => ldS L xs (x4 + 1) fun v10 => ldS L xs (x4 + 2) fun v11 => ldS L xs (x4 + 3) fun v12 => ldS L xs (x4 + 4) fun v13 => ldS L xs (x4 + 5) fun v14 => bnd2 (f_X10_feed σ X8 a2 v10 v11 v12 v13 v14) fun v17 X16 => (if v9 = v17 then some ((), σ, X16, 0, 0) else none) else (if (v1 &&& 31) = 1 then ldS L xs (x4 + 1) fun v18 => bndH (f_L_tables σ X z a1 v18 a3) fun v19 σ19 X19 c19 d19 => ldS L xs (x4 + 1) fun v20 => bnd2 (f_X10_tables σ19 X19 a2 v20) fun v23 X22 => (f_X10_thrown σ19 X22 a2).bind fun v25 => (if v25 = v19 then (if v19 = 0 then ldL σ19 X22 a3 0 fun v26 => (if (lg_cmp v26 (Int32.toInt64 v23)) = 0 then some ((), σ19, X22, 0, 0) else none) else some ((), σ19, X22, 0, 0)) else none) else (if (v1 &&& 31) = 2 then (f_X9_fault σ X a1).bind fun v28 => bnd2 (f_X10_fault σ X a2) fun v31 X30 => (if v28 = v31 then some ((), σ, X30, 0, 0) else none) else (if (v1 &&& 31) = 3 then ldS L xs (x4 + 1) fun v32 => bndH (f_L_count σ X z a1 v32 a3) fun v33 σ33 X33 c33 d33 => ldS L xs (x4 + 1) fun v34 => bnd2 (f_X10_count σ33 X33 a2 v34) fun v37 X36 => (f_X10_thrown σ33 X36 a2).bind fun v39 => (if v39 = v33 then (if v33 = 0 then ldL σ33 X36 a3 0 fun v40 => (if (lg_cmp v40 (Int32.toInt64 v37)) = 0 then some ((), σ33, X36, 0, 0) else none) else some ((), σ33, X36, 0, 0)) else none) else (if (v1 &&& 31) = 4 then ldS L xs (x4 + 1) fun v41 => ldS L xs (x4 + 2) fun v42 => bndH (f_L_table σ X z a1 v41 v42 a3) fun v43 σ43 X43 c43 d43 => ldS L xs (x4 + 1) fun v44 => ldS L xs (x4 + 2) fun v45 => bnd2 (f_X10_table σ43 X43 a2 v44 v45) fun v48 X47 => (f_X10_thrown σ43 X47 a2).bind fun v50 => (if v50 = v43 then (if v43 = 0 then ldL σ43 X47 a3 0 fun v51 => (if (lg_cmp v51 (Int32.toInt64 v48)) = 0 then some ((), σ43, X47, 0, 0) else none) else some ((), σ43, X47, 0, 0)) else none) else (if (v1 &&& 31) = 5 then ldS L xs (x4 + 1) fun v52 => ldS L xs (x4 + 2) fun v53 => ldS L xs (x4 + 3) fun v54 => bndH (f_L_column σ X z a1 v52 v53 v54 a3) fun v55 σ55 X55 c55 d55 => ldS L xs (x4 + 1) fun v56 => ldS L xs (x4 + 2) fun v57 => ldS L xs (x4 + 3) fun v58 => bnd2 (f_X10_column σ55 X55 a2 v56 v57 v58) fun v61 X60 => (f_X10_thrown σ55 X60 a2).bind fun v63 => (if v63 = v55 then (if v55 = 0 then ldL σ55 X60 a3 0 fun v64 => (if (lg_cmp v64 (Int32.toInt64 v61)) = 0 then some ((), σ55, X60, 0, 0) else none) else some ((), σ55, X60, 0, 0)) else none) else (if (v1 &&& 31) = 6 then ldS L xs (x4 + 1) fun v65 => ldS L xs (x4 + 2) fun v66 => ldS L xs (x4 + 3) fun v67 => bndH (f_L_cell σ X z a1 v65 v66 v67 a3) fun v68 σ68 X68 c68 d68 => ldS L xs (x4 + 1) fun v69 => ldS L xs (x4 + 2) fun v70 => ldS L xs (x4 + 3) fun v71 => bnd2 (f_X10_cell σ68 X68 a2 v69 v70 v71) fun v74 X73 => (f_X10_thrown σ68 X73 a2).bind fun v76 => (if v76 = v68 then (if v68 = 0 then ldL σ68 X73 a3 0 fun v77 => (if (lg_cmp v77 (Int32.toInt64 v74)) = 0 then some ((), σ68, X73, 0, 0) else none) else some ((), σ68, X73, 0, 0)) else none) else (if (v1 &&& 31) = 7 then ldS L xs (x4 + 1) fun v78 => ldS L xs (x4 + 2) fun v79 => bndH (f_L_whose σ X z a1 v78 v79 a3) fun v80 σ80 X80 c80 d80 => ldS L xs (x4 + 1) fun v81 => ldS L xs (x4 + 2) fun v82 => bnd2 (f_X10_whose σ80 X80 a2 v81 v82) fun v85 X84 => (f_X10_thrown σ80 X84 a2).bind fun v87 => (if v87 = v80 then (if v80 = 0 then ldL σ80 X84 a3 0 fun v88 => (if (lg_cmp v88 (Int32.toInt64 v85)) = 0 then some ((), σ80, X84, 0, 0) else none) else some ((), σ80, X84, 0, 0)) else none) else (if (v1 &&& 31) = 8 then ldS L xs (x4 + 1) fun v89 => ldS L xs (x4 + 2) fun v90 => bndH (f_L_conflict σ X z a1 v89 v90 a3) fun v91 σ91 X91 c91 d91 => ldS L xs (x4 + 1) fun v92 => ldS L xs (x4 + 2) fun v93 => bnd2 (f_X10_conflict σ91 X91 a2 v92 v93) fun v96 X95 => (f_X10_thrown σ91 X95 a2).bind fun v98 => (if v98 = v91 then (if v91 = 0 then ldL σ91 X95 a3 0 fun v99 => (if (lg_cmp v99 (Int32.toInt64 v96)) = 0 then some ((), σ91, X95, 0, 0) else none) else some ((), σ91, X95, 0, 0)) else none) else (if (v1 &&& 31) = 9 then ldS L xs (x4 + 1) fun v100 => ldS L xs (x4 + 2) fun v101 => ldS L xs (x4 + 3) fun v102 => ldS L xs (x4 + 4) fun v103 => bndH (f_L_set σ X z a1 v100 v101 v102 v103 a3) fun v104 σ104 X104 c104 d104 => ldS L xs (x4 + 1) fun v105 => ldS L xs (x4 + 2) fun v106 => ldS L xs (x4 + 3) fun v107 => ldS L xs (x4 + 4) fun v108 => bnd2 (f_X10_set σ104 X104 a2 v105 v106 v107 v108) fun v111 X110 => (f_X10_thrown σ104 X110 a2).bind fun v113 => (if v113 = v104 then (if v104 = 0 then ldL σ104 X110 a3 0 fun v114 => (if v111 = 0 then f_L_law_828 L xs x0 a1 a2 a3 x4 (σ104) X110 v114 0 else f_L_law_828 L xs x0 a1 a2 a3 x4 (σ104) X110 v114 1) else some ((), σ104, X110, 0, 0)) else none) else (if (v1 &&& 31) = 10 then ldS L xs (x4 + 1) fun v115 => ldS L xs (x4 + 2) fun v116 => bndH (f_L_insert σ X z a1 v115 v116 a3) fun v117 σ117 X117 c117 d117 => ldS L xs (x4 + 1) fun v118 => ldS L xs (x4 + 2) fun v119 => bnd2 (f_X10_insert σ117 X117 a2 v118 v119) fun v122 X121 => (f_X10_thrown σ117 X121 a2).bind fun v124 => (if v124 = v117 then (if v117 = 0 then ldL σ117 X121 a3 0 fun v125 => (if v122 = 0 then f_L_law_903 L xs x0 a1 a2 a3 x4 (σ117) X121 v125 0 else f_L_law_903 L xs x0 a1 a2 a3 x4 (σ117) X121 v125 1) else some ((), σ117, X121, 0, 0)) else none) else (if (v1 &&& 31) = 11 then ldS L xs (x4 + 1) fun v126 => ldS L xs (x4 + 2) fun v127 => bndH (f_L_delete σ X z a1 v126 v127 a3) fun v128 σ128 X128 c128 d128 => ldS L xs (x4 + 1) fun v129 => ldS L xs (x4 + 2) fun v130 => bnd2 (f_X10_delete σ128 X128 a2 v129 v130) fun v133 X132 => (f_X10_thrown σ128 X132 a2).bind fun v135 => (if v135 = v128 then (if v128 = 0 then ldL σ128 X132 a3 0 fun v136 => (if v133 = 0 then f_L_law_978 L xs x0 a1 a2 a3 x4 (σ128) X132 v136 0 else f_L_law_978 L xs x0 a1 a2 a3 x4 (σ128) X132 v136 1) else some ((), σ128, X132, 0, 0)) else none) else (if (v1 &&& 31) = 12 then ldS L xs (x4 + 1) fun v137 => ldS L xs (x4 + 2) fun v138 => ldS L xs (x4 + 3) fun v139 => bndH (f_L_rename σ X z a1 v137 v138 v139 a3) fun v140 σ140 X140 c140 d140 => ldS L xs (x4 + 1) fun v141 => ldS L xs (x4 + 2) fun v142 => ldS L xs (x4 + 3) fun v143 => bnd2 (f_X10_rename σ140 X140 a2 v141 v142 v143) fun v146 X145 => (f_X10_thrown σ140 X145 a2).bind fun v148 => (if v148 = v140 then (if v140 = 0 then ldL σ140 X145 a3 0 fun v149 => (if v146 = 0 then f_L_law_1065 L xs x0 a1 a2 a3 x4 (σ140) X145 v149 0 else f_L_law_1065 L xs x0 a1 a2 a3 x4 (σ140) X145 v149 1) else some ((), σ140, X145, 0, 0)) else none) else (if (v1 &&& 31) = 13 then ldS L xs (x4 + 1) fun v150 => ldS L xs (x4 + 2) fun v151 => ldS L xs (x4 + 3) fun v152 => bndH (f_L_retype σ X z a1 v150 v151 v152 a3) fun v153 σ153 X153 c153 d153 => ldS L xs (x4 + 1) fun v154 => ldS L xs (x4 + 2) fun v155 => ldS L xs (x4 + 3) fun v156 => bnd2 (f_X10_retype σ153 X153 a2 v154 v155 v156) fun v159 X158 => (f_X10_thrown σ153 X158 a2).bind fun v161 => (if v161 = v153 then (if v153 = 0 then ldL σ153 X158 a3 0 fun v162 => (if v159 = 0 then f_L_law_1152 L xs x0 a1 a2 a3 x4 (σ153) X158 v162 0 else f_L_law_1152 L xs x0 a1 a2 a3 x4 (σ153) X158 v162 1) else some ((), σ153, X158, 0, 0)) else none) else (if (v1 &&& 31) = 14 then ldS L xs (x4 + 1) fun v163 => ldS L xs (x4 + 2) fun v164 => ldS L xs (x4 + 3) fun v165 => bndH (f_L_add σ X z a1 v163 v164 v165 a3) fun v166 σ166 X166 c166 d166 => ldS L xs (x4 + 1) fun v167 => ldS L xs (x4 + 2) fun v168 => ldS L xs (x4 + 3) fun v169 => bnd2 (f_X10_add σ166 X166 a2 v167 v168 v169) fun v172 X171 => (f_X10_thrown σ166 X171 a2).bind fun v174 => (if v174 = v166 then (if v166 = 0 then ldL σ166 X171 a3 0 fun v175 => (if (lg_cmp v175 (Int32.toInt64 v172)) = 0 then some ((), σ166, X171, 0, 0) else none) else some ((), σ166, X171, 0, 0)) else none) else (if (v1 &&& 31) = 15 then ldS L xs (x4 + 1) fun v176 => ldS L xs (x4 + 2) fun v177 => bndH (f_L_drop σ X z a1 v176 v177 a3) fun v178 σ178 X178 c178 d178 => ldS L xs (x4 + 1) fun v179 => ldS L xs (x4 + 2) fun v180 => bnd2 (f_X10_drop σ178 X178 a2 v179 v180) fun v183 X182 => (f_X10_thrown σ178 X182 a2).bind fun v185 => (if v185 = v178 then (if v178 = 0 then ldL σ178 X182 a3 0 fun v186 => (if v183 = 0 then f_L_law_1307 L xs x0 a1 a2 a3 x4 (σ178) X182 v186 0 else f_L_law_1307 L xs x0 a1 a2 a3 x4 (σ178) X182 v186 1) else some ((), σ178, X182, 0, 0)) else none) else (if (v1 &&& 31) = 16 then ldS L xs (x4 + 1) fun v187 => ldS L xs (x4 + 2) fun v188 => ldS L xs (x4 + 3) fun v189 => ldS L xs (x4 + 4) fun v190 => bndH (f_X9_settle σ X z a1 v187 v188 v189 v190) fun v191 σ191 X191 c191 d191 => ldS L xs (x4 + 1) fun v192 => ldS L xs (x4 + 2) fun v193 => ldS L xs (x4 + 3) fun v194 => ldS L xs (x4 + 4) fun v195 => bnd2 (f_X10_settle σ191 X191 a2 v192 v193 v194 v195) fun v198 X197 => (if v191 = v198 then some ((), σ191, X197, 0, 0) else none) else (if (v1 &&& 31) = 17 then ldS L xs (x4 + 1) fun v199 => ldS L xs (x4 + 2) fun v200 => ldS L xs (x4 + 3) fun v201 => bndH (f_X9_unsettle σ X z a1 v199 v200 v201) fun v202 σ202 X202 c202 d202 => ldS L xs (x4 + 1) fun v203 => ldS L xs (x4 + 2) fun v204 => ldS L xs (x4 + 3) fun v205 => bnd2 (f_X10_unsettle σ202 X202 a2 v203 v204 v205) fun v208 X207 => (if v202 = v208 then some ((), σ202, X207, 0, 0) else none) else (if (v1 &&& 31) = 18 then bndH (f_X9_flip σ X z a1) fun u209 σ209 X209 c209 d209 => (f_X10_flip σ209 X209 a2).bind fun X211 => some ((), σ209, X211, 0, 0) else (if (v1 &&& 31) = 19 then bndH (f_X9_commit σ X z a1) fun v212 σ212 X212 c212 d212 => bnd2 (f_X10_commit σ212 X212 a2) fun v215 X214 => (if v212 = v215 then some ((), σ212, X214, 0, 0) else none) else (if (v1 &&& 31) = 20 then bndH (f_X9_undo σ X z a1) fun v216 σ216 X216 c216 d216 => bnd2 (f_X10_undo σ216 X216 a2) fun v219 X218 => (if v216 = v219 then some ((), σ216, X218, 0, 0) else none) else (if (v1 &&& 31) = 21 then ldS L xs (x4 + 1) fun v220 => ldS L xs (x4 + 2) fun v221 => bndH (f_L_difference σ X z a1 v220 v221 a3) fun v222 σ222 X222 c222 d222 => ldS L xs (x4 + 1) fun v223 => ldS L xs (x4 + 2) fun v224 => bnd2 (f_X10_difference σ222 X222 a2 v223 v224) fun v227 X226 => (f_X10_thrown σ222 X226 a2).bind fun v229 => (if v229 = v222 then (if v222 = 0 then ldL σ222 X226 a3 0 fun v230 => (if (lg_cmp v230 (Int32.toInt64 v227)) = 0 then some ((), σ222, X226, 0, 0) else none) else some ((), σ222, X226, 0, 0)) else none) else (if (v1 &&& 31) = 22 then ldS L xs (x4 + 1) fun v231 => ldS L xs (x4 + 2) fun v232 => bndH (f_L_along σ X z a1 v231 v232 a3) fun v233 σ233 X233 c233 d233 => ldS L xs (x4 + 1) fun v234 => ldS L xs (x4 + 2) fun v235 => bnd2 (f_X10_along σ233 X233 a2 v234 v235) fun v238 X237 => (f_X10_thrown σ233 X237 a2).bind fun v240 => (if v240 = v233 then (if v233 = 0 then ldL σ233 X237 a3 0 fun v241 => (if (lg_cmp v241 (Int32.toInt64 v238)) = 0 then some ((), σ233, X237, 0, 0) else none) else some ((), σ233, X237, 0, 0)) else none) else (if (v1 &&& 31) = 23 then ldS L xs (x4 + 1) fun v242 => ldS L xs (x4 + 2) fun v243 => bndH (f_L_alone σ X z a1 v242 v243 a3) fun v244 σ244 X244 c244 d244 => ldS L xs (x4 + 1) fun v245 => ldS L xs (x4 + 2) fun v246 => bnd2 (f_X10_alone σ244 X244 a2 v245 v246) fun v249 X248 => (f_X10_thrown σ244 X248 a2).bind fun v251 => (if v251 = v244 then (if v244 = 0 then ldL σ244 X248 a3 0 fun v252 => (if (lg_cmp v252 (Int32.toInt64 v249)) = 0 then some ((), σ244, X248, 0, 0) else none) else some ((), σ244, X248, 0, 0)) else none) else (if (v1 &&& 31) = 24 then ldS L xs (x4 + 1) fun v253 => ldS L xs (x4 + 2) fun v254 => ldS L xs (x4 + 3) fun v255 => bnd2 (f_X9_see σ X a1 v253 v254 v255) fun v258 X257 => ldS L xs (x4 + 1) fun v259 => ldS L xs (x4 + 2) fun v260 => ldS L xs (x4 + 3) fun v261 => bnd2 (f_X10_see σ X257 a2 v259 v260 v261) fun v264 X263 => (if v258 = v264 then some ((), σ, X263, 0, 0) else none) else (if (v1 &&& 31) = 25 then (f_X9_forget σ X a1).bind fun X266 => (f_X10_forget σ X266 a2).bind fun X268 => some ((), σ, X268, 0, 0) else (if (v1 &&& 31) = 26 then ldS L xs (x4 + 1) fun v269 => bndH (f_L_edited σ X z a1 v269 a3) fun v270 σ270 X270 c270 d270 => ldS L xs (x4 + 1) fun v271 => bnd2 (f_X10_edited σ270 X270 a2 v271) fun v274 X273 => (f_X10_thrown σ270 X273 a2).bind fun v276 => (if v276 = v270 then (if v270 = 0 then ldL σ270 X273 a3 0 fun v277 => (if (lg_cmp v277 (Int32.toInt64 v274)) = 0 then some ((), σ270, X273, 0, 0) else none) else some ((), σ270, X273, 0, 0)) else none) else (if (v1 &&& 31) = 27 then ldS L xs (x4 + 1) fun v278 => ldS L xs (x4 + 2) fun v279 => ldS L xs (x4 + 3) fun v280 => bndH (f_L_years σ X z a1 v278 v279 v280 a3) fun v281 σ281 X281 c281 d281 => ldS L xs (x4 + 1) fun v282 => ldS L xs (x4 + 2) fun v283 => ldS L xs (x4 + 3) fun v284 => bnd2 (f_X10_years σ281 X281 a2 v282 v283 v284) fun v287 X286 => (f_X10_thrown σ281 X286 a2).bind fun v289 => (if v289 = v281 then (if v281 = 0 then ldL σ281 X286 a3 0 fun v290 => (if (lg_cmp v290 (Int32.toInt64 v287)) = 0 then some ((), σ281, X286, 0, 0) else none) else some ((), σ281, X286, 0, 0)) else none) else (if (v1 &&& 31) = 28 then bndH (f_X9_image σ X z a1) fun u291 σ291 X291 c291 d291 => (f_X10_image σ291 X291 a2).bind fun X293 => some ((), σ291, X293, 0, 0) else (if (v1 &&& 31) = 29 then bndH (f_X9_restore σ X z a1) fun v294 σ294 X294 c294 d294 => bnd2 (f_X10_restore σ294 X294 a2) fun v297 X296 => (if v294 = v297 then some ((), σ294, X296, 0, 0) else none) else some ((), σ, X, 0, 0)))))))))))))))))))))))))))))))
section
variable {p : Program} {l : Launch} {e : Env} {s : State} {m : MethodId} {args : Array Value} {below : List Frame} {meth : Method} {c : Code} {g : Gp}
set_option maxRecDepth 20000 in
set_option maxHeartbeats 4000000 in
theorem b_L_law_0 {v0 : Nat × Nat × Nat} {σ0 : Sh} {X0 : Mx} {K D x0 : Nat} {Q : State → Prop} (C : Cx g RL cL_law 7 (some .boolean) p s m args meth c) (hk : ∀ {a1 a2 a3 : Nat} {σ : Sh} {X : Mx} {cu du cells slots : Nat} {H : Heap} {locs : List Loc} {ls : Array Slot}, Wd g σ X s H locs → (cells + cu = 601024 ∧ slots + du = 7293034) → lv_has ls 7 [(0, .ref x0), (1, .ref a1), (2, .ref a2), (3, .ref a3), (4, .int 0)] → some ((a1, a2, a3), σ, X, K, D) = some (v0, σ0, X0, cu, du) → W p l e (rmH 14 526 601024 7293034) s m args below meth c H locs cells slots Q (F0 m 23 ls [])) {σ : Sh} {X : Mx} {z cu du cells slots : Nat} {H : Heap} {locs : List Loc} {ls : Array Slot} (hW : Wd g σ X s H locs) (hz : z ≤ H.size) (hc : s.heap.size + cells = z) (hm : cells + cu = 601024 ∧ slots + du = 7293034) (hl : lv_has ls 7 [(0, .ref x0)]) (h : f_L_law_0 K D σ X z = some (v0, σ0, X0, cu, du)) : W p l e (rmH 14 526 601024 7293034) s m args below meth c H locs cells slots Q (F0 m 0 ls []) := by
  have hx := C.x
  have hb := C.b
  unfold f_L_law_0 at h
  refine r_new C hW hz hc hm h (by decide) nk_L_8 dL_law_0 (fun σ1 X2 H cells slots cu du h hW hz hc hm => ?_)
  refine lv_dup hx hb dL_law_3 rfl ?_
  obtain ⟨u3, σ3, X3, c3, d3, cu9, du9, h3, h, hcu, hdu⟩ := bndH_inv h
  refine c_HI_V (rest := [.ref z]) C hW hz hc hcu hdu hm (t_X9_init h3) mk_X9_init ik_L_76 rfl ⟨Nat.le_of_ble_eq_true rfl, Nat.le_of_ble_eq_true rfl⟩ rfl rfl (Nat.le_of_ble_eq_true rfl) hl.1 dL_law_4 (fun H locs cells slots hW hz hc hm => ?_)
  refine lv_astore_n (lv' := [(1, .ref z), (0, .ref x0)]) hx hb dL_law_7 rfl hl (by decide) rfl (fun ls hl => ?_)
  refine r_new C hW hz hc hm h (by decide) nk_L_77 dL_law_8 (fun σ4 X5 H cells slots cu du h hW hz hc hm => ?_)
  refine lv_dup hx hb dL_law_11 rfl ?_
  obtain ⟨u6, σ6, X6, c6, d6, cu9, du9, h6, h, hcu, hdu⟩ := bndH_inv h
  refine c_HI_V (rest := [.ref ((z + 1) + c3)]) C hW hz hc hcu hdu hm (t_X10_init h6) mk_X10_init ik_L_79 rfl ⟨Nat.le_of_ble_eq_true rfl, Nat.le_of_ble_eq_true rfl⟩ rfl rfl (Nat.le_of_ble_eq_true rfl) hl.1 dL_law_12 (fun H locs cells slots hW hz hc hm => ?_)
  refine lv_astore_n (lv' := [(2, .ref ((z + 1) + c3)), (1, .ref z), (0, .ref x0)]) hx hb dL_law_15 rfl hl (by decide) rfl (fun ls hl => ?_)
  refine lv_iconst (v := 1) hx hb dL_law_16 (by decide) ?_
  refine r_newaL C hW hz hc hm h ak_L dL_law_17 (fun σ7 X8 H cells slots cu du h hW hz hc hm => ?_)
  refine lv_astore_n (lv' := [(3, .ref ((((z + 1) + c3) + 1) + c6)), (2, .ref ((z + 1) + c3)), (1, .ref z), (0, .ref x0)]) hx hb dL_law_19 rfl hl (by decide) rfl (fun ls hl => ?_)
  refine lv_iconst (v := 0) hx hb dL_law_20 (by decide) ?_
  refine lv_istore (lv' := [(4, .int 0), (3, .ref ((((z + 1) + c3) + 1) + c6)), (2, .ref ((z + 1) + c3)), (1, .ref z), (0, .ref x0)]) hx hb dL_law_21 hl (by decide) rfl (fun ls hl => ?_)
  exact hk hW hm (lv_sub hl [4, 3, 2, 1, 0] rfl) h
set_option maxRecDepth 20000 in
set_option maxHeartbeats 4000000 in
theorem b_L_law_1307 {v0 : Unit} {σ0 : Sh} {X0 : Mx} {mc ms L : Nat} {xs : Nat → Int32} {x0 a1 a2 a3 : Nat} {x4 : Int32} {Q : State → Prop} (C : Cx g RL cL_law 7 (some .boolean) p s m args meth c) (hst : l.stackTraces = false) (hcap : mc ≤ 601024 ∧ ms ≤ 7293034) (hX : va_X x0 L xs s s.heap) (hbl : x0 < s.heap.size) (hbA : ¬ gA g x0) (hk : ∀ {σ : Sh} {X : Mx} {cu du cells slots : Nat} {H : Heap} {locs : List Loc} {ls : Array Slot}, Wd g σ X s H locs → (cells + cu = mc ∧ slots + du = ms) → lv_has ls 7 [(0, .ref x0), (1, .ref a1), (2, .ref a2), (3, .ref a3), (4, .int x4)] → some ((), σ, X, 0, 0) = some (v0, σ0, X0, cu, du) → W p l e room_1 s m args below meth c H locs cells slots Q (F0 m 1887 ls [])) {σ : Sh} {X : Mx} {cu du cells slots : Nat} {H : Heap} {locs : List Loc} {ls : Array Slot} {y0 : Int64} {y1 : Int64} (hW : Wd g σ X s H locs) (hm : cells + cu = mc ∧ slots + du = ms) (hl : lv_has ls 7 [(0, .ref x0), (1, .ref a1), (2, .ref a2), (3, .ref a3), (4, .int x4)]) (h : f_L_law_1307 L xs x0 a1 a2 a3 x4 σ X y0 y1 = some (v0, σ0, X0, cu, du)) : W p l e room_1 s m args below meth c H locs cells slots Q (F0 m 1307 ls [.long y1, .long y0]) := by
  have hx := C.x
  have hb := C.b
  unfold f_L_law_1307 at h
  refine W.lcmp hx hb dL_law_1307 ?_
  refine r_br h (lv_if_eq (tgt := 1313) hx hb dL_law_1308 (by decide)) (fun h => ?_) (fun h => ?_)
  · refine lv_goto (tgt := 1887) hx hb dL_law_1313 (by decide) ?_
    exact hk hW hm (lv_sub hl [0, 1, 2, 3, 4] rfl) h
  · refine lv_iconst (v := 0) hx hb dL_law_1311 (by decide) ?_
    cases h
set_option maxRecDepth 20000 in
set_option maxHeartbeats 4000000 in
theorem b_L_law_1152 {v0 : Unit} {σ0 : Sh} {X0 : Mx} {mc ms L : Nat} {xs : Nat → Int32} {x0 a1 a2 a3 : Nat} {x4 : Int32} {Q : State → Prop} (C : Cx g RL cL_law 7 (some .boolean) p s m args meth c) (hst : l.stackTraces = false) (hcap : mc ≤ 601024 ∧ ms ≤ 7293034) (hX : va_X x0 L xs s s.heap) (hbl : x0 < s.heap.size) (hbA : ¬ gA g x0) (hk : ∀ {σ : Sh} {X : Mx} {cu du cells slots : Nat} {H : Heap} {locs : List Loc} {ls : Array Slot}, Wd g σ X s H locs → (cells + cu = mc ∧ slots + du = ms) → lv_has ls 7 [(0, .ref x0), (1, .ref a1), (2, .ref a2), (3, .ref a3), (4, .int x4)] → some ((), σ, X, 0, 0) = some (v0, σ0, X0, cu, du) → W p l e room_1 s m args below meth c H locs cells slots Q (F0 m 1887 ls [])) {σ : Sh} {X : Mx} {cu du cells slots : Nat} {H : Heap} {locs : List Loc} {ls : Array Slot} {y0 : Int64} {y1 : Int64} (hW : Wd g σ X s H locs) (hm : cells + cu = mc ∧ slots + du = ms) (hl : lv_has ls 7 [(0, .ref x0), (1, .ref a1), (2, .ref a2), (3, .ref a3), (4, .int x4)]) (h : f_L_law_1152 L xs x0 a1 a2 a3 x4 σ X y0 y1 = some (v0, σ0, X0, cu, du)) : W p l e room_1 s m args below meth c H locs cells slots Q (F0 m 1152 ls [.long y1, .long y0]) := by
  have hx := C.x
  have hb := C.b
  unfold f_L_law_1152 at h
  refine W.lcmp hx hb dL_law_1152 ?_
  refine r_br h (lv_if_eq (tgt := 1158) hx hb dL_law_1153 (by decide)) (fun h => ?_) (fun h => ?_)
  · refine lv_goto (tgt := 1887) hx hb dL_law_1158 (by decide) ?_
    exact hk hW hm (lv_sub hl [0, 1, 2, 3, 4] rfl) h
  · refine lv_iconst (v := 0) hx hb dL_law_1156 (by decide) ?_
    cases h
set_option maxRecDepth 20000 in
set_option maxHeartbeats 4000000 in
theorem b_L_law_1065 {v0 : Unit} {σ0 : Sh} {X0 : Mx} {mc ms L : Nat} {xs : Nat → Int32} {x0 a1 a2 a3 : Nat} {x4 : Int32} {Q : State → Prop} (C : Cx g RL cL_law 7 (some .boolean) p s m args meth c) (hst : l.stackTraces = false) (hcap : mc ≤ 601024 ∧ ms ≤ 7293034) (hX : va_X x0 L xs s s.heap) (hbl : x0 < s.heap.size) (hbA : ¬ gA g x0) (hk : ∀ {σ : Sh} {X : Mx} {cu du cells slots : Nat} {H : Heap} {locs : List Loc} {ls : Array Slot}, Wd g σ X s H locs → (cells + cu = mc ∧ slots + du = ms) → lv_has ls 7 [(0, .ref x0), (1, .ref a1), (2, .ref a2), (3, .ref a3), (4, .int x4)] → some ((), σ, X, 0, 0) = some (v0, σ0, X0, cu, du) → W p l e room_1 s m args below meth c H locs cells slots Q (F0 m 1887 ls [])) {σ : Sh} {X : Mx} {cu du cells slots : Nat} {H : Heap} {locs : List Loc} {ls : Array Slot} {y0 : Int64} {y1 : Int64} (hW : Wd g σ X s H locs) (hm : cells + cu = mc ∧ slots + du = ms) (hl : lv_has ls 7 [(0, .ref x0), (1, .ref a1), (2, .ref a2), (3, .ref a3), (4, .int x4)]) (h : f_L_law_1065 L xs x0 a1 a2 a3 x4 σ X y0 y1 = some (v0, σ0, X0, cu, du)) : W p l e room_1 s m args below meth c H locs cells slots Q (F0 m 1065 ls [.long y1, .long y0]) := by
  have hx := C.x
  have hb := C.b
  unfold f_L_law_1065 at h
  refine W.lcmp hx hb dL_law_1065 ?_
  refine r_br h (lv_if_eq (tgt := 1071) hx hb dL_law_1066 (by decide)) (fun h => ?_) (fun h => ?_)
  · refine lv_goto (tgt := 1887) hx hb dL_law_1071 (by decide) ?_
    exact hk hW hm (lv_sub hl [0, 1, 2, 3, 4] rfl) h
  · refine lv_iconst (v := 0) hx hb dL_law_1069 (by decide) ?_
    cases h
set_option maxRecDepth 20000 in
set_option maxHeartbeats 4000000 in
theorem b_L_law_978 {v0 : Unit} {σ0 : Sh} {X0 : Mx} {mc ms L : Nat} {xs : Nat → Int32} {x0 a1 a2 a3 : Nat} {x4 : Int32} {Q : State → Prop} (C : Cx g RL cL_law 7 (some .boolean) p s m args meth c) (hst : l.stackTraces = false) (hcap : mc ≤ 601024 ∧ ms ≤ 7293034) (hX : va_X x0 L xs s s.heap) (hbl : x0 < s.heap.size) (hbA : ¬ gA g x0) (hk : ∀ {σ : Sh} {X : Mx} {cu du cells slots : Nat} {H : Heap} {locs : List Loc} {ls : Array Slot}, Wd g σ X s H locs → (cells + cu = mc ∧ slots + du = ms) → lv_has ls 7 [(0, .ref x0), (1, .ref a1), (2, .ref a2), (3, .ref a3), (4, .int x4)] → some ((), σ, X, 0, 0) = some (v0, σ0, X0, cu, du) → W p l e room_1 s m args below meth c H locs cells slots Q (F0 m 1887 ls [])) {σ : Sh} {X : Mx} {cu du cells slots : Nat} {H : Heap} {locs : List Loc} {ls : Array Slot} {y0 : Int64} {y1 : Int64} (hW : Wd g σ X s H locs) (hm : cells + cu = mc ∧ slots + du = ms) (hl : lv_has ls 7 [(0, .ref x0), (1, .ref a1), (2, .ref a2), (3, .ref a3), (4, .int x4)]) (h : f_L_law_978 L xs x0 a1 a2 a3 x4 σ X y0 y1 = some (v0, σ0, X0, cu, du)) : W p l e room_1 s m args below meth c H locs cells slots Q (F0 m 978 ls [.long y1, .long y0]) := by
  have hx := C.x
  have hb := C.b
  unfold f_L_law_978 at h
  refine W.lcmp hx hb dL_law_978 ?_
  refine r_br h (lv_if_eq (tgt := 984) hx hb dL_law_979 (by decide)) (fun h => ?_) (fun h => ?_)
  · refine lv_goto (tgt := 1887) hx hb dL_law_984 (by decide) ?_
    exact hk hW hm (lv_sub hl [0, 1, 2, 3, 4] rfl) h
  · refine lv_iconst (v := 0) hx hb dL_law_982 (by decide) ?_
    cases h
set_option maxRecDepth 20000 in
set_option maxHeartbeats 4000000 in
theorem b_L_law_903 {v0 : Unit} {σ0 : Sh} {X0 : Mx} {mc ms L : Nat} {xs : Nat → Int32} {x0 a1 a2 a3 : Nat} {x4 : Int32} {Q : State → Prop} (C : Cx g RL cL_law 7 (some .boolean) p s m args meth c) (hst : l.stackTraces = false) (hcap : mc ≤ 601024 ∧ ms ≤ 7293034) (hX : va_X x0 L xs s s.heap) (hbl : x0 < s.heap.size) (hbA : ¬ gA g x0) (hk : ∀ {σ : Sh} {X : Mx} {cu du cells slots : Nat} {H : Heap} {locs : List Loc} {ls : Array Slot}, Wd g σ X s H locs → (cells + cu = mc ∧ slots + du = ms) → lv_has ls 7 [(0, .ref x0), (1, .ref a1), (2, .ref a2), (3, .ref a3), (4, .int x4)] → some ((), σ, X, 0, 0) = some (v0, σ0, X0, cu, du) → W p l e room_1 s m args below meth c H locs cells slots Q (F0 m 1887 ls [])) {σ : Sh} {X : Mx} {cu du cells slots : Nat} {H : Heap} {locs : List Loc} {ls : Array Slot} {y0 : Int64} {y1 : Int64} (hW : Wd g σ X s H locs) (hm : cells + cu = mc ∧ slots + du = ms) (hl : lv_has ls 7 [(0, .ref x0), (1, .ref a1), (2, .ref a2), (3, .ref a3), (4, .int x4)]) (h : f_L_law_903 L xs x0 a1 a2 a3 x4 σ X y0 y1 = some (v0, σ0, X0, cu, du)) : W p l e room_1 s m args below meth c H locs cells slots Q (F0 m 903 ls [.long y1, .long y0]) := by
  have hx := C.x
  have hb := C.b
  unfold f_L_law_903 at h
  refine W.lcmp hx hb dL_law_903 ?_
  refine r_br h (lv_if_eq (tgt := 909) hx hb dL_law_904 (by decide)) (fun h => ?_) (fun h => ?_)
  · refine lv_goto (tgt := 1887) hx hb dL_law_909 (by decide) ?_
    exact hk hW hm (lv_sub hl [0, 1, 2, 3, 4] rfl) h
  · refine lv_iconst (v := 0) hx hb dL_law_907 (by decide) ?_
    cases h
set_option maxRecDepth 20000 in
set_option maxHeartbeats 4000000 in
theorem b_L_law_828 {v0 : Unit} {σ0 : Sh} {X0 : Mx} {mc ms L : Nat} {xs : Nat → Int32} {x0 a1 a2 a3 : Nat} {x4 : Int32} {Q : State → Prop} (C : Cx g RL cL_law 7 (some .boolean) p s m args meth c) (hst : l.stackTraces = false) (hcap : mc ≤ 601024 ∧ ms ≤ 7293034) (hX : va_X x0 L xs s s.heap) (hbl : x0 < s.heap.size) (hbA : ¬ gA g x0) (hk : ∀ {σ : Sh} {X : Mx} {cu du cells slots : Nat} {H : Heap} {locs : List Loc} {ls : Array Slot}, Wd g σ X s H locs → (cells + cu = mc ∧ slots + du = ms) → lv_has ls 7 [(0, .ref x0), (1, .ref a1), (2, .ref a2), (3, .ref a3), (4, .int x4)] → some ((), σ, X, 0, 0) = some (v0, σ0, X0, cu, du) → W p l e room_1 s m args below meth c H locs cells slots Q (F0 m 1887 ls [])) {σ : Sh} {X : Mx} {cu du cells slots : Nat} {H : Heap} {locs : List Loc} {ls : Array Slot} {y0 : Int64} {y1 : Int64} (hW : Wd g σ X s H locs) (hm : cells + cu = mc ∧ slots + du = ms) (hl : lv_has ls 7 [(0, .ref x0), (1, .ref a1), (2, .ref a2), (3, .ref a3), (4, .int x4)]) (h : f_L_law_828 L xs x0 a1 a2 a3 x4 σ X y0 y1 = some (v0, σ0, X0, cu, du)) : W p l e room_1 s m args below meth c H locs cells slots Q (F0 m 828 ls [.long y1, .long y0]) := by
  have hx := C.x
  have hb := C.b
  unfold f_L_law_828 at h
  refine W.lcmp hx hb dL_law_828 ?_
  refine r_br h (lv_if_eq (tgt := 834) hx hb dL_law_829 (by decide)) (fun h => ?_) (fun h => ?_)
  · refine lv_goto (tgt := 1887) hx hb dL_law_834 (by decide) ?_
    exact hk hW hm (lv_sub hl [0, 1, 2, 3, 4] rfl) h
  · refine lv_iconst (v := 0) hx hb dL_law_832 (by decide) ?_
    cases h
set_option maxRecDepth 20000 in
set_option maxHeartbeats 4000000 in
theorem b_L_law_33 {v0 : Unit} {σ0 : Sh} {X0 : Mx} {mc ms L : Nat} {xs : Nat → Int32} {x0 a1 a2 a3 : Nat} {x4 : Int32} {Q : State → Prop} (C : Cx g RL cL_law 7 (some .boolean) p s m args meth c) (hst : l.stackTraces = false) (hcap : mc ≤ 601024 ∧ ms ≤ 7293034) (hX : va_X x0 L xs s s.heap) (hbl : x0 < s.heap.size) (hbA : ¬ gA g x0) (hk : ∀ {σ : Sh} {X : Mx} {cu du cells slots : Nat} {H : Heap} {locs : List Loc} {ls : Array Slot}, Wd g σ X s H locs → (cells + cu = mc ∧ slots + du = ms) → lv_has ls 7 [(0, .ref x0), (1, .ref a1), (2, .ref a2), (3, .ref a3), (4, .int x4)] → some ((), σ, X, 0, 0) = some (v0, σ0, X0, cu, du) → W p l e room_1 s m args below meth c H locs cells slots Q (F0 m 1887 ls [])) {σ : Sh} {X : Mx} {cu du cells slots : Nat} {H : Heap} {locs : List Loc} {ls : Array Slot} (hW : Wd g σ X s H locs) {z : Nat} (hzz : H.size = z) (hm : cells + cu = mc ∧ slots + du = ms) (hl : lv_has ls 7 [(0, .ref x0), (1, .ref a1), (2, .ref a2), (3, .ref a3), (4, .int x4)]) (h : f_L_law_33 L xs x0 a1 a2 a3 x4 σ X z = some (v0, σ0, X0, cu, du)) : W p l e room_1 s m args below meth c H locs cells slots Q (F0 m 33 ls []) := by
  have hx := C.x
  have hb := C.b
  unfold f_L_law_33 at h
  refine lv_aload_n hx hb dL_law_33 rfl (lv_at hl 0 rfl) ?_
  refine lv_iload hx hb dL_law_34 (lv_at hl 4 rfl) ?_
  refine r_sld hx hb hX hbl hbA hW h dL_law_36 (fun v1 h => ?_)
  refine lv_bipush (v := 31) hx hb dL_law_37 (by decide) ?_
  refine lv_iand hx hb dL_law_39 ?_
  refine r_case h (fun ec h => ?_) (fun nc0 h => ?_)
  · refine lv_tableIn (tgt := 176) (off := 136) hx hb dL_law_40 (by rw [ec]; decide) (by rw [ec]; decide) (by rw [ec]; rfl) (by decide) ?_
    refine lv_aload_n hx hb dL_law_176 rfl (lv_at hl 1 rfl) ?_
    refine lv_aload_n hx hb dL_law_177 rfl (lv_at hl 0 rfl) ?_
    refine lv_iload hx hb dL_law_178 (lv_at hl 4 rfl) ?_
    refine lv_iconst (v := 1) hx hb dL_law_180 (by decide) ?_
    refine lv_iadd hx hb dL_law_181 ?_
    refine r_sld hx hb hX hbl hbA hW h dL_law_182 (fun v2 h => ?_)
    refine lv_aload_n hx hb dL_law_183 rfl (lv_at hl 0 rfl) ?_
    refine lv_iload hx hb dL_law_184 (lv_at hl 4 rfl) ?_
    refine lv_iconst (v := 2) hx hb dL_law_186 (by decide) ?_
    refine lv_iadd hx hb dL_law_187 ?_
    refine r_sld hx hb hX hbl hbA hW h dL_law_188 (fun v3 h => ?_)
    refine lv_aload_n hx hb dL_law_189 rfl (lv_at hl 0 rfl) ?_
    refine lv_iload hx hb dL_law_190 (lv_at hl 4 rfl) ?_
    refine lv_iconst (v := 3) hx hb dL_law_192 (by decide) ?_
    refine lv_iadd hx hb dL_law_193 ?_
    refine r_sld hx hb hX hbl hbA hW h dL_law_194 (fun v4 h => ?_)
    refine lv_aload_n hx hb dL_law_195 rfl (lv_at hl 0 rfl) ?_
    refine lv_iload hx hb dL_law_196 (lv_at hl 4 rfl) ?_
    refine lv_iconst (v := 4) hx hb dL_law_198 (by decide) ?_
    refine lv_iadd hx hb dL_law_199 ?_
    refine r_sld hx hb hX hbl hbA hW h dL_law_200 (fun v5 h => ?_)
    refine lv_aload_n hx hb dL_law_201 rfl (lv_at hl 0 rfl) ?_
    refine lv_iload hx hb dL_law_202 (lv_at hl 4 rfl) ?_
    refine lv_iconst (v := 5) hx hb dL_law_204 (by decide) ?_
    refine lv_iadd hx hb dL_law_205 ?_
    refine r_sld hx hb hX hbl hbA hW h dL_law_206 (fun v6 h => ?_)
    obtain ⟨v9, X8, h7, h⟩ := bnd2_inv h
    refine r_cI hW (run_V (rest := []) C hW (t_X9_feed h7) mk_X9_feed vk_L_80 (kd_X9_feed h7) rfl rfl (by decide) ⟨Nat.le_of_ble_eq_true rfl, Nat.le_of_ble_eq_true rfl⟩ (l_cs hm hcap) rfl rfl (Nat.le_of_ble_eq_true rfl) hl.1 dL_law_207) (fun H locs hW _ => ?_)
    refine lv_aload_n hx hb dL_law_210 rfl (lv_at hl 2 rfl) ?_
    refine lv_aload_n hx hb dL_law_211 rfl (lv_at hl 0 rfl) ?_
    refine lv_iload hx hb dL_law_212 (lv_at hl 4 rfl) ?_
    refine lv_iconst (v := 1) hx hb dL_law_214 (by decide) ?_
    refine lv_iadd hx hb dL_law_215 ?_
    refine r_sld hx hb hX hbl hbA hW h dL_law_216 (fun v10 h => ?_)
    refine lv_aload_n hx hb dL_law_217 rfl (lv_at hl 0 rfl) ?_
    refine lv_iload hx hb dL_law_218 (lv_at hl 4 rfl) ?_
    refine lv_iconst (v := 2) hx hb dL_law_220 (by decide) ?_
    refine lv_iadd hx hb dL_law_221 ?_
    refine r_sld hx hb hX hbl hbA hW h dL_law_222 (fun v11 h => ?_)
    refine lv_aload_n hx hb dL_law_223 rfl (lv_at hl 0 rfl) ?_
    refine lv_iload hx hb dL_law_224 (lv_at hl 4 rfl) ?_
    refine lv_iconst (v := 3) hx hb dL_law_226 (by decide) ?_
    refine lv_iadd hx hb dL_law_227 ?_
    refine r_sld hx hb hX hbl hbA hW h dL_law_228 (fun v12 h => ?_)
    refine lv_aload_n hx hb dL_law_229 rfl (lv_at hl 0 rfl) ?_
    refine lv_iload hx hb dL_law_230 (lv_at hl 4 rfl) ?_
    refine lv_iconst (v := 4) hx hb dL_law_232 (by decide) ?_
    refine lv_iadd hx hb dL_law_233 ?_
    refine r_sld hx hb hX hbl hbA hW h dL_law_234 (fun v13 h => ?_)
    refine lv_aload_n hx hb dL_law_235 rfl (lv_at hl 0 rfl) ?_
    refine lv_iload hx hb dL_law_236 (lv_at hl 4 rfl) ?_
    refine lv_iconst (v := 5) hx hb dL_law_238 (by decide) ?_
    refine lv_iadd hx hb dL_law_239 ?_
    refine r_sld hx hb hX hbl hbA hW h dL_law_240 (fun v14 h => ?_)
    obtain ⟨v17, X16, h15, h⟩ := bnd2_inv h
    refine r_cI hW (run_V (rest := [.int v9]) C hW (t_X10_feed h15) mk_X10_feed vk_L_84 (kd_X10_feed h15) rfl rfl (by decide) ⟨Nat.le_of_ble_eq_true rfl, Nat.le_of_ble_eq_true rfl⟩ (l_cs hm hcap) rfl rfl (Nat.le_of_ble_eq_true rfl) hl.1 dL_law_241) (fun H locs hW _ => ?_)
    refine r_br h (lv_icmp_eq (tgt := 1887) hx hb dL_law_244 (by decide)) (fun h => ?_) (fun h => ?_)
    · exact hk hW hm (lv_sub hl [0, 1, 2, 3, 4] rfl) h
    · refine lv_iconst (v := 0) hx hb dL_law_247 (by decide) ?_
      cases h
  refine r_case h (fun ec h => ?_) (fun nc1 h => ?_)
  · refine lv_tableIn (tgt := 249) (off := 209) hx hb dL_law_40 (by rw [ec]; decide) (by rw [ec]; decide) (by rw [ec]; rfl) (by decide) ?_
    refine lv_aload_n hx hb dL_law_249 rfl (lv_at hl 1 rfl) ?_
    refine lv_aload_n hx hb dL_law_250 rfl (lv_at hl 0 rfl) ?_
    refine lv_iload hx hb dL_law_251 (lv_at hl 4 rfl) ?_
    refine lv_iconst (v := 1) hx hb dL_law_253 (by decide) ?_
    refine lv_iadd hx hb dL_law_254 ?_
    refine r_sld hx hb hX hbl hbA hW h dL_law_255 (fun v18 h => ?_)
    refine lv_aload_n hx hb dL_law_256 rfl (lv_at hl 3 rfl) ?_
    obtain ⟨v19, σ19, X19, c19, d19, cu9, du9, h19, h, hcu, hdu⟩ := bndH_inv h
    refine l_SW (rest := []) C hW hzz hcu hdu hm hcap (t_L_tables hst h19) mkw_L_tables sk_L_85 ⟨Nat.le_of_ble_eq_true rfl, Nat.le_of_ble_eq_true rfl⟩ rfl rfl (Nat.le_of_ble_eq_true rfl) hl.1 dL_law_257 (fun H locs cells slots hW hm => ?_)
    refine lv_istore (lv' := [(5, .int v19), (0, .ref x0), (1, .ref a1), (2, .ref a2), (3, .ref a3), (4, .int x4)]) hx hb dL_law_260 hl (by decide) rfl (fun ls hl => ?_)
    refine lv_aload_n hx hb dL_law_262 rfl (lv_at hl 3 rfl) ?_
    refine lv_aload_n hx hb dL_law_263 rfl (lv_at hl 1 rfl) ?_
    refine lv_iload hx hb dL_law_264 (lv_at hl 5 rfl) ?_
    refine lv_iconst (v := 1) hx hb dL_law_266 (by decide) ?_
    refine lv_iadd hx hb dL_law_267 ?_
    refine r_sld hx hb hX hbl hbA hW h dL_law_268 (fun v20 h => ?_)
    obtain ⟨v23, X22, h21, h⟩ := bnd2_inv h
    refine r_cI hW (run_V (rest := []) C hW (t_X10_tables h21) mk_X10_tables vk_L_90 (kd_X10_tables h21) rfl rfl (by decide) ⟨Nat.le_of_ble_eq_true rfl, Nat.le_of_ble_eq_true rfl⟩ (l_cs hm hcap) rfl rfl (Nat.le_of_ble_eq_true rfl) hl.1 dL_law_269) (fun H locs hW _ => ?_)
    refine lv_istore (lv' := [(6, .int v23), (5, .int v19), (0, .ref x0), (1, .ref a1), (2, .ref a2), (3, .ref a3), (4, .int x4)]) hx hb dL_law_272 hl (by decide) rfl (fun ls hl => ?_)
    refine lv_aload_n hx hb dL_law_274 rfl (lv_at hl 4 rfl) ?_
    obtain ⟨v25, h24, h⟩ := bnd_inv h
    refine r_cI hW (run_V (rest := []) C hW (t_X10_thrown h24) mk_X10_thrown vk_L_91 (kd_X10_thrown h24) rfl rfl (by decide) ⟨Nat.le_of_ble_eq_true rfl, Nat.le_of_ble_eq_true rfl⟩ (l_cs hm hcap) rfl rfl (Nat.le_of_ble_eq_true rfl) hl.1 dL_law_275) (fun H locs hW _ => ?_)
    refine lv_iload hx hb dL_law_278 (lv_at hl 1 rfl) ?_
    refine r_br h (lv_icmp_eq (tgt := 285) hx hb dL_law_280 (by decide)) (fun h => ?_) (fun h => ?_)
    · refine lv_iload hx hb dL_law_285 (lv_at hl 1 rfl) ?_
      refine r_brn h (lv_if_ne (tgt := 302) hx hb dL_law_287 (by decide)) (fun h => ?_) (fun h => ?_)
      · refine lv_goto (tgt := 1887) hx hb dL_law_302 (by decide) ?_
        exact hk hW hm (lv_sub hl [2, 3, 4, 5, 6] rfl) h
      · refine lv_aload_n hx hb dL_law_290 rfl (lv_at hl 5 rfl) ?_
        refine lv_iconst (v := 0) hx hb dL_law_291 (by decide) ?_
        refine r_lald C hW h dL_law_292 (fun v26 h => ?_)
        refine lv_iload hx hb dL_law_293 (lv_at hl 0 rfl) ?_
        refine lv_i2l (v := (Int32.toInt64 v23)) hx hb dL_law_295 rfl ?_
        refine W.lcmp hx hb dL_law_296 ?_
        refine r_br h (lv_if_eq (tgt := 302) hx hb dL_law_297 (by decide)) (fun h => ?_) (fun h => ?_)
        · refine lv_goto (tgt := 1887) hx hb dL_law_302 (by decide) ?_
          exact hk hW hm (lv_sub hl [2, 3, 4, 5, 6] rfl) h
        · refine lv_iconst (v := 0) hx hb dL_law_300 (by decide) ?_
          cases h
    · refine lv_iconst (v := 0) hx hb dL_law_283 (by decide) ?_
      cases h
  refine r_case h (fun ec h => ?_) (fun nc2 h => ?_)
  · refine lv_tableIn (tgt := 305) (off := 265) hx hb dL_law_40 (by rw [ec]; decide) (by rw [ec]; decide) (by rw [ec]; rfl) (by decide) ?_
    refine lv_aload_n hx hb dL_law_305 rfl (lv_at hl 1 rfl) ?_
    obtain ⟨v28, h27, h⟩ := bnd_inv h
    refine r_cI hW (run_V (rest := []) C hW (t_X9_fault h27) mk_X9_fault vk_L_95 (kd_X9_fault h27) rfl rfl (by decide) ⟨Nat.le_of_ble_eq_true rfl, Nat.le_of_ble_eq_true rfl⟩ (l_cs hm hcap) rfl rfl (Nat.le_of_ble_eq_true rfl) hl.1 dL_law_306) (fun H locs hW _ => ?_)
    refine lv_aload_n hx hb dL_law_309 rfl (lv_at hl 2 rfl) ?_
    obtain ⟨v31, X30, h29, h⟩ := bnd2_inv h
    refine r_cI hW (run_V (rest := [.int v28]) C hW (t_X10_fault h29) mk_X10_fault vk_L_98 (kd_X10_fault h29) rfl rfl (by decide) ⟨Nat.le_of_ble_eq_true rfl, Nat.le_of_ble_eq_true rfl⟩ (l_cs hm hcap) rfl rfl (Nat.le_of_ble_eq_true rfl) hl.1 dL_law_310) (fun H locs hW _ => ?_)
    refine r_br h (lv_icmp_eq (tgt := 1887) hx hb dL_law_313 (by decide)) (fun h => ?_) (fun h => ?_)
    · exact hk hW hm (lv_sub hl [0, 1, 2, 3, 4] rfl) h
    · refine lv_iconst (v := 0) hx hb dL_law_316 (by decide) ?_
      cases h
  refine r_case h (fun ec h => ?_) (fun nc3 h => ?_)
  · refine lv_tableIn (tgt := 318) (off := 278) hx hb dL_law_40 (by rw [ec]; decide) (by rw [ec]; decide) (by rw [ec]; rfl) (by decide) ?_
    refine lv_aload_n hx hb dL_law_318 rfl (lv_at hl 1 rfl) ?_
    refine lv_aload_n hx hb dL_law_319 rfl (lv_at hl 0 rfl) ?_
    refine lv_iload hx hb dL_law_320 (lv_at hl 4 rfl) ?_
    refine lv_iconst (v := 1) hx hb dL_law_322 (by decide) ?_
    refine lv_iadd hx hb dL_law_323 ?_
    refine r_sld hx hb hX hbl hbA hW h dL_law_324 (fun v32 h => ?_)
    refine lv_aload_n hx hb dL_law_325 rfl (lv_at hl 3 rfl) ?_
    obtain ⟨v33, σ33, X33, c33, d33, cu9, du9, h33, h, hcu, hdu⟩ := bndH_inv h
    refine l_SW (rest := []) C hW hzz hcu hdu hm hcap (t_L_count hst h33) mkw_L_count sk_L_99 ⟨Nat.le_of_ble_eq_true rfl, Nat.le_of_ble_eq_true rfl⟩ rfl rfl (Nat.le_of_ble_eq_true rfl) hl.1 dL_law_326 (fun H locs cells slots hW hm => ?_)
    refine lv_istore (lv' := [(5, .int v33), (0, .ref x0), (1, .ref a1), (2, .ref a2), (3, .ref a3), (4, .int x4)]) hx hb dL_law_329 hl (by decide) rfl (fun ls hl => ?_)
    refine lv_aload_n hx hb dL_law_331 rfl (lv_at hl 3 rfl) ?_
    refine lv_aload_n hx hb dL_law_332 rfl (lv_at hl 1 rfl) ?_
    refine lv_iload hx hb dL_law_333 (lv_at hl 5 rfl) ?_
    refine lv_iconst (v := 1) hx hb dL_law_335 (by decide) ?_
    refine lv_iadd hx hb dL_law_336 ?_
    refine r_sld hx hb hX hbl hbA hW h dL_law_337 (fun v34 h => ?_)
    obtain ⟨v37, X36, h35, h⟩ := bnd2_inv h
    refine r_cI hW (run_V (rest := []) C hW (t_X10_count h35) mk_X10_count vk_L_101 (kd_X10_count h35) rfl rfl (by decide) ⟨Nat.le_of_ble_eq_true rfl, Nat.le_of_ble_eq_true rfl⟩ (l_cs hm hcap) rfl rfl (Nat.le_of_ble_eq_true rfl) hl.1 dL_law_338) (fun H locs hW _ => ?_)
    refine lv_istore (lv' := [(6, .int v37), (5, .int v33), (0, .ref x0), (1, .ref a1), (2, .ref a2), (3, .ref a3), (4, .int x4)]) hx hb dL_law_341 hl (by decide) rfl (fun ls hl => ?_)
    refine lv_aload_n hx hb dL_law_343 rfl (lv_at hl 4 rfl) ?_
    obtain ⟨v39, h38, h⟩ := bnd_inv h
    refine r_cI hW (run_V (rest := []) C hW (t_X10_thrown h38) mk_X10_thrown vk_L_91 (kd_X10_thrown h38) rfl rfl (by decide) ⟨Nat.le_of_ble_eq_true rfl, Nat.le_of_ble_eq_true rfl⟩ (l_cs hm hcap) rfl rfl (Nat.le_of_ble_eq_true rfl) hl.1 dL_law_344) (fun H locs hW _ => ?_)
    refine lv_iload hx hb dL_law_347 (lv_at hl 1 rfl) ?_
    refine r_br h (lv_icmp_eq (tgt := 354) hx hb dL_law_349 (by decide)) (fun h => ?_) (fun h => ?_)
    · refine lv_iload hx hb dL_law_354 (lv_at hl 1 rfl) ?_
      refine r_brn h (lv_if_ne (tgt := 371) hx hb dL_law_356 (by decide)) (fun h => ?_) (fun h => ?_)
      · refine lv_goto (tgt := 1887) hx hb dL_law_371 (by decide) ?_
        exact hk hW hm (lv_sub hl [2, 3, 4, 5, 6] rfl) h
      · refine lv_aload_n hx hb dL_law_359 rfl (lv_at hl 5 rfl) ?_
        refine lv_iconst (v := 0) hx hb dL_law_360 (by decide) ?_
        refine r_lald C hW h dL_law_361 (fun v40 h => ?_)
        refine lv_iload hx hb dL_law_362 (lv_at hl 0 rfl) ?_
        refine lv_i2l (v := (Int32.toInt64 v37)) hx hb dL_law_364 rfl ?_
        refine W.lcmp hx hb dL_law_365 ?_
        refine r_br h (lv_if_eq (tgt := 371) hx hb dL_law_366 (by decide)) (fun h => ?_) (fun h => ?_)
        · refine lv_goto (tgt := 1887) hx hb dL_law_371 (by decide) ?_
          exact hk hW hm (lv_sub hl [2, 3, 4, 5, 6] rfl) h
        · refine lv_iconst (v := 0) hx hb dL_law_369 (by decide) ?_
          cases h
    · refine lv_iconst (v := 0) hx hb dL_law_352 (by decide) ?_
      cases h
  refine r_case h (fun ec h => ?_) (fun nc4 h => ?_)
  · refine lv_tableIn (tgt := 374) (off := 334) hx hb dL_law_40 (by rw [ec]; decide) (by rw [ec]; decide) (by rw [ec]; rfl) (by decide) ?_
    refine lv_aload_n hx hb dL_law_374 rfl (lv_at hl 1 rfl) ?_
    refine lv_aload_n hx hb dL_law_375 rfl (lv_at hl 0 rfl) ?_
    refine lv_iload hx hb dL_law_376 (lv_at hl 4 rfl) ?_
    refine lv_iconst (v := 1) hx hb dL_law_378 (by decide) ?_
    refine lv_iadd hx hb dL_law_379 ?_
    refine r_sld hx hb hX hbl hbA hW h dL_law_380 (fun v41 h => ?_)
    refine lv_aload_n hx hb dL_law_381 rfl (lv_at hl 0 rfl) ?_
    refine lv_iload hx hb dL_law_382 (lv_at hl 4 rfl) ?_
    refine lv_iconst (v := 2) hx hb dL_law_384 (by decide) ?_
    refine lv_iadd hx hb dL_law_385 ?_
    refine r_sld hx hb hX hbl hbA hW h dL_law_386 (fun v42 h => ?_)
    refine lv_aload_n hx hb dL_law_387 rfl (lv_at hl 3 rfl) ?_
    obtain ⟨v43, σ43, X43, c43, d43, cu9, du9, h43, h, hcu, hdu⟩ := bndH_inv h
    refine l_SW (rest := []) C hW hzz hcu hdu hm hcap (t_L_table hst h43) mkw_L_table sk_L_102 ⟨Nat.le_of_ble_eq_true rfl, Nat.le_of_ble_eq_true rfl⟩ rfl rfl (Nat.le_of_ble_eq_true rfl) hl.1 dL_law_388 (fun H locs cells slots hW hm => ?_)
    refine lv_istore (lv' := [(5, .int v43), (0, .ref x0), (1, .ref a1), (2, .ref a2), (3, .ref a3), (4, .int x4)]) hx hb dL_law_391 hl (by decide) rfl (fun ls hl => ?_)
    refine lv_aload_n hx hb dL_law_393 rfl (lv_at hl 3 rfl) ?_
    refine lv_aload_n hx hb dL_law_394 rfl (lv_at hl 1 rfl) ?_
    refine lv_iload hx hb dL_law_395 (lv_at hl 5 rfl) ?_
    refine lv_iconst (v := 1) hx hb dL_law_397 (by decide) ?_
    refine lv_iadd hx hb dL_law_398 ?_
    refine r_sld hx hb hX hbl hbA hW h dL_law_399 (fun v44 h => ?_)
    refine lv_aload_n hx hb dL_law_400 rfl (lv_at hl 1 rfl) ?_
    refine lv_iload hx hb dL_law_401 (lv_at hl 5 rfl) ?_
    refine lv_iconst (v := 2) hx hb dL_law_403 (by decide) ?_
    refine lv_iadd hx hb dL_law_404 ?_
    refine r_sld hx hb hX hbl hbA hW h dL_law_405 (fun v45 h => ?_)
    obtain ⟨v48, X47, h46, h⟩ := bnd2_inv h
    refine r_cI hW (run_V (rest := []) C hW (t_X10_table h46) mk_X10_table vk_L_105 (kd_X10_table h46) rfl rfl (by decide) ⟨Nat.le_of_ble_eq_true rfl, Nat.le_of_ble_eq_true rfl⟩ (l_cs hm hcap) rfl rfl (Nat.le_of_ble_eq_true rfl) hl.1 dL_law_406) (fun H locs hW _ => ?_)
    refine lv_istore (lv' := [(6, .int v48), (5, .int v43), (0, .ref x0), (1, .ref a1), (2, .ref a2), (3, .ref a3), (4, .int x4)]) hx hb dL_law_409 hl (by decide) rfl (fun ls hl => ?_)
    refine lv_aload_n hx hb dL_law_411 rfl (lv_at hl 4 rfl) ?_
    obtain ⟨v50, h49, h⟩ := bnd_inv h
    refine r_cI hW (run_V (rest := []) C hW (t_X10_thrown h49) mk_X10_thrown vk_L_91 (kd_X10_thrown h49) rfl rfl (by decide) ⟨Nat.le_of_ble_eq_true rfl, Nat.le_of_ble_eq_true rfl⟩ (l_cs hm hcap) rfl rfl (Nat.le_of_ble_eq_true rfl) hl.1 dL_law_412) (fun H locs hW _ => ?_)
    refine lv_iload hx hb dL_law_415 (lv_at hl 1 rfl) ?_
    refine r_br h (lv_icmp_eq (tgt := 422) hx hb dL_law_417 (by decide)) (fun h => ?_) (fun h => ?_)
    · refine lv_iload hx hb dL_law_422 (lv_at hl 1 rfl) ?_
      refine r_brn h (lv_if_ne (tgt := 439) hx hb dL_law_424 (by decide)) (fun h => ?_) (fun h => ?_)
      · refine lv_goto (tgt := 1887) hx hb dL_law_439 (by decide) ?_
        exact hk hW hm (lv_sub hl [2, 3, 4, 5, 6] rfl) h
      · refine lv_aload_n hx hb dL_law_427 rfl (lv_at hl 5 rfl) ?_
        refine lv_iconst (v := 0) hx hb dL_law_428 (by decide) ?_
        refine r_lald C hW h dL_law_429 (fun v51 h => ?_)
        refine lv_iload hx hb dL_law_430 (lv_at hl 0 rfl) ?_
        refine lv_i2l (v := (Int32.toInt64 v48)) hx hb dL_law_432 rfl ?_
        refine W.lcmp hx hb dL_law_433 ?_
        refine r_br h (lv_if_eq (tgt := 439) hx hb dL_law_434 (by decide)) (fun h => ?_) (fun h => ?_)
        · refine lv_goto (tgt := 1887) hx hb dL_law_439 (by decide) ?_
          exact hk hW hm (lv_sub hl [2, 3, 4, 5, 6] rfl) h
        · refine lv_iconst (v := 0) hx hb dL_law_437 (by decide) ?_
          cases h
    · refine lv_iconst (v := 0) hx hb dL_law_420 (by decide) ?_
      cases h
  refine r_case h (fun ec h => ?_) (fun nc5 h => ?_)
  · refine lv_tableIn (tgt := 442) (off := 402) hx hb dL_law_40 (by rw [ec]; decide) (by rw [ec]; decide) (by rw [ec]; rfl) (by decide) ?_
    refine lv_aload_n hx hb dL_law_442 rfl (lv_at hl 1 rfl) ?_
    refine lv_aload_n hx hb dL_law_443 rfl (lv_at hl 0 rfl) ?_
    refine lv_iload hx hb dL_law_444 (lv_at hl 4 rfl) ?_
    refine lv_iconst (v := 1) hx hb dL_law_446 (by decide) ?_
    refine lv_iadd hx hb dL_law_447 ?_
    refine r_sld hx hb hX hbl hbA hW h dL_law_448 (fun v52 h => ?_)
    refine lv_aload_n hx hb dL_law_449 rfl (lv_at hl 0 rfl) ?_
    refine lv_iload hx hb dL_law_450 (lv_at hl 4 rfl) ?_
    refine lv_iconst (v := 2) hx hb dL_law_452 (by decide) ?_
    refine lv_iadd hx hb dL_law_453 ?_
    refine r_sld hx hb hX hbl hbA hW h dL_law_454 (fun v53 h => ?_)
    refine lv_aload_n hx hb dL_law_455 rfl (lv_at hl 0 rfl) ?_
    refine lv_iload hx hb dL_law_456 (lv_at hl 4 rfl) ?_
    refine lv_iconst (v := 3) hx hb dL_law_458 (by decide) ?_
    refine lv_iadd hx hb dL_law_459 ?_
    refine r_sld hx hb hX hbl hbA hW h dL_law_460 (fun v54 h => ?_)
    refine lv_aload_n hx hb dL_law_461 rfl (lv_at hl 3 rfl) ?_
    obtain ⟨v55, σ55, X55, c55, d55, cu9, du9, h55, h, hcu, hdu⟩ := bndH_inv h
    refine l_SW (rest := []) C hW hzz hcu hdu hm hcap (t_L_column hst h55) mkw_L_column sk_L_106 ⟨Nat.le_of_ble_eq_true rfl, Nat.le_of_ble_eq_true rfl⟩ rfl rfl (Nat.le_of_ble_eq_true rfl) hl.1 dL_law_462 (fun H locs cells slots hW hm => ?_)
    refine lv_istore (lv' := [(5, .int v55), (0, .ref x0), (1, .ref a1), (2, .ref a2), (3, .ref a3), (4, .int x4)]) hx hb dL_law_465 hl (by decide) rfl (fun ls hl => ?_)
    refine lv_aload_n hx hb dL_law_467 rfl (lv_at hl 3 rfl) ?_
    refine lv_aload_n hx hb dL_law_468 rfl (lv_at hl 1 rfl) ?_
    refine lv_iload hx hb dL_law_469 (lv_at hl 5 rfl) ?_
    refine lv_iconst (v := 1) hx hb dL_law_471 (by decide) ?_
    refine lv_iadd hx hb dL_law_472 ?_
    refine r_sld hx hb hX hbl hbA hW h dL_law_473 (fun v56 h => ?_)
    refine lv_aload_n hx hb dL_law_474 rfl (lv_at hl 1 rfl) ?_
    refine lv_iload hx hb dL_law_475 (lv_at hl 5 rfl) ?_
    refine lv_iconst (v := 2) hx hb dL_law_477 (by decide) ?_
    refine lv_iadd hx hb dL_law_478 ?_
    refine r_sld hx hb hX hbl hbA hW h dL_law_479 (fun v57 h => ?_)
    refine lv_aload_n hx hb dL_law_480 rfl (lv_at hl 1 rfl) ?_
    refine lv_iload hx hb dL_law_481 (lv_at hl 5 rfl) ?_
    refine lv_iconst (v := 3) hx hb dL_law_483 (by decide) ?_
    refine lv_iadd hx hb dL_law_484 ?_
    refine r_sld hx hb hX hbl hbA hW h dL_law_485 (fun v58 h => ?_)
    obtain ⟨v61, X60, h59, h⟩ := bnd2_inv h
    refine r_cI hW (run_V (rest := []) C hW (t_X10_column h59) mk_X10_column vk_L_109 (kd_X10_column h59) rfl rfl (by decide) ⟨Nat.le_of_ble_eq_true rfl, Nat.le_of_ble_eq_true rfl⟩ (l_cs hm hcap) rfl rfl (Nat.le_of_ble_eq_true rfl) hl.1 dL_law_486) (fun H locs hW _ => ?_)
    refine lv_istore (lv' := [(6, .int v61), (5, .int v55), (0, .ref x0), (1, .ref a1), (2, .ref a2), (3, .ref a3), (4, .int x4)]) hx hb dL_law_489 hl (by decide) rfl (fun ls hl => ?_)
    refine lv_aload_n hx hb dL_law_491 rfl (lv_at hl 4 rfl) ?_
    obtain ⟨v63, h62, h⟩ := bnd_inv h
    refine r_cI hW (run_V (rest := []) C hW (t_X10_thrown h62) mk_X10_thrown vk_L_91 (kd_X10_thrown h62) rfl rfl (by decide) ⟨Nat.le_of_ble_eq_true rfl, Nat.le_of_ble_eq_true rfl⟩ (l_cs hm hcap) rfl rfl (Nat.le_of_ble_eq_true rfl) hl.1 dL_law_492) (fun H locs hW _ => ?_)
    refine lv_iload hx hb dL_law_495 (lv_at hl 1 rfl) ?_
    refine r_br h (lv_icmp_eq (tgt := 502) hx hb dL_law_497 (by decide)) (fun h => ?_) (fun h => ?_)
    · refine lv_iload hx hb dL_law_502 (lv_at hl 1 rfl) ?_
      refine r_brn h (lv_if_ne (tgt := 519) hx hb dL_law_504 (by decide)) (fun h => ?_) (fun h => ?_)
      · refine lv_goto (tgt := 1887) hx hb dL_law_519 (by decide) ?_
        exact hk hW hm (lv_sub hl [2, 3, 4, 5, 6] rfl) h
      · refine lv_aload_n hx hb dL_law_507 rfl (lv_at hl 5 rfl) ?_
        refine lv_iconst (v := 0) hx hb dL_law_508 (by decide) ?_
        refine r_lald C hW h dL_law_509 (fun v64 h => ?_)
        refine lv_iload hx hb dL_law_510 (lv_at hl 0 rfl) ?_
        refine lv_i2l (v := (Int32.toInt64 v61)) hx hb dL_law_512 rfl ?_
        refine W.lcmp hx hb dL_law_513 ?_
        refine r_br h (lv_if_eq (tgt := 519) hx hb dL_law_514 (by decide)) (fun h => ?_) (fun h => ?_)
        · refine lv_goto (tgt := 1887) hx hb dL_law_519 (by decide) ?_
          exact hk hW hm (lv_sub hl [2, 3, 4, 5, 6] rfl) h
        · refine lv_iconst (v := 0) hx hb dL_law_517 (by decide) ?_
          cases h
    · refine lv_iconst (v := 0) hx hb dL_law_500 (by decide) ?_
      cases h
  refine r_case h (fun ec h => ?_) (fun nc6 h => ?_)
  · refine lv_tableIn (tgt := 522) (off := 482) hx hb dL_law_40 (by rw [ec]; decide) (by rw [ec]; decide) (by rw [ec]; rfl) (by decide) ?_
    refine lv_aload_n hx hb dL_law_522 rfl (lv_at hl 1 rfl) ?_
    refine lv_aload_n hx hb dL_law_523 rfl (lv_at hl 0 rfl) ?_
    refine lv_iload hx hb dL_law_524 (lv_at hl 4 rfl) ?_
    refine lv_iconst (v := 1) hx hb dL_law_526 (by decide) ?_
    refine lv_iadd hx hb dL_law_527 ?_
    refine r_sld hx hb hX hbl hbA hW h dL_law_528 (fun v65 h => ?_)
    refine lv_aload_n hx hb dL_law_529 rfl (lv_at hl 0 rfl) ?_
    refine lv_iload hx hb dL_law_530 (lv_at hl 4 rfl) ?_
    refine lv_iconst (v := 2) hx hb dL_law_532 (by decide) ?_
    refine lv_iadd hx hb dL_law_533 ?_
    refine r_sld hx hb hX hbl hbA hW h dL_law_534 (fun v66 h => ?_)
    refine lv_aload_n hx hb dL_law_535 rfl (lv_at hl 0 rfl) ?_
    refine lv_iload hx hb dL_law_536 (lv_at hl 4 rfl) ?_
    refine lv_iconst (v := 3) hx hb dL_law_538 (by decide) ?_
    refine lv_iadd hx hb dL_law_539 ?_
    refine r_sld hx hb hX hbl hbA hW h dL_law_540 (fun v67 h => ?_)
    refine lv_aload_n hx hb dL_law_541 rfl (lv_at hl 3 rfl) ?_
    obtain ⟨v68, σ68, X68, c68, d68, cu9, du9, h68, h, hcu, hdu⟩ := bndH_inv h
    refine l_SW (rest := []) C hW hzz hcu hdu hm hcap (t_L_cell hst h68) mkw_L_cell sk_L_110 ⟨Nat.le_of_ble_eq_true rfl, Nat.le_of_ble_eq_true rfl⟩ rfl rfl (Nat.le_of_ble_eq_true rfl) hl.1 dL_law_542 (fun H locs cells slots hW hm => ?_)
    refine lv_istore (lv' := [(5, .int v68), (0, .ref x0), (1, .ref a1), (2, .ref a2), (3, .ref a3), (4, .int x4)]) hx hb dL_law_545 hl (by decide) rfl (fun ls hl => ?_)
    refine lv_aload_n hx hb dL_law_547 rfl (lv_at hl 3 rfl) ?_
    refine lv_aload_n hx hb dL_law_548 rfl (lv_at hl 1 rfl) ?_
    refine lv_iload hx hb dL_law_549 (lv_at hl 5 rfl) ?_
    refine lv_iconst (v := 1) hx hb dL_law_551 (by decide) ?_
    refine lv_iadd hx hb dL_law_552 ?_
    refine r_sld hx hb hX hbl hbA hW h dL_law_553 (fun v69 h => ?_)
    refine lv_aload_n hx hb dL_law_554 rfl (lv_at hl 1 rfl) ?_
    refine lv_iload hx hb dL_law_555 (lv_at hl 5 rfl) ?_
    refine lv_iconst (v := 2) hx hb dL_law_557 (by decide) ?_
    refine lv_iadd hx hb dL_law_558 ?_
    refine r_sld hx hb hX hbl hbA hW h dL_law_559 (fun v70 h => ?_)
    refine lv_aload_n hx hb dL_law_560 rfl (lv_at hl 1 rfl) ?_
    refine lv_iload hx hb dL_law_561 (lv_at hl 5 rfl) ?_
    refine lv_iconst (v := 3) hx hb dL_law_563 (by decide) ?_
    refine lv_iadd hx hb dL_law_564 ?_
    refine r_sld hx hb hX hbl hbA hW h dL_law_565 (fun v71 h => ?_)
    obtain ⟨v74, X73, h72, h⟩ := bnd2_inv h
    refine r_cI hW (run_V (rest := []) C hW (t_X10_cell h72) mk_X10_cell vk_L_112 (kd_X10_cell h72) rfl rfl (by decide) ⟨Nat.le_of_ble_eq_true rfl, Nat.le_of_ble_eq_true rfl⟩ (l_cs hm hcap) rfl rfl (Nat.le_of_ble_eq_true rfl) hl.1 dL_law_566) (fun H locs hW _ => ?_)
    refine lv_istore (lv' := [(6, .int v74), (5, .int v68), (0, .ref x0), (1, .ref a1), (2, .ref a2), (3, .ref a3), (4, .int x4)]) hx hb dL_law_569 hl (by decide) rfl (fun ls hl => ?_)
    refine lv_aload_n hx hb dL_law_571 rfl (lv_at hl 4 rfl) ?_
    obtain ⟨v76, h75, h⟩ := bnd_inv h
    refine r_cI hW (run_V (rest := []) C hW (t_X10_thrown h75) mk_X10_thrown vk_L_91 (kd_X10_thrown h75) rfl rfl (by decide) ⟨Nat.le_of_ble_eq_true rfl, Nat.le_of_ble_eq_true rfl⟩ (l_cs hm hcap) rfl rfl (Nat.le_of_ble_eq_true rfl) hl.1 dL_law_572) (fun H locs hW _ => ?_)
    refine lv_iload hx hb dL_law_575 (lv_at hl 1 rfl) ?_
    refine r_br h (lv_icmp_eq (tgt := 582) hx hb dL_law_577 (by decide)) (fun h => ?_) (fun h => ?_)
    · refine lv_iload hx hb dL_law_582 (lv_at hl 1 rfl) ?_
      refine r_brn h (lv_if_ne (tgt := 599) hx hb dL_law_584 (by decide)) (fun h => ?_) (fun h => ?_)
      · refine lv_goto (tgt := 1887) hx hb dL_law_599 (by decide) ?_
        exact hk hW hm (lv_sub hl [2, 3, 4, 5, 6] rfl) h
      · refine lv_aload_n hx hb dL_law_587 rfl (lv_at hl 5 rfl) ?_
        refine lv_iconst (v := 0) hx hb dL_law_588 (by decide) ?_
        refine r_lald C hW h dL_law_589 (fun v77 h => ?_)
        refine lv_iload hx hb dL_law_590 (lv_at hl 0 rfl) ?_
        refine lv_i2l (v := (Int32.toInt64 v74)) hx hb dL_law_592 rfl ?_
        refine W.lcmp hx hb dL_law_593 ?_
        refine r_br h (lv_if_eq (tgt := 599) hx hb dL_law_594 (by decide)) (fun h => ?_) (fun h => ?_)
        · refine lv_goto (tgt := 1887) hx hb dL_law_599 (by decide) ?_
          exact hk hW hm (lv_sub hl [2, 3, 4, 5, 6] rfl) h
        · refine lv_iconst (v := 0) hx hb dL_law_597 (by decide) ?_
          cases h
    · refine lv_iconst (v := 0) hx hb dL_law_580 (by decide) ?_
      cases h
  refine r_case h (fun ec h => ?_) (fun nc7 h => ?_)
  · refine lv_tableIn (tgt := 602) (off := 562) hx hb dL_law_40 (by rw [ec]; decide) (by rw [ec]; decide) (by rw [ec]; rfl) (by decide) ?_
    refine lv_aload_n hx hb dL_law_602 rfl (lv_at hl 1 rfl) ?_
    refine lv_aload_n hx hb dL_law_603 rfl (lv_at hl 0 rfl) ?_
    refine lv_iload hx hb dL_law_604 (lv_at hl 4 rfl) ?_
    refine lv_iconst (v := 1) hx hb dL_law_606 (by decide) ?_
    refine lv_iadd hx hb dL_law_607 ?_
    refine r_sld hx hb hX hbl hbA hW h dL_law_608 (fun v78 h => ?_)
    refine lv_aload_n hx hb dL_law_609 rfl (lv_at hl 0 rfl) ?_
    refine lv_iload hx hb dL_law_610 (lv_at hl 4 rfl) ?_
    refine lv_iconst (v := 2) hx hb dL_law_612 (by decide) ?_
    refine lv_iadd hx hb dL_law_613 ?_
    refine r_sld hx hb hX hbl hbA hW h dL_law_614 (fun v79 h => ?_)
    refine lv_aload_n hx hb dL_law_615 rfl (lv_at hl 3 rfl) ?_
    obtain ⟨v80, σ80, X80, c80, d80, cu9, du9, h80, h, hcu, hdu⟩ := bndH_inv h
    refine l_SW (rest := []) C hW hzz hcu hdu hm hcap (t_L_whose hst h80) mkw_L_whose sk_L_113 ⟨Nat.le_of_ble_eq_true rfl, Nat.le_of_ble_eq_true rfl⟩ rfl rfl (Nat.le_of_ble_eq_true rfl) hl.1 dL_law_616 (fun H locs cells slots hW hm => ?_)
    refine lv_istore (lv' := [(5, .int v80), (0, .ref x0), (1, .ref a1), (2, .ref a2), (3, .ref a3), (4, .int x4)]) hx hb dL_law_619 hl (by decide) rfl (fun ls hl => ?_)
    refine lv_aload_n hx hb dL_law_621 rfl (lv_at hl 3 rfl) ?_
    refine lv_aload_n hx hb dL_law_622 rfl (lv_at hl 1 rfl) ?_
    refine lv_iload hx hb dL_law_623 (lv_at hl 5 rfl) ?_
    refine lv_iconst (v := 1) hx hb dL_law_625 (by decide) ?_
    refine lv_iadd hx hb dL_law_626 ?_
    refine r_sld hx hb hX hbl hbA hW h dL_law_627 (fun v81 h => ?_)
    refine lv_aload_n hx hb dL_law_628 rfl (lv_at hl 1 rfl) ?_
    refine lv_iload hx hb dL_law_629 (lv_at hl 5 rfl) ?_
    refine lv_iconst (v := 2) hx hb dL_law_631 (by decide) ?_
    refine lv_iadd hx hb dL_law_632 ?_
    refine r_sld hx hb hX hbl hbA hW h dL_law_633 (fun v82 h => ?_)
    obtain ⟨v85, X84, h83, h⟩ := bnd2_inv h
    refine r_cI hW (run_V (rest := []) C hW (t_X10_whose h83) mk_X10_whose vk_L_115 (kd_X10_whose h83) rfl rfl (by decide) ⟨Nat.le_of_ble_eq_true rfl, Nat.le_of_ble_eq_true rfl⟩ (l_cs hm hcap) rfl rfl (Nat.le_of_ble_eq_true rfl) hl.1 dL_law_634) (fun H locs hW _ => ?_)
    refine lv_istore (lv' := [(6, .int v85), (5, .int v80), (0, .ref x0), (1, .ref a1), (2, .ref a2), (3, .ref a3), (4, .int x4)]) hx hb dL_law_637 hl (by decide) rfl (fun ls hl => ?_)
    refine lv_aload_n hx hb dL_law_639 rfl (lv_at hl 4 rfl) ?_
    obtain ⟨v87, h86, h⟩ := bnd_inv h
    refine r_cI hW (run_V (rest := []) C hW (t_X10_thrown h86) mk_X10_thrown vk_L_91 (kd_X10_thrown h86) rfl rfl (by decide) ⟨Nat.le_of_ble_eq_true rfl, Nat.le_of_ble_eq_true rfl⟩ (l_cs hm hcap) rfl rfl (Nat.le_of_ble_eq_true rfl) hl.1 dL_law_640) (fun H locs hW _ => ?_)
    refine lv_iload hx hb dL_law_643 (lv_at hl 1 rfl) ?_
    refine r_br h (lv_icmp_eq (tgt := 650) hx hb dL_law_645 (by decide)) (fun h => ?_) (fun h => ?_)
    · refine lv_iload hx hb dL_law_650 (lv_at hl 1 rfl) ?_
      refine r_brn h (lv_if_ne (tgt := 667) hx hb dL_law_652 (by decide)) (fun h => ?_) (fun h => ?_)
      · refine lv_goto (tgt := 1887) hx hb dL_law_667 (by decide) ?_
        exact hk hW hm (lv_sub hl [2, 3, 4, 5, 6] rfl) h
      · refine lv_aload_n hx hb dL_law_655 rfl (lv_at hl 5 rfl) ?_
        refine lv_iconst (v := 0) hx hb dL_law_656 (by decide) ?_
        refine r_lald C hW h dL_law_657 (fun v88 h => ?_)
        refine lv_iload hx hb dL_law_658 (lv_at hl 0 rfl) ?_
        refine lv_i2l (v := (Int32.toInt64 v85)) hx hb dL_law_660 rfl ?_
        refine W.lcmp hx hb dL_law_661 ?_
        refine r_br h (lv_if_eq (tgt := 667) hx hb dL_law_662 (by decide)) (fun h => ?_) (fun h => ?_)
        · refine lv_goto (tgt := 1887) hx hb dL_law_667 (by decide) ?_
          exact hk hW hm (lv_sub hl [2, 3, 4, 5, 6] rfl) h
        · refine lv_iconst (v := 0) hx hb dL_law_665 (by decide) ?_
          cases h
    · refine lv_iconst (v := 0) hx hb dL_law_648 (by decide) ?_
      cases h
  refine r_case h (fun ec h => ?_) (fun nc8 h => ?_)
  · refine lv_tableIn (tgt := 670) (off := 630) hx hb dL_law_40 (by rw [ec]; decide) (by rw [ec]; decide) (by rw [ec]; rfl) (by decide) ?_
    refine lv_aload_n hx hb dL_law_670 rfl (lv_at hl 1 rfl) ?_
    refine lv_aload_n hx hb dL_law_671 rfl (lv_at hl 0 rfl) ?_
    refine lv_iload hx hb dL_law_672 (lv_at hl 4 rfl) ?_
    refine lv_iconst (v := 1) hx hb dL_law_674 (by decide) ?_
    refine lv_iadd hx hb dL_law_675 ?_
    refine r_sld hx hb hX hbl hbA hW h dL_law_676 (fun v89 h => ?_)
    refine lv_aload_n hx hb dL_law_677 rfl (lv_at hl 0 rfl) ?_
    refine lv_iload hx hb dL_law_678 (lv_at hl 4 rfl) ?_
    refine lv_iconst (v := 2) hx hb dL_law_680 (by decide) ?_
    refine lv_iadd hx hb dL_law_681 ?_
    refine r_sld hx hb hX hbl hbA hW h dL_law_682 (fun v90 h => ?_)
    refine lv_aload_n hx hb dL_law_683 rfl (lv_at hl 3 rfl) ?_
    obtain ⟨v91, σ91, X91, c91, d91, cu9, du9, h91, h, hcu, hdu⟩ := bndH_inv h
    refine l_SW (rest := []) C hW hzz hcu hdu hm hcap (t_L_conflict hst h91) mkw_L_conflict sk_L_116 ⟨Nat.le_of_ble_eq_true rfl, Nat.le_of_ble_eq_true rfl⟩ rfl rfl (Nat.le_of_ble_eq_true rfl) hl.1 dL_law_684 (fun H locs cells slots hW hm => ?_)
    refine lv_istore (lv' := [(5, .int v91), (0, .ref x0), (1, .ref a1), (2, .ref a2), (3, .ref a3), (4, .int x4)]) hx hb dL_law_687 hl (by decide) rfl (fun ls hl => ?_)
    refine lv_aload_n hx hb dL_law_689 rfl (lv_at hl 3 rfl) ?_
    refine lv_aload_n hx hb dL_law_690 rfl (lv_at hl 1 rfl) ?_
    refine lv_iload hx hb dL_law_691 (lv_at hl 5 rfl) ?_
    refine lv_iconst (v := 1) hx hb dL_law_693 (by decide) ?_
    refine lv_iadd hx hb dL_law_694 ?_
    refine r_sld hx hb hX hbl hbA hW h dL_law_695 (fun v92 h => ?_)
    refine lv_aload_n hx hb dL_law_696 rfl (lv_at hl 1 rfl) ?_
    refine lv_iload hx hb dL_law_697 (lv_at hl 5 rfl) ?_
    refine lv_iconst (v := 2) hx hb dL_law_699 (by decide) ?_
    refine lv_iadd hx hb dL_law_700 ?_
    refine r_sld hx hb hX hbl hbA hW h dL_law_701 (fun v93 h => ?_)
    obtain ⟨v96, X95, h94, h⟩ := bnd2_inv h
    refine r_cI hW (run_V (rest := []) C hW (t_X10_conflict h94) mk_X10_conflict vk_L_118 (kd_X10_conflict h94) rfl rfl (by decide) ⟨Nat.le_of_ble_eq_true rfl, Nat.le_of_ble_eq_true rfl⟩ (l_cs hm hcap) rfl rfl (Nat.le_of_ble_eq_true rfl) hl.1 dL_law_702) (fun H locs hW _ => ?_)
    refine lv_istore (lv' := [(6, .int v96), (5, .int v91), (0, .ref x0), (1, .ref a1), (2, .ref a2), (3, .ref a3), (4, .int x4)]) hx hb dL_law_705 hl (by decide) rfl (fun ls hl => ?_)
    refine lv_aload_n hx hb dL_law_707 rfl (lv_at hl 4 rfl) ?_
    obtain ⟨v98, h97, h⟩ := bnd_inv h
    refine r_cI hW (run_V (rest := []) C hW (t_X10_thrown h97) mk_X10_thrown vk_L_91 (kd_X10_thrown h97) rfl rfl (by decide) ⟨Nat.le_of_ble_eq_true rfl, Nat.le_of_ble_eq_true rfl⟩ (l_cs hm hcap) rfl rfl (Nat.le_of_ble_eq_true rfl) hl.1 dL_law_708) (fun H locs hW _ => ?_)
    refine lv_iload hx hb dL_law_711 (lv_at hl 1 rfl) ?_
    refine r_br h (lv_icmp_eq (tgt := 718) hx hb dL_law_713 (by decide)) (fun h => ?_) (fun h => ?_)
    · refine lv_iload hx hb dL_law_718 (lv_at hl 1 rfl) ?_
      refine r_brn h (lv_if_ne (tgt := 735) hx hb dL_law_720 (by decide)) (fun h => ?_) (fun h => ?_)
      · refine lv_goto (tgt := 1887) hx hb dL_law_735 (by decide) ?_
        exact hk hW hm (lv_sub hl [2, 3, 4, 5, 6] rfl) h
      · refine lv_aload_n hx hb dL_law_723 rfl (lv_at hl 5 rfl) ?_
        refine lv_iconst (v := 0) hx hb dL_law_724 (by decide) ?_
        refine r_lald C hW h dL_law_725 (fun v99 h => ?_)
        refine lv_iload hx hb dL_law_726 (lv_at hl 0 rfl) ?_
        refine lv_i2l (v := (Int32.toInt64 v96)) hx hb dL_law_728 rfl ?_
        refine W.lcmp hx hb dL_law_729 ?_
        refine r_br h (lv_if_eq (tgt := 735) hx hb dL_law_730 (by decide)) (fun h => ?_) (fun h => ?_)
        · refine lv_goto (tgt := 1887) hx hb dL_law_735 (by decide) ?_
          exact hk hW hm (lv_sub hl [2, 3, 4, 5, 6] rfl) h
        · refine lv_iconst (v := 0) hx hb dL_law_733 (by decide) ?_
          cases h
    · refine lv_iconst (v := 0) hx hb dL_law_716 (by decide) ?_
      cases h
  refine r_case h (fun ec h => ?_) (fun nc9 h => ?_)
  · refine lv_tableIn (tgt := 738) (off := 698) hx hb dL_law_40 (by rw [ec]; decide) (by rw [ec]; decide) (by rw [ec]; rfl) (by decide) ?_
    refine lv_aload_n hx hb dL_law_738 rfl (lv_at hl 1 rfl) ?_
    refine lv_aload_n hx hb dL_law_739 rfl (lv_at hl 0 rfl) ?_
    refine lv_iload hx hb dL_law_740 (lv_at hl 4 rfl) ?_
    refine lv_iconst (v := 1) hx hb dL_law_742 (by decide) ?_
    refine lv_iadd hx hb dL_law_743 ?_
    refine r_sld hx hb hX hbl hbA hW h dL_law_744 (fun v100 h => ?_)
    refine lv_aload_n hx hb dL_law_745 rfl (lv_at hl 0 rfl) ?_
    refine lv_iload hx hb dL_law_746 (lv_at hl 4 rfl) ?_
    refine lv_iconst (v := 2) hx hb dL_law_748 (by decide) ?_
    refine lv_iadd hx hb dL_law_749 ?_
    refine r_sld hx hb hX hbl hbA hW h dL_law_750 (fun v101 h => ?_)
    refine lv_aload_n hx hb dL_law_751 rfl (lv_at hl 0 rfl) ?_
    refine lv_iload hx hb dL_law_752 (lv_at hl 4 rfl) ?_
    refine lv_iconst (v := 3) hx hb dL_law_754 (by decide) ?_
    refine lv_iadd hx hb dL_law_755 ?_
    refine r_sld hx hb hX hbl hbA hW h dL_law_756 (fun v102 h => ?_)
    refine lv_aload_n hx hb dL_law_757 rfl (lv_at hl 0 rfl) ?_
    refine lv_iload hx hb dL_law_758 (lv_at hl 4 rfl) ?_
    refine lv_iconst (v := 4) hx hb dL_law_760 (by decide) ?_
    refine lv_iadd hx hb dL_law_761 ?_
    refine r_sld hx hb hX hbl hbA hW h dL_law_762 (fun v103 h => ?_)
    refine lv_aload_n hx hb dL_law_763 rfl (lv_at hl 3 rfl) ?_
    obtain ⟨v104, σ104, X104, c104, d104, cu9, du9, h104, h, hcu, hdu⟩ := bndH_inv h
    refine l_SW (rest := []) C hW hzz hcu hdu hm hcap (t_L_set hst h104) mkw_L_set sk_L_119 ⟨Nat.le_of_ble_eq_true rfl, Nat.le_of_ble_eq_true rfl⟩ rfl rfl (Nat.le_of_ble_eq_true rfl) hl.1 dL_law_764 (fun H locs cells slots hW hm => ?_)
    refine lv_istore (lv' := [(5, .int v104), (0, .ref x0), (1, .ref a1), (2, .ref a2), (3, .ref a3), (4, .int x4)]) hx hb dL_law_767 hl (by decide) rfl (fun ls hl => ?_)
    refine lv_aload_n hx hb dL_law_769 rfl (lv_at hl 3 rfl) ?_
    refine lv_aload_n hx hb dL_law_770 rfl (lv_at hl 1 rfl) ?_
    refine lv_iload hx hb dL_law_771 (lv_at hl 5 rfl) ?_
    refine lv_iconst (v := 1) hx hb dL_law_773 (by decide) ?_
    refine lv_iadd hx hb dL_law_774 ?_
    refine r_sld hx hb hX hbl hbA hW h dL_law_775 (fun v105 h => ?_)
    refine lv_aload_n hx hb dL_law_776 rfl (lv_at hl 1 rfl) ?_
    refine lv_iload hx hb dL_law_777 (lv_at hl 5 rfl) ?_
    refine lv_iconst (v := 2) hx hb dL_law_779 (by decide) ?_
    refine lv_iadd hx hb dL_law_780 ?_
    refine r_sld hx hb hX hbl hbA hW h dL_law_781 (fun v106 h => ?_)
    refine lv_aload_n hx hb dL_law_782 rfl (lv_at hl 1 rfl) ?_
    refine lv_iload hx hb dL_law_783 (lv_at hl 5 rfl) ?_
    refine lv_iconst (v := 3) hx hb dL_law_785 (by decide) ?_
    refine lv_iadd hx hb dL_law_786 ?_
    refine r_sld hx hb hX hbl hbA hW h dL_law_787 (fun v107 h => ?_)
    refine lv_aload_n hx hb dL_law_788 rfl (lv_at hl 1 rfl) ?_
    refine lv_iload hx hb dL_law_789 (lv_at hl 5 rfl) ?_
    refine lv_iconst (v := 4) hx hb dL_law_791 (by decide) ?_
    refine lv_iadd hx hb dL_law_792 ?_
    refine r_sld hx hb hX hbl hbA hW h dL_law_793 (fun v108 h => ?_)
    obtain ⟨v111, X110, h109, h⟩ := bnd2_inv h
    refine r_cI hW (run_V (rest := []) C hW (t_X10_set h109) mk_X10_set vk_L_122 (kd_X10_set h109) rfl rfl (by decide) ⟨Nat.le_of_ble_eq_true rfl, Nat.le_of_ble_eq_true rfl⟩ (l_cs hm hcap) rfl rfl (Nat.le_of_ble_eq_true rfl) hl.1 dL_law_794) (fun H locs hW _ => ?_)
    refine lv_istore (lv' := [(6, .int v111), (5, .int v104), (0, .ref x0), (1, .ref a1), (2, .ref a2), (3, .ref a3), (4, .int x4)]) hx hb dL_law_797 hl (by decide) rfl (fun ls hl => ?_)
    refine lv_aload_n hx hb dL_law_799 rfl (lv_at hl 4 rfl) ?_
    obtain ⟨v113, h112, h⟩ := bnd_inv h
    refine r_cI hW (run_V (rest := []) C hW (t_X10_thrown h112) mk_X10_thrown vk_L_91 (kd_X10_thrown h112) rfl rfl (by decide) ⟨Nat.le_of_ble_eq_true rfl, Nat.le_of_ble_eq_true rfl⟩ (l_cs hm hcap) rfl rfl (Nat.le_of_ble_eq_true rfl) hl.1 dL_law_800) (fun H locs hW _ => ?_)
    refine lv_iload hx hb dL_law_803 (lv_at hl 1 rfl) ?_
    refine r_br h (lv_icmp_eq (tgt := 810) hx hb dL_law_805 (by decide)) (fun h => ?_) (fun h => ?_)
    · refine lv_iload hx hb dL_law_810 (lv_at hl 1 rfl) ?_
      refine r_brn h (lv_if_ne (tgt := 834) hx hb dL_law_812 (by decide)) (fun h => ?_) (fun h => ?_)
      · refine lv_goto (tgt := 1887) hx hb dL_law_834 (by decide) ?_
        exact hk hW hm (lv_sub hl [2, 3, 4, 5, 6] rfl) h
      · refine lv_aload_n hx hb dL_law_815 rfl (lv_at hl 5 rfl) ?_
        refine lv_iconst (v := 0) hx hb dL_law_816 (by decide) ?_
        refine r_lald C hW h dL_law_817 (fun v114 h => ?_)
        refine lv_iload hx hb dL_law_818 (lv_at hl 0 rfl) ?_
        refine r_br h (lv_if_eq (tgt := 827) hx hb dL_law_820 (by decide)) (fun h => ?_) (fun h => ?_)
        · refine lv_lconst (v := 0) hx hb dL_law_827 (by decide) ?_
          exact b_L_law_828 C hst hcap hX hbl hbA hk hW hm (lv_sub hl [2, 3, 4, 5, 6] rfl) h
        · refine lv_lconst (v := 1) hx hb dL_law_823 (by decide) ?_
          refine lv_goto (tgt := 828) hx hb dL_law_824 (by decide) ?_
          exact b_L_law_828 C hst hcap hX hbl hbA hk hW hm (lv_sub hl [2, 3, 4, 5, 6] rfl) h
    · refine lv_iconst (v := 0) hx hb dL_law_808 (by decide) ?_
      cases h
  refine r_case h (fun ec h => ?_) (fun nc10 h => ?_)
  · refine lv_tableIn (tgt := 837) (off := 797) hx hb dL_law_40 (by rw [ec]; decide) (by rw [ec]; decide) (by rw [ec]; rfl) (by decide) ?_
    refine lv_aload_n hx hb dL_law_837 rfl (lv_at hl 1 rfl) ?_
    refine lv_aload_n hx hb dL_law_838 rfl (lv_at hl 0 rfl) ?_
    refine lv_iload hx hb dL_law_839 (lv_at hl 4 rfl) ?_
    refine lv_iconst (v := 1) hx hb dL_law_841 (by decide) ?_
    refine lv_iadd hx hb dL_law_842 ?_
    refine r_sld hx hb hX hbl hbA hW h dL_law_843 (fun v115 h => ?_)
    refine lv_aload_n hx hb dL_law_844 rfl (lv_at hl 0 rfl) ?_
    refine lv_iload hx hb dL_law_845 (lv_at hl 4 rfl) ?_
    refine lv_iconst (v := 2) hx hb dL_law_847 (by decide) ?_
    refine lv_iadd hx hb dL_law_848 ?_
    refine r_sld hx hb hX hbl hbA hW h dL_law_849 (fun v116 h => ?_)
    refine lv_aload_n hx hb dL_law_850 rfl (lv_at hl 3 rfl) ?_
    obtain ⟨v117, σ117, X117, c117, d117, cu9, du9, h117, h, hcu, hdu⟩ := bndH_inv h
    refine l_SW (rest := []) C hW hzz hcu hdu hm hcap (t_L_insert hst h117) mkw_L_insert sk_L_123 ⟨Nat.le_of_ble_eq_true rfl, Nat.le_of_ble_eq_true rfl⟩ rfl rfl (Nat.le_of_ble_eq_true rfl) hl.1 dL_law_851 (fun H locs cells slots hW hm => ?_)
    refine lv_istore (lv' := [(5, .int v117), (0, .ref x0), (1, .ref a1), (2, .ref a2), (3, .ref a3), (4, .int x4)]) hx hb dL_law_854 hl (by decide) rfl (fun ls hl => ?_)
    refine lv_aload_n hx hb dL_law_856 rfl (lv_at hl 3 rfl) ?_
    refine lv_aload_n hx hb dL_law_857 rfl (lv_at hl 1 rfl) ?_
    refine lv_iload hx hb dL_law_858 (lv_at hl 5 rfl) ?_
    refine lv_iconst (v := 1) hx hb dL_law_860 (by decide) ?_
    refine lv_iadd hx hb dL_law_861 ?_
    refine r_sld hx hb hX hbl hbA hW h dL_law_862 (fun v118 h => ?_)
    refine lv_aload_n hx hb dL_law_863 rfl (lv_at hl 1 rfl) ?_
    refine lv_iload hx hb dL_law_864 (lv_at hl 5 rfl) ?_
    refine lv_iconst (v := 2) hx hb dL_law_866 (by decide) ?_
    refine lv_iadd hx hb dL_law_867 ?_
    refine r_sld hx hb hX hbl hbA hW h dL_law_868 (fun v119 h => ?_)
    obtain ⟨v122, X121, h120, h⟩ := bnd2_inv h
    refine r_cI hW (run_V (rest := []) C hW (t_X10_insert h120) mk_X10_insert vk_L_125 (kd_X10_insert h120) rfl rfl (by decide) ⟨Nat.le_of_ble_eq_true rfl, Nat.le_of_ble_eq_true rfl⟩ (l_cs hm hcap) rfl rfl (Nat.le_of_ble_eq_true rfl) hl.1 dL_law_869) (fun H locs hW _ => ?_)
    refine lv_istore (lv' := [(6, .int v122), (5, .int v117), (0, .ref x0), (1, .ref a1), (2, .ref a2), (3, .ref a3), (4, .int x4)]) hx hb dL_law_872 hl (by decide) rfl (fun ls hl => ?_)
    refine lv_aload_n hx hb dL_law_874 rfl (lv_at hl 4 rfl) ?_
    obtain ⟨v124, h123, h⟩ := bnd_inv h
    refine r_cI hW (run_V (rest := []) C hW (t_X10_thrown h123) mk_X10_thrown vk_L_91 (kd_X10_thrown h123) rfl rfl (by decide) ⟨Nat.le_of_ble_eq_true rfl, Nat.le_of_ble_eq_true rfl⟩ (l_cs hm hcap) rfl rfl (Nat.le_of_ble_eq_true rfl) hl.1 dL_law_875) (fun H locs hW _ => ?_)
    refine lv_iload hx hb dL_law_878 (lv_at hl 1 rfl) ?_
    refine r_br h (lv_icmp_eq (tgt := 885) hx hb dL_law_880 (by decide)) (fun h => ?_) (fun h => ?_)
    · refine lv_iload hx hb dL_law_885 (lv_at hl 1 rfl) ?_
      refine r_brn h (lv_if_ne (tgt := 909) hx hb dL_law_887 (by decide)) (fun h => ?_) (fun h => ?_)
      · refine lv_goto (tgt := 1887) hx hb dL_law_909 (by decide) ?_
        exact hk hW hm (lv_sub hl [2, 3, 4, 5, 6] rfl) h
      · refine lv_aload_n hx hb dL_law_890 rfl (lv_at hl 5 rfl) ?_
        refine lv_iconst (v := 0) hx hb dL_law_891 (by decide) ?_
        refine r_lald C hW h dL_law_892 (fun v125 h => ?_)
        refine lv_iload hx hb dL_law_893 (lv_at hl 0 rfl) ?_
        refine r_br h (lv_if_eq (tgt := 902) hx hb dL_law_895 (by decide)) (fun h => ?_) (fun h => ?_)
        · refine lv_lconst (v := 0) hx hb dL_law_902 (by decide) ?_
          exact b_L_law_903 C hst hcap hX hbl hbA hk hW hm (lv_sub hl [2, 3, 4, 5, 6] rfl) h
        · refine lv_lconst (v := 1) hx hb dL_law_898 (by decide) ?_
          refine lv_goto (tgt := 903) hx hb dL_law_899 (by decide) ?_
          exact b_L_law_903 C hst hcap hX hbl hbA hk hW hm (lv_sub hl [2, 3, 4, 5, 6] rfl) h
    · refine lv_iconst (v := 0) hx hb dL_law_883 (by decide) ?_
      cases h
  refine r_case h (fun ec h => ?_) (fun nc11 h => ?_)
  · refine lv_tableIn (tgt := 912) (off := 872) hx hb dL_law_40 (by rw [ec]; decide) (by rw [ec]; decide) (by rw [ec]; rfl) (by decide) ?_
    refine lv_aload_n hx hb dL_law_912 rfl (lv_at hl 1 rfl) ?_
    refine lv_aload_n hx hb dL_law_913 rfl (lv_at hl 0 rfl) ?_
    refine lv_iload hx hb dL_law_914 (lv_at hl 4 rfl) ?_
    refine lv_iconst (v := 1) hx hb dL_law_916 (by decide) ?_
    refine lv_iadd hx hb dL_law_917 ?_
    refine r_sld hx hb hX hbl hbA hW h dL_law_918 (fun v126 h => ?_)
    refine lv_aload_n hx hb dL_law_919 rfl (lv_at hl 0 rfl) ?_
    refine lv_iload hx hb dL_law_920 (lv_at hl 4 rfl) ?_
    refine lv_iconst (v := 2) hx hb dL_law_922 (by decide) ?_
    refine lv_iadd hx hb dL_law_923 ?_
    refine r_sld hx hb hX hbl hbA hW h dL_law_924 (fun v127 h => ?_)
    refine lv_aload_n hx hb dL_law_925 rfl (lv_at hl 3 rfl) ?_
    obtain ⟨v128, σ128, X128, c128, d128, cu9, du9, h128, h, hcu, hdu⟩ := bndH_inv h
    refine l_SW (rest := []) C hW hzz hcu hdu hm hcap (t_L_delete hst h128) mkw_L_delete sk_L_126 ⟨Nat.le_of_ble_eq_true rfl, Nat.le_of_ble_eq_true rfl⟩ rfl rfl (Nat.le_of_ble_eq_true rfl) hl.1 dL_law_926 (fun H locs cells slots hW hm => ?_)
    refine lv_istore (lv' := [(5, .int v128), (0, .ref x0), (1, .ref a1), (2, .ref a2), (3, .ref a3), (4, .int x4)]) hx hb dL_law_929 hl (by decide) rfl (fun ls hl => ?_)
    refine lv_aload_n hx hb dL_law_931 rfl (lv_at hl 3 rfl) ?_
    refine lv_aload_n hx hb dL_law_932 rfl (lv_at hl 1 rfl) ?_
    refine lv_iload hx hb dL_law_933 (lv_at hl 5 rfl) ?_
    refine lv_iconst (v := 1) hx hb dL_law_935 (by decide) ?_
    refine lv_iadd hx hb dL_law_936 ?_
    refine r_sld hx hb hX hbl hbA hW h dL_law_937 (fun v129 h => ?_)
    refine lv_aload_n hx hb dL_law_938 rfl (lv_at hl 1 rfl) ?_
    refine lv_iload hx hb dL_law_939 (lv_at hl 5 rfl) ?_
    refine lv_iconst (v := 2) hx hb dL_law_941 (by decide) ?_
    refine lv_iadd hx hb dL_law_942 ?_
    refine r_sld hx hb hX hbl hbA hW h dL_law_943 (fun v130 h => ?_)
    obtain ⟨v133, X132, h131, h⟩ := bnd2_inv h
    refine r_cI hW (run_V (rest := []) C hW (t_X10_delete h131) mk_X10_delete vk_L_128 (kd_X10_delete h131) rfl rfl (by decide) ⟨Nat.le_of_ble_eq_true rfl, Nat.le_of_ble_eq_true rfl⟩ (l_cs hm hcap) rfl rfl (Nat.le_of_ble_eq_true rfl) hl.1 dL_law_944) (fun H locs hW _ => ?_)
    refine lv_istore (lv' := [(6, .int v133), (5, .int v128), (0, .ref x0), (1, .ref a1), (2, .ref a2), (3, .ref a3), (4, .int x4)]) hx hb dL_law_947 hl (by decide) rfl (fun ls hl => ?_)
    refine lv_aload_n hx hb dL_law_949 rfl (lv_at hl 4 rfl) ?_
    obtain ⟨v135, h134, h⟩ := bnd_inv h
    refine r_cI hW (run_V (rest := []) C hW (t_X10_thrown h134) mk_X10_thrown vk_L_91 (kd_X10_thrown h134) rfl rfl (by decide) ⟨Nat.le_of_ble_eq_true rfl, Nat.le_of_ble_eq_true rfl⟩ (l_cs hm hcap) rfl rfl (Nat.le_of_ble_eq_true rfl) hl.1 dL_law_950) (fun H locs hW _ => ?_)
    refine lv_iload hx hb dL_law_953 (lv_at hl 1 rfl) ?_
    refine r_br h (lv_icmp_eq (tgt := 960) hx hb dL_law_955 (by decide)) (fun h => ?_) (fun h => ?_)
    · refine lv_iload hx hb dL_law_960 (lv_at hl 1 rfl) ?_
      refine r_brn h (lv_if_ne (tgt := 984) hx hb dL_law_962 (by decide)) (fun h => ?_) (fun h => ?_)
      · refine lv_goto (tgt := 1887) hx hb dL_law_984 (by decide) ?_
        exact hk hW hm (lv_sub hl [2, 3, 4, 5, 6] rfl) h
      · refine lv_aload_n hx hb dL_law_965 rfl (lv_at hl 5 rfl) ?_
        refine lv_iconst (v := 0) hx hb dL_law_966 (by decide) ?_
        refine r_lald C hW h dL_law_967 (fun v136 h => ?_)
        refine lv_iload hx hb dL_law_968 (lv_at hl 0 rfl) ?_
        refine r_br h (lv_if_eq (tgt := 977) hx hb dL_law_970 (by decide)) (fun h => ?_) (fun h => ?_)
        · refine lv_lconst (v := 0) hx hb dL_law_977 (by decide) ?_
          exact b_L_law_978 C hst hcap hX hbl hbA hk hW hm (lv_sub hl [2, 3, 4, 5, 6] rfl) h
        · refine lv_lconst (v := 1) hx hb dL_law_973 (by decide) ?_
          refine lv_goto (tgt := 978) hx hb dL_law_974 (by decide) ?_
          exact b_L_law_978 C hst hcap hX hbl hbA hk hW hm (lv_sub hl [2, 3, 4, 5, 6] rfl) h
    · refine lv_iconst (v := 0) hx hb dL_law_958 (by decide) ?_
      cases h
  refine r_case h (fun ec h => ?_) (fun nc12 h => ?_)
  · refine lv_tableIn (tgt := 987) (off := 947) hx hb dL_law_40 (by rw [ec]; decide) (by rw [ec]; decide) (by rw [ec]; rfl) (by decide) ?_
    refine lv_aload_n hx hb dL_law_987 rfl (lv_at hl 1 rfl) ?_
    refine lv_aload_n hx hb dL_law_988 rfl (lv_at hl 0 rfl) ?_
    refine lv_iload hx hb dL_law_989 (lv_at hl 4 rfl) ?_
    refine lv_iconst (v := 1) hx hb dL_law_991 (by decide) ?_
    refine lv_iadd hx hb dL_law_992 ?_
    refine r_sld hx hb hX hbl hbA hW h dL_law_993 (fun v137 h => ?_)
    refine lv_aload_n hx hb dL_law_994 rfl (lv_at hl 0 rfl) ?_
    refine lv_iload hx hb dL_law_995 (lv_at hl 4 rfl) ?_
    refine lv_iconst (v := 2) hx hb dL_law_997 (by decide) ?_
    refine lv_iadd hx hb dL_law_998 ?_
    refine r_sld hx hb hX hbl hbA hW h dL_law_999 (fun v138 h => ?_)
    refine lv_aload_n hx hb dL_law_1000 rfl (lv_at hl 0 rfl) ?_
    refine lv_iload hx hb dL_law_1001 (lv_at hl 4 rfl) ?_
    refine lv_iconst (v := 3) hx hb dL_law_1003 (by decide) ?_
    refine lv_iadd hx hb dL_law_1004 ?_
    refine r_sld hx hb hX hbl hbA hW h dL_law_1005 (fun v139 h => ?_)
    refine lv_aload_n hx hb dL_law_1006 rfl (lv_at hl 3 rfl) ?_
    obtain ⟨v140, σ140, X140, c140, d140, cu9, du9, h140, h, hcu, hdu⟩ := bndH_inv h
    refine l_SW (rest := []) C hW hzz hcu hdu hm hcap (t_L_rename hst h140) mkw_L_rename sk_L_129 ⟨Nat.le_of_ble_eq_true rfl, Nat.le_of_ble_eq_true rfl⟩ rfl rfl (Nat.le_of_ble_eq_true rfl) hl.1 dL_law_1007 (fun H locs cells slots hW hm => ?_)
    refine lv_istore (lv' := [(5, .int v140), (0, .ref x0), (1, .ref a1), (2, .ref a2), (3, .ref a3), (4, .int x4)]) hx hb dL_law_1010 hl (by decide) rfl (fun ls hl => ?_)
    refine lv_aload_n hx hb dL_law_1012 rfl (lv_at hl 3 rfl) ?_
    refine lv_aload_n hx hb dL_law_1013 rfl (lv_at hl 1 rfl) ?_
    refine lv_iload hx hb dL_law_1014 (lv_at hl 5 rfl) ?_
    refine lv_iconst (v := 1) hx hb dL_law_1016 (by decide) ?_
    refine lv_iadd hx hb dL_law_1017 ?_
    refine r_sld hx hb hX hbl hbA hW h dL_law_1018 (fun v141 h => ?_)
    refine lv_aload_n hx hb dL_law_1019 rfl (lv_at hl 1 rfl) ?_
    refine lv_iload hx hb dL_law_1020 (lv_at hl 5 rfl) ?_
    refine lv_iconst (v := 2) hx hb dL_law_1022 (by decide) ?_
    refine lv_iadd hx hb dL_law_1023 ?_
    refine r_sld hx hb hX hbl hbA hW h dL_law_1024 (fun v142 h => ?_)
    refine lv_aload_n hx hb dL_law_1025 rfl (lv_at hl 1 rfl) ?_
    refine lv_iload hx hb dL_law_1026 (lv_at hl 5 rfl) ?_
    refine lv_iconst (v := 3) hx hb dL_law_1028 (by decide) ?_
    refine lv_iadd hx hb dL_law_1029 ?_
    refine r_sld hx hb hX hbl hbA hW h dL_law_1030 (fun v143 h => ?_)
    obtain ⟨v146, X145, h144, h⟩ := bnd2_inv h
    refine r_cI hW (run_V (rest := []) C hW (t_X10_rename h144) mk_X10_rename vk_L_131 (kd_X10_rename h144) rfl rfl (by decide) ⟨Nat.le_of_ble_eq_true rfl, Nat.le_of_ble_eq_true rfl⟩ (l_cs hm hcap) rfl rfl (Nat.le_of_ble_eq_true rfl) hl.1 dL_law_1031) (fun H locs hW _ => ?_)
    refine lv_istore (lv' := [(6, .int v146), (5, .int v140), (0, .ref x0), (1, .ref a1), (2, .ref a2), (3, .ref a3), (4, .int x4)]) hx hb dL_law_1034 hl (by decide) rfl (fun ls hl => ?_)
    refine lv_aload_n hx hb dL_law_1036 rfl (lv_at hl 4 rfl) ?_
    obtain ⟨v148, h147, h⟩ := bnd_inv h
    refine r_cI hW (run_V (rest := []) C hW (t_X10_thrown h147) mk_X10_thrown vk_L_91 (kd_X10_thrown h147) rfl rfl (by decide) ⟨Nat.le_of_ble_eq_true rfl, Nat.le_of_ble_eq_true rfl⟩ (l_cs hm hcap) rfl rfl (Nat.le_of_ble_eq_true rfl) hl.1 dL_law_1037) (fun H locs hW _ => ?_)
    refine lv_iload hx hb dL_law_1040 (lv_at hl 1 rfl) ?_
    refine r_br h (lv_icmp_eq (tgt := 1047) hx hb dL_law_1042 (by decide)) (fun h => ?_) (fun h => ?_)
    · refine lv_iload hx hb dL_law_1047 (lv_at hl 1 rfl) ?_
      refine r_brn h (lv_if_ne (tgt := 1071) hx hb dL_law_1049 (by decide)) (fun h => ?_) (fun h => ?_)
      · refine lv_goto (tgt := 1887) hx hb dL_law_1071 (by decide) ?_
        exact hk hW hm (lv_sub hl [2, 3, 4, 5, 6] rfl) h
      · refine lv_aload_n hx hb dL_law_1052 rfl (lv_at hl 5 rfl) ?_
        refine lv_iconst (v := 0) hx hb dL_law_1053 (by decide) ?_
        refine r_lald C hW h dL_law_1054 (fun v149 h => ?_)
        refine lv_iload hx hb dL_law_1055 (lv_at hl 0 rfl) ?_
        refine r_br h (lv_if_eq (tgt := 1064) hx hb dL_law_1057 (by decide)) (fun h => ?_) (fun h => ?_)
        · refine lv_lconst (v := 0) hx hb dL_law_1064 (by decide) ?_
          exact b_L_law_1065 C hst hcap hX hbl hbA hk hW hm (lv_sub hl [2, 3, 4, 5, 6] rfl) h
        · refine lv_lconst (v := 1) hx hb dL_law_1060 (by decide) ?_
          refine lv_goto (tgt := 1065) hx hb dL_law_1061 (by decide) ?_
          exact b_L_law_1065 C hst hcap hX hbl hbA hk hW hm (lv_sub hl [2, 3, 4, 5, 6] rfl) h
    · refine lv_iconst (v := 0) hx hb dL_law_1045 (by decide) ?_
      cases h
  refine r_case h (fun ec h => ?_) (fun nc13 h => ?_)
  · refine lv_tableIn (tgt := 1074) (off := 1034) hx hb dL_law_40 (by rw [ec]; decide) (by rw [ec]; decide) (by rw [ec]; rfl) (by decide) ?_
    refine lv_aload_n hx hb dL_law_1074 rfl (lv_at hl 1 rfl) ?_
    refine lv_aload_n hx hb dL_law_1075 rfl (lv_at hl 0 rfl) ?_
    refine lv_iload hx hb dL_law_1076 (lv_at hl 4 rfl) ?_
    refine lv_iconst (v := 1) hx hb dL_law_1078 (by decide) ?_
    refine lv_iadd hx hb dL_law_1079 ?_
    refine r_sld hx hb hX hbl hbA hW h dL_law_1080 (fun v150 h => ?_)
    refine lv_aload_n hx hb dL_law_1081 rfl (lv_at hl 0 rfl) ?_
    refine lv_iload hx hb dL_law_1082 (lv_at hl 4 rfl) ?_
    refine lv_iconst (v := 2) hx hb dL_law_1084 (by decide) ?_
    refine lv_iadd hx hb dL_law_1085 ?_
    refine r_sld hx hb hX hbl hbA hW h dL_law_1086 (fun v151 h => ?_)
    refine lv_aload_n hx hb dL_law_1087 rfl (lv_at hl 0 rfl) ?_
    refine lv_iload hx hb dL_law_1088 (lv_at hl 4 rfl) ?_
    refine lv_iconst (v := 3) hx hb dL_law_1090 (by decide) ?_
    refine lv_iadd hx hb dL_law_1091 ?_
    refine r_sld hx hb hX hbl hbA hW h dL_law_1092 (fun v152 h => ?_)
    refine lv_aload_n hx hb dL_law_1093 rfl (lv_at hl 3 rfl) ?_
    obtain ⟨v153, σ153, X153, c153, d153, cu9, du9, h153, h, hcu, hdu⟩ := bndH_inv h
    refine l_SW (rest := []) C hW hzz hcu hdu hm hcap (t_L_retype hst h153) mkw_L_retype sk_L_132 ⟨Nat.le_of_ble_eq_true rfl, Nat.le_of_ble_eq_true rfl⟩ rfl rfl (Nat.le_of_ble_eq_true rfl) hl.1 dL_law_1094 (fun H locs cells slots hW hm => ?_)
    refine lv_istore (lv' := [(5, .int v153), (0, .ref x0), (1, .ref a1), (2, .ref a2), (3, .ref a3), (4, .int x4)]) hx hb dL_law_1097 hl (by decide) rfl (fun ls hl => ?_)
    refine lv_aload_n hx hb dL_law_1099 rfl (lv_at hl 3 rfl) ?_
    refine lv_aload_n hx hb dL_law_1100 rfl (lv_at hl 1 rfl) ?_
    refine lv_iload hx hb dL_law_1101 (lv_at hl 5 rfl) ?_
    refine lv_iconst (v := 1) hx hb dL_law_1103 (by decide) ?_
    refine lv_iadd hx hb dL_law_1104 ?_
    refine r_sld hx hb hX hbl hbA hW h dL_law_1105 (fun v154 h => ?_)
    refine lv_aload_n hx hb dL_law_1106 rfl (lv_at hl 1 rfl) ?_
    refine lv_iload hx hb dL_law_1107 (lv_at hl 5 rfl) ?_
    refine lv_iconst (v := 2) hx hb dL_law_1109 (by decide) ?_
    refine lv_iadd hx hb dL_law_1110 ?_
    refine r_sld hx hb hX hbl hbA hW h dL_law_1111 (fun v155 h => ?_)
    refine lv_aload_n hx hb dL_law_1112 rfl (lv_at hl 1 rfl) ?_
    refine lv_iload hx hb dL_law_1113 (lv_at hl 5 rfl) ?_
    refine lv_iconst (v := 3) hx hb dL_law_1115 (by decide) ?_
    refine lv_iadd hx hb dL_law_1116 ?_
    refine r_sld hx hb hX hbl hbA hW h dL_law_1117 (fun v156 h => ?_)
    obtain ⟨v159, X158, h157, h⟩ := bnd2_inv h
    refine r_cI hW (run_V (rest := []) C hW (t_X10_retype h157) mk_X10_retype vk_L_134 (kd_X10_retype h157) rfl rfl (by decide) ⟨Nat.le_of_ble_eq_true rfl, Nat.le_of_ble_eq_true rfl⟩ (l_cs hm hcap) rfl rfl (Nat.le_of_ble_eq_true rfl) hl.1 dL_law_1118) (fun H locs hW _ => ?_)
    refine lv_istore (lv' := [(6, .int v159), (5, .int v153), (0, .ref x0), (1, .ref a1), (2, .ref a2), (3, .ref a3), (4, .int x4)]) hx hb dL_law_1121 hl (by decide) rfl (fun ls hl => ?_)
    refine lv_aload_n hx hb dL_law_1123 rfl (lv_at hl 4 rfl) ?_
    obtain ⟨v161, h160, h⟩ := bnd_inv h
    refine r_cI hW (run_V (rest := []) C hW (t_X10_thrown h160) mk_X10_thrown vk_L_91 (kd_X10_thrown h160) rfl rfl (by decide) ⟨Nat.le_of_ble_eq_true rfl, Nat.le_of_ble_eq_true rfl⟩ (l_cs hm hcap) rfl rfl (Nat.le_of_ble_eq_true rfl) hl.1 dL_law_1124) (fun H locs hW _ => ?_)
    refine lv_iload hx hb dL_law_1127 (lv_at hl 1 rfl) ?_
    refine r_br h (lv_icmp_eq (tgt := 1134) hx hb dL_law_1129 (by decide)) (fun h => ?_) (fun h => ?_)
    · refine lv_iload hx hb dL_law_1134 (lv_at hl 1 rfl) ?_
      refine r_brn h (lv_if_ne (tgt := 1158) hx hb dL_law_1136 (by decide)) (fun h => ?_) (fun h => ?_)
      · refine lv_goto (tgt := 1887) hx hb dL_law_1158 (by decide) ?_
        exact hk hW hm (lv_sub hl [2, 3, 4, 5, 6] rfl) h
      · refine lv_aload_n hx hb dL_law_1139 rfl (lv_at hl 5 rfl) ?_
        refine lv_iconst (v := 0) hx hb dL_law_1140 (by decide) ?_
        refine r_lald C hW h dL_law_1141 (fun v162 h => ?_)
        refine lv_iload hx hb dL_law_1142 (lv_at hl 0 rfl) ?_
        refine r_br h (lv_if_eq (tgt := 1151) hx hb dL_law_1144 (by decide)) (fun h => ?_) (fun h => ?_)
        · refine lv_lconst (v := 0) hx hb dL_law_1151 (by decide) ?_
          exact b_L_law_1152 C hst hcap hX hbl hbA hk hW hm (lv_sub hl [2, 3, 4, 5, 6] rfl) h
        · refine lv_lconst (v := 1) hx hb dL_law_1147 (by decide) ?_
          refine lv_goto (tgt := 1152) hx hb dL_law_1148 (by decide) ?_
          exact b_L_law_1152 C hst hcap hX hbl hbA hk hW hm (lv_sub hl [2, 3, 4, 5, 6] rfl) h
    · refine lv_iconst (v := 0) hx hb dL_law_1132 (by decide) ?_
      cases h
  refine r_case h (fun ec h => ?_) (fun nc14 h => ?_)
  · refine lv_tableIn (tgt := 1161) (off := 1121) hx hb dL_law_40 (by rw [ec]; decide) (by rw [ec]; decide) (by rw [ec]; rfl) (by decide) ?_
    refine lv_aload_n hx hb dL_law_1161 rfl (lv_at hl 1 rfl) ?_
    refine lv_aload_n hx hb dL_law_1162 rfl (lv_at hl 0 rfl) ?_
    refine lv_iload hx hb dL_law_1163 (lv_at hl 4 rfl) ?_
    refine lv_iconst (v := 1) hx hb dL_law_1165 (by decide) ?_
    refine lv_iadd hx hb dL_law_1166 ?_
    refine r_sld hx hb hX hbl hbA hW h dL_law_1167 (fun v163 h => ?_)
    refine lv_aload_n hx hb dL_law_1168 rfl (lv_at hl 0 rfl) ?_
    refine lv_iload hx hb dL_law_1169 (lv_at hl 4 rfl) ?_
    refine lv_iconst (v := 2) hx hb dL_law_1171 (by decide) ?_
    refine lv_iadd hx hb dL_law_1172 ?_
    refine r_sld hx hb hX hbl hbA hW h dL_law_1173 (fun v164 h => ?_)
    refine lv_aload_n hx hb dL_law_1174 rfl (lv_at hl 0 rfl) ?_
    refine lv_iload hx hb dL_law_1175 (lv_at hl 4 rfl) ?_
    refine lv_iconst (v := 3) hx hb dL_law_1177 (by decide) ?_
    refine lv_iadd hx hb dL_law_1178 ?_
    refine r_sld hx hb hX hbl hbA hW h dL_law_1179 (fun v165 h => ?_)
    refine lv_aload_n hx hb dL_law_1180 rfl (lv_at hl 3 rfl) ?_
    obtain ⟨v166, σ166, X166, c166, d166, cu9, du9, h166, h, hcu, hdu⟩ := bndH_inv h
    refine l_SW (rest := []) C hW hzz hcu hdu hm hcap (t_L_add hst h166) mkw_L_add sk_L_135 ⟨Nat.le_of_ble_eq_true rfl, Nat.le_of_ble_eq_true rfl⟩ rfl rfl (Nat.le_of_ble_eq_true rfl) hl.1 dL_law_1181 (fun H locs cells slots hW hm => ?_)
    refine lv_istore (lv' := [(5, .int v166), (0, .ref x0), (1, .ref a1), (2, .ref a2), (3, .ref a3), (4, .int x4)]) hx hb dL_law_1184 hl (by decide) rfl (fun ls hl => ?_)
    refine lv_aload_n hx hb dL_law_1186 rfl (lv_at hl 3 rfl) ?_
    refine lv_aload_n hx hb dL_law_1187 rfl (lv_at hl 1 rfl) ?_
    refine lv_iload hx hb dL_law_1188 (lv_at hl 5 rfl) ?_
    refine lv_iconst (v := 1) hx hb dL_law_1190 (by decide) ?_
    refine lv_iadd hx hb dL_law_1191 ?_
    refine r_sld hx hb hX hbl hbA hW h dL_law_1192 (fun v167 h => ?_)
    refine lv_aload_n hx hb dL_law_1193 rfl (lv_at hl 1 rfl) ?_
    refine lv_iload hx hb dL_law_1194 (lv_at hl 5 rfl) ?_
    refine lv_iconst (v := 2) hx hb dL_law_1196 (by decide) ?_
    refine lv_iadd hx hb dL_law_1197 ?_
    refine r_sld hx hb hX hbl hbA hW h dL_law_1198 (fun v168 h => ?_)
    refine lv_aload_n hx hb dL_law_1199 rfl (lv_at hl 1 rfl) ?_
    refine lv_iload hx hb dL_law_1200 (lv_at hl 5 rfl) ?_
    refine lv_iconst (v := 3) hx hb dL_law_1202 (by decide) ?_
    refine lv_iadd hx hb dL_law_1203 ?_
    refine r_sld hx hb hX hbl hbA hW h dL_law_1204 (fun v169 h => ?_)
    obtain ⟨v172, X171, h170, h⟩ := bnd2_inv h
    refine r_cI hW (run_V (rest := []) C hW (t_X10_add h170) mk_X10_add vk_L_137 (kd_X10_add h170) rfl rfl (by decide) ⟨Nat.le_of_ble_eq_true rfl, Nat.le_of_ble_eq_true rfl⟩ (l_cs hm hcap) rfl rfl (Nat.le_of_ble_eq_true rfl) hl.1 dL_law_1205) (fun H locs hW _ => ?_)
    refine lv_istore (lv' := [(6, .int v172), (5, .int v166), (0, .ref x0), (1, .ref a1), (2, .ref a2), (3, .ref a3), (4, .int x4)]) hx hb dL_law_1208 hl (by decide) rfl (fun ls hl => ?_)
    refine lv_aload_n hx hb dL_law_1210 rfl (lv_at hl 4 rfl) ?_
    obtain ⟨v174, h173, h⟩ := bnd_inv h
    refine r_cI hW (run_V (rest := []) C hW (t_X10_thrown h173) mk_X10_thrown vk_L_91 (kd_X10_thrown h173) rfl rfl (by decide) ⟨Nat.le_of_ble_eq_true rfl, Nat.le_of_ble_eq_true rfl⟩ (l_cs hm hcap) rfl rfl (Nat.le_of_ble_eq_true rfl) hl.1 dL_law_1211) (fun H locs hW _ => ?_)
    refine lv_iload hx hb dL_law_1214 (lv_at hl 1 rfl) ?_
    refine r_br h (lv_icmp_eq (tgt := 1221) hx hb dL_law_1216 (by decide)) (fun h => ?_) (fun h => ?_)
    · refine lv_iload hx hb dL_law_1221 (lv_at hl 1 rfl) ?_
      refine r_brn h (lv_if_ne (tgt := 1238) hx hb dL_law_1223 (by decide)) (fun h => ?_) (fun h => ?_)
      · refine lv_goto (tgt := 1887) hx hb dL_law_1238 (by decide) ?_
        exact hk hW hm (lv_sub hl [2, 3, 4, 5, 6] rfl) h
      · refine lv_aload_n hx hb dL_law_1226 rfl (lv_at hl 5 rfl) ?_
        refine lv_iconst (v := 0) hx hb dL_law_1227 (by decide) ?_
        refine r_lald C hW h dL_law_1228 (fun v175 h => ?_)
        refine lv_iload hx hb dL_law_1229 (lv_at hl 0 rfl) ?_
        refine lv_i2l (v := (Int32.toInt64 v172)) hx hb dL_law_1231 rfl ?_
        refine W.lcmp hx hb dL_law_1232 ?_
        refine r_br h (lv_if_eq (tgt := 1238) hx hb dL_law_1233 (by decide)) (fun h => ?_) (fun h => ?_)
        · refine lv_goto (tgt := 1887) hx hb dL_law_1238 (by decide) ?_
          exact hk hW hm (lv_sub hl [2, 3, 4, 5, 6] rfl) h
        · refine lv_iconst (v := 0) hx hb dL_law_1236 (by decide) ?_
          cases h
    · refine lv_iconst (v := 0) hx hb dL_law_1219 (by decide) ?_
      cases h
  refine r_case h (fun ec h => ?_) (fun nc15 h => ?_)
  · refine lv_tableIn (tgt := 1241) (off := 1201) hx hb dL_law_40 (by rw [ec]; decide) (by rw [ec]; decide) (by rw [ec]; rfl) (by decide) ?_
    refine lv_aload_n hx hb dL_law_1241 rfl (lv_at hl 1 rfl) ?_
    refine lv_aload_n hx hb dL_law_1242 rfl (lv_at hl 0 rfl) ?_
    refine lv_iload hx hb dL_law_1243 (lv_at hl 4 rfl) ?_
    refine lv_iconst (v := 1) hx hb dL_law_1245 (by decide) ?_
    refine lv_iadd hx hb dL_law_1246 ?_
    refine r_sld hx hb hX hbl hbA hW h dL_law_1247 (fun v176 h => ?_)
    refine lv_aload_n hx hb dL_law_1248 rfl (lv_at hl 0 rfl) ?_
    refine lv_iload hx hb dL_law_1249 (lv_at hl 4 rfl) ?_
    refine lv_iconst (v := 2) hx hb dL_law_1251 (by decide) ?_
    refine lv_iadd hx hb dL_law_1252 ?_
    refine r_sld hx hb hX hbl hbA hW h dL_law_1253 (fun v177 h => ?_)
    refine lv_aload_n hx hb dL_law_1254 rfl (lv_at hl 3 rfl) ?_
    obtain ⟨v178, σ178, X178, c178, d178, cu9, du9, h178, h, hcu, hdu⟩ := bndH_inv h
    refine l_SW (rest := []) C hW hzz hcu hdu hm hcap (t_L_drop hst h178) mkw_L_drop sk_L_138 ⟨Nat.le_of_ble_eq_true rfl, Nat.le_of_ble_eq_true rfl⟩ rfl rfl (Nat.le_of_ble_eq_true rfl) hl.1 dL_law_1255 (fun H locs cells slots hW hm => ?_)
    refine lv_istore (lv' := [(5, .int v178), (0, .ref x0), (1, .ref a1), (2, .ref a2), (3, .ref a3), (4, .int x4)]) hx hb dL_law_1258 hl (by decide) rfl (fun ls hl => ?_)
    refine lv_aload_n hx hb dL_law_1260 rfl (lv_at hl 3 rfl) ?_
    refine lv_aload_n hx hb dL_law_1261 rfl (lv_at hl 1 rfl) ?_
    refine lv_iload hx hb dL_law_1262 (lv_at hl 5 rfl) ?_
    refine lv_iconst (v := 1) hx hb dL_law_1264 (by decide) ?_
    refine lv_iadd hx hb dL_law_1265 ?_
    refine r_sld hx hb hX hbl hbA hW h dL_law_1266 (fun v179 h => ?_)
    refine lv_aload_n hx hb dL_law_1267 rfl (lv_at hl 1 rfl) ?_
    refine lv_iload hx hb dL_law_1268 (lv_at hl 5 rfl) ?_
    refine lv_iconst (v := 2) hx hb dL_law_1270 (by decide) ?_
    refine lv_iadd hx hb dL_law_1271 ?_
    refine r_sld hx hb hX hbl hbA hW h dL_law_1272 (fun v180 h => ?_)
    obtain ⟨v183, X182, h181, h⟩ := bnd2_inv h
    refine r_cI hW (run_V (rest := []) C hW (t_X10_drop h181) mk_X10_drop vk_L_140 (kd_X10_drop h181) rfl rfl (by decide) ⟨Nat.le_of_ble_eq_true rfl, Nat.le_of_ble_eq_true rfl⟩ (l_cs hm hcap) rfl rfl (Nat.le_of_ble_eq_true rfl) hl.1 dL_law_1273) (fun H locs hW _ => ?_)
    refine lv_istore (lv' := [(6, .int v183), (5, .int v178), (0, .ref x0), (1, .ref a1), (2, .ref a2), (3, .ref a3), (4, .int x4)]) hx hb dL_law_1276 hl (by decide) rfl (fun ls hl => ?_)
    refine lv_aload_n hx hb dL_law_1278 rfl (lv_at hl 4 rfl) ?_
    obtain ⟨v185, h184, h⟩ := bnd_inv h
    refine r_cI hW (run_V (rest := []) C hW (t_X10_thrown h184) mk_X10_thrown vk_L_91 (kd_X10_thrown h184) rfl rfl (by decide) ⟨Nat.le_of_ble_eq_true rfl, Nat.le_of_ble_eq_true rfl⟩ (l_cs hm hcap) rfl rfl (Nat.le_of_ble_eq_true rfl) hl.1 dL_law_1279) (fun H locs hW _ => ?_)
    refine lv_iload hx hb dL_law_1282 (lv_at hl 1 rfl) ?_
    refine r_br h (lv_icmp_eq (tgt := 1289) hx hb dL_law_1284 (by decide)) (fun h => ?_) (fun h => ?_)
    · refine lv_iload hx hb dL_law_1289 (lv_at hl 1 rfl) ?_
      refine r_brn h (lv_if_ne (tgt := 1313) hx hb dL_law_1291 (by decide)) (fun h => ?_) (fun h => ?_)
      · refine lv_goto (tgt := 1887) hx hb dL_law_1313 (by decide) ?_
        exact hk hW hm (lv_sub hl [2, 3, 4, 5, 6] rfl) h
      · refine lv_aload_n hx hb dL_law_1294 rfl (lv_at hl 5 rfl) ?_
        refine lv_iconst (v := 0) hx hb dL_law_1295 (by decide) ?_
        refine r_lald C hW h dL_law_1296 (fun v186 h => ?_)
        refine lv_iload hx hb dL_law_1297 (lv_at hl 0 rfl) ?_
        refine r_br h (lv_if_eq (tgt := 1306) hx hb dL_law_1299 (by decide)) (fun h => ?_) (fun h => ?_)
        · refine lv_lconst (v := 0) hx hb dL_law_1306 (by decide) ?_
          exact b_L_law_1307 C hst hcap hX hbl hbA hk hW hm (lv_sub hl [2, 3, 4, 5, 6] rfl) h
        · refine lv_lconst (v := 1) hx hb dL_law_1302 (by decide) ?_
          refine lv_goto (tgt := 1307) hx hb dL_law_1303 (by decide) ?_
          exact b_L_law_1307 C hst hcap hX hbl hbA hk hW hm (lv_sub hl [2, 3, 4, 5, 6] rfl) h
    · refine lv_iconst (v := 0) hx hb dL_law_1287 (by decide) ?_
      cases h
  refine r_case h (fun ec h => ?_) (fun nc16 h => ?_)
  · refine lv_tableIn (tgt := 1316) (off := 1276) hx hb dL_law_40 (by rw [ec]; decide) (by rw [ec]; decide) (by rw [ec]; rfl) (by decide) ?_
    refine lv_aload_n hx hb dL_law_1316 rfl (lv_at hl 1 rfl) ?_
    refine lv_aload_n hx hb dL_law_1317 rfl (lv_at hl 0 rfl) ?_
    refine lv_iload hx hb dL_law_1318 (lv_at hl 4 rfl) ?_
    refine lv_iconst (v := 1) hx hb dL_law_1320 (by decide) ?_
    refine lv_iadd hx hb dL_law_1321 ?_
    refine r_sld hx hb hX hbl hbA hW h dL_law_1322 (fun v187 h => ?_)
    refine lv_aload_n hx hb dL_law_1323 rfl (lv_at hl 0 rfl) ?_
    refine lv_iload hx hb dL_law_1324 (lv_at hl 4 rfl) ?_
    refine lv_iconst (v := 2) hx hb dL_law_1326 (by decide) ?_
    refine lv_iadd hx hb dL_law_1327 ?_
    refine r_sld hx hb hX hbl hbA hW h dL_law_1328 (fun v188 h => ?_)
    refine lv_aload_n hx hb dL_law_1329 rfl (lv_at hl 0 rfl) ?_
    refine lv_iload hx hb dL_law_1330 (lv_at hl 4 rfl) ?_
    refine lv_iconst (v := 3) hx hb dL_law_1332 (by decide) ?_
    refine lv_iadd hx hb dL_law_1333 ?_
    refine r_sld hx hb hX hbl hbA hW h dL_law_1334 (fun v189 h => ?_)
    refine lv_aload_n hx hb dL_law_1335 rfl (lv_at hl 0 rfl) ?_
    refine lv_iload hx hb dL_law_1336 (lv_at hl 4 rfl) ?_
    refine lv_iconst (v := 4) hx hb dL_law_1338 (by decide) ?_
    refine lv_iadd hx hb dL_law_1339 ?_
    refine r_sld hx hb hX hbl hbA hW h dL_law_1340 (fun v190 h => ?_)
    obtain ⟨v191, σ191, X191, c191, d191, cu9, du9, h191, h, hcu, hdu⟩ := bndH_inv h
    refine l_HV_I (rest := []) C hW hzz hcu hdu hm hcap (t_X9_settle h191) mk_X9_settle vk_L_141 (kd_X9_settle h191) rfl rfl (by decide) ⟨Nat.le_of_ble_eq_true rfl, Nat.le_of_ble_eq_true rfl⟩ rfl rfl (Nat.le_of_ble_eq_true rfl) hl.1 dL_law_1341 (fun H locs cells slots hW hm => ?_)
    refine lv_aload_n hx hb dL_law_1344 rfl (lv_at hl 2 rfl) ?_
    refine lv_aload_n hx hb dL_law_1345 rfl (lv_at hl 0 rfl) ?_
    refine lv_iload hx hb dL_law_1346 (lv_at hl 4 rfl) ?_
    refine lv_iconst (v := 1) hx hb dL_law_1348 (by decide) ?_
    refine lv_iadd hx hb dL_law_1349 ?_
    refine r_sld hx hb hX hbl hbA hW h dL_law_1350 (fun v192 h => ?_)
    refine lv_aload_n hx hb dL_law_1351 rfl (lv_at hl 0 rfl) ?_
    refine lv_iload hx hb dL_law_1352 (lv_at hl 4 rfl) ?_
    refine lv_iconst (v := 2) hx hb dL_law_1354 (by decide) ?_
    refine lv_iadd hx hb dL_law_1355 ?_
    refine r_sld hx hb hX hbl hbA hW h dL_law_1356 (fun v193 h => ?_)
    refine lv_aload_n hx hb dL_law_1357 rfl (lv_at hl 0 rfl) ?_
    refine lv_iload hx hb dL_law_1358 (lv_at hl 4 rfl) ?_
    refine lv_iconst (v := 3) hx hb dL_law_1360 (by decide) ?_
    refine lv_iadd hx hb dL_law_1361 ?_
    refine r_sld hx hb hX hbl hbA hW h dL_law_1362 (fun v194 h => ?_)
    refine lv_aload_n hx hb dL_law_1363 rfl (lv_at hl 0 rfl) ?_
    refine lv_iload hx hb dL_law_1364 (lv_at hl 4 rfl) ?_
    refine lv_iconst (v := 4) hx hb dL_law_1366 (by decide) ?_
    refine lv_iadd hx hb dL_law_1367 ?_
    refine r_sld hx hb hX hbl hbA hW h dL_law_1368 (fun v195 h => ?_)
    obtain ⟨v198, X197, h196, h⟩ := bnd2_inv h
    refine r_cI hW (run_V (rest := [.int v191]) C hW (t_X10_settle h196) mk_X10_settle vk_L_145 (kd_X10_settle h196) rfl rfl (by decide) ⟨Nat.le_of_ble_eq_true rfl, Nat.le_of_ble_eq_true rfl⟩ (l_cs hm hcap) rfl rfl (Nat.le_of_ble_eq_true rfl) hl.1 dL_law_1369) (fun H locs hW _ => ?_)
    refine r_br h (lv_icmp_eq (tgt := 1887) hx hb dL_law_1372 (by decide)) (fun h => ?_) (fun h => ?_)
    · exact hk hW hm (lv_sub hl [0, 1, 2, 3, 4] rfl) h
    · refine lv_iconst (v := 0) hx hb dL_law_1375 (by decide) ?_
      cases h
  refine r_case h (fun ec h => ?_) (fun nc17 h => ?_)
  · refine lv_tableIn (tgt := 1377) (off := 1337) hx hb dL_law_40 (by rw [ec]; decide) (by rw [ec]; decide) (by rw [ec]; rfl) (by decide) ?_
    refine lv_aload_n hx hb dL_law_1377 rfl (lv_at hl 1 rfl) ?_
    refine lv_aload_n hx hb dL_law_1378 rfl (lv_at hl 0 rfl) ?_
    refine lv_iload hx hb dL_law_1379 (lv_at hl 4 rfl) ?_
    refine lv_iconst (v := 1) hx hb dL_law_1381 (by decide) ?_
    refine lv_iadd hx hb dL_law_1382 ?_
    refine r_sld hx hb hX hbl hbA hW h dL_law_1383 (fun v199 h => ?_)
    refine lv_aload_n hx hb dL_law_1384 rfl (lv_at hl 0 rfl) ?_
    refine lv_iload hx hb dL_law_1385 (lv_at hl 4 rfl) ?_
    refine lv_iconst (v := 2) hx hb dL_law_1387 (by decide) ?_
    refine lv_iadd hx hb dL_law_1388 ?_
    refine r_sld hx hb hX hbl hbA hW h dL_law_1389 (fun v200 h => ?_)
    refine lv_aload_n hx hb dL_law_1390 rfl (lv_at hl 0 rfl) ?_
    refine lv_iload hx hb dL_law_1391 (lv_at hl 4 rfl) ?_
    refine lv_iconst (v := 3) hx hb dL_law_1393 (by decide) ?_
    refine lv_iadd hx hb dL_law_1394 ?_
    refine r_sld hx hb hX hbl hbA hW h dL_law_1395 (fun v201 h => ?_)
    obtain ⟨v202, σ202, X202, c202, d202, cu9, du9, h202, h, hcu, hdu⟩ := bndH_inv h
    refine l_HV_I (rest := []) C hW hzz hcu hdu hm hcap (t_X9_unsettle h202) mk_X9_unsettle vk_L_146 (kd_X9_unsettle h202) rfl rfl (by decide) ⟨Nat.le_of_ble_eq_true rfl, Nat.le_of_ble_eq_true rfl⟩ rfl rfl (Nat.le_of_ble_eq_true rfl) hl.1 dL_law_1396 (fun H locs cells slots hW hm => ?_)
    refine lv_aload_n hx hb dL_law_1399 rfl (lv_at hl 2 rfl) ?_
    refine lv_aload_n hx hb dL_law_1400 rfl (lv_at hl 0 rfl) ?_
    refine lv_iload hx hb dL_law_1401 (lv_at hl 4 rfl) ?_
    refine lv_iconst (v := 1) hx hb dL_law_1403 (by decide) ?_
    refine lv_iadd hx hb dL_law_1404 ?_
    refine r_sld hx hb hX hbl hbA hW h dL_law_1405 (fun v203 h => ?_)
    refine lv_aload_n hx hb dL_law_1406 rfl (lv_at hl 0 rfl) ?_
    refine lv_iload hx hb dL_law_1407 (lv_at hl 4 rfl) ?_
    refine lv_iconst (v := 2) hx hb dL_law_1409 (by decide) ?_
    refine lv_iadd hx hb dL_law_1410 ?_
    refine r_sld hx hb hX hbl hbA hW h dL_law_1411 (fun v204 h => ?_)
    refine lv_aload_n hx hb dL_law_1412 rfl (lv_at hl 0 rfl) ?_
    refine lv_iload hx hb dL_law_1413 (lv_at hl 4 rfl) ?_
    refine lv_iconst (v := 3) hx hb dL_law_1415 (by decide) ?_
    refine lv_iadd hx hb dL_law_1416 ?_
    refine r_sld hx hb hX hbl hbA hW h dL_law_1417 (fun v205 h => ?_)
    obtain ⟨v208, X207, h206, h⟩ := bnd2_inv h
    refine r_cI hW (run_V (rest := [.int v202]) C hW (t_X10_unsettle h206) mk_X10_unsettle vk_L_149 (kd_X10_unsettle h206) rfl rfl (by decide) ⟨Nat.le_of_ble_eq_true rfl, Nat.le_of_ble_eq_true rfl⟩ (l_cs hm hcap) rfl rfl (Nat.le_of_ble_eq_true rfl) hl.1 dL_law_1418) (fun H locs hW _ => ?_)
    refine r_br h (lv_icmp_eq (tgt := 1887) hx hb dL_law_1421 (by decide)) (fun h => ?_) (fun h => ?_)
    · exact hk hW hm (lv_sub hl [0, 1, 2, 3, 4] rfl) h
    · refine lv_iconst (v := 0) hx hb dL_law_1424 (by decide) ?_
      cases h
  refine r_case h (fun ec h => ?_) (fun nc18 h => ?_)
  · refine lv_tableIn (tgt := 1426) (off := 1386) hx hb dL_law_40 (by rw [ec]; decide) (by rw [ec]; decide) (by rw [ec]; rfl) (by decide) ?_
    refine lv_aload_n hx hb dL_law_1426 rfl (lv_at hl 1 rfl) ?_
    obtain ⟨u209, σ209, X209, c209, d209, cu9, du9, h209, h, hcu, hdu⟩ := bndH_inv h
    refine l_HV_V (rest := []) C hW hzz hcu hdu hm hcap (t_X9_flip h209) mk_X9_flip vk_L_150 (kd_X9_flip h209) rfl rfl (by decide) ⟨Nat.le_of_ble_eq_true rfl, Nat.le_of_ble_eq_true rfl⟩ rfl rfl (Nat.le_of_ble_eq_true rfl) hl.1 dL_law_1427 (fun H locs cells slots hW hm => ?_)
    refine lv_aload_n hx hb dL_law_1430 rfl (lv_at hl 2 rfl) ?_
    obtain ⟨X211, h210, h⟩ := bnd_inv h
    refine r_cV hW (run_V (rest := []) C hW (t_X10_flip h210) mk_X10_flip vk_L_153 (kd_X10_flip h210) rfl rfl (by decide) ⟨Nat.le_of_ble_eq_true rfl, Nat.le_of_ble_eq_true rfl⟩ (l_cs hm hcap) rfl rfl (Nat.le_of_ble_eq_true rfl) hl.1 dL_law_1431) (fun H locs hW _ => ?_)
    refine lv_goto (tgt := 1887) hx hb dL_law_1434 (by decide) ?_
    exact hk hW hm (lv_sub hl [0, 1, 2, 3, 4] rfl) h
  refine r_case h (fun ec h => ?_) (fun nc19 h => ?_)
  · refine lv_tableIn (tgt := 1437) (off := 1397) hx hb dL_law_40 (by rw [ec]; decide) (by rw [ec]; decide) (by rw [ec]; rfl) (by decide) ?_
    refine lv_aload_n hx hb dL_law_1437 rfl (lv_at hl 1 rfl) ?_
    obtain ⟨v212, σ212, X212, c212, d212, cu9, du9, h212, h, hcu, hdu⟩ := bndH_inv h
    refine l_HV_I (rest := []) C hW hzz hcu hdu hm hcap (t_X9_commit h212) mk_X9_commit vk_L_154 (kd_X9_commit h212) rfl rfl (by decide) ⟨Nat.le_of_ble_eq_true rfl, Nat.le_of_ble_eq_true rfl⟩ rfl rfl (Nat.le_of_ble_eq_true rfl) hl.1 dL_law_1438 (fun H locs cells slots hW hm => ?_)
    refine lv_aload_n hx hb dL_law_1441 rfl (lv_at hl 2 rfl) ?_
    obtain ⟨v215, X214, h213, h⟩ := bnd2_inv h
    refine r_cI hW (run_V (rest := [.int v212]) C hW (t_X10_commit h213) mk_X10_commit vk_L_157 (kd_X10_commit h213) rfl rfl (by decide) ⟨Nat.le_of_ble_eq_true rfl, Nat.le_of_ble_eq_true rfl⟩ (l_cs hm hcap) rfl rfl (Nat.le_of_ble_eq_true rfl) hl.1 dL_law_1442) (fun H locs hW _ => ?_)
    refine r_br h (lv_icmp_eq (tgt := 1887) hx hb dL_law_1445 (by decide)) (fun h => ?_) (fun h => ?_)
    · exact hk hW hm (lv_sub hl [0, 1, 2, 3, 4] rfl) h
    · refine lv_iconst (v := 0) hx hb dL_law_1448 (by decide) ?_
      cases h
  refine r_case h (fun ec h => ?_) (fun nc20 h => ?_)
  · refine lv_tableIn (tgt := 1450) (off := 1410) hx hb dL_law_40 (by rw [ec]; decide) (by rw [ec]; decide) (by rw [ec]; rfl) (by decide) ?_
    refine lv_aload_n hx hb dL_law_1450 rfl (lv_at hl 1 rfl) ?_
    obtain ⟨v216, σ216, X216, c216, d216, cu9, du9, h216, h, hcu, hdu⟩ := bndH_inv h
    refine l_HV_I (rest := []) C hW hzz hcu hdu hm hcap (t_X9_undo h216) mk_X9_undo vk_L_158 (kd_X9_undo h216) rfl rfl (by decide) ⟨Nat.le_of_ble_eq_true rfl, Nat.le_of_ble_eq_true rfl⟩ rfl rfl (Nat.le_of_ble_eq_true rfl) hl.1 dL_law_1451 (fun H locs cells slots hW hm => ?_)
    refine lv_aload_n hx hb dL_law_1454 rfl (lv_at hl 2 rfl) ?_
    obtain ⟨v219, X218, h217, h⟩ := bnd2_inv h
    refine r_cI hW (run_V (rest := [.int v216]) C hW (t_X10_undo h217) mk_X10_undo vk_L_161 (kd_X10_undo h217) rfl rfl (by decide) ⟨Nat.le_of_ble_eq_true rfl, Nat.le_of_ble_eq_true rfl⟩ (l_cs hm hcap) rfl rfl (Nat.le_of_ble_eq_true rfl) hl.1 dL_law_1455) (fun H locs hW _ => ?_)
    refine r_br h (lv_icmp_eq (tgt := 1887) hx hb dL_law_1458 (by decide)) (fun h => ?_) (fun h => ?_)
    · exact hk hW hm (lv_sub hl [0, 1, 2, 3, 4] rfl) h
    · refine lv_iconst (v := 0) hx hb dL_law_1461 (by decide) ?_
      cases h
  refine r_case h (fun ec h => ?_) (fun nc21 h => ?_)
  · refine lv_tableIn (tgt := 1463) (off := 1423) hx hb dL_law_40 (by rw [ec]; decide) (by rw [ec]; decide) (by rw [ec]; rfl) (by decide) ?_
    refine lv_aload_n hx hb dL_law_1463 rfl (lv_at hl 1 rfl) ?_
    refine lv_aload_n hx hb dL_law_1464 rfl (lv_at hl 0 rfl) ?_
    refine lv_iload hx hb dL_law_1465 (lv_at hl 4 rfl) ?_
    refine lv_iconst (v := 1) hx hb dL_law_1467 (by decide) ?_
    refine lv_iadd hx hb dL_law_1468 ?_
    refine r_sld hx hb hX hbl hbA hW h dL_law_1469 (fun v220 h => ?_)
    refine lv_aload_n hx hb dL_law_1470 rfl (lv_at hl 0 rfl) ?_
    refine lv_iload hx hb dL_law_1471 (lv_at hl 4 rfl) ?_
    refine lv_iconst (v := 2) hx hb dL_law_1473 (by decide) ?_
    refine lv_iadd hx hb dL_law_1474 ?_
    refine r_sld hx hb hX hbl hbA hW h dL_law_1475 (fun v221 h => ?_)
    refine lv_aload_n hx hb dL_law_1476 rfl (lv_at hl 3 rfl) ?_
    obtain ⟨v222, σ222, X222, c222, d222, cu9, du9, h222, h, hcu, hdu⟩ := bndH_inv h
    refine l_SW (rest := []) C hW hzz hcu hdu hm hcap (t_L_difference hst h222) mkw_L_difference sk_L_162 ⟨Nat.le_of_ble_eq_true rfl, Nat.le_of_ble_eq_true rfl⟩ rfl rfl (Nat.le_of_ble_eq_true rfl) hl.1 dL_law_1477 (fun H locs cells slots hW hm => ?_)
    refine lv_istore (lv' := [(5, .int v222), (0, .ref x0), (1, .ref a1), (2, .ref a2), (3, .ref a3), (4, .int x4)]) hx hb dL_law_1480 hl (by decide) rfl (fun ls hl => ?_)
    refine lv_aload_n hx hb dL_law_1482 rfl (lv_at hl 3 rfl) ?_
    refine lv_aload_n hx hb dL_law_1483 rfl (lv_at hl 1 rfl) ?_
    refine lv_iload hx hb dL_law_1484 (lv_at hl 5 rfl) ?_
    refine lv_iconst (v := 1) hx hb dL_law_1486 (by decide) ?_
    refine lv_iadd hx hb dL_law_1487 ?_
    refine r_sld hx hb hX hbl hbA hW h dL_law_1488 (fun v223 h => ?_)
    refine lv_aload_n hx hb dL_law_1489 rfl (lv_at hl 1 rfl) ?_
    refine lv_iload hx hb dL_law_1490 (lv_at hl 5 rfl) ?_
    refine lv_iconst (v := 2) hx hb dL_law_1492 (by decide) ?_
    refine lv_iadd hx hb dL_law_1493 ?_
    refine r_sld hx hb hX hbl hbA hW h dL_law_1494 (fun v224 h => ?_)
    obtain ⟨v227, X226, h225, h⟩ := bnd2_inv h
    refine r_cI hW (run_V (rest := []) C hW (t_X10_difference h225) mk_X10_difference vk_L_164 (kd_X10_difference h225) rfl rfl (by decide) ⟨Nat.le_of_ble_eq_true rfl, Nat.le_of_ble_eq_true rfl⟩ (l_cs hm hcap) rfl rfl (Nat.le_of_ble_eq_true rfl) hl.1 dL_law_1495) (fun H locs hW _ => ?_)
    refine lv_istore (lv' := [(6, .int v227), (5, .int v222), (0, .ref x0), (1, .ref a1), (2, .ref a2), (3, .ref a3), (4, .int x4)]) hx hb dL_law_1498 hl (by decide) rfl (fun ls hl => ?_)
    refine lv_aload_n hx hb dL_law_1500 rfl (lv_at hl 4 rfl) ?_
    obtain ⟨v229, h228, h⟩ := bnd_inv h
    refine r_cI hW (run_V (rest := []) C hW (t_X10_thrown h228) mk_X10_thrown vk_L_91 (kd_X10_thrown h228) rfl rfl (by decide) ⟨Nat.le_of_ble_eq_true rfl, Nat.le_of_ble_eq_true rfl⟩ (l_cs hm hcap) rfl rfl (Nat.le_of_ble_eq_true rfl) hl.1 dL_law_1501) (fun H locs hW _ => ?_)
    refine lv_iload hx hb dL_law_1504 (lv_at hl 1 rfl) ?_
    refine r_br h (lv_icmp_eq (tgt := 1511) hx hb dL_law_1506 (by decide)) (fun h => ?_) (fun h => ?_)
    · refine lv_iload hx hb dL_law_1511 (lv_at hl 1 rfl) ?_
      refine r_brn h (lv_if_ne (tgt := 1528) hx hb dL_law_1513 (by decide)) (fun h => ?_) (fun h => ?_)
      · refine lv_goto (tgt := 1887) hx hb dL_law_1528 (by decide) ?_
        exact hk hW hm (lv_sub hl [2, 3, 4, 5, 6] rfl) h
      · refine lv_aload_n hx hb dL_law_1516 rfl (lv_at hl 5 rfl) ?_
        refine lv_iconst (v := 0) hx hb dL_law_1517 (by decide) ?_
        refine r_lald C hW h dL_law_1518 (fun v230 h => ?_)
        refine lv_iload hx hb dL_law_1519 (lv_at hl 0 rfl) ?_
        refine lv_i2l (v := (Int32.toInt64 v227)) hx hb dL_law_1521 rfl ?_
        refine W.lcmp hx hb dL_law_1522 ?_
        refine r_br h (lv_if_eq (tgt := 1528) hx hb dL_law_1523 (by decide)) (fun h => ?_) (fun h => ?_)
        · refine lv_goto (tgt := 1887) hx hb dL_law_1528 (by decide) ?_
          exact hk hW hm (lv_sub hl [2, 3, 4, 5, 6] rfl) h
        · refine lv_iconst (v := 0) hx hb dL_law_1526 (by decide) ?_
          cases h
    · refine lv_iconst (v := 0) hx hb dL_law_1509 (by decide) ?_
      cases h
  refine r_case h (fun ec h => ?_) (fun nc22 h => ?_)
  · refine lv_tableIn (tgt := 1531) (off := 1491) hx hb dL_law_40 (by rw [ec]; decide) (by rw [ec]; decide) (by rw [ec]; rfl) (by decide) ?_
    refine lv_aload_n hx hb dL_law_1531 rfl (lv_at hl 1 rfl) ?_
    refine lv_aload_n hx hb dL_law_1532 rfl (lv_at hl 0 rfl) ?_
    refine lv_iload hx hb dL_law_1533 (lv_at hl 4 rfl) ?_
    refine lv_iconst (v := 1) hx hb dL_law_1535 (by decide) ?_
    refine lv_iadd hx hb dL_law_1536 ?_
    refine r_sld hx hb hX hbl hbA hW h dL_law_1537 (fun v231 h => ?_)
    refine lv_aload_n hx hb dL_law_1538 rfl (lv_at hl 0 rfl) ?_
    refine lv_iload hx hb dL_law_1539 (lv_at hl 4 rfl) ?_
    refine lv_iconst (v := 2) hx hb dL_law_1541 (by decide) ?_
    refine lv_iadd hx hb dL_law_1542 ?_
    refine r_sld hx hb hX hbl hbA hW h dL_law_1543 (fun v232 h => ?_)
    refine lv_aload_n hx hb dL_law_1544 rfl (lv_at hl 3 rfl) ?_
    obtain ⟨v233, σ233, X233, c233, d233, cu9, du9, h233, h, hcu, hdu⟩ := bndH_inv h
    refine l_SW (rest := []) C hW hzz hcu hdu hm hcap (t_L_along hst h233) mkw_L_along sk_L_165 ⟨Nat.le_of_ble_eq_true rfl, Nat.le_of_ble_eq_true rfl⟩ rfl rfl (Nat.le_of_ble_eq_true rfl) hl.1 dL_law_1545 (fun H locs cells slots hW hm => ?_)
    refine lv_istore (lv' := [(5, .int v233), (0, .ref x0), (1, .ref a1), (2, .ref a2), (3, .ref a3), (4, .int x4)]) hx hb dL_law_1548 hl (by decide) rfl (fun ls hl => ?_)
    refine lv_aload_n hx hb dL_law_1550 rfl (lv_at hl 3 rfl) ?_
    refine lv_aload_n hx hb dL_law_1551 rfl (lv_at hl 1 rfl) ?_
    refine lv_iload hx hb dL_law_1552 (lv_at hl 5 rfl) ?_
    refine lv_iconst (v := 1) hx hb dL_law_1554 (by decide) ?_
    refine lv_iadd hx hb dL_law_1555 ?_
    refine r_sld hx hb hX hbl hbA hW h dL_law_1556 (fun v234 h => ?_)
    refine lv_aload_n hx hb dL_law_1557 rfl (lv_at hl 1 rfl) ?_
    refine lv_iload hx hb dL_law_1558 (lv_at hl 5 rfl) ?_
    refine lv_iconst (v := 2) hx hb dL_law_1560 (by decide) ?_
    refine lv_iadd hx hb dL_law_1561 ?_
    refine r_sld hx hb hX hbl hbA hW h dL_law_1562 (fun v235 h => ?_)
    obtain ⟨v238, X237, h236, h⟩ := bnd2_inv h
    refine r_cI hW (run_V (rest := []) C hW (t_X10_along h236) mk_X10_along vk_L_167 (kd_X10_along h236) rfl rfl (by decide) ⟨Nat.le_of_ble_eq_true rfl, Nat.le_of_ble_eq_true rfl⟩ (l_cs hm hcap) rfl rfl (Nat.le_of_ble_eq_true rfl) hl.1 dL_law_1563) (fun H locs hW _ => ?_)
    refine lv_istore (lv' := [(6, .int v238), (5, .int v233), (0, .ref x0), (1, .ref a1), (2, .ref a2), (3, .ref a3), (4, .int x4)]) hx hb dL_law_1566 hl (by decide) rfl (fun ls hl => ?_)
    refine lv_aload_n hx hb dL_law_1568 rfl (lv_at hl 4 rfl) ?_
    obtain ⟨v240, h239, h⟩ := bnd_inv h
    refine r_cI hW (run_V (rest := []) C hW (t_X10_thrown h239) mk_X10_thrown vk_L_91 (kd_X10_thrown h239) rfl rfl (by decide) ⟨Nat.le_of_ble_eq_true rfl, Nat.le_of_ble_eq_true rfl⟩ (l_cs hm hcap) rfl rfl (Nat.le_of_ble_eq_true rfl) hl.1 dL_law_1569) (fun H locs hW _ => ?_)
    refine lv_iload hx hb dL_law_1572 (lv_at hl 1 rfl) ?_
    refine r_br h (lv_icmp_eq (tgt := 1579) hx hb dL_law_1574 (by decide)) (fun h => ?_) (fun h => ?_)
    · refine lv_iload hx hb dL_law_1579 (lv_at hl 1 rfl) ?_
      refine r_brn h (lv_if_ne (tgt := 1596) hx hb dL_law_1581 (by decide)) (fun h => ?_) (fun h => ?_)
      · refine lv_goto (tgt := 1887) hx hb dL_law_1596 (by decide) ?_
        exact hk hW hm (lv_sub hl [2, 3, 4, 5, 6] rfl) h
      · refine lv_aload_n hx hb dL_law_1584 rfl (lv_at hl 5 rfl) ?_
        refine lv_iconst (v := 0) hx hb dL_law_1585 (by decide) ?_
        refine r_lald C hW h dL_law_1586 (fun v241 h => ?_)
        refine lv_iload hx hb dL_law_1587 (lv_at hl 0 rfl) ?_
        refine lv_i2l (v := (Int32.toInt64 v238)) hx hb dL_law_1589 rfl ?_
        refine W.lcmp hx hb dL_law_1590 ?_
        refine r_br h (lv_if_eq (tgt := 1596) hx hb dL_law_1591 (by decide)) (fun h => ?_) (fun h => ?_)
        · refine lv_goto (tgt := 1887) hx hb dL_law_1596 (by decide) ?_
          exact hk hW hm (lv_sub hl [2, 3, 4, 5, 6] rfl) h
        · refine lv_iconst (v := 0) hx hb dL_law_1594 (by decide) ?_
          cases h
    · refine lv_iconst (v := 0) hx hb dL_law_1577 (by decide) ?_
      cases h
  refine r_case h (fun ec h => ?_) (fun nc23 h => ?_)
  · refine lv_tableIn (tgt := 1599) (off := 1559) hx hb dL_law_40 (by rw [ec]; decide) (by rw [ec]; decide) (by rw [ec]; rfl) (by decide) ?_
    refine lv_aload_n hx hb dL_law_1599 rfl (lv_at hl 1 rfl) ?_
    refine lv_aload_n hx hb dL_law_1600 rfl (lv_at hl 0 rfl) ?_
    refine lv_iload hx hb dL_law_1601 (lv_at hl 4 rfl) ?_
    refine lv_iconst (v := 1) hx hb dL_law_1603 (by decide) ?_
    refine lv_iadd hx hb dL_law_1604 ?_
    refine r_sld hx hb hX hbl hbA hW h dL_law_1605 (fun v242 h => ?_)
    refine lv_aload_n hx hb dL_law_1606 rfl (lv_at hl 0 rfl) ?_
    refine lv_iload hx hb dL_law_1607 (lv_at hl 4 rfl) ?_
    refine lv_iconst (v := 2) hx hb dL_law_1609 (by decide) ?_
    refine lv_iadd hx hb dL_law_1610 ?_
    refine r_sld hx hb hX hbl hbA hW h dL_law_1611 (fun v243 h => ?_)
    refine lv_aload_n hx hb dL_law_1612 rfl (lv_at hl 3 rfl) ?_
    obtain ⟨v244, σ244, X244, c244, d244, cu9, du9, h244, h, hcu, hdu⟩ := bndH_inv h
    refine l_SW (rest := []) C hW hzz hcu hdu hm hcap (t_L_alone hst h244) mkw_L_alone sk_L_168 ⟨Nat.le_of_ble_eq_true rfl, Nat.le_of_ble_eq_true rfl⟩ rfl rfl (Nat.le_of_ble_eq_true rfl) hl.1 dL_law_1613 (fun H locs cells slots hW hm => ?_)
    refine lv_istore (lv' := [(5, .int v244), (0, .ref x0), (1, .ref a1), (2, .ref a2), (3, .ref a3), (4, .int x4)]) hx hb dL_law_1616 hl (by decide) rfl (fun ls hl => ?_)
    refine lv_aload_n hx hb dL_law_1618 rfl (lv_at hl 3 rfl) ?_
    refine lv_aload_n hx hb dL_law_1619 rfl (lv_at hl 1 rfl) ?_
    refine lv_iload hx hb dL_law_1620 (lv_at hl 5 rfl) ?_
    refine lv_iconst (v := 1) hx hb dL_law_1622 (by decide) ?_
    refine lv_iadd hx hb dL_law_1623 ?_
    refine r_sld hx hb hX hbl hbA hW h dL_law_1624 (fun v245 h => ?_)
    refine lv_aload_n hx hb dL_law_1625 rfl (lv_at hl 1 rfl) ?_
    refine lv_iload hx hb dL_law_1626 (lv_at hl 5 rfl) ?_
    refine lv_iconst (v := 2) hx hb dL_law_1628 (by decide) ?_
    refine lv_iadd hx hb dL_law_1629 ?_
    refine r_sld hx hb hX hbl hbA hW h dL_law_1630 (fun v246 h => ?_)
    obtain ⟨v249, X248, h247, h⟩ := bnd2_inv h
    refine r_cI hW (run_V (rest := []) C hW (t_X10_alone h247) mk_X10_alone vk_L_170 (kd_X10_alone h247) rfl rfl (by decide) ⟨Nat.le_of_ble_eq_true rfl, Nat.le_of_ble_eq_true rfl⟩ (l_cs hm hcap) rfl rfl (Nat.le_of_ble_eq_true rfl) hl.1 dL_law_1631) (fun H locs hW _ => ?_)
    refine lv_istore (lv' := [(6, .int v249), (5, .int v244), (0, .ref x0), (1, .ref a1), (2, .ref a2), (3, .ref a3), (4, .int x4)]) hx hb dL_law_1634 hl (by decide) rfl (fun ls hl => ?_)
    refine lv_aload_n hx hb dL_law_1636 rfl (lv_at hl 4 rfl) ?_
    obtain ⟨v251, h250, h⟩ := bnd_inv h
    refine r_cI hW (run_V (rest := []) C hW (t_X10_thrown h250) mk_X10_thrown vk_L_91 (kd_X10_thrown h250) rfl rfl (by decide) ⟨Nat.le_of_ble_eq_true rfl, Nat.le_of_ble_eq_true rfl⟩ (l_cs hm hcap) rfl rfl (Nat.le_of_ble_eq_true rfl) hl.1 dL_law_1637) (fun H locs hW _ => ?_)
    refine lv_iload hx hb dL_law_1640 (lv_at hl 1 rfl) ?_
    refine r_br h (lv_icmp_eq (tgt := 1647) hx hb dL_law_1642 (by decide)) (fun h => ?_) (fun h => ?_)
    · refine lv_iload hx hb dL_law_1647 (lv_at hl 1 rfl) ?_
      refine r_brn h (lv_if_ne (tgt := 1664) hx hb dL_law_1649 (by decide)) (fun h => ?_) (fun h => ?_)
      · refine lv_goto (tgt := 1887) hx hb dL_law_1664 (by decide) ?_
        exact hk hW hm (lv_sub hl [2, 3, 4, 5, 6] rfl) h
      · refine lv_aload_n hx hb dL_law_1652 rfl (lv_at hl 5 rfl) ?_
        refine lv_iconst (v := 0) hx hb dL_law_1653 (by decide) ?_
        refine r_lald C hW h dL_law_1654 (fun v252 h => ?_)
        refine lv_iload hx hb dL_law_1655 (lv_at hl 0 rfl) ?_
        refine lv_i2l (v := (Int32.toInt64 v249)) hx hb dL_law_1657 rfl ?_
        refine W.lcmp hx hb dL_law_1658 ?_
        refine r_br h (lv_if_eq (tgt := 1664) hx hb dL_law_1659 (by decide)) (fun h => ?_) (fun h => ?_)
        · refine lv_goto (tgt := 1887) hx hb dL_law_1664 (by decide) ?_
          exact hk hW hm (lv_sub hl [2, 3, 4, 5, 6] rfl) h
        · refine lv_iconst (v := 0) hx hb dL_law_1662 (by decide) ?_
          cases h
    · refine lv_iconst (v := 0) hx hb dL_law_1645 (by decide) ?_
      cases h
  refine r_case h (fun ec h => ?_) (fun nc24 h => ?_)
  · refine lv_tableIn (tgt := 1667) (off := 1627) hx hb dL_law_40 (by rw [ec]; decide) (by rw [ec]; decide) (by rw [ec]; rfl) (by decide) ?_
    refine lv_aload_n hx hb dL_law_1667 rfl (lv_at hl 1 rfl) ?_
    refine lv_aload_n hx hb dL_law_1668 rfl (lv_at hl 0 rfl) ?_
    refine lv_iload hx hb dL_law_1669 (lv_at hl 4 rfl) ?_
    refine lv_iconst (v := 1) hx hb dL_law_1671 (by decide) ?_
    refine lv_iadd hx hb dL_law_1672 ?_
    refine r_sld hx hb hX hbl hbA hW h dL_law_1673 (fun v253 h => ?_)
    refine lv_aload_n hx hb dL_law_1674 rfl (lv_at hl 0 rfl) ?_
    refine lv_iload hx hb dL_law_1675 (lv_at hl 4 rfl) ?_
    refine lv_iconst (v := 2) hx hb dL_law_1677 (by decide) ?_
    refine lv_iadd hx hb dL_law_1678 ?_
    refine r_sld hx hb hX hbl hbA hW h dL_law_1679 (fun v254 h => ?_)
    refine lv_aload_n hx hb dL_law_1680 rfl (lv_at hl 0 rfl) ?_
    refine lv_iload hx hb dL_law_1681 (lv_at hl 4 rfl) ?_
    refine lv_iconst (v := 3) hx hb dL_law_1683 (by decide) ?_
    refine lv_iadd hx hb dL_law_1684 ?_
    refine r_sld hx hb hX hbl hbA hW h dL_law_1685 (fun v255 h => ?_)
    obtain ⟨v258, X257, h256, h⟩ := bnd2_inv h
    refine r_cI hW (run_V (rest := []) C hW (t_X9_see h256) mk_X9_see vk_L_171 (kd_X9_see h256) rfl rfl (by decide) ⟨Nat.le_of_ble_eq_true rfl, Nat.le_of_ble_eq_true rfl⟩ (l_cs hm hcap) rfl rfl (Nat.le_of_ble_eq_true rfl) hl.1 dL_law_1686) (fun H locs hW _ => ?_)
    refine lv_aload_n hx hb dL_law_1689 rfl (lv_at hl 2 rfl) ?_
    refine lv_aload_n hx hb dL_law_1690 rfl (lv_at hl 0 rfl) ?_
    refine lv_iload hx hb dL_law_1691 (lv_at hl 4 rfl) ?_
    refine lv_iconst (v := 1) hx hb dL_law_1693 (by decide) ?_
    refine lv_iadd hx hb dL_law_1694 ?_
    refine r_sld hx hb hX hbl hbA hW h dL_law_1695 (fun v259 h => ?_)
    refine lv_aload_n hx hb dL_law_1696 rfl (lv_at hl 0 rfl) ?_
    refine lv_iload hx hb dL_law_1697 (lv_at hl 4 rfl) ?_
    refine lv_iconst (v := 2) hx hb dL_law_1699 (by decide) ?_
    refine lv_iadd hx hb dL_law_1700 ?_
    refine r_sld hx hb hX hbl hbA hW h dL_law_1701 (fun v260 h => ?_)
    refine lv_aload_n hx hb dL_law_1702 rfl (lv_at hl 0 rfl) ?_
    refine lv_iload hx hb dL_law_1703 (lv_at hl 4 rfl) ?_
    refine lv_iconst (v := 3) hx hb dL_law_1705 (by decide) ?_
    refine lv_iadd hx hb dL_law_1706 ?_
    refine r_sld hx hb hX hbl hbA hW h dL_law_1707 (fun v261 h => ?_)
    obtain ⟨v264, X263, h262, h⟩ := bnd2_inv h
    refine r_cI hW (run_V (rest := [.int v258]) C hW (t_X10_see h262) mk_X10_see vk_L_174 (kd_X10_see h262) rfl rfl (by decide) ⟨Nat.le_of_ble_eq_true rfl, Nat.le_of_ble_eq_true rfl⟩ (l_cs hm hcap) rfl rfl (Nat.le_of_ble_eq_true rfl) hl.1 dL_law_1708) (fun H locs hW _ => ?_)
    refine r_br h (lv_icmp_eq (tgt := 1887) hx hb dL_law_1711 (by decide)) (fun h => ?_) (fun h => ?_)
    · exact hk hW hm (lv_sub hl [0, 1, 2, 3, 4] rfl) h
    · refine lv_iconst (v := 0) hx hb dL_law_1714 (by decide) ?_
      cases h
  refine r_case h (fun ec h => ?_) (fun nc25 h => ?_)
  · refine lv_tableIn (tgt := 1716) (off := 1676) hx hb dL_law_40 (by rw [ec]; decide) (by rw [ec]; decide) (by rw [ec]; rfl) (by decide) ?_
    refine lv_aload_n hx hb dL_law_1716 rfl (lv_at hl 1 rfl) ?_
    obtain ⟨X266, h265, h⟩ := bnd_inv h
    refine r_cV hW (run_V (rest := []) C hW (t_X9_forget h265) mk_X9_forget vk_L_175 (kd_X9_forget h265) rfl rfl (by decide) ⟨Nat.le_of_ble_eq_true rfl, Nat.le_of_ble_eq_true rfl⟩ (l_cs hm hcap) rfl rfl (Nat.le_of_ble_eq_true rfl) hl.1 dL_law_1717) (fun H locs hW _ => ?_)
    refine lv_aload_n hx hb dL_law_1720 rfl (lv_at hl 2 rfl) ?_
    obtain ⟨X268, h267, h⟩ := bnd_inv h
    refine r_cV hW (run_V (rest := []) C hW (t_X10_forget h267) mk_X10_forget vk_L_178 (kd_X10_forget h267) rfl rfl (by decide) ⟨Nat.le_of_ble_eq_true rfl, Nat.le_of_ble_eq_true rfl⟩ (l_cs hm hcap) rfl rfl (Nat.le_of_ble_eq_true rfl) hl.1 dL_law_1721) (fun H locs hW _ => ?_)
    refine lv_goto (tgt := 1887) hx hb dL_law_1724 (by decide) ?_
    exact hk hW hm (lv_sub hl [0, 1, 2, 3, 4] rfl) h
  refine r_case h (fun ec h => ?_) (fun nc26 h => ?_)
  · refine lv_tableIn (tgt := 1727) (off := 1687) hx hb dL_law_40 (by rw [ec]; decide) (by rw [ec]; decide) (by rw [ec]; rfl) (by decide) ?_
    refine lv_aload_n hx hb dL_law_1727 rfl (lv_at hl 1 rfl) ?_
    refine lv_aload_n hx hb dL_law_1728 rfl (lv_at hl 0 rfl) ?_
    refine lv_iload hx hb dL_law_1729 (lv_at hl 4 rfl) ?_
    refine lv_iconst (v := 1) hx hb dL_law_1731 (by decide) ?_
    refine lv_iadd hx hb dL_law_1732 ?_
    refine r_sld hx hb hX hbl hbA hW h dL_law_1733 (fun v269 h => ?_)
    refine lv_aload_n hx hb dL_law_1734 rfl (lv_at hl 3 rfl) ?_
    obtain ⟨v270, σ270, X270, c270, d270, cu9, du9, h270, h, hcu, hdu⟩ := bndH_inv h
    refine l_SW (rest := []) C hW hzz hcu hdu hm hcap (t_L_edited hst h270) mkw_L_edited sk_L_179 ⟨Nat.le_of_ble_eq_true rfl, Nat.le_of_ble_eq_true rfl⟩ rfl rfl (Nat.le_of_ble_eq_true rfl) hl.1 dL_law_1735 (fun H locs cells slots hW hm => ?_)
    refine lv_istore (lv' := [(5, .int v270), (0, .ref x0), (1, .ref a1), (2, .ref a2), (3, .ref a3), (4, .int x4)]) hx hb dL_law_1738 hl (by decide) rfl (fun ls hl => ?_)
    refine lv_aload_n hx hb dL_law_1740 rfl (lv_at hl 3 rfl) ?_
    refine lv_aload_n hx hb dL_law_1741 rfl (lv_at hl 1 rfl) ?_
    refine lv_iload hx hb dL_law_1742 (lv_at hl 5 rfl) ?_
    refine lv_iconst (v := 1) hx hb dL_law_1744 (by decide) ?_
    refine lv_iadd hx hb dL_law_1745 ?_
    refine r_sld hx hb hX hbl hbA hW h dL_law_1746 (fun v271 h => ?_)
    obtain ⟨v274, X273, h272, h⟩ := bnd2_inv h
    refine r_cI hW (run_V (rest := []) C hW (t_X10_edited h272) mk_X10_edited vk_L_181 (kd_X10_edited h272) rfl rfl (by decide) ⟨Nat.le_of_ble_eq_true rfl, Nat.le_of_ble_eq_true rfl⟩ (l_cs hm hcap) rfl rfl (Nat.le_of_ble_eq_true rfl) hl.1 dL_law_1747) (fun H locs hW _ => ?_)
    refine lv_istore (lv' := [(6, .int v274), (5, .int v270), (0, .ref x0), (1, .ref a1), (2, .ref a2), (3, .ref a3), (4, .int x4)]) hx hb dL_law_1750 hl (by decide) rfl (fun ls hl => ?_)
    refine lv_aload_n hx hb dL_law_1752 rfl (lv_at hl 4 rfl) ?_
    obtain ⟨v276, h275, h⟩ := bnd_inv h
    refine r_cI hW (run_V (rest := []) C hW (t_X10_thrown h275) mk_X10_thrown vk_L_91 (kd_X10_thrown h275) rfl rfl (by decide) ⟨Nat.le_of_ble_eq_true rfl, Nat.le_of_ble_eq_true rfl⟩ (l_cs hm hcap) rfl rfl (Nat.le_of_ble_eq_true rfl) hl.1 dL_law_1753) (fun H locs hW _ => ?_)
    refine lv_iload hx hb dL_law_1756 (lv_at hl 1 rfl) ?_
    refine r_br h (lv_icmp_eq (tgt := 1763) hx hb dL_law_1758 (by decide)) (fun h => ?_) (fun h => ?_)
    · refine lv_iload hx hb dL_law_1763 (lv_at hl 1 rfl) ?_
      refine r_brn h (lv_if_ne (tgt := 1780) hx hb dL_law_1765 (by decide)) (fun h => ?_) (fun h => ?_)
      · refine lv_goto (tgt := 1887) hx hb dL_law_1780 (by decide) ?_
        exact hk hW hm (lv_sub hl [2, 3, 4, 5, 6] rfl) h
      · refine lv_aload_n hx hb dL_law_1768 rfl (lv_at hl 5 rfl) ?_
        refine lv_iconst (v := 0) hx hb dL_law_1769 (by decide) ?_
        refine r_lald C hW h dL_law_1770 (fun v277 h => ?_)
        refine lv_iload hx hb dL_law_1771 (lv_at hl 0 rfl) ?_
        refine lv_i2l (v := (Int32.toInt64 v274)) hx hb dL_law_1773 rfl ?_
        refine W.lcmp hx hb dL_law_1774 ?_
        refine r_br h (lv_if_eq (tgt := 1780) hx hb dL_law_1775 (by decide)) (fun h => ?_) (fun h => ?_)
        · refine lv_goto (tgt := 1887) hx hb dL_law_1780 (by decide) ?_
          exact hk hW hm (lv_sub hl [2, 3, 4, 5, 6] rfl) h
        · refine lv_iconst (v := 0) hx hb dL_law_1778 (by decide) ?_
          cases h
    · refine lv_iconst (v := 0) hx hb dL_law_1761 (by decide) ?_
      cases h
  refine r_case h (fun ec h => ?_) (fun nc27 h => ?_)
  · refine lv_tableIn (tgt := 1783) (off := 1743) hx hb dL_law_40 (by rw [ec]; decide) (by rw [ec]; decide) (by rw [ec]; rfl) (by decide) ?_
    refine lv_aload_n hx hb dL_law_1783 rfl (lv_at hl 1 rfl) ?_
    refine lv_aload_n hx hb dL_law_1784 rfl (lv_at hl 0 rfl) ?_
    refine lv_iload hx hb dL_law_1785 (lv_at hl 4 rfl) ?_
    refine lv_iconst (v := 1) hx hb dL_law_1787 (by decide) ?_
    refine lv_iadd hx hb dL_law_1788 ?_
    refine r_sld hx hb hX hbl hbA hW h dL_law_1789 (fun v278 h => ?_)
    refine lv_aload_n hx hb dL_law_1790 rfl (lv_at hl 0 rfl) ?_
    refine lv_iload hx hb dL_law_1791 (lv_at hl 4 rfl) ?_
    refine lv_iconst (v := 2) hx hb dL_law_1793 (by decide) ?_
    refine lv_iadd hx hb dL_law_1794 ?_
    refine r_sld hx hb hX hbl hbA hW h dL_law_1795 (fun v279 h => ?_)
    refine lv_aload_n hx hb dL_law_1796 rfl (lv_at hl 0 rfl) ?_
    refine lv_iload hx hb dL_law_1797 (lv_at hl 4 rfl) ?_
    refine lv_iconst (v := 3) hx hb dL_law_1799 (by decide) ?_
    refine lv_iadd hx hb dL_law_1800 ?_
    refine r_sld hx hb hX hbl hbA hW h dL_law_1801 (fun v280 h => ?_)
    refine lv_aload_n hx hb dL_law_1802 rfl (lv_at hl 3 rfl) ?_
    obtain ⟨v281, σ281, X281, c281, d281, cu9, du9, h281, h, hcu, hdu⟩ := bndH_inv h
    refine l_SW (rest := []) C hW hzz hcu hdu hm hcap (t_L_years hst h281) mkw_L_years sk_L_182 ⟨Nat.le_of_ble_eq_true rfl, Nat.le_of_ble_eq_true rfl⟩ rfl rfl (Nat.le_of_ble_eq_true rfl) hl.1 dL_law_1803 (fun H locs cells slots hW hm => ?_)
    refine lv_istore (lv' := [(5, .int v281), (0, .ref x0), (1, .ref a1), (2, .ref a2), (3, .ref a3), (4, .int x4)]) hx hb dL_law_1806 hl (by decide) rfl (fun ls hl => ?_)
    refine lv_aload_n hx hb dL_law_1808 rfl (lv_at hl 3 rfl) ?_
    refine lv_aload_n hx hb dL_law_1809 rfl (lv_at hl 1 rfl) ?_
    refine lv_iload hx hb dL_law_1810 (lv_at hl 5 rfl) ?_
    refine lv_iconst (v := 1) hx hb dL_law_1812 (by decide) ?_
    refine lv_iadd hx hb dL_law_1813 ?_
    refine r_sld hx hb hX hbl hbA hW h dL_law_1814 (fun v282 h => ?_)
    refine lv_aload_n hx hb dL_law_1815 rfl (lv_at hl 1 rfl) ?_
    refine lv_iload hx hb dL_law_1816 (lv_at hl 5 rfl) ?_
    refine lv_iconst (v := 2) hx hb dL_law_1818 (by decide) ?_
    refine lv_iadd hx hb dL_law_1819 ?_
    refine r_sld hx hb hX hbl hbA hW h dL_law_1820 (fun v283 h => ?_)
    refine lv_aload_n hx hb dL_law_1821 rfl (lv_at hl 1 rfl) ?_
    refine lv_iload hx hb dL_law_1822 (lv_at hl 5 rfl) ?_
    refine lv_iconst (v := 3) hx hb dL_law_1824 (by decide) ?_
    refine lv_iadd hx hb dL_law_1825 ?_
    refine r_sld hx hb hX hbl hbA hW h dL_law_1826 (fun v284 h => ?_)
    obtain ⟨v287, X286, h285, h⟩ := bnd2_inv h
    refine r_cI hW (run_V (rest := []) C hW (t_X10_years h285) mk_X10_years vk_L_184 (kd_X10_years h285) rfl rfl (by decide) ⟨Nat.le_of_ble_eq_true rfl, Nat.le_of_ble_eq_true rfl⟩ (l_cs hm hcap) rfl rfl (Nat.le_of_ble_eq_true rfl) hl.1 dL_law_1827) (fun H locs hW _ => ?_)
    refine lv_istore (lv' := [(6, .int v287), (5, .int v281), (0, .ref x0), (1, .ref a1), (2, .ref a2), (3, .ref a3), (4, .int x4)]) hx hb dL_law_1830 hl (by decide) rfl (fun ls hl => ?_)
    refine lv_aload_n hx hb dL_law_1832 rfl (lv_at hl 4 rfl) ?_
    obtain ⟨v289, h288, h⟩ := bnd_inv h
    refine r_cI hW (run_V (rest := []) C hW (t_X10_thrown h288) mk_X10_thrown vk_L_91 (kd_X10_thrown h288) rfl rfl (by decide) ⟨Nat.le_of_ble_eq_true rfl, Nat.le_of_ble_eq_true rfl⟩ (l_cs hm hcap) rfl rfl (Nat.le_of_ble_eq_true rfl) hl.1 dL_law_1833) (fun H locs hW _ => ?_)
    refine lv_iload hx hb dL_law_1836 (lv_at hl 1 rfl) ?_
    refine r_br h (lv_icmp_eq (tgt := 1843) hx hb dL_law_1838 (by decide)) (fun h => ?_) (fun h => ?_)
    · refine lv_iload hx hb dL_law_1843 (lv_at hl 1 rfl) ?_
      refine r_brn h (lv_if_ne (tgt := 1860) hx hb dL_law_1845 (by decide)) (fun h => ?_) (fun h => ?_)
      · refine lv_goto (tgt := 1887) hx hb dL_law_1860 (by decide) ?_
        exact hk hW hm (lv_sub hl [2, 3, 4, 5, 6] rfl) h
      · refine lv_aload_n hx hb dL_law_1848 rfl (lv_at hl 5 rfl) ?_
        refine lv_iconst (v := 0) hx hb dL_law_1849 (by decide) ?_
        refine r_lald C hW h dL_law_1850 (fun v290 h => ?_)
        refine lv_iload hx hb dL_law_1851 (lv_at hl 0 rfl) ?_
        refine lv_i2l (v := (Int32.toInt64 v287)) hx hb dL_law_1853 rfl ?_
        refine W.lcmp hx hb dL_law_1854 ?_
        refine r_br h (lv_if_eq (tgt := 1860) hx hb dL_law_1855 (by decide)) (fun h => ?_) (fun h => ?_)
        · refine lv_goto (tgt := 1887) hx hb dL_law_1860 (by decide) ?_
          exact hk hW hm (lv_sub hl [2, 3, 4, 5, 6] rfl) h
        · refine lv_iconst (v := 0) hx hb dL_law_1858 (by decide) ?_
          cases h
    · refine lv_iconst (v := 0) hx hb dL_law_1841 (by decide) ?_
      cases h
  refine r_case h (fun ec h => ?_) (fun nc28 h => ?_)
  · refine lv_tableIn (tgt := 1863) (off := 1823) hx hb dL_law_40 (by rw [ec]; decide) (by rw [ec]; decide) (by rw [ec]; rfl) (by decide) ?_
    refine lv_aload_n hx hb dL_law_1863 rfl (lv_at hl 1 rfl) ?_
    obtain ⟨u291, σ291, X291, c291, d291, cu9, du9, h291, h, hcu, hdu⟩ := bndH_inv h
    refine l_HV_V (rest := []) C hW hzz hcu hdu hm hcap (t_X9_image h291) mk_X9_image vk_L_185 (kd_X9_image h291) rfl rfl (by decide) ⟨Nat.le_of_ble_eq_true rfl, Nat.le_of_ble_eq_true rfl⟩ rfl rfl (Nat.le_of_ble_eq_true rfl) hl.1 dL_law_1864 (fun H locs cells slots hW hm => ?_)
    refine lv_aload_n hx hb dL_law_1867 rfl (lv_at hl 2 rfl) ?_
    obtain ⟨X293, h292, h⟩ := bnd_inv h
    refine r_cV hW (run_V (rest := []) C hW (t_X10_image h292) mk_X10_image vk_L_188 (kd_X10_image h292) rfl rfl (by decide) ⟨Nat.le_of_ble_eq_true rfl, Nat.le_of_ble_eq_true rfl⟩ (l_cs hm hcap) rfl rfl (Nat.le_of_ble_eq_true rfl) hl.1 dL_law_1868) (fun H locs hW _ => ?_)
    refine lv_goto (tgt := 1887) hx hb dL_law_1871 (by decide) ?_
    exact hk hW hm (lv_sub hl [0, 1, 2, 3, 4] rfl) h
  refine r_case h (fun ec h => ?_) (fun nc29 h => ?_)
  · refine lv_tableIn (tgt := 1874) (off := 1834) hx hb dL_law_40 (by rw [ec]; decide) (by rw [ec]; decide) (by rw [ec]; rfl) (by decide) ?_
    refine lv_aload_n hx hb dL_law_1874 rfl (lv_at hl 1 rfl) ?_
    obtain ⟨v294, σ294, X294, c294, d294, cu9, du9, h294, h, hcu, hdu⟩ := bndH_inv h
    refine l_HV_I (rest := []) C hW hzz hcu hdu hm hcap (t_X9_restore h294) mk_X9_restore vk_L_189 (kd_X9_restore h294) rfl rfl (by decide) ⟨Nat.le_of_ble_eq_true rfl, Nat.le_of_ble_eq_true rfl⟩ rfl rfl (Nat.le_of_ble_eq_true rfl) hl.1 dL_law_1875 (fun H locs cells slots hW hm => ?_)
    refine lv_aload_n hx hb dL_law_1878 rfl (lv_at hl 2 rfl) ?_
    obtain ⟨v297, X296, h295, h⟩ := bnd2_inv h
    refine r_cI hW (run_V (rest := [.int v294]) C hW (t_X10_restore h295) mk_X10_restore vk_L_193 (kd_X10_restore h295) rfl rfl (by decide) ⟨Nat.le_of_ble_eq_true rfl, Nat.le_of_ble_eq_true rfl⟩ (l_cs hm hcap) rfl rfl (Nat.le_of_ble_eq_true rfl) hl.1 dL_law_1879) (fun H locs hW _ => ?_)
    refine r_br h (lv_icmp_eq (tgt := 1887) hx hb dL_law_1882 (by decide)) (fun h => ?_) (fun h => ?_)
    · exact hk hW hm (lv_sub hl [0, 1, 2, 3, 4] rfl) h
    · refine lv_iconst (v := 0) hx hb dL_law_1885 (by decide) ?_
      cases h
  refine lv_tableOut (tgt := 1887) hx hb dL_law_40 (sw_out (lo := 0) (n := 29) (sw_s nc29 (sw_s nc28 (sw_s nc27 (sw_s nc26 (sw_s nc25 (sw_s nc24 (sw_s nc23 (sw_s nc22 (sw_s nc21 (sw_s nc20 (sw_s nc19 (sw_s nc18 (sw_s nc17 (sw_s nc16 (sw_s nc15 (sw_s nc14 (sw_s nc13 (sw_s nc12 (sw_s nc11 (sw_s nc10 (sw_s nc9 (sw_s nc8 (sw_s nc7 (sw_s nc6 (sw_s nc5 (sw_s nc4 (sw_s nc3 (sw_s nc2 (sw_s nc1 (sw_0 nc0)))))))))))))))))))))))))))))) (by decide)) (by decide) ?_
  exact hk hW hm (lv_sub hl [0, 1, 2, 3, 4] rfl) h
end
