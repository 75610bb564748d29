/-! the words of the tables that the steps need, each once -/
theorem cwl {C : String} {T : u_T} {N : Nat} (ix : List Nat) (h : ((List.range N).all fun k => decide (tables_1[ix.getD k 0]? = some (u_lay C T k)) && wkd (u_lay C T k)) = true) : ∀ w ∈ u_ws C T N, tbw w := by
  intro w hw
  obtain ⟨k, hk, rfl⟩ := List.mem_map.mp hw
  have h1 := List.all_eq_true.mp h k hk
  rw [Bool.and_eq_true, decide_eq_true_eq] at h1
  exact ⟨List.mem_append_right _ (List.mem_of_getElem? h1.1), h1.2⟩
theorem wt0 {w : Cond} (i : Nat) (h : tables_1[i]? = some w) (hk : wkd w = true) : tbw w := ⟨List.mem_append_right _ (List.mem_of_getElem? h), hk⟩
theorem wp0 {w : Cond} (i : Nat) (h : (k2_sels lw_privs)[i]? = some w) (hk : wkd w = true) : tbw w := ⟨List.mem_append_left _ (List.mem_of_getElem? h), hk⟩
set_option maxRecDepth 100000 in
theorem cw_X0 : ∀ w ∈ u_ws RX0 TX0 5, tbw w := cwl [186, 188, 190, 192, 194] (by decide +kernel)
theorem df_X0 : ∀ j, j < 5 → defaultValue (tyX0 j) = if fR 1 j then .null else .int 0 := by decide +kernel
set_option maxRecDepth 100000 in
theorem cw_X1 : ∀ w ∈ u_ws RX1 TX1 6, tbw w := cwl [54, 56, 58, 60, 62, 64] (by decide +kernel)
theorem df_X1 : ∀ j, j < 6 → defaultValue (tyX1 j) = if fR 2 j then .null else .int 0 := by decide +kernel
set_option maxRecDepth 100000 in
theorem cw_X2 : ∀ w ∈ u_ws RX2 TX2 5, tbw w := cwl [487, 489, 491, 493, 495] (by decide +kernel)
theorem df_X2 : ∀ j, j < 5 → defaultValue (tyX2 j) = if fR 3 j then .null else .int 0 := by decide +kernel
set_option maxRecDepth 100000 in
theorem cw_X3 : ∀ w ∈ u_ws RX3 TX3 2, tbw w := cwl [70, 72] (by decide +kernel)
theorem df_X3 : ∀ j, j < 2 → defaultValue (tyX3 j) = if fR 4 j then .null else .int 0 := by decide +kernel
set_option maxRecDepth 100000 in
theorem cw_X4 : ∀ w ∈ u_ws RX4 TX4 11, tbw w := cwl [216, 218, 220, 222, 224, 226, 228, 230, 232, 234, 236] (by decide +kernel)
theorem df_X4 : ∀ j, j < 11 → defaultValue (tyX4 j) = if fR 5 j then .null else .int 0 := by decide +kernel
set_option maxRecDepth 100000 in
theorem cw_X5 : ∀ w ∈ u_ws RX5 TX5 15, tbw w := cwl [261, 263, 265, 267, 269, 271, 273, 275, 277, 279, 281, 283, 285, 287, 289] (by decide +kernel)
theorem df_X5 : ∀ j, j < 15 → defaultValue (tyX5 j) = if fR 6 j then .null else .int 0 := by decide +kernel
set_option maxRecDepth 100000 in
theorem cw_X6 : ∀ w ∈ u_ws RX6 TX6 12, tbw w := cwl [140, 142, 144, 146, 148, 150, 152, 154, 156, 158, 160, 162] (by decide +kernel)
theorem df_X6 : ∀ j, j < 12 → defaultValue (tyX6 j) = if fR 7 j then .null else .int 0 := by decide +kernel
set_option maxRecDepth 100000 in
theorem cw_X7 : ∀ w ∈ u_ws RX7 TX7 10, tbw w := cwl [553, 555, 557, 559, 561, 563, 565, 567, 569, 571] (by decide +kernel)
theorem df_X7 : ∀ j, j < 10 → defaultValue (tyX7 j) = if fR 8 j then .null else .int 0 := by decide +kernel
set_option maxRecDepth 100000 in
theorem cw_X8 : ∀ w ∈ u_ws RX8 TX8 17, tbw w := cwl [949, 951, 953, 955, 957, 959, 961, 963, 965, 967, 969, 971, 973, 975, 977, 979, 981] (by decide +kernel)
theorem df_X8 : ∀ j, j < 17 → defaultValue (tyX8 j) = if fR 9 j then .null else .int 0 := by decide +kernel
set_option maxRecDepth 100000 in
theorem cw_X9 : ∀ w ∈ u_ws RX9 TX9 10, tbw w := cwl [368, 370, 372, 374, 376, 378, 380, 382, 384, 386] (by decide +kernel)
theorem df_X9 : ∀ j, j < 10 → defaultValue (tyX9 j) = if fR 10 j then .null else .int 0 := by decide +kernel
set_option maxRecDepth 100000 in
theorem cw_X10 : ∀ w ∈ u_ws RX10 TX10 9, tbw w := cwl [92, 94, 96, 98, 100, 102, 104, 106, 108] (by decide +kernel)
theorem df_X10 : ∀ j, j < 9 → defaultValue (tyX10 j) = if fR 11 j then .null else .int 0 := by decide +kernel
set_option maxRecDepth 100000 in
theorem cw_X11 : ∀ w ∈ u_ws RX11 TX11 9, tbw w := cwl [301, 303, 305, 307, 309, 311, 313, 315, 317] (by decide +kernel)
theorem df_X11 : ∀ j, j < 9 → defaultValue (tyX11 j) = if fR 12 j then .null else .int 0 := by decide +kernel
set_option maxRecDepth 100000 in
theorem cw_X12 : ∀ w ∈ u_ws RX12 TX12 90, tbw w := cwl [1577, 1579, 1581, 1583, 1585, 1587, 1589, 1591, 1593, 1595, 1597, 1599, 1601, 1603, 1605, 1607, 1609, 1611, 1613, 1615, 1617, 1619, 1621, 1623, 1625, 1627, 1629, 1631, 1633, 1635, 1637, 1639, 1641, 1643, 1645, 1647, 1649, 1651, 1653, 1655, 1657, 1659, 1661, 1663, 1665, 1667, 1669, 1671, 1673, 1675, 1677, 1679, 1681, 1683, 1685, 1687, 1689, 1691, 1693, 1695, 1697, 1699, 1701, 1703, 1705, 1707, 1709, 1711, 1713, 1715, 1717, 1719, 1721, 1723, 1725, 1727, 1729, 1731, 1733, 1735, 1737, 1739, 1741, 1743, 1745, 1747, 1749, 1751, 1753, 1755] (by decide +kernel)
theorem df_X12 : ∀ j, j < 90 → defaultValue (tyX12 j) = if fR 13 j then .null else .int 0 := by decide +kernel
set_option maxRecDepth 100000 in
theorem wq_X0_3 : tbw (.methodLink RX0 3 Lib.objectInit) := wt0 178 (by decide +kernel) rfl
set_option maxRecDepth 100000 in
theorem wq_i : tbw (.instanceMethod Lib.objectInit) := wt0 26 (by decide +kernel) rfl
set_option maxRecDepth 100000 in
theorem wq_c : tbw (.code Lib.objectInit ⟨#[0xb1]⟩ 1 none) := wt0 27 (by decide +kernel) rfl
set_option maxRecDepth 100000 in
theorem wa_int : tbw (.arrayClass .int) := wt0 67 (by decide +kernel) rfl
set_option maxRecDepth 100000 in
theorem fw_X0_9 : fdw RX0 1 0 9 5 RX0 TX0 (.fieldLink RX0 9 RX0 (TX0 0).2.1 (TX0 0).2.2.1) := ⟨rfl, by decide, rfl, by decide, rfl, cw_X0, wt0 179 (by decide +kernel) rfl, Or.inl rfl⟩
set_option maxRecDepth 100000 in
theorem fw_X0_15 : fdw RX0 1 1 15 5 RX0 TX0 (.fieldLink RX0 15 RX0 (TX0 1).2.1 (TX0 1).2.2.1) := ⟨rfl, by decide, rfl, by decide, rfl, cw_X0, wt0 180 (by decide +kernel) rfl, Or.inl rfl⟩
set_option maxRecDepth 100000 in
theorem fw_X0_18 : fdw RX0 1 2 18 5 RX0 TX0 (.fieldLink RX0 18 RX0 (TX0 2).2.1 (TX0 2).2.2.1) := ⟨rfl, by decide, rfl, by decide, rfl, cw_X0, wt0 181 (by decide +kernel) rfl, Or.inl rfl⟩
set_option maxRecDepth 100000 in
theorem fw_X0_21 : fdw RX0 1 3 21 5 RX0 TX0 (.fieldLink RX0 21 RX0 (TX0 3).2.1 (TX0 3).2.2.1) := ⟨rfl, by decide, rfl, by decide, rfl, cw_X0, wt0 182 (by decide +kernel) rfl, Or.inl rfl⟩
set_option maxRecDepth 100000 in
theorem fw_X0_25 : fdw RX0 1 4 25 5 RX0 TX0 (.fieldLink RX0 25 RX0 (TX0 4).2.1 (TX0 4).2.2.1) := ⟨rfl, by decide, rfl, by decide, rfl, cw_X0, wt0 184 (by decide +kernel) rfl, Or.inl rfl⟩
set_option maxRecDepth 100000 in
theorem wc_X0_sizeOf : tbw (cwd 3) := wt0 1153 (by decide +kernel) rfl
set_option maxRecDepth 100000 in
theorem wi_SealedProcesses_Blocks : tbw (.initialized RX0) := wt0 7 (by decide +kernel) rfl
set_option maxRecDepth 100000 in
theorem mw_X0_28 : clw RX0 3 28 1 (.methodLink RX0 28 (yy 3)) := ⟨rfl, wc_X0_sizeOf, wi_SealedProcesses_Blocks, ⟨by decide, by decide⟩, fun sig h => by cases h; rfl, by decide, wt0 1150 (by decide +kernel) rfl, Or.inl rfl⟩
set_option maxRecDepth 100000 in
theorem wm_X0_sizeOf : tbw (.instanceMethod (yy 3)) := wt0 1152 (by decide +kernel) rfl
set_option maxRecDepth 100000 in
theorem wse_X0_sizeOf : tbw (.selects RX0 (yy 3) (yy 3)) := wp0 120 (by decide +kernel) rfl
set_option maxRecDepth 100000 in
theorem wc_X0_free : tbw (cwd 8) := wt0 1161 (by decide +kernel) rfl
set_option maxRecDepth 100000 in
theorem mw_X0_32 : clw RX0 8 32 1 (.methodLink RX0 32 (yy 8)) := ⟨rfl, wc_X0_free, wi_SealedProcesses_Blocks, ⟨by decide, by decide⟩, fun sig h => by cases h; rfl, by decide, wt0 1326 (by decide +kernel) rfl, Or.inl rfl⟩
set_option maxRecDepth 100000 in
theorem wm_X0_free : tbw (.instanceMethod (yy 8)) := wt0 1160 (by decide +kernel) rfl
set_option maxRecDepth 100000 in
theorem wse_X0_free : tbw (.selects RX0 (yy 8) (yy 8)) := wp0 122 (by decide +kernel) rfl
set_option maxRecDepth 100000 in
theorem wq_X1_3 : tbw (.methodLink RX1 3 Lib.objectInit) := wt0 41 (by decide +kernel) rfl
set_option maxRecDepth 100000 in
theorem fw_X1_9 : fdw RX1 2 0 9 6 RX1 TX1 (.fieldLink RX1 9 RX1 (TX1 0).2.1 (TX1 0).2.2.1) := ⟨rfl, by decide, rfl, by decide, rfl, cw_X1, wt0 42 (by decide +kernel) rfl, Or.inl rfl⟩
set_option maxRecDepth 100000 in
theorem fw_X1_15 : fdw RX1 2 1 15 6 RX1 TX1 (.fieldLink RX1 15 RX1 (TX1 1).2.1 (TX1 1).2.2.1) := ⟨rfl, by decide, rfl, by decide, rfl, cw_X1, wt0 43 (by decide +kernel) rfl, Or.inl rfl⟩
set_option maxRecDepth 100000 in
theorem fw_X1_19 : fdw RX1 2 2 19 6 RX1 TX1 (.fieldLink RX1 19 RX1 (TX1 2).2.1 (TX1 2).2.2.1) := ⟨rfl, by decide, rfl, by decide, rfl, cw_X1, wt0 45 (by decide +kernel) rfl, Or.inl rfl⟩
set_option maxRecDepth 100000 in
theorem fw_X1_22 : fdw RX1 2 3 22 6 RX1 TX1 (.fieldLink RX1 22 RX1 (TX1 3).2.1 (TX1 3).2.2.1) := ⟨rfl, by decide, rfl, by decide, rfl, cw_X1, wt0 47 (by decide +kernel) rfl, Or.inl rfl⟩
set_option maxRecDepth 100000 in
theorem fw_X1_25 : fdw RX1 2 4 25 6 RX1 TX1 (.fieldLink RX1 25 RX1 (TX1 4).2.1 (TX1 4).2.2.1) := ⟨rfl, by decide, rfl, by decide, rfl, cw_X1, wt0 50 (by decide +kernel) rfl, Or.inl rfl⟩
set_option maxRecDepth 100000 in
theorem fw_X1_28 : fdw RX1 2 5 28 6 RX1 TX1 (.fieldLink RX1 28 RX1 (TX1 5).2.1 (TX1 5).2.2.1) := ⟨rfl, by decide, rfl, by decide, rfl, cw_X1, wt0 52 (by decide +kernel) rfl, Or.inl rfl⟩
set_option maxRecDepth 100000 in
theorem wq_X1_31 : tbw (.methodLink RX1 31 Lib.Math.min.name) := wt0 397 (by decide +kernel) rfl
set_option maxRecDepth 100000 in
theorem wq_smin : tbw (.static Lib.Math.min.name) := wt0 341 (by decide +kernel) rfl
set_option maxRecDepth 100000 in
theorem wq_im : tbw (.initialized "java/lang/Math") := wt0 15 (by decide +kernel) rfl
set_option maxRecDepth 100000 in
theorem wq_cmin : tbw (.code Lib.Math.min.name Lib.Math.min.code 2 (some .int)) := wt0 342 (by decide +kernel) rfl
set_option maxRecDepth 100000 in
theorem wq_X1_37 : tbw (.methodLink RX1 37 Lib.Math.max.name) := wt0 398 (by decide +kernel) rfl
set_option maxRecDepth 100000 in
theorem wq_smax : tbw (.static Lib.Math.max.name) := wt0 344 (by decide +kernel) rfl
set_option maxRecDepth 100000 in
theorem wq_cmax : tbw (.code Lib.Math.max.name Lib.Math.max.code 2 (some .int)) := wt0 345 (by decide +kernel) rfl
set_option maxRecDepth 100000 in
theorem wc_X1_peek : tbw (cwd 14) := wt0 414 (by decide +kernel) rfl
set_option maxRecDepth 100000 in
theorem wi_SealedProcesses_Bytes : tbw (.initialized RX1) := wt0 3 (by decide +kernel) rfl
set_option maxRecDepth 100000 in
theorem mw_X1_40 : clw RX1 14 40 0 (.methodLink RX1 40 (yy 14)) := ⟨rfl, wc_X1_peek, wi_SealedProcesses_Bytes, ⟨by decide, by decide⟩, fun sig h => by cases h; rfl, by decide, wt0 411 (by decide +kernel) rfl, Or.inl rfl⟩
set_option maxRecDepth 100000 in
theorem wm_X1_peek : tbw (.instanceMethod (yy 14)) := wt0 413 (by decide +kernel) rfl
set_option maxRecDepth 100000 in
theorem wse_X1_peek : tbw (.selects RX1 (yy 14) (yy 14)) := wp0 6 (by decide +kernel) rfl
set_option maxRecDepth 100000 in
theorem wc_X1_fail : tbw (cwd 13) := wt0 418 (by decide +kernel) rfl
set_option maxRecDepth 100000 in
theorem mw_X1_44 : clw RX1 13 44 2 (.methodLink RX1 44 (yy 13)) := ⟨rfl, wc_X1_fail, wi_SealedProcesses_Bytes, ⟨by decide, by decide⟩, fun sig h => by cases h; rfl, by decide, wt0 415 (by decide +kernel) rfl, Or.inl rfl⟩
set_option maxRecDepth 100000 in
theorem wm_X1_fail : tbw (.instanceMethod (yy 13)) := wt0 417 (by decide +kernel) rfl
set_option maxRecDepth 100000 in
theorem wse_X1_fail : tbw (.selects RX1 (yy 13) (yy 13)) := wp0 7 (by decide +kernel) rfl
set_option maxRecDepth 100000 in
theorem wc_X1_take : tbw (cwd 15) := wt0 410 (by decide +kernel) rfl
set_option maxRecDepth 100000 in
theorem mw_X1_48 : clw RX1 15 48 0 (.methodLink RX1 48 (yy 15)) := ⟨rfl, wc_X1_take, wi_SealedProcesses_Bytes, ⟨by decide, by decide⟩, fun sig h => by cases h; rfl, by decide, wt0 407 (by decide +kernel) rfl, Or.inl rfl⟩
set_option maxRecDepth 100000 in
theorem wm_X1_take : tbw (.instanceMethod (yy 15)) := wt0 409 (by decide +kernel) rfl
set_option maxRecDepth 100000 in
theorem wse_X1_take : tbw (.selects RX1 (yy 15) (yy 15)) := wp0 5 (by decide +kernel) rfl
set_option maxRecDepth 100000 in
theorem wq_X2_3 : tbw (.methodLink RX2 3 Lib.objectInit) := wt0 479 (by decide +kernel) rfl
set_option maxRecDepth 100000 in
theorem fw_X2_9 : fdw RX2 3 1 9 5 RX2 TX2 (.fieldLink RX2 9 RX2 (TX2 1).2.1 (TX2 1).2.2.1) := ⟨rfl, by decide, rfl, by decide, rfl, cw_X2, wt0 483 (by decide +kernel) rfl, Or.inl rfl⟩
set_option maxRecDepth 100000 in
theorem fw_X2_15 : fdw RX2 3 2 15 5 RX2 TX2 (.fieldLink RX2 15 RX2 (TX2 2).2.1 (TX2 2).2.2.1) := ⟨rfl, by decide, rfl, by decide, rfl, cw_X2, wt0 484 (by decide +kernel) rfl, Or.inl rfl⟩
set_option maxRecDepth 100000 in
theorem fw_X2_18 : fdw RX2 3 3 18 5 RX2 TX2 (.fieldLink RX2 18 RX2 (TX2 3).2.1 (TX2 3).2.2.1) := ⟨rfl, by decide, rfl, by decide, rfl, cw_X2, wt0 485 (by decide +kernel) rfl, Or.inl rfl⟩
set_option maxRecDepth 100000 in
theorem fw_X2_21 : fdw RX2 3 4 21 5 RX2 TX2 (.fieldLink RX2 21 RX2 (TX2 4).2.1 (TX2 4).2.2.1) := ⟨rfl, by decide, rfl, by decide, rfl, cw_X2, wt0 486 (by decide +kernel) rfl, Or.inl rfl⟩
set_option maxRecDepth 100000 in
theorem fw_X2_24 : fdw RX2 3 0 24 5 RX2 TX2 (.fieldLink RX2 24 RX2 (TX2 0).2.1 (TX2 0).2.2.1) := ⟨rfl, by decide, rfl, by decide, rfl, cw_X2, wt0 480 (by decide +kernel) rfl, Or.inl rfl⟩
set_option maxRecDepth 100000 in
theorem wc_X2_indexOf : tbw (cwd 22) := wt0 513 (by decide +kernel) rfl
set_option maxRecDepth 100000 in
theorem wi_SealedProcesses_Contract : tbw (.initialized RX2) := wt0 16 (by decide +kernel) rfl
set_option maxRecDepth 100000 in
theorem mw_X2_28 : clw RX2 22 28 2 (.methodLink RX2 28 (yy 22)) := ⟨rfl, wc_X2_indexOf, wi_SealedProcesses_Contract, ⟨by decide, by decide⟩, fun sig h => by cases h; rfl, by decide, wt0 510 (by decide +kernel) rfl, Or.inl rfl⟩
set_option maxRecDepth 100000 in
theorem wm_X2_indexOf : tbw (.instanceMethod (yy 22)) := wt0 512 (by decide +kernel) rfl
set_option maxRecDepth 100000 in
theorem wse_X2_indexOf : tbw (.selects RX2 (yy 22) (yy 22)) := wp0 22 (by decide +kernel) rfl
set_option maxRecDepth 100000 in
theorem wq_X3_5 : tbw (.methodLink RX3 5 Lib.objectInit) := wt0 35 (by decide +kernel) rfl
set_option maxRecDepth 100000 in
theorem wl_X3_11 : tbw (.classLink RX3 11 RX1) := wt0 36 (by decide +kernel) rfl
set_option maxRecDepth 100000 in
theorem wn_X1 : tbw (.instantiable RX1 6) := wt0 37 (by decide +kernel) rfl
set_option maxRecDepth 100000 in
theorem wc_X1_init : tbw (cwd 10) := wt0 40 (by decide +kernel) rfl
set_option maxRecDepth 100000 in
theorem mw_X3_13 : clw RX3 10 13 0 (.methodLinkNest RX3 13 (yy 10) "SealedProcesses") := ⟨rfl, wc_X1_init, wi_SealedProcesses_Bytes, ⟨by decide, by decide⟩, fun sig h => by cases h; rfl, by decide, wt0 38 (by decide +kernel) rfl, Or.inr ⟨_, rfl⟩⟩
set_option maxRecDepth 100000 in
theorem wm_X1_init : tbw (.instanceMethod (yy 10)) := wt0 39 (by decide +kernel) rfl
set_option maxRecDepth 100000 in
theorem fw_X3_14 : fdw RX3 4 0 14 2 RX3 TX3 (.fieldLink RX3 14 RX3 (TX3 0).2.1 (TX3 0).2.2.1) := ⟨rfl, by decide, rfl, by decide, rfl, cw_X3, wt0 68 (by decide +kernel) rfl, Or.inl rfl⟩
set_option maxRecDepth 100000 in
theorem fw_X3_18 : fdw RX3 4 1 18 2 RX3 TX3 (.fieldLink RX3 18 RX3 (TX3 1).2.1 (TX3 1).2.2.1) := ⟨rfl, by decide, rfl, by decide, rfl, cw_X3, wt0 69 (by decide +kernel) rfl, Or.inl rfl⟩
set_option maxRecDepth 100000 in
theorem fw_X3_22 : fdw RX3 10 0 22 10 RX9 TX9 (.fieldLinkNest RX3 22 RX9 (TX9 0).2.1 (TX9 0).2.2.1 "SealedProcesses") := ⟨rfl, by decide, rfl, by decide, rfl, cw_X9, wt0 347 (by decide +kernel) rfl, Or.inr ⟨_, rfl⟩⟩
set_option maxRecDepth 100000 in
theorem fw_X3_27 : fdw RX3 10 1 27 10 RX9 TX9 (.fieldLinkNest RX3 27 RX9 (TX9 1).2.1 (TX9 1).2.2.1 "SealedProcesses") := ⟨rfl, by decide, rfl, by decide, rfl, cw_X9, wt0 350 (by decide +kernel) rfl, Or.inr ⟨_, rfl⟩⟩
set_option maxRecDepth 100000 in
theorem wc_X1_startOver : tbw (cwd 11) := wt0 396 (by decide +kernel) rfl
set_option maxRecDepth 100000 in
theorem mw_X3_31 : clw RX3 11 31 2 (.methodLinkNest RX3 31 (yy 11) "SealedProcesses") := ⟨rfl, wc_X1_startOver, wi_SealedProcesses_Bytes, ⟨by decide, by decide⟩, fun sig h => by cases h; rfl, by decide, wt0 393 (by decide +kernel) rfl, Or.inr ⟨_, rfl⟩⟩
set_option maxRecDepth 100000 in
theorem wm_X1_startOver : tbw (.instanceMethod (yy 11)) := wt0 395 (by decide +kernel) rfl
set_option maxRecDepth 100000 in
theorem wse_X1_startOver : tbw (.selects RX1 (yy 11) (yy 11)) := wp0 2 (by decide +kernel) rfl
set_option maxRecDepth 100000 in
theorem wc_X1_isRight : tbw (cwd 12) := wt0 402 (by decide +kernel) rfl
set_option maxRecDepth 100000 in
theorem mw_X3_35 : clw RX3 12 35 0 (.methodLinkNest RX3 35 (yy 12) "SealedProcesses") := ⟨rfl, wc_X1_isRight, wi_SealedProcesses_Bytes, ⟨by decide, by decide⟩, fun sig h => by cases h; rfl, by decide, wt0 399 (by decide +kernel) rfl, Or.inr ⟨_, rfl⟩⟩
set_option maxRecDepth 100000 in
theorem wm_X1_isRight : tbw (.instanceMethod (yy 12)) := wt0 401 (by decide +kernel) rfl
set_option maxRecDepth 100000 in
theorem wse_X1_isRight : tbw (.selects RX1 (yy 12) (yy 12)) := wp0 3 (by decide +kernel) rfl
set_option maxRecDepth 100000 in
theorem wc_X1_takeWithin : tbw (cwd 16) := wt0 406 (by decide +kernel) rfl
set_option maxRecDepth 100000 in
theorem mw_X3_39 : clw RX3 16 39 2 (.methodLinkNest RX3 39 (yy 16) "SealedProcesses") := ⟨rfl, wc_X1_takeWithin, wi_SealedProcesses_Bytes, ⟨by decide, by decide⟩, fun sig h => by cases h; rfl, by decide, wt0 403 (by decide +kernel) rfl, Or.inr ⟨_, rfl⟩⟩
set_option maxRecDepth 100000 in
theorem wm_X1_takeWithin : tbw (.instanceMethod (yy 16)) := wt0 405 (by decide +kernel) rfl
set_option maxRecDepth 100000 in
theorem wse_X1_takeWithin : tbw (.selects RX1 (yy 16) (yy 16)) := wp0 4 (by decide +kernel) rfl
set_option maxRecDepth 100000 in
theorem fw_X3_43 : fdw RX3 10 2 43 10 RX9 TX9 (.fieldLinkNest RX3 43 RX9 (TX9 2).2.1 (TX9 2).2.2.1 "SealedProcesses") := ⟨rfl, by decide, rfl, by decide, rfl, cw_X9, wt0 354 (by decide +kernel) rfl, Or.inr ⟨_, rfl⟩⟩
set_option maxRecDepth 100000 in
theorem wc_X3_walkRecord : tbw (cwd 31) := wt0 422 (by decide +kernel) rfl
set_option maxRecDepth 100000 in
theorem wi_SealedProcesses_Decoder : tbw (.initialized RX3) := wt0 2 (by decide +kernel) rfl
set_option maxRecDepth 100000 in
theorem mw_X3_46 : clw RX3 31 46 2 (.methodLink RX3 46 (yy 31)) := ⟨rfl, wc_X3_walkRecord, wi_SealedProcesses_Decoder, ⟨by decide, by decide⟩, fun sig h => by cases h; rfl, by decide, wt0 419 (by decide +kernel) rfl, Or.inl rfl⟩
set_option maxRecDepth 100000 in
theorem wm_X3_walkRecord : tbw (.instanceMethod (yy 31)) := wt0 421 (by decide +kernel) rfl
set_option maxRecDepth 100000 in
theorem wse_X3_walkRecord : tbw (.selects RX3 (yy 31) (yy 31)) := wp0 8 (by decide +kernel) rfl
set_option maxRecDepth 100000 in
theorem fw_X3_50 : fdw RX3 10 6 50 10 RX9 TX9 (.fieldLinkNest RX3 50 RX9 (TX9 6).2.1 (TX9 6).2.2.1 "SealedProcesses") := ⟨rfl, by decide, rfl, by decide, rfl, cw_X9, wt0 360 (by decide +kernel) rfl, Or.inr ⟨_, rfl⟩⟩
set_option maxRecDepth 100000 in
theorem wc_X3_walkContract : tbw (cwd 32) := wt0 473 (by decide +kernel) rfl
set_option maxRecDepth 100000 in
theorem mw_X3_53 : clw RX3 32 53 2 (.methodLink RX3 53 (yy 32)) := ⟨rfl, wc_X3_walkContract, wi_SealedProcesses_Decoder, ⟨by decide, by decide⟩, fun sig h => by cases h; rfl, by decide, wt0 470 (by decide +kernel) rfl, Or.inl rfl⟩
set_option maxRecDepth 100000 in
theorem wm_X3_walkContract : tbw (.instanceMethod (yy 32)) := wt0 472 (by decide +kernel) rfl
set_option maxRecDepth 100000 in
theorem wse_X3_walkContract : tbw (.selects RX3 (yy 32) (yy 32)) := wp0 18 (by decide +kernel) rfl
set_option maxRecDepth 100000 in
theorem fw_X3_56 : fdw RX3 10 8 56 10 RX9 TX9 (.fieldLinkNest RX3 56 RX9 (TX9 8).2.1 (TX9 8).2.2.1 "SealedProcesses") := ⟨rfl, by decide, rfl, by decide, rfl, cw_X9, wt0 365 (by decide +kernel) rfl, Or.inr ⟨_, rfl⟩⟩
set_option maxRecDepth 100000 in
theorem wc_X3_walkFunction : tbw (cwd 33) := wt0 517 (by decide +kernel) rfl
set_option maxRecDepth 100000 in
theorem mw_X3_59 : clw RX3 33 59 2 (.methodLink RX3 59 (yy 33)) := ⟨rfl, wc_X3_walkFunction, wi_SealedProcesses_Decoder, ⟨by decide, by decide⟩, fun sig h => by cases h; rfl, by decide, wt0 514 (by decide +kernel) rfl, Or.inl rfl⟩
set_option maxRecDepth 100000 in
theorem wm_X3_walkFunction : tbw (.instanceMethod (yy 33)) := wt0 516 (by decide +kernel) rfl
set_option maxRecDepth 100000 in
theorem wse_X3_walkFunction : tbw (.selects RX3 (yy 33) (yy 33)) := wp0 23 (by decide +kernel) rfl
set_option maxRecDepth 100000 in
theorem wc_X1_expectEnd : tbw (cwd 18) := wt0 607 (by decide +kernel) rfl
set_option maxRecDepth 100000 in
theorem mw_X3_62 : clw RX3 18 62 0 (.methodLinkNest RX3 62 (yy 18) "SealedProcesses") := ⟨rfl, wc_X1_expectEnd, wi_SealedProcesses_Bytes, ⟨by decide, by decide⟩, fun sig h => by cases h; rfl, by decide, wt0 604 (by decide +kernel) rfl, Or.inr ⟨_, rfl⟩⟩
set_option maxRecDepth 100000 in
theorem wm_X1_expectEnd : tbw (.instanceMethod (yy 18)) := wt0 606 (by decide +kernel) rfl
set_option maxRecDepth 100000 in
theorem wse_X1_expectEnd : tbw (.selects RX1 (yy 18) (yy 18)) := wp0 31 (by decide +kernel) rfl
set_option maxRecDepth 100000 in
theorem wc_X9_setSize : tbw (cwd 155) := wt0 426 (by decide +kernel) rfl
set_option maxRecDepth 100000 in
theorem wi_SealedProcesses_TypedModule : tbw (.initialized RX9) := wt0 14 (by decide +kernel) rfl
set_option maxRecDepth 100000 in
theorem mw_X3_65 : clw RX3 155 65 2 (.methodLinkNest RX3 65 (yy 155) "SealedProcesses") := ⟨rfl, wc_X9_setSize, wi_SealedProcesses_TypedModule, ⟨by decide, by decide⟩, fun sig h => by cases h; rfl, by decide, wt0 423 (by decide +kernel) rfl, Or.inr ⟨_, rfl⟩⟩
set_option maxRecDepth 100000 in
theorem wm_X9_setSize : tbw (.instanceMethod (yy 155)) := wt0 425 (by decide +kernel) rfl
set_option maxRecDepth 100000 in
theorem wse_X9_setSize : tbw (.selects RX9 (yy 155) (yy 155)) := wp0 9 (by decide +kernel) rfl
set_option maxRecDepth 100000 in
theorem wc_X3_takeType : tbw (cwd 35) := wt0 430 (by decide +kernel) rfl
set_option maxRecDepth 100000 in
theorem mw_X3_69 : clw RX3 35 69 2 (.methodLink RX3 69 (yy 35)) := ⟨rfl, wc_X3_takeType, wi_SealedProcesses_Decoder, ⟨by decide, by decide⟩, fun sig h => by cases h; rfl, by decide, wt0 427 (by decide +kernel) rfl, Or.inl rfl⟩
set_option maxRecDepth 100000 in
theorem wm_X3_takeType : tbw (.instanceMethod (yy 35)) := wt0 429 (by decide +kernel) rfl
set_option maxRecDepth 100000 in
theorem wse_X3_takeType : tbw (.selects RX3 (yy 35) (yy 35)) := wp0 10 (by decide +kernel) rfl
set_option maxRecDepth 100000 in
theorem wc_X9_setField : tbw (cwd 156) := wt0 466 (by decide +kernel) rfl
set_option maxRecDepth 100000 in
theorem mw_X3_73 : clw RX3 156 73 3 (.methodLinkNest RX3 73 (yy 156) "SealedProcesses") := ⟨rfl, wc_X9_setField, wi_SealedProcesses_TypedModule, ⟨by decide, by decide⟩, fun sig h => by cases h; rfl, by decide, wt0 463 (by decide +kernel) rfl, Or.inr ⟨_, rfl⟩⟩
set_option maxRecDepth 100000 in
theorem wm_X9_setField : tbw (.instanceMethod (yy 156)) := wt0 465 (by decide +kernel) rfl
set_option maxRecDepth 100000 in
theorem wse_X9_setField : tbw (.selects RX9 (yy 156) (yy 156)) := wp0 17 (by decide +kernel) rfl
set_option maxRecDepth 100000 in
theorem wl_X3_77 : tbw (.classLink RX3 77 RX2) := wt0 474 (by decide +kernel) rfl
set_option maxRecDepth 100000 in
theorem wn_X2 : tbw (.instantiable RX2 5) := wt0 475 (by decide +kernel) rfl
set_option maxRecDepth 100000 in
theorem wc_X2_init : tbw (cwd 19) := wt0 478 (by decide +kernel) rfl
set_option maxRecDepth 100000 in
theorem mw_X3_79 : clw RX3 19 79 1 (.methodLinkNest RX3 79 (yy 19) "SealedProcesses") := ⟨rfl, wc_X2_init, wi_SealedProcesses_Contract, ⟨by decide, by decide⟩, fun sig h => by cases h; rfl, by decide, wt0 476 (by decide +kernel) rfl, Or.inr ⟨_, rfl⟩⟩
set_option maxRecDepth 100000 in
theorem wm_X2_init : tbw (.instanceMethod (yy 19)) := wt0 477 (by decide +kernel) rfl
set_option maxRecDepth 100000 in
theorem wc_X9_setContract : tbw (cwd 150) := wt0 501 (by decide +kernel) rfl
set_option maxRecDepth 100000 in
theorem mw_X3_82 : clw RX3 150 82 2 (.methodLinkNest RX3 82 (yy 150) "SealedProcesses") := ⟨rfl, wc_X9_setContract, wi_SealedProcesses_TypedModule, ⟨by decide, by decide⟩, fun sig h => by cases h; rfl, by decide, wt0 498 (by decide +kernel) rfl, Or.inr ⟨_, rfl⟩⟩
set_option maxRecDepth 100000 in
theorem wm_X9_setContract : tbw (.instanceMethod (yy 150)) := wt0 500 (by decide +kernel) rfl
set_option maxRecDepth 100000 in
theorem wse_X9_setContract : tbw (.selects RX9 (yy 150) (yy 150)) := wp0 19 (by decide +kernel) rfl
set_option maxRecDepth 100000 in
theorem wc_X9_contractAt : tbw (cwd 148) := wt0 459 (by decide +kernel) rfl
set_option maxRecDepth 100000 in
theorem mw_X3_86 : clw RX3 148 86 1 (.methodLinkNest RX3 86 (yy 148) "SealedProcesses") := ⟨rfl, wc_X9_contractAt, wi_SealedProcesses_TypedModule, ⟨by decide, by decide⟩, fun sig h => by cases h; rfl, by decide, wt0 456 (by decide +kernel) rfl, Or.inr ⟨_, rfl⟩⟩
set_option maxRecDepth 100000 in
theorem wm_X9_contractAt : tbw (.instanceMethod (yy 148)) := wt0 458 (by decide +kernel) rfl
set_option maxRecDepth 100000 in
theorem wse_X9_contractAt : tbw (.selects RX9 (yy 148) (yy 148)) := wp0 16 (by decide +kernel) rfl
set_option maxRecDepth 100000 in
theorem wc_X2_setState : tbw (cwd 26) := wt0 505 (by decide +kernel) rfl
set_option maxRecDepth 100000 in
theorem mw_X3_90 : clw RX3 26 90 3 (.methodLinkNest RX3 90 (yy 26) "SealedProcesses") := ⟨rfl, wc_X2_setState, wi_SealedProcesses_Contract, ⟨by decide, by decide⟩, fun sig h => by cases h; rfl, by decide, wt0 502 (by decide +kernel) rfl, Or.inr ⟨_, rfl⟩⟩
set_option maxRecDepth 100000 in
theorem wm_X2_setState : tbw (.instanceMethod (yy 26)) := wt0 504 (by decide +kernel) rfl
set_option maxRecDepth 100000 in
theorem wse_X2_setState : tbw (.selects RX2 (yy 26) (yy 26)) := wp0 20 (by decide +kernel) rfl
set_option maxRecDepth 100000 in
theorem wc_X3_takeName : tbw (cwd 36) := wt0 436 (by decide +kernel) rfl
set_option maxRecDepth 100000 in
theorem mw_X3_93 : clw RX3 36 93 1 (.methodLink RX3 93 (yy 36)) := ⟨rfl, wc_X3_takeName, wi_SealedProcesses_Decoder, ⟨by decide, by decide⟩, fun sig h => by cases h; rfl, by decide, wt0 433 (by decide +kernel) rfl, Or.inl rfl⟩
set_option maxRecDepth 100000 in
theorem wm_X3_takeName : tbw (.instanceMethod (yy 36)) := wt0 435 (by decide +kernel) rfl
set_option maxRecDepth 100000 in
theorem wse_X3_takeName : tbw (.selects RX3 (yy 36) (yy 36)) := wp0 11 (by decide +kernel) rfl
set_option maxRecDepth 100000 in
theorem wc_X2_setMessage : tbw (cwd 27) := wt0 509 (by decide +kernel) rfl
set_option maxRecDepth 100000 in
theorem mw_X3_97 : clw RX3 27 97 4 (.methodLinkNest RX3 97 (yy 27) "SealedProcesses") := ⟨rfl, wc_X2_setMessage, wi_SealedProcesses_Contract, ⟨by decide, by decide⟩, fun sig h => by cases h; rfl, by decide, wt0 506 (by decide +kernel) rfl, Or.inr ⟨_, rfl⟩⟩
set_option maxRecDepth 100000 in
theorem wm_X2_setMessage : tbw (.instanceMethod (yy 27)) := wt0 508 (by decide +kernel) rfl
set_option maxRecDepth 100000 in
theorem wse_X2_setMessage : tbw (.selects RX2 (yy 27) (yy 27)) := wp0 21 (by decide +kernel) rfl
set_option maxRecDepth 100000 in
theorem wl_X3_101 : tbw (.classLink RX3 101 RX7) := wt0 518 (by decide +kernel) rfl
set_option maxRecDepth 100000 in
theorem wn_X7 : tbw (.instantiable RX7 10) := wt0 519 (by decide +kernel) rfl
set_option maxRecDepth 100000 in
theorem wi_SealedProcesses_Routine : tbw (.initialized RX7) := wt0 17 (by decide +kernel) rfl
set_option maxRecDepth 100000 in
theorem fw_X3_103 : fdw RX3 2 3 103 6 RX1 TX1 (.fieldLinkNest RX3 103 RX1 (TX1 3).2.1 (TX1 3).2.2.1 "SealedProcesses") := ⟨rfl, by decide, rfl, by decide, rfl, cw_X1, wt0 49 (by decide +kernel) rfl, Or.inr ⟨_, rfl⟩⟩
set_option maxRecDepth 100000 in
theorem wc_X7_init : tbw (cwd 106) := wt0 522 (by decide +kernel) rfl
set_option maxRecDepth 100000 in
theorem mw_X3_106 : clw RX3 106 106 5 (.methodLinkNest RX3 106 (yy 106) "SealedProcesses") := ⟨rfl, wc_X7_init, wi_SealedProcesses_Routine, ⟨by decide, by decide⟩, fun sig h => by cases h; rfl, by decide, wt0 520 (by decide +kernel) rfl, Or.inr ⟨_, rfl⟩⟩
set_option maxRecDepth 100000 in
theorem wm_X7_init : tbw (.instanceMethod (yy 106)) := wt0 521 (by decide +kernel) rfl
set_option maxRecDepth 100000 in
theorem wc_X9_setRoutine : tbw (cwd 151) := wt0 577 (by decide +kernel) rfl
set_option maxRecDepth 100000 in
theorem mw_X3_109 : clw RX3 151 109 2 (.methodLinkNest RX3 109 (yy 151) "SealedProcesses") := ⟨rfl, wc_X9_setRoutine, wi_SealedProcesses_TypedModule, ⟨by decide, by decide⟩, fun sig h => by cases h; rfl, by decide, wt0 574 (by decide +kernel) rfl, Or.inr ⟨_, rfl⟩⟩
set_option maxRecDepth 100000 in
theorem wm_X9_setRoutine : tbw (.instanceMethod (yy 151)) := wt0 576 (by decide +kernel) rfl
set_option maxRecDepth 100000 in
theorem wse_X9_setRoutine : tbw (.selects RX9 (yy 151) (yy 151)) := wp0 24 (by decide +kernel) rfl
set_option maxRecDepth 100000 in
theorem wc_X9_routineAt : tbw (cwd 149) := wt0 581 (by decide +kernel) rfl
set_option maxRecDepth 100000 in
theorem mw_X3_113 : clw RX3 149 113 1 (.methodLinkNest RX3 113 (yy 149) "SealedProcesses") := ⟨rfl, wc_X9_routineAt, wi_SealedProcesses_TypedModule, ⟨by decide, by decide⟩, fun sig h => by cases h; rfl, by decide, wt0 578 (by decide +kernel) rfl, Or.inr ⟨_, rfl⟩⟩
set_option maxRecDepth 100000 in
theorem wm_X9_routineAt : tbw (.instanceMethod (yy 149)) := wt0 580 (by decide +kernel) rfl
set_option maxRecDepth 100000 in
theorem wse_X9_routineAt : tbw (.selects RX9 (yy 149) (yy 149)) := wp0 25 (by decide +kernel) rfl
set_option maxRecDepth 100000 in
theorem fw_X3_117 : fdw RX3 8 5 117 10 RX7 TX7 (.fieldLinkNest RX3 117 RX7 (TX7 5).2.1 (TX7 5).2.2.1 "SealedProcesses") := ⟨rfl, by decide, rfl, by decide, rfl, cw_X7, wt0 545 (by decide +kernel) rfl, Or.inr ⟨_, rfl⟩⟩
set_option maxRecDepth 100000 in
theorem fw_X3_120 : fdw RX3 8 4 120 10 RX7 TX7 (.fieldLinkNest RX3 120 RX7 (TX7 4).2.1 (TX7 4).2.2.1 "SealedProcesses") := ⟨rfl, by decide, rfl, by decide, rfl, cw_X7, wt0 541 (by decide +kernel) rfl, Or.inr ⟨_, rfl⟩⟩
set_option maxRecDepth 100000 in
theorem fw_X3_121 : fdw RX3 2 2 121 6 RX1 TX1 (.fieldLinkNest RX3 121 RX1 (TX1 2).2.1 (TX1 2).2.2.1 "SealedProcesses") := ⟨rfl, by decide, rfl, by decide, rfl, cw_X1, wt0 46 (by decide +kernel) rfl, Or.inr ⟨_, rfl⟩⟩
set_option maxRecDepth 100000 in
theorem wc_X3_walkInstruction : tbw (cwd 34) := wt0 585 (by decide +kernel) rfl
set_option maxRecDepth 100000 in
theorem mw_X3_124 : clw RX3 34 124 2 (.methodLink RX3 124 (yy 34)) := ⟨rfl, wc_X3_walkInstruction, wi_SealedProcesses_Decoder, ⟨by decide, by decide⟩, fun sig h => by cases h; rfl, by decide, wt0 582 (by decide +kernel) rfl, Or.inl rfl⟩
set_option maxRecDepth 100000 in
theorem wm_X3_walkInstruction : tbw (.instanceMethod (yy 34)) := wt0 584 (by decide +kernel) rfl
set_option maxRecDepth 100000 in
theorem wse_X3_walkInstruction : tbw (.selects RX3 (yy 34) (yy 34)) := wp0 26 (by decide +kernel) rfl
set_option maxRecDepth 100000 in
theorem fw_X3_128 : fdw RX3 2 1 128 6 RX1 TX1 (.fieldLinkNest RX3 128 RX1 (TX1 1).2.1 (TX1 1).2.2.1 "SealedProcesses") := ⟨rfl, by decide, rfl, by decide, rfl, cw_X1, wt0 44 (by decide +kernel) rfl, Or.inr ⟨_, rfl⟩⟩
set_option maxRecDepth 100000 in
theorem wc_X7_setBegin : tbw (cwd 109) := wt0 589 (by decide +kernel) rfl
set_option maxRecDepth 100000 in
theorem mw_X3_129 : clw RX3 109 129 1 (.methodLinkNest RX3 129 (yy 109) "SealedProcesses") := ⟨rfl, wc_X7_setBegin, wi_SealedProcesses_Routine, ⟨by decide, by decide⟩, fun sig h => by cases h; rfl, by decide, wt0 586 (by decide +kernel) rfl, Or.inr ⟨_, rfl⟩⟩
set_option maxRecDepth 100000 in
theorem wm_X7_setBegin : tbw (.instanceMethod (yy 109)) := wt0 588 (by decide +kernel) rfl
set_option maxRecDepth 100000 in
theorem wse_X7_setBegin : tbw (.selects RX7 (yy 109) (yy 109)) := wp0 27 (by decide +kernel) rfl
set_option maxRecDepth 100000 in
theorem ws_X3_132 : tbw (.fieldLinkNest RX3 132 "SealedProcesses" "OPERANDS" "[I" "SealedProcesses") := wt0 590 (by decide +kernel) rfl
set_option maxRecDepth 100000 in
theorem wc_X1_takeWord : tbw (cwd 17) := wt0 595 (by decide +kernel) rfl
set_option maxRecDepth 100000 in
theorem mw_X3_135 : clw RX3 17 135 0 (.methodLinkNest RX3 135 (yy 17) "SealedProcesses") := ⟨rfl, wc_X1_takeWord, wi_SealedProcesses_Bytes, ⟨by decide, by decide⟩, fun sig h => by cases h; rfl, by decide, wt0 592 (by decide +kernel) rfl, Or.inr ⟨_, rfl⟩⟩
set_option maxRecDepth 100000 in
theorem wm_X1_takeWord : tbw (.instanceMethod (yy 17)) := wt0 594 (by decide +kernel) rfl
set_option maxRecDepth 100000 in
theorem wse_X1_takeWord : tbw (.selects RX1 (yy 17) (yy 17)) := wp0 28 (by decide +kernel) rfl
set_option maxRecDepth 100000 in
theorem fw_X3_139 : fdw RX3 8 3 139 10 RX7 TX7 (.fieldLinkNest RX3 139 RX7 (TX7 3).2.1 (TX7 3).2.2.1 "SealedProcesses") := ⟨rfl, by decide, rfl, by decide, rfl, cw_X7, wt0 536 (by decide +kernel) rfl, Or.inr ⟨_, rfl⟩⟩
set_option maxRecDepth 100000 in
theorem wc_X3_takeTarget : tbw (cwd 38) := wt0 599 (by decide +kernel) rfl
set_option maxRecDepth 100000 in
theorem mw_X3_142 : clw RX3 38 142 1 (.methodLink RX3 142 (yy 38)) := ⟨rfl, wc_X3_takeTarget, wi_SealedProcesses_Decoder, ⟨by decide, by decide⟩, fun sig h => by cases h; rfl, by decide, wt0 596 (by decide +kernel) rfl, Or.inl rfl⟩
set_option maxRecDepth 100000 in
theorem wm_X3_takeTarget : tbw (.instanceMethod (yy 38)) := wt0 598 (by decide +kernel) rfl
set_option maxRecDepth 100000 in
theorem wse_X3_takeTarget : tbw (.selects RX3 (yy 38) (yy 38)) := wp0 29 (by decide +kernel) rfl
set_option maxRecDepth 100000 in
theorem wc_X3_takeBlockRecord : tbw (cwd 37) := wt0 443 (by decide +kernel) rfl
set_option maxRecDepth 100000 in
theorem mw_X3_146 : clw RX3 37 146 1 (.methodLink RX3 146 (yy 37)) := ⟨rfl, wc_X3_takeBlockRecord, wi_SealedProcesses_Decoder, ⟨by decide, by decide⟩, fun sig h => by cases h; rfl, by decide, wt0 440 (by decide +kernel) rfl, Or.inl rfl⟩
set_option maxRecDepth 100000 in
theorem wm_X3_takeBlockRecord : tbw (.instanceMethod (yy 37)) := wt0 442 (by decide +kernel) rfl
set_option maxRecDepth 100000 in
theorem wse_X3_takeBlockRecord : tbw (.selects RX3 (yy 37) (yy 37)) := wp0 12 (by decide +kernel) rfl
set_option maxRecDepth 100000 in
theorem mw_X3_150 : clw RX3 15 150 0 (.methodLinkNest RX3 150 (yy 15) "SealedProcesses") := ⟨rfl, wc_X1_take, wi_SealedProcesses_Bytes, ⟨by decide, by decide⟩, fun sig h => by cases h; rfl, by decide, wt0 431 (by decide +kernel) rfl, Or.inr ⟨_, rfl⟩⟩
set_option maxRecDepth 100000 in
theorem mw_X3_153 : clw RX3 13 153 2 (.methodLinkNest RX3 153 (yy 13) "SealedProcesses") := ⟨rfl, wc_X1_fail, wi_SealedProcesses_Bytes, ⟨by decide, by decide⟩, fun sig h => by cases h; rfl, by decide, wt0 432 (by decide +kernel) rfl, Or.inr ⟨_, rfl⟩⟩
set_option maxRecDepth 100000 in
theorem wc_X11_typeOf : tbw (cwd 205) := wt0 439 (by decide +kernel) rfl
set_option maxRecDepth 100000 in
theorem wi_SealedProcesses : tbw (.initialized RX11) := wt0 1 (by decide +kernel) rfl
set_option maxRecDepth 100000 in
theorem mw_X3_156 : clw RX3 205 156 2 (.methodLinkNest RX3 156 (yy 205) "SealedProcesses") := ⟨rfl, wc_X11_typeOf, wi_SealedProcesses, ⟨by decide, by decide⟩, fun sig h => by cases h; rfl, by decide, wt0 437 (by decide +kernel) rfl, Or.inr ⟨_, rfl⟩⟩
set_option maxRecDepth 100000 in
theorem wt_X11_typeOf : tbw (.static (yy 205)) := wt0 438 (by decide +kernel) rfl
set_option maxRecDepth 100000 in
theorem fw_X3_159 : fdw RX3 3 0 159 5 RX2 TX2 (.fieldLinkNest RX3 159 RX2 (TX2 0).2.1 (TX2 0).2.2.1 "SealedProcesses") := ⟨rfl, by decide, rfl, by decide, rfl, cw_X2, wt0 481 (by decide +kernel) rfl, Or.inr ⟨_, rfl⟩⟩
set_option maxRecDepth 100000 in
theorem wc_X11_endType : tbw (cwd 206) := wt0 462 (by decide +kernel) rfl
set_option maxRecDepth 100000 in
theorem mw_X3_162 : clw RX3 206 162 3 (.methodLinkNest RX3 162 (yy 206) "SealedProcesses") := ⟨rfl, wc_X11_endType, wi_SealedProcesses, ⟨by decide, by decide⟩, fun sig h => by cases h; rfl, by decide, wt0 460 (by decide +kernel) rfl, Or.inr ⟨_, rfl⟩⟩
set_option maxRecDepth 100000 in
theorem wt_X11_endType : tbw (.static (yy 206)) := wt0 461 (by decide +kernel) rfl
set_option maxRecDepth 100000 in
theorem wc_X9_hasIntsAlone : tbw (cwd 157) := wt0 447 (by decide +kernel) rfl
set_option maxRecDepth 100000 in
theorem mw_X3_166 : clw RX3 157 166 1 (.methodLinkNest RX3 166 (yy 157) "SealedProcesses") := ⟨rfl, wc_X9_hasIntsAlone, wi_SealedProcesses_TypedModule, ⟨by decide, by decide⟩, fun sig h => by cases h; rfl, by decide, wt0 444 (by decide +kernel) rfl, Or.inr ⟨_, rfl⟩⟩
set_option maxRecDepth 100000 in
theorem wm_X9_hasIntsAlone : tbw (.instanceMethod (yy 157)) := wt0 446 (by decide +kernel) rfl
set_option maxRecDepth 100000 in
theorem wse_X9_hasIntsAlone : tbw (.selects RX9 (yy 157) (yy 157)) := wp0 13 (by decide +kernel) rfl
set_option maxRecDepth 100000 in
theorem wc_X7_beginsAt : tbw (cwd 108) := wt0 603 (by decide +kernel) rfl
set_option maxRecDepth 100000 in
theorem mw_X3_170 : clw RX3 108 170 1 (.methodLinkNest RX3 170 (yy 108) "SealedProcesses") := ⟨rfl, wc_X7_beginsAt, wi_SealedProcesses_Routine, ⟨by decide, by decide⟩, fun sig h => by cases h; rfl, by decide, wt0 600 (by decide +kernel) rfl, Or.inr ⟨_, rfl⟩⟩
set_option maxRecDepth 100000 in
theorem wm_X7_beginsAt : tbw (.instanceMethod (yy 108)) := wt0 602 (by decide +kernel) rfl
set_option maxRecDepth 100000 in
theorem wse_X7_beginsAt : tbw (.selects RX7 (yy 108) (yy 108)) := wp0 30 (by decide +kernel) rfl
set_option maxRecDepth 100000 in
theorem wq_X4_3 : tbw (.methodLink RX4 3 Lib.objectInit) := wt0 202 (by decide +kernel) rfl
set_option maxRecDepth 100000 in
theorem wa_boolean : tbw (.arrayClass .boolean) := wt0 111 (by decide +kernel) rfl
set_option maxRecDepth 100000 in
theorem fw_X4_9 : fdw RX4 5 1 9 11 RX4 TX4 (.fieldLink RX4 9 RX4 (TX4 1).2.1 (TX4 1).2.2.1) := ⟨rfl, by decide, rfl, by decide, rfl, cw_X4, wt0 206 (by decide +kernel) rfl, Or.inl rfl⟩
set_option maxRecDepth 100000 in
theorem fw_X4_15 : fdw RX4 5 2 15 11 RX4 TX4 (.fieldLink RX4 15 RX4 (TX4 2).2.1 (TX4 2).2.2.1) := ⟨rfl, by decide, rfl, by decide, rfl, cw_X4, wt0 207 (by decide +kernel) rfl, Or.inl rfl⟩
set_option maxRecDepth 100000 in
theorem fw_X4_19 : fdw RX4 5 3 19 11 RX4 TX4 (.fieldLink RX4 19 RX4 (TX4 3).2.1 (TX4 3).2.2.1) := ⟨rfl, by decide, rfl, by decide, rfl, cw_X4, wt0 208 (by decide +kernel) rfl, Or.inl rfl⟩
set_option maxRecDepth 100000 in
theorem wl_X4_22 : tbw (.classLink RX4 22 "SealedProcesses$Contract") := wt0 203 (by decide +kernel) rfl
set_option maxRecDepth 100000 in
theorem wo_X2 : tbw (.arrayOver (.object "SealedProcesses$Contract")) := wt0 204 (by decide +kernel) rfl
set_option maxRecDepth 100000 in
theorem fw_X4_24 : fdw RX4 5 4 24 11 RX4 TX4 (.fieldLink RX4 24 RX4 (TX4 4).2.1 (TX4 4).2.2.1) := ⟨rfl, by decide, rfl, by decide, rfl, cw_X4, wt0 209 (by decide +kernel) rfl, Or.inl rfl⟩
set_option maxRecDepth 100000 in
theorem fw_X4_28 : fdw RX4 5 5 28 11 RX4 TX4 (.fieldLink RX4 28 RX4 (TX4 5).2.1 (TX4 5).2.2.1) := ⟨rfl, by decide, rfl, by decide, rfl, cw_X4, wt0 210 (by decide +kernel) rfl, Or.inl rfl⟩
set_option maxRecDepth 100000 in
theorem fw_X4_31 : fdw RX4 5 6 31 11 RX4 TX4 (.fieldLink RX4 31 RX4 (TX4 6).2.1 (TX4 6).2.2.1) := ⟨rfl, by decide, rfl, by decide, rfl, cw_X4, wt0 211 (by decide +kernel) rfl, Or.inl rfl⟩
set_option maxRecDepth 100000 in
theorem fw_X4_34 : fdw RX4 5 7 34 11 RX4 TX4 (.fieldLink RX4 34 RX4 (TX4 7).2.1 (TX4 7).2.2.1) := ⟨rfl, by decide, rfl, by decide, rfl, cw_X4, wt0 212 (by decide +kernel) rfl, Or.inl rfl⟩
set_option maxRecDepth 100000 in
theorem fw_X4_37 : fdw RX4 5 8 37 11 RX4 TX4 (.fieldLink RX4 37 RX4 (TX4 8).2.1 (TX4 8).2.2.1) := ⟨rfl, by decide, rfl, by decide, rfl, cw_X4, wt0 213 (by decide +kernel) rfl, Or.inl rfl⟩
set_option maxRecDepth 100000 in
theorem fw_X4_40 : fdw RX4 5 9 40 11 RX4 TX4 (.fieldLink RX4 40 RX4 (TX4 9).2.1 (TX4 9).2.2.1) := ⟨rfl, by decide, rfl, by decide, rfl, cw_X4, wt0 214 (by decide +kernel) rfl, Or.inl rfl⟩
set_option maxRecDepth 100000 in
theorem fw_X4_43 : fdw RX4 5 10 43 11 RX4 TX4 (.fieldLink RX4 43 RX4 (TX4 10).2.1 (TX4 10).2.2.1) := ⟨rfl, by decide, rfl, by decide, rfl, cw_X4, wt0 215 (by decide +kernel) rfl, Or.inl rfl⟩
set_option maxRecDepth 100000 in
theorem fw_X4_47 : fdw RX4 5 0 47 11 RX4 TX4 (.fieldLink RX4 47 RX4 (TX4 0).2.1 (TX4 0).2.2.1) := ⟨rfl, by decide, rfl, by decide, rfl, cw_X4, wt0 205 (by decide +kernel) rfl, Or.inl rfl⟩
set_option maxRecDepth 100000 in
theorem wc_X4_openEnd : tbw (cwd 44) := wt0 1010 (by decide +kernel) rfl
set_option maxRecDepth 100000 in
theorem wi_SealedProcesses_Ends : tbw (.initialized RX4) := wt0 8 (by decide +kernel) rfl
set_option maxRecDepth 100000 in
theorem mw_X4_51 : clw RX4 44 51 2 (.methodLink RX4 51 (yy 44)) := ⟨rfl, wc_X4_openEnd, wi_SealedProcesses_Ends, ⟨by decide, by decide⟩, fun sig h => by cases h; rfl, by decide, wt0 1007 (by decide +kernel) rfl, Or.inl rfl⟩
set_option maxRecDepth 100000 in
theorem wm_X4_openEnd : tbw (.instanceMethod (yy 44)) := wt0 1009 (by decide +kernel) rfl
set_option maxRecDepth 100000 in
theorem wse_X4_openEnd : tbw (.selects RX4 (yy 44) (yy 44)) := wp0 88 (by decide +kernel) rfl
set_option maxRecDepth 100000 in
theorem wc_X4_isOpen : tbw (cwd 41) := wt0 1068 (by decide +kernel) rfl
set_option maxRecDepth 100000 in
theorem mw_X4_55 : clw RX4 41 55 1 (.methodLink RX4 55 (yy 41)) := ⟨rfl, wc_X4_isOpen, wi_SealedProcesses_Ends, ⟨by decide, by decide⟩, fun sig h => by cases h; rfl, by decide, wt0 1065 (by decide +kernel) rfl, Or.inl rfl⟩
set_option maxRecDepth 100000 in
theorem wm_X4_isOpen : tbw (.instanceMethod (yy 41)) := wt0 1067 (by decide +kernel) rfl
set_option maxRecDepth 100000 in
theorem wse_X4_isOpen : tbw (.selects RX4 (yy 41) (yy 41)) := wp0 101 (by decide +kernel) rfl
set_option maxRecDepth 100000 in
theorem wc_X2_sendsBare : tbw (cwd 28) := wt0 775 (by decide +kernel) rfl
set_option maxRecDepth 100000 in
theorem mw_X4_59 : clw RX4 28 59 3 (.methodLinkNest RX4 59 (yy 28) "SealedProcesses") := ⟨rfl, wc_X2_sendsBare, wi_SealedProcesses_Contract, ⟨by decide, by decide⟩, fun sig h => by cases h; rfl, by decide, wt0 1090 (by decide +kernel) rfl, Or.inr ⟨_, rfl⟩⟩
set_option maxRecDepth 100000 in
theorem wm_X2_sendsBare : tbw (.instanceMethod (yy 28)) := wt0 774 (by decide +kernel) rfl
set_option maxRecDepth 100000 in
theorem wse_X2_sendsBare : tbw (.selects RX2 (yy 28) (yy 28)) := wp0 63 (by decide +kernel) rfl
set_option maxRecDepth 100000 in
theorem wc_X4_waitingFor : tbw (cwd 48) := wt0 1064 (by decide +kernel) rfl
set_option maxRecDepth 100000 in
theorem mw_X4_63 : clw RX4 48 63 1 (.methodLink RX4 63 (yy 48)) := ⟨rfl, wc_X4_waitingFor, wi_SealedProcesses_Ends, ⟨by decide, by decide⟩, fun sig h => by cases h; rfl, by decide, wt0 1095 (by decide +kernel) rfl, Or.inl rfl⟩
set_option maxRecDepth 100000 in
theorem wm_X4_waitingFor : tbw (.instanceMethod (yy 48)) := wt0 1063 (by decide +kernel) rfl
set_option maxRecDepth 100000 in
theorem wse_X4_waitingFor : tbw (.selects RX4 (yy 48) (yy 48)) := wp0 100 (by decide +kernel) rfl
set_option maxRecDepth 100000 in
theorem wc_X2_nextOf : tbw (cwd 25) := wt0 794 (by decide +kernel) rfl
set_option maxRecDepth 100000 in
theorem mw_X4_67 : clw RX4 25 67 2 (.methodLinkNest RX4 67 (yy 25) "SealedProcesses") := ⟨rfl, wc_X2_nextOf, wi_SealedProcesses_Contract, ⟨by decide, by decide⟩, fun sig h => by cases h; rfl, by decide, wt0 1254 (by decide +kernel) rfl, Or.inr ⟨_, rfl⟩⟩
set_option maxRecDepth 100000 in
theorem wm_X2_nextOf : tbw (.instanceMethod (yy 25)) := wt0 793 (by decide +kernel) rfl
set_option maxRecDepth 100000 in
theorem wse_X2_nextOf : tbw (.selects RX2 (yy 25) (yy 25)) := wp0 67 (by decide +kernel) rfl
set_option maxRecDepth 100000 in
theorem wc_X4_hand : tbw (cwd 57) := wt0 1262 (by decide +kernel) rfl
set_option maxRecDepth 100000 in
theorem mw_X4_71 : clw RX4 57 71 3 (.methodLink RX4 71 (yy 57)) := ⟨rfl, wc_X4_hand, wi_SealedProcesses_Ends, ⟨by decide, by decide⟩, fun sig h => by cases h; rfl, by decide, wt0 1259 (by decide +kernel) rfl, Or.inl rfl⟩
set_option maxRecDepth 100000 in
theorem wm_X4_hand : tbw (.instanceMethod (yy 57)) := wt0 1261 (by decide +kernel) rfl
set_option maxRecDepth 100000 in
theorem wse_X4_hand : tbw (.selects RX4 (yy 57) (yy 57)) := wp0 143 (by decide +kernel) rfl
set_option maxRecDepth 100000 in
theorem wc_X4_addClosing : tbw (cwd 60) := wt0 1271 (by decide +kernel) rfl
set_option maxRecDepth 100000 in
theorem mw_X4_75 : clw RX4 60 75 1 (.methodLink RX4 75 (yy 60)) := ⟨rfl, wc_X4_addClosing, wi_SealedProcesses_Ends, ⟨by decide, by decide⟩, fun sig h => by cases h; rfl, by decide, wt0 1268 (by decide +kernel) rfl, Or.inl rfl⟩
set_option maxRecDepth 100000 in
theorem wm_X4_addClosing : tbw (.instanceMethod (yy 60)) := wt0 1270 (by decide +kernel) rfl
set_option maxRecDepth 100000 in
theorem wse_X4_addClosing : tbw (.selects RX4 (yy 60) (yy 60)) := wp0 145 (by decide +kernel) rfl
set_option maxRecDepth 100000 in
theorem wc_X0_give : tbw (cwd 5) := wt0 1266 (by decide +kernel) rfl
set_option maxRecDepth 100000 in
theorem mw_X4_79 : clw RX4 5 79 2 (.methodLinkNest RX4 79 (yy 5) "SealedProcesses") := ⟨rfl, wc_X0_give, wi_SealedProcesses_Blocks, ⟨by decide, by decide⟩, fun sig h => by cases h; rfl, by decide, wt0 1263 (by decide +kernel) rfl, Or.inr ⟨_, rfl⟩⟩
set_option maxRecDepth 100000 in
theorem wm_X0_give : tbw (.instanceMethod (yy 5)) := wt0 1265 (by decide +kernel) rfl
set_option maxRecDepth 100000 in
theorem wse_X0_give : tbw (.selects RX0 (yy 5) (yy 5)) := wp0 144 (by decide +kernel) rfl
set_option maxRecDepth 100000 in
theorem wc_X4_give : tbw (cwd 47) := wt0 1014 (by decide +kernel) rfl
set_option maxRecDepth 100000 in
theorem mw_X4_84 : clw RX4 47 84 2 (.methodLink RX4 84 (yy 47)) := ⟨rfl, wc_X4_give, wi_SealedProcesses_Ends, ⟨by decide, by decide⟩, fun sig h => by cases h; rfl, by decide, wt0 1267 (by decide +kernel) rfl, Or.inl rfl⟩
set_option maxRecDepth 100000 in
theorem wm_X4_give : tbw (.instanceMethod (yy 47)) := wt0 1013 (by decide +kernel) rfl
set_option maxRecDepth 100000 in
theorem wse_X4_give : tbw (.selects RX4 (yy 47) (yy 47)) := wp0 89 (by decide +kernel) rfl
set_option maxRecDepth 100000 in
theorem wc_X4_close : tbw (cwd 58) := wt0 1317 (by decide +kernel) rfl
set_option maxRecDepth 100000 in
theorem mw_X4_85 : clw RX4 58 85 1 (.methodLink RX4 85 (yy 58)) := ⟨rfl, wc_X4_close, wi_SealedProcesses_Ends, ⟨by decide, by decide⟩, fun sig h => by cases h; rfl, by decide, wt0 1331 (by decide +kernel) rfl, Or.inl rfl⟩
set_option maxRecDepth 100000 in
theorem wm_X4_close : tbw (.instanceMethod (yy 58)) := wt0 1316 (by decide +kernel) rfl
set_option maxRecDepth 100000 in
theorem wse_X4_close : tbw (.selects RX4 (yy 58) (yy 58)) := wp0 156 (by decide +kernel) rfl
set_option maxRecDepth 100000 in
theorem mw_X4_88 : clw RX4 8 88 1 (.methodLinkNest RX4 88 (yy 8) "SealedProcesses") := ⟨rfl, wc_X0_free, wi_SealedProcesses_Blocks, ⟨by decide, by decide⟩, fun sig h => by cases h; rfl, by decide, wt0 1336 (by decide +kernel) rfl, Or.inr ⟨_, rfl⟩⟩
set_option maxRecDepth 100000 in
theorem wq_X5_3 : tbw (.methodLink RX5 3 Lib.objectInit) := wt0 170 (by decide +kernel) rfl
set_option maxRecDepth 100000 in
theorem fw_X5_9 : fdw RX5 6 0 9 15 RX5 TX5 (.fieldLink RX5 9 RX5 (TX5 0).2.1 (TX5 0).2.2.1) := ⟨rfl, by decide, rfl, by decide, rfl, cw_X5, wt0 239 (by decide +kernel) rfl, Or.inl rfl⟩
set_option maxRecDepth 100000 in
theorem wl_X5_15 : tbw (.classLink RX5 15 "SealedProcesses$Task") := wt0 171 (by decide +kernel) rfl
set_option maxRecDepth 100000 in
theorem wo_X8 : tbw (.arrayOver (.object "SealedProcesses$Task")) := wt0 172 (by decide +kernel) rfl
set_option maxRecDepth 100000 in
theorem fw_X5_17 : fdw RX5 6 1 17 15 RX5 TX5 (.fieldLink RX5 17 RX5 (TX5 1).2.1 (TX5 1).2.2.1) := ⟨rfl, by decide, rfl, by decide, rfl, cw_X5, wt0 241 (by decide +kernel) rfl, Or.inl rfl⟩
set_option maxRecDepth 100000 in
theorem fw_X5_21 : fdw RX5 6 2 21 15 RX5 TX5 (.fieldLink RX5 21 RX5 (TX5 2).2.1 (TX5 2).2.2.1) := ⟨rfl, by decide, rfl, by decide, rfl, cw_X5, wt0 242 (by decide +kernel) rfl, Or.inl rfl⟩
set_option maxRecDepth 100000 in
theorem wl_X5_25 : tbw (.classLink RX5 25 RX0) := wt0 173 (by decide +kernel) rfl
set_option maxRecDepth 100000 in
theorem wn_X0 : tbw (.instantiable RX0 5) := wt0 174 (by decide +kernel) rfl
set_option maxRecDepth 100000 in
theorem wc_X0_init : tbw (cwd 0) := wt0 177 (by decide +kernel) rfl
set_option maxRecDepth 100000 in
theorem mw_X5_27 : clw RX5 0 27 0 (.methodLinkNest RX5 27 (yy 0) "SealedProcesses") := ⟨rfl, wc_X0_init, wi_SealedProcesses_Blocks, ⟨by decide, by decide⟩, fun sig h => by cases h; rfl, by decide, wt0 175 (by decide +kernel) rfl, Or.inr ⟨_, rfl⟩⟩
set_option maxRecDepth 100000 in
theorem wm_X0_init : tbw (.instanceMethod (yy 0)) := wt0 176 (by decide +kernel) rfl
set_option maxRecDepth 100000 in
theorem fw_X5_28 : fdw RX5 6 3 28 15 RX5 TX5 (.fieldLink RX5 28 RX5 (TX5 3).2.1 (TX5 3).2.2.1) := ⟨rfl, by decide, rfl, by decide, rfl, cw_X5, wt0 243 (by decide +kernel) rfl, Or.inl rfl⟩
set_option maxRecDepth 100000 in
theorem wl_X5_32 : tbw (.classLink RX5 32 RX4) := wt0 197 (by decide +kernel) rfl
set_option maxRecDepth 100000 in
theorem wn_X4 : tbw (.instantiable RX4 11) := wt0 198 (by decide +kernel) rfl
set_option maxRecDepth 100000 in
theorem wc_X4_init : tbw (cwd 39) := wt0 201 (by decide +kernel) rfl
set_option maxRecDepth 100000 in
theorem mw_X5_34 : clw RX5 39 34 1 (.methodLinkNest RX5 34 (yy 39) "SealedProcesses") := ⟨rfl, wc_X4_init, wi_SealedProcesses_Ends, ⟨by decide, by decide⟩, fun sig h => by cases h; rfl, by decide, wt0 199 (by decide +kernel) rfl, Or.inr ⟨_, rfl⟩⟩
set_option maxRecDepth 100000 in
theorem wm_X4_init : tbw (.instanceMethod (yy 39)) := wt0 200 (by decide +kernel) rfl
set_option maxRecDepth 100000 in
theorem fw_X5_37 : fdw RX5 6 4 37 15 RX5 TX5 (.fieldLink RX5 37 RX5 (TX5 4).2.1 (TX5 4).2.2.1) := ⟨rfl, by decide, rfl, by decide, rfl, cw_X5, wt0 245 (by decide +kernel) rfl, Or.inl rfl⟩
set_option maxRecDepth 100000 in
theorem fw_X5_41 : fdw RX5 6 5 41 15 RX5 TX5 (.fieldLink RX5 41 RX5 (TX5 5).2.1 (TX5 5).2.2.1) := ⟨rfl, by decide, rfl, by decide, rfl, cw_X5, wt0 247 (by decide +kernel) rfl, Or.inl rfl⟩
set_option maxRecDepth 100000 in
theorem fw_X5_45 : fdw RX5 6 6 45 15 RX5 TX5 (.fieldLink RX5 45 RX5 (TX5 6).2.1 (TX5 6).2.2.1) := ⟨rfl, by decide, rfl, by decide, rfl, cw_X5, wt0 248 (by decide +kernel) rfl, Or.inl rfl⟩
set_option maxRecDepth 100000 in
theorem fw_X5_48 : fdw RX5 6 7 48 15 RX5 TX5 (.fieldLink RX5 48 RX5 (TX5 7).2.1 (TX5 7).2.2.1) := ⟨rfl, by decide, rfl, by decide, rfl, cw_X5, wt0 250 (by decide +kernel) rfl, Or.inl rfl⟩
set_option maxRecDepth 100000 in
theorem fw_X5_51 : fdw RX5 6 8 51 15 RX5 TX5 (.fieldLink RX5 51 RX5 (TX5 8).2.1 (TX5 8).2.2.1) := ⟨rfl, by decide, rfl, by decide, rfl, cw_X5, wt0 252 (by decide +kernel) rfl, Or.inl rfl⟩
set_option maxRecDepth 100000 in
theorem fw_X5_55 : fdw RX5 6 9 55 15 RX5 TX5 (.fieldLink RX5 55 RX5 (TX5 9).2.1 (TX5 9).2.2.1) := ⟨rfl, by decide, rfl, by decide, rfl, cw_X5, wt0 254 (by decide +kernel) rfl, Or.inl rfl⟩
set_option maxRecDepth 100000 in
theorem fw_X5_58 : fdw RX5 6 10 58 15 RX5 TX5 (.fieldLink RX5 58 RX5 (TX5 10).2.1 (TX5 10).2.2.1) := ⟨rfl, by decide, rfl, by decide, rfl, cw_X5, wt0 256 (by decide +kernel) rfl, Or.inl rfl⟩
set_option maxRecDepth 100000 in
theorem fw_X5_61 : fdw RX5 6 11 61 15 RX5 TX5 (.fieldLink RX5 61 RX5 (TX5 11).2.1 (TX5 11).2.2.1) := ⟨rfl, by decide, rfl, by decide, rfl, cw_X5, wt0 257 (by decide +kernel) rfl, Or.inl rfl⟩
set_option maxRecDepth 100000 in
theorem fw_X5_64 : fdw RX5 6 12 64 15 RX5 TX5 (.fieldLink RX5 64 RX5 (TX5 12).2.1 (TX5 12).2.2.1) := ⟨rfl, by decide, rfl, by decide, rfl, cw_X5, wt0 258 (by decide +kernel) rfl, Or.inl rfl⟩
set_option maxRecDepth 100000 in
theorem fw_X5_67 : fdw RX5 6 13 67 15 RX5 TX5 (.fieldLink RX5 67 RX5 (TX5 13).2.1 (TX5 13).2.2.1) := ⟨rfl, by decide, rfl, by decide, rfl, cw_X5, wt0 259 (by decide +kernel) rfl, Or.inl rfl⟩
set_option maxRecDepth 100000 in
theorem fw_X5_70 : fdw RX5 6 14 70 15 RX5 TX5 (.fieldLink RX5 70 RX5 (TX5 14).2.1 (TX5 14).2.2.1) := ⟨rfl, by decide, rfl, by decide, rfl, cw_X5, wt0 260 (by decide +kernel) rfl, Or.inl rfl⟩
set_option maxRecDepth 100000 in
theorem wc_X0_clear : tbw (cwd 1) := wt0 897 (by decide +kernel) rfl
set_option maxRecDepth 100000 in
theorem mw_X5_73 : clw RX5 1 73 0 (.methodLinkNest RX5 73 (yy 1) "SealedProcesses") := ⟨rfl, wc_X0_clear, wi_SealedProcesses_Blocks, ⟨by decide, by decide⟩, fun sig h => by cases h; rfl, by decide, wt0 894 (by decide +kernel) rfl, Or.inr ⟨_, rfl⟩⟩
set_option maxRecDepth 100000 in
theorem wm_X0_clear : tbw (.instanceMethod (yy 1)) := wt0 896 (by decide +kernel) rfl
set_option maxRecDepth 100000 in
theorem wse_X0_clear : tbw (.selects RX0 (yy 1) (yy 1)) := wp0 80 (by decide +kernel) rfl
set_option maxRecDepth 100000 in
theorem wc_X4_clear : tbw (cwd 40) := wt0 901 (by decide +kernel) rfl
set_option maxRecDepth 100000 in
theorem mw_X5_76 : clw RX5 40 76 0 (.methodLinkNest RX5 76 (yy 40) "SealedProcesses") := ⟨rfl, wc_X4_clear, wi_SealedProcesses_Ends, ⟨by decide, by decide⟩, fun sig h => by cases h; rfl, by decide, wt0 898 (by decide +kernel) rfl, Or.inr ⟨_, rfl⟩⟩
set_option maxRecDepth 100000 in
theorem wm_X4_clear : tbw (.instanceMethod (yy 40)) := wt0 900 (by decide +kernel) rfl
set_option maxRecDepth 100000 in
theorem wse_X4_clear : tbw (.selects RX4 (yy 40) (yy 40)) := wp0 81 (by decide +kernel) rfl
set_option maxRecDepth 100000 in
theorem fw_X5_77 : fdw RX5 7 1 77 12 RX6 TX6 (.fieldLinkNest RX5 77 RX6 (TX6 1).2.1 (TX6 1).2.2.1 "SealedProcesses") := ⟨rfl, by decide, rfl, by decide, rfl, cw_X6, wt0 123 (by decide +kernel) rfl, Or.inr ⟨_, rfl⟩⟩
set_option maxRecDepth 100000 in
theorem wc_X5_startTask : tbw (cwd 64) := wt0 905 (by decide +kernel) rfl
set_option maxRecDepth 100000 in
theorem wi_SealedProcesses_Machine : tbw (.initialized RX5) := wt0 6 (by decide +kernel) rfl
set_option maxRecDepth 100000 in
theorem mw_X5_82 : clw RX5 64 82 2 (.methodLink RX5 82 (yy 64)) := ⟨rfl, wc_X5_startTask, wi_SealedProcesses_Machine, ⟨by decide, by decide⟩, fun sig h => by cases h; rfl, by decide, wt0 902 (by decide +kernel) rfl, Or.inl rfl⟩
set_option maxRecDepth 100000 in
theorem wm_X5_startTask : tbw (.instanceMethod (yy 64)) := wt0 904 (by decide +kernel) rfl
set_option maxRecDepth 100000 in
theorem wse_X5_startTask : tbw (.selects RX5 (yy 64) (yy 64)) := wp0 82 (by decide +kernel) rfl
set_option maxRecDepth 100000 in
theorem fw_X5_86 : fdw RX5 7 2 86 12 RX6 TX6 (.fieldLinkNest RX5 86 RX6 (TX6 2).2.1 (TX6 2).2.2.1 "SealedProcesses") := ⟨rfl, by decide, rfl, by decide, rfl, cw_X6, wt0 126 (by decide +kernel) rfl, Or.inr ⟨_, rfl⟩⟩
set_option maxRecDepth 100000 in
theorem fw_X5_90 : fdw RX5 7 4 90 12 RX6 TX6 (.fieldLinkNest RX5 90 RX6 (TX6 4).2.1 (TX6 4).2.2.1 "SealedProcesses") := ⟨rfl, by decide, rfl, by decide, rfl, cw_X6, wt0 130 (by decide +kernel) rfl, Or.inr ⟨_, rfl⟩⟩
set_option maxRecDepth 100000 in
theorem mw_X5_93 : clw RX5 149 93 1 (.methodLinkNest RX5 93 (yy 149) "SealedProcesses") := ⟨rfl, wc_X9_routineAt, wi_SealedProcesses_TypedModule, ⟨by decide, by decide⟩, fun sig h => by cases h; rfl, by decide, wt0 906 (by decide +kernel) rfl, Or.inr ⟨_, rfl⟩⟩
set_option maxRecDepth 100000 in
theorem fw_X5_99 : fdw RX5 7 5 99 12 RX6 TX6 (.fieldLinkNest RX5 99 RX6 (TX6 5).2.1 (TX6 5).2.2.1 "SealedProcesses") := ⟨rfl, by decide, rfl, by decide, rfl, cw_X6, wt0 132 (by decide +kernel) rfl, Or.inr ⟨_, rfl⟩⟩
set_option maxRecDepth 100000 in
theorem fw_X5_102 : fdw RX5 7 3 102 12 RX6 TX6 (.fieldLinkNest RX5 102 RX6 (TX6 3).2.1 (TX6 3).2.2.1 "SealedProcesses") := ⟨rfl, by decide, rfl, by decide, rfl, cw_X6, wt0 128 (by decide +kernel) rfl, Or.inr ⟨_, rfl⟩⟩
set_option maxRecDepth 100000 in
theorem wc_X5_begin : tbw (cwd 66) := wt0 910 (by decide +kernel) rfl
set_option maxRecDepth 100000 in
theorem mw_X5_105 : clw RX5 66 105 5 (.methodLink RX5 105 (yy 66)) := ⟨rfl, wc_X5_begin, wi_SealedProcesses_Machine, ⟨by decide, by decide⟩, fun sig h => by cases h; rfl, by decide, wt0 907 (by decide +kernel) rfl, Or.inl rfl⟩
set_option maxRecDepth 100000 in
theorem wm_X5_begin : tbw (.instanceMethod (yy 66)) := wt0 909 (by decide +kernel) rfl
set_option maxRecDepth 100000 in
theorem wse_X5_begin : tbw (.selects RX5 (yy 66) (yy 66)) := wp0 83 (by decide +kernel) rfl
set_option maxRecDepth 100000 in
theorem fw_X5_109 : fdw RX5 8 0 109 10 RX7 TX7 (.fieldLinkNest RX5 109 RX7 (TX7 0).2.1 (TX7 0).2.2.1 "SealedProcesses") := ⟨rfl, by decide, rfl, by decide, rfl, cw_X7, wt0 527 (by decide +kernel) rfl, Or.inr ⟨_, rfl⟩⟩
set_option maxRecDepth 100000 in
theorem wc_X7_typeOfParameter : tbw (cwd 107) := wt0 630 (by decide +kernel) rfl
set_option maxRecDepth 100000 in
theorem mw_X5_114 : clw RX5 107 114 1 (.methodLinkNest RX5 114 (yy 107) "SealedProcesses") := ⟨rfl, wc_X7_typeOfParameter, wi_SealedProcesses_Routine, ⟨by decide, by decide⟩, fun sig h => by cases h; rfl, by decide, wt0 994 (by decide +kernel) rfl, Or.inr ⟨_, rfl⟩⟩
set_option maxRecDepth 100000 in
theorem wm_X7_typeOfParameter : tbw (.instanceMethod (yy 107)) := wt0 629 (by decide +kernel) rfl
set_option maxRecDepth 100000 in
theorem wse_X7_typeOfParameter : tbw (.selects RX7 (yy 107) (yy 107)) := wp0 36 (by decide +kernel) rfl
set_option maxRecDepth 100000 in
theorem fw_X5_118 : fdw RX5 7 6 118 12 RX6 TX6 (.fieldLinkNest RX5 118 RX6 (TX6 6).2.1 (TX6 6).2.2.1 "SealedProcesses") := ⟨rfl, by decide, rfl, by decide, rfl, cw_X6, wt0 134 (by decide +kernel) rfl, Or.inr ⟨_, rfl⟩⟩
set_option maxRecDepth 100000 in
theorem wc_X11_kindOf : tbw (cwd 207) := wt0 705 (by decide +kernel) rfl
set_option maxRecDepth 100000 in
theorem mw_X5_121 : clw RX5 207 121 1 (.methodLinkNest RX5 121 (yy 207) "SealedProcesses") := ⟨rfl, wc_X11_kindOf, wi_SealedProcesses, ⟨by decide, by decide⟩, fun sig h => by cases h; rfl, by decide, wt0 995 (by decide +kernel) rfl, Or.inr ⟨_, rfl⟩⟩
set_option maxRecDepth 100000 in
theorem wt_X11_kindOf : tbw (.static (yy 207)) := wt0 704 (by decide +kernel) rfl
set_option maxRecDepth 100000 in
theorem wc_X11_sideOfEnd : tbw (cwd 210) := wt0 771 (by decide +kernel) rfl
set_option maxRecDepth 100000 in
theorem mw_X5_124 : clw RX5 210 124 1 (.methodLinkNest RX5 124 (yy 210) "SealedProcesses") := ⟨rfl, wc_X11_sideOfEnd, wi_SealedProcesses, ⟨by decide, by decide⟩, fun sig h => by cases h; rfl, by decide, wt0 996 (by decide +kernel) rfl, Or.inr ⟨_, rfl⟩⟩
set_option maxRecDepth 100000 in
theorem wt_X11_sideOfEnd : tbw (.static (yy 210)) := wt0 770 (by decide +kernel) rfl
set_option maxRecDepth 100000 in
theorem wc_X11_namedBy : tbw (cwd 208) := wt0 722 (by decide +kernel) rfl
set_option maxRecDepth 100000 in
theorem mw_X5_127 : clw RX5 208 127 1 (.methodLinkNest RX5 127 (yy 208) "SealedProcesses") := ⟨rfl, wc_X11_namedBy, wi_SealedProcesses, ⟨by decide, by decide⟩, fun sig h => by cases h; rfl, by decide, wt0 997 (by decide +kernel) rfl, Or.inr ⟨_, rfl⟩⟩
set_option maxRecDepth 100000 in
theorem wt_X11_namedBy : tbw (.static (yy 208)) := wt0 721 (by decide +kernel) rfl
set_option maxRecDepth 100000 in
theorem mw_X5_130 : clw RX5 148 130 1 (.methodLinkNest RX5 130 (yy 148) "SealedProcesses") := ⟨rfl, wc_X9_contractAt, wi_SealedProcesses_TypedModule, ⟨by decide, by decide⟩, fun sig h => by cases h; rfl, by decide, wt0 998 (by decide +kernel) rfl, Or.inr ⟨_, rfl⟩⟩
set_option maxRecDepth 100000 in
theorem wc_X5_bootedEnd : tbw (cwd 65) := wt0 1002 (by decide +kernel) rfl
set_option maxRecDepth 100000 in
theorem mw_X5_134 : clw RX5 65 134 4 (.methodLink RX5 134 (yy 65)) := ⟨rfl, wc_X5_bootedEnd, wi_SealedProcesses_Machine, ⟨by decide, by decide⟩, fun sig h => by cases h; rfl, by decide, wt0 999 (by decide +kernel) rfl, Or.inl rfl⟩
set_option maxRecDepth 100000 in
theorem wm_X5_bootedEnd : tbw (.instanceMethod (yy 65)) := wt0 1001 (by decide +kernel) rfl
set_option maxRecDepth 100000 in
theorem wse_X5_bootedEnd : tbw (.selects RX5 (yy 65) (yy 65)) := wp0 86 (by decide +kernel) rfl
set_option maxRecDepth 100000 in
theorem wc_X8_setLocal : tbw (cwd 129) := wt0 1018 (by decide +kernel) rfl
set_option maxRecDepth 100000 in
theorem wi_SealedProcesses_Task : tbw (.initialized RX8) := wt0 18 (by decide +kernel) rfl
set_option maxRecDepth 100000 in
theorem mw_X5_138 : clw RX5 129 138 3 (.methodLinkNest RX5 138 (yy 129) "SealedProcesses") := ⟨rfl, wc_X8_setLocal, wi_SealedProcesses_Task, ⟨by decide, by decide⟩, fun sig h => by cases h; rfl, by decide, wt0 1015 (by decide +kernel) rfl, Or.inr ⟨_, rfl⟩⟩
set_option maxRecDepth 100000 in
theorem wm_X8_setLocal : tbw (.instanceMethod (yy 129)) := wt0 1017 (by decide +kernel) rfl
set_option maxRecDepth 100000 in
theorem wse_X8_setLocal : tbw (.selects RX8 (yy 129) (yy 129)) := wp0 90 (by decide +kernel) rfl
set_option maxRecDepth 100000 in
theorem wc_X4_make : tbw (cwd 43) := wt0 1006 (by decide +kernel) rfl
set_option maxRecDepth 100000 in
theorem mw_X5_142 : clw RX5 43 142 2 (.methodLinkNest RX5 142 (yy 43) "SealedProcesses") := ⟨rfl, wc_X4_make, wi_SealedProcesses_Ends, ⟨by decide, by decide⟩, fun sig h => by cases h; rfl, by decide, wt0 1003 (by decide +kernel) rfl, Or.inr ⟨_, rfl⟩⟩
set_option maxRecDepth 100000 in
theorem wm_X4_make : tbw (.instanceMethod (yy 43)) := wt0 1005 (by decide +kernel) rfl
set_option maxRecDepth 100000 in
theorem wse_X4_make : tbw (.selects RX4 (yy 43) (yy 43)) := wp0 87 (by decide +kernel) rfl
set_option maxRecDepth 100000 in
theorem mw_X5_146 : clw RX5 47 146 2 (.methodLinkNest RX5 146 (yy 47) "SealedProcesses") := ⟨rfl, wc_X4_give, wi_SealedProcesses_Ends, ⟨by decide, by decide⟩, fun sig h => by cases h; rfl, by decide, wt0 1011 (by decide +kernel) rfl, Or.inr ⟨_, rfl⟩⟩
set_option maxRecDepth 100000 in
theorem wn_X8 : tbw (.instantiable RX8 17) := wt0 911 (by decide +kernel) rfl
set_option maxRecDepth 100000 in
theorem wc_X8_init : tbw (cwd 115) := wt0 914 (by decide +kernel) rfl
set_option maxRecDepth 100000 in
theorem mw_X5_150 : clw RX5 115 150 2 (.methodLinkNest RX5 150 (yy 115) "SealedProcesses") := ⟨rfl, wc_X8_init, wi_SealedProcesses_Task, ⟨by decide, by decide⟩, fun sig h => by cases h; rfl, by decide, wt0 912 (by decide +kernel) rfl, Or.inr ⟨_, rfl⟩⟩
set_option maxRecDepth 100000 in
theorem wm_X8_init : tbw (.instanceMethod (yy 115)) := wt0 913 (by decide +kernel) rfl
set_option maxRecDepth 100000 in
theorem wc_X8_begin : tbw (cwd 116) := wt0 987 (by decide +kernel) rfl
set_option maxRecDepth 100000 in
theorem mw_X5_153 : clw RX5 116 153 4 (.methodLinkNest RX5 153 (yy 116) "SealedProcesses") := ⟨rfl, wc_X8_begin, wi_SealedProcesses_Task, ⟨by decide, by decide⟩, fun sig h => by cases h; rfl, by decide, wt0 984 (by decide +kernel) rfl, Or.inr ⟨_, rfl⟩⟩
set_option maxRecDepth 100000 in
theorem wm_X8_begin : tbw (.instanceMethod (yy 116)) := wt0 986 (by decide +kernel) rfl
set_option maxRecDepth 100000 in
theorem wse_X8_begin : tbw (.selects RX8 (yy 116) (yy 116)) := wp0 84 (by decide +kernel) rfl
set_option maxRecDepth 100000 in
theorem wc_X5_taskAt : tbw (cwd 67) := wt0 1034 (by decide +kernel) rfl
set_option maxRecDepth 100000 in
theorem mw_X5_156 : clw RX5 67 156 1 (.methodLink RX5 156 (yy 67)) := ⟨rfl, wc_X5_taskAt, wi_SealedProcesses_Machine, ⟨by decide, by decide⟩, fun sig h => by cases h; rfl, by decide, wt0 1031 (by decide +kernel) rfl, Or.inl rfl⟩
set_option maxRecDepth 100000 in
theorem wm_X5_taskAt : tbw (.instanceMethod (yy 67)) := wt0 1033 (by decide +kernel) rfl
set_option maxRecDepth 100000 in
theorem wse_X5_taskAt : tbw (.selects RX5 (yy 67) (yy 67)) := wp0 93 (by decide +kernel) rfl
set_option maxRecDepth 100000 in
theorem wc_X8_isOver : tbw (cwd 117) := wt0 1038 (by decide +kernel) rfl
set_option maxRecDepth 100000 in
theorem mw_X5_160 : clw RX5 117 160 0 (.methodLinkNest RX5 160 (yy 117) "SealedProcesses") := ⟨rfl, wc_X8_isOver, wi_SealedProcesses_Task, ⟨by decide, by decide⟩, fun sig h => by cases h; rfl, by decide, wt0 1035 (by decide +kernel) rfl, Or.inr ⟨_, rfl⟩⟩
set_option maxRecDepth 100000 in
theorem wm_X8_isOver : tbw (.instanceMethod (yy 117)) := wt0 1037 (by decide +kernel) rfl
set_option maxRecDepth 100000 in
theorem wse_X8_isOver : tbw (.selects RX8 (yy 117) (yy 117)) := wp0 94 (by decide +kernel) rfl
set_option maxRecDepth 100000 in
theorem wc_X5_livingAt : tbw (cwd 68) := wt0 1030 (by decide +kernel) rfl
set_option maxRecDepth 100000 in
theorem mw_X5_164 : clw RX5 68 164 1 (.methodLink RX5 164 (yy 68)) := ⟨rfl, wc_X5_livingAt, wi_SealedProcesses_Machine, ⟨by decide, by decide⟩, fun sig h => by cases h; rfl, by decide, wt0 1027 (by decide +kernel) rfl, Or.inl rfl⟩
set_option maxRecDepth 100000 in
theorem wm_X5_livingAt : tbw (.instanceMethod (yy 68)) := wt0 1029 (by decide +kernel) rfl
set_option maxRecDepth 100000 in
theorem wse_X5_livingAt : tbw (.selects RX5 (yy 68) (yy 68)) := wp0 92 (by decide +kernel) rfl
set_option maxRecDepth 100000 in
theorem wc_X5_outlookOf : tbw (cwd 74) := wt0 1042 (by decide +kernel) rfl
set_option maxRecDepth 100000 in
theorem mw_X5_167 : clw RX5 74 167 1 (.methodLink RX5 167 (yy 74)) := ⟨rfl, wc_X5_outlookOf, wi_SealedProcesses_Machine, ⟨by decide, by decide⟩, fun sig h => by cases h; rfl, by decide, wt0 1039 (by decide +kernel) rfl, Or.inl rfl⟩
set_option maxRecDepth 100000 in
theorem wm_X5_outlookOf : tbw (.instanceMethod (yy 74)) := wt0 1041 (by decide +kernel) rfl
set_option maxRecDepth 100000 in
theorem wse_X5_outlookOf : tbw (.selects RX5 (yy 74) (yy 74)) := wp0 95 (by decide +kernel) rfl
set_option maxRecDepth 100000 in
theorem wc_X8_collect : tbw (cwd 141) := wt0 1173 (by decide +kernel) rfl
set_option maxRecDepth 100000 in
theorem mw_X5_171 : clw RX5 141 171 1 (.methodLinkNest RX5 171 (yy 141) "SealedProcesses") := ⟨rfl, wc_X8_collect, wi_SealedProcesses_Task, ⟨by decide, by decide⟩, fun sig h => by cases h; rfl, by decide, wt0 1170 (by decide +kernel) rfl, Or.inr ⟨_, rfl⟩⟩
set_option maxRecDepth 100000 in
theorem wm_X8_collect : tbw (.instanceMethod (yy 141)) := wt0 1172 (by decide +kernel) rfl
set_option maxRecDepth 100000 in
theorem wse_X8_collect : tbw (.selects RX8 (yy 141) (yy 141)) := wp0 125 (by decide +kernel) rfl
set_option maxRecDepth 100000 in
theorem fw_X5_175 : fdw RX5 9 16 175 17 RX8 TX8 (.fieldLinkNest RX5 175 RX8 (TX8 16).2.1 (TX8 16).2.2.1 "SealedProcesses") := ⟨rfl, by decide, rfl, by decide, rfl, cw_X8, wt0 948 (by decide +kernel) rfl, Or.inr ⟨_, rfl⟩⟩
set_option maxRecDepth 100000 in
theorem fw_X5_178 : fdw RX5 9 4 178 17 RX8 TX8 (.fieldLinkNest RX5 178 RX8 (TX8 4).2.1 (TX8 4).2.2.1 "SealedProcesses") := ⟨rfl, by decide, rfl, by decide, rfl, cw_X8, wt0 927 (by decide +kernel) rfl, Or.inr ⟨_, rfl⟩⟩
set_option maxRecDepth 100000 in
theorem wc_X5_step : tbw (cwd 77) := wt0 1099 (by decide +kernel) rfl
set_option maxRecDepth 100000 in
theorem mw_X5_181 : clw RX5 77 181 1 (.methodLink RX5 181 (yy 77)) := ⟨rfl, wc_X5_step, wi_SealedProcesses_Machine, ⟨by decide, by decide⟩, fun sig h => by cases h; rfl, by decide, wt0 1096 (by decide +kernel) rfl, Or.inl rfl⟩
set_option maxRecDepth 100000 in
theorem wm_X5_step : tbw (.instanceMethod (yy 77)) := wt0 1098 (by decide +kernel) rfl
set_option maxRecDepth 100000 in
theorem wse_X5_step : tbw (.selects RX5 (yy 77) (yy 77)) := wp0 108 (by decide +kernel) rfl
set_option maxRecDepth 100000 in
theorem wc_X5_passOn : tbw (cwd 73) := wt0 1340 (by decide +kernel) rfl
set_option maxRecDepth 100000 in
theorem mw_X5_185 : clw RX5 73 185 0 (.methodLink RX5 185 (yy 73)) := ⟨rfl, wc_X5_passOn, wi_SealedProcesses_Machine, ⟨by decide, by decide⟩, fun sig h => by cases h; rfl, by decide, wt0 1337 (by decide +kernel) rfl, Or.inl rfl⟩
set_option maxRecDepth 100000 in
theorem wm_X5_passOn : tbw (.instanceMethod (yy 73)) := wt0 1339 (by decide +kernel) rfl
set_option maxRecDepth 100000 in
theorem wse_X5_passOn : tbw (.selects RX5 (yy 73) (yy 73)) := wp0 161 (by decide +kernel) rfl
set_option maxRecDepth 100000 in
theorem wc_X8_addressOfNext : tbw (cwd 126) := wt0 1046 (by decide +kernel) rfl
set_option maxRecDepth 100000 in
theorem mw_X5_188 : clw RX5 126 188 0 (.methodLinkNest RX5 188 (yy 126) "SealedProcesses") := ⟨rfl, wc_X8_addressOfNext, wi_SealedProcesses_Task, ⟨by decide, by decide⟩, fun sig h => by cases h; rfl, by decide, wt0 1043 (by decide +kernel) rfl, Or.inr ⟨_, rfl⟩⟩
set_option maxRecDepth 100000 in
theorem wm_X8_addressOfNext : tbw (.instanceMethod (yy 126)) := wt0 1045 (by decide +kernel) rfl
set_option maxRecDepth 100000 in
theorem wse_X8_addressOfNext : tbw (.selects RX8 (yy 126) (yy 126)) := wp0 96 (by decide +kernel) rfl
set_option maxRecDepth 100000 in
theorem fw_X5_192 : fdw RX5 9 1 192 17 RX8 TX8 (.fieldLinkNest RX5 192 RX8 (TX8 1).2.1 (TX8 1).2.2.1 "SealedProcesses") := ⟨rfl, by decide, rfl, by decide, rfl, cw_X8, wt0 919 (by decide +kernel) rfl, Or.inr ⟨_, rfl⟩⟩
set_option maxRecDepth 100000 in
theorem wc_X9_byteAt : tbw (cwd 145) := wt0 674 (by decide +kernel) rfl
set_option maxRecDepth 100000 in
theorem mw_X5_196 : clw RX5 145 196 1 (.methodLinkNest RX5 196 (yy 145) "SealedProcesses") := ⟨rfl, wc_X9_byteAt, wi_SealedProcesses_TypedModule, ⟨by decide, by decide⟩, fun sig h => by cases h; rfl, by decide, wt0 1052 (by decide +kernel) rfl, Or.inr ⟨_, rfl⟩⟩
set_option maxRecDepth 100000 in
theorem wm_X9_byteAt : tbw (.instanceMethod (yy 145)) := wt0 673 (by decide +kernel) rfl
set_option maxRecDepth 100000 in
theorem wse_X9_byteAt : tbw (.selects RX9 (yy 145) (yy 145)) := wp0 45 (by decide +kernel) rfl
set_option maxRecDepth 100000 in
theorem wc_X8_highest : tbw (cwd 132) := wt0 1056 (by decide +kernel) rfl
set_option maxRecDepth 100000 in
theorem mw_X5_199 : clw RX5 132 199 0 (.methodLinkNest RX5 199 (yy 132) "SealedProcesses") := ⟨rfl, wc_X8_highest, wi_SealedProcesses_Task, ⟨by decide, by decide⟩, fun sig h => by cases h; rfl, by decide, wt0 1053 (by decide +kernel) rfl, Or.inr ⟨_, rfl⟩⟩
set_option maxRecDepth 100000 in
theorem wm_X8_highest : tbw (.instanceMethod (yy 132)) := wt0 1055 (by decide +kernel) rfl
set_option maxRecDepth 100000 in
theorem wse_X8_highest : tbw (.selects RX8 (yy 132) (yy 132)) := wp0 98 (by decide +kernel) rfl
set_option maxRecDepth 100000 in
theorem mw_X5_202 : clw RX5 48 202 1 (.methodLinkNest RX5 202 (yy 48) "SealedProcesses") := ⟨rfl, wc_X4_waitingFor, wi_SealedProcesses_Ends, ⟨by decide, by decide⟩, fun sig h => by cases h; rfl, by decide, wt0 1061 (by decide +kernel) rfl, Or.inr ⟨_, rfl⟩⟩
set_option maxRecDepth 100000 in
theorem wc_X5_sendingEnd : tbw (cwd 76) := wt0 1072 (by decide +kernel) rfl
set_option maxRecDepth 100000 in
theorem mw_X5_205 : clw RX5 76 205 2 (.methodLink RX5 205 (yy 76)) := ⟨rfl, wc_X5_sendingEnd, wi_SealedProcesses_Machine, ⟨by decide, by decide⟩, fun sig h => by cases h; rfl, by decide, wt0 1069 (by decide +kernel) rfl, Or.inl rfl⟩
set_option maxRecDepth 100000 in
theorem wm_X5_sendingEnd : tbw (.instanceMethod (yy 76)) := wt0 1071 (by decide +kernel) rfl
set_option maxRecDepth 100000 in
theorem wse_X5_sendingEnd : tbw (.selects RX5 (yy 76) (yy 76)) := wp0 102 (by decide +kernel) rfl
set_option maxRecDepth 100000 in
theorem wc_X4_isFull : tbw (cwd 50) := wt0 1094 (by decide +kernel) rfl
set_option maxRecDepth 100000 in
theorem mw_X5_209 : clw RX5 50 209 1 (.methodLinkNest RX5 209 (yy 50) "SealedProcesses") := ⟨rfl, wc_X4_isFull, wi_SealedProcesses_Ends, ⟨by decide, by decide⟩, fun sig h => by cases h; rfl, by decide, wt0 1091 (by decide +kernel) rfl, Or.inr ⟨_, rfl⟩⟩
set_option maxRecDepth 100000 in
theorem wm_X4_isFull : tbw (.instanceMethod (yy 50)) := wt0 1093 (by decide +kernel) rfl
set_option maxRecDepth 100000 in
theorem wse_X4_isFull : tbw (.selects RX4 (yy 50) (yy 50)) := wp0 107 (by decide +kernel) rfl
set_option maxRecDepth 100000 in
theorem wc_X8_height : tbw (cwd 125) := wt0 1076 (by decide +kernel) rfl
set_option maxRecDepth 100000 in
theorem mw_X5_213 : clw RX5 125 213 0 (.methodLinkNest RX5 213 (yy 125) "SealedProcesses") := ⟨rfl, wc_X8_height, wi_SealedProcesses_Task, ⟨by decide, by decide⟩, fun sig h => by cases h; rfl, by decide, wt0 1073 (by decide +kernel) rfl, Or.inr ⟨_, rfl⟩⟩
set_option maxRecDepth 100000 in
theorem wm_X8_height : tbw (.instanceMethod (yy 125)) := wt0 1075 (by decide +kernel) rfl
set_option maxRecDepth 100000 in
theorem wse_X8_height : tbw (.selects RX8 (yy 125) (yy 125)) := wp0 103 (by decide +kernel) rfl
set_option maxRecDepth 100000 in
theorem wc_X8_kindIn : tbw (cwd 130) := wt0 1084 (by decide +kernel) rfl
set_option maxRecDepth 100000 in
theorem mw_X5_216 : clw RX5 130 216 1 (.methodLinkNest RX5 216 (yy 130) "SealedProcesses") := ⟨rfl, wc_X8_kindIn, wi_SealedProcesses_Task, ⟨by decide, by decide⟩, fun sig h => by cases h; rfl, by decide, wt0 1081 (by decide +kernel) rfl, Or.inr ⟨_, rfl⟩⟩
set_option maxRecDepth 100000 in
theorem wm_X8_kindIn : tbw (.instanceMethod (yy 130)) := wt0 1083 (by decide +kernel) rfl
set_option maxRecDepth 100000 in
theorem wse_X8_kindIn : tbw (.selects RX8 (yy 130) (yy 130)) := wp0 105 (by decide +kernel) rfl
set_option maxRecDepth 100000 in
theorem wc_X8_numberIn : tbw (cwd 131) := wt0 1060 (by decide +kernel) rfl
set_option maxRecDepth 100000 in
theorem mw_X5_219 : clw RX5 131 219 1 (.methodLinkNest RX5 219 (yy 131) "SealedProcesses") := ⟨rfl, wc_X8_numberIn, wi_SealedProcesses_Task, ⟨by decide, by decide⟩, fun sig h => by cases h; rfl, by decide, wt0 1085 (by decide +kernel) rfl, Or.inr ⟨_, rfl⟩⟩
set_option maxRecDepth 100000 in
theorem wm_X8_numberIn : tbw (.instanceMethod (yy 131)) := wt0 1059 (by decide +kernel) rfl
set_option maxRecDepth 100000 in
theorem wse_X8_numberIn : tbw (.selects RX8 (yy 131) (yy 131)) := wp0 99 (by decide +kernel) rfl
set_option maxRecDepth 100000 in
theorem wc_X4_sendsBare : tbw (cwd 49) := wt0 1089 (by decide +kernel) rfl
set_option maxRecDepth 100000 in
theorem mw_X5_222 : clw RX5 49 222 2 (.methodLinkNest RX5 222 (yy 49) "SealedProcesses") := ⟨rfl, wc_X4_sendsBare, wi_SealedProcesses_Ends, ⟨by decide, by decide⟩, fun sig h => by cases h; rfl, by decide, wt0 1086 (by decide +kernel) rfl, Or.inr ⟨_, rfl⟩⟩
set_option maxRecDepth 100000 in
theorem wm_X4_sendsBare : tbw (.instanceMethod (yy 49)) := wt0 1088 (by decide +kernel) rfl
set_option maxRecDepth 100000 in
theorem wse_X4_sendsBare : tbw (.selects RX4 (yy 49) (yy 49)) := wp0 106 (by decide +kernel) rfl
set_option maxRecDepth 100000 in
theorem wc_X5_isBare : tbw (cwd 75) := wt0 1080 (by decide +kernel) rfl
set_option maxRecDepth 100000 in
theorem mw_X5_226 : clw RX5 75 226 2 (.methodLink RX5 226 (yy 75)) := ⟨rfl, wc_X5_isBare, wi_SealedProcesses_Machine, ⟨by decide, by decide⟩, fun sig h => by cases h; rfl, by decide, wt0 1077 (by decide +kernel) rfl, Or.inl rfl⟩
set_option maxRecDepth 100000 in
theorem wm_X5_isBare : tbw (.instanceMethod (yy 75)) := wt0 1079 (by decide +kernel) rfl
set_option maxRecDepth 100000 in
theorem wse_X5_isBare : tbw (.selects RX5 (yy 75) (yy 75)) := wp0 104 (by decide +kernel) rfl
set_option maxRecDepth 100000 in
theorem fw_X5_230 : fdw RX5 9 6 230 17 RX8 TX8 (.fieldLinkNest RX5 230 RX8 (TX8 6).2.1 (TX8 6).2.2.1 "SealedProcesses") := ⟨rfl, by decide, rfl, by decide, rfl, cw_X8, wt0 934 (by decide +kernel) rfl, Or.inr ⟨_, rfl⟩⟩
set_option maxRecDepth 100000 in
theorem wc_X8_place : tbw (cwd 123) := wt0 1103 (by decide +kernel) rfl
set_option maxRecDepth 100000 in
theorem mw_X5_231 : clw RX5 123 231 0 (.methodLinkNest RX5 231 (yy 123) "SealedProcesses") := ⟨rfl, wc_X8_place, wi_SealedProcesses_Task, ⟨by decide, by decide⟩, fun sig h => by cases h; rfl, by decide, wt0 1100 (by decide +kernel) rfl, Or.inr ⟨_, rfl⟩⟩
set_option maxRecDepth 100000 in
theorem wm_X8_place : tbw (.instanceMethod (yy 123)) := wt0 1102 (by decide +kernel) rfl
set_option maxRecDepth 100000 in
theorem wse_X8_place : tbw (.selects RX8 (yy 123) (yy 123)) := wp0 109 (by decide +kernel) rfl
set_option maxRecDepth 100000 in
theorem wc_X9_lengthOfInstruction : tbw (cwd 147) := wt0 806 (by decide +kernel) rfl
set_option maxRecDepth 100000 in
theorem mw_X5_234 : clw RX5 147 234 1 (.methodLinkNest RX5 234 (yy 147) "SealedProcesses") := ⟨rfl, wc_X9_lengthOfInstruction, wi_SealedProcesses_TypedModule, ⟨by decide, by decide⟩, fun sig h => by cases h; rfl, by decide, wt0 1104 (by decide +kernel) rfl, Or.inr ⟨_, rfl⟩⟩
set_option maxRecDepth 100000 in
theorem wm_X9_lengthOfInstruction : tbw (.instanceMethod (yy 147)) := wt0 805 (by decide +kernel) rfl
set_option maxRecDepth 100000 in
theorem wse_X9_lengthOfInstruction : tbw (.selects RX9 (yy 147) (yy 147)) := wp0 70 (by decide +kernel) rfl
set_option maxRecDepth 100000 in
theorem wc_X8_goTo : tbw (cwd 124) := wt0 1108 (by decide +kernel) rfl
set_option maxRecDepth 100000 in
theorem mw_X5_237 : clw RX5 124 237 1 (.methodLinkNest RX5 237 (yy 124) "SealedProcesses") := ⟨rfl, wc_X8_goTo, wi_SealedProcesses_Task, ⟨by decide, by decide⟩, fun sig h => by cases h; rfl, by decide, wt0 1105 (by decide +kernel) rfl, Or.inr ⟨_, rfl⟩⟩
set_option maxRecDepth 100000 in
theorem wm_X8_goTo : tbw (.instanceMethod (yy 124)) := wt0 1107 (by decide +kernel) rfl
set_option maxRecDepth 100000 in
theorem wse_X8_goTo : tbw (.selects RX8 (yy 124) (yy 124)) := wp0 110 (by decide +kernel) rfl
set_option maxRecDepth 100000 in
theorem wc_X5_perform : tbw (cwd 78) := wt0 1112 (by decide +kernel) rfl
set_option maxRecDepth 100000 in
theorem mw_X5_241 : clw RX5 78 241 3 (.methodLink RX5 241 (yy 78)) := ⟨rfl, wc_X5_perform, wi_SealedProcesses_Machine, ⟨by decide, by decide⟩, fun sig h => by cases h; rfl, by decide, wt0 1109 (by decide +kernel) rfl, Or.inl rfl⟩
set_option maxRecDepth 100000 in
theorem wm_X5_perform : tbw (.instanceMethod (yy 78)) := wt0 1111 (by decide +kernel) rfl
set_option maxRecDepth 100000 in
theorem wse_X5_perform : tbw (.selects RX5 (yy 78) (yy 78)) := wp0 111 (by decide +kernel) rfl
set_option maxRecDepth 100000 in
theorem fw_X5_245 : fdw RX5 9 5 245 17 RX8 TX8 (.fieldLinkNest RX5 245 RX8 (TX8 5).2.1 (TX8 5).2.2.1 "SealedProcesses") := ⟨rfl, by decide, rfl, by decide, rfl, cw_X8, wt0 931 (by decide +kernel) rfl, Or.inr ⟨_, rfl⟩⟩
set_option maxRecDepth 100000 in
theorem fw_X5_248 : fdw RX5 9 0 248 17 RX8 TX8 (.fieldLinkNest RX5 248 RX8 (TX8 0).2.1 (TX8 0).2.2.1 "SealedProcesses") := ⟨rfl, by decide, rfl, by decide, rfl, cw_X8, wt0 917 (by decide +kernel) rfl, Or.inr ⟨_, rfl⟩⟩
set_option maxRecDepth 100000 in
theorem wc_X0_freeAllOf : tbw (cwd 9) := wt0 1325 (by decide +kernel) rfl
set_option maxRecDepth 100000 in
theorem mw_X5_251 : clw RX5 9 251 1 (.methodLinkNest RX5 251 (yy 9) "SealedProcesses") := ⟨rfl, wc_X0_freeAllOf, wi_SealedProcesses_Blocks, ⟨by decide, by decide⟩, fun sig h => by cases h; rfl, by decide, wt0 1322 (by decide +kernel) rfl, Or.inr ⟨_, rfl⟩⟩
set_option maxRecDepth 100000 in
theorem wm_X0_freeAllOf : tbw (.instanceMethod (yy 9)) := wt0 1324 (by decide +kernel) rfl
set_option maxRecDepth 100000 in
theorem wse_X0_freeAllOf : tbw (.selects RX0 (yy 9) (yy 9)) := wp0 158 (by decide +kernel) rfl
set_option maxRecDepth 100000 in
theorem wc_X4_closeAllOf : tbw (cwd 59) := wt0 1330 (by decide +kernel) rfl
set_option maxRecDepth 100000 in
theorem mw_X5_254 : clw RX5 59 254 1 (.methodLinkNest RX5 254 (yy 59) "SealedProcesses") := ⟨rfl, wc_X4_closeAllOf, wi_SealedProcesses_Ends, ⟨by decide, by decide⟩, fun sig h => by cases h; rfl, by decide, wt0 1327 (by decide +kernel) rfl, Or.inr ⟨_, rfl⟩⟩
set_option maxRecDepth 100000 in
theorem wm_X4_closeAllOf : tbw (.instanceMethod (yy 59)) := wt0 1329 (by decide +kernel) rfl
set_option maxRecDepth 100000 in
theorem wse_X4_closeAllOf : tbw (.selects RX4 (yy 59) (yy 59)) := wp0 159 (by decide +kernel) rfl
set_option maxRecDepth 100000 in
theorem wc_X4_settle : tbw (cwd 61) := wt0 1335 (by decide +kernel) rfl
set_option maxRecDepth 100000 in
theorem mw_X5_257 : clw RX5 61 257 0 (.methodLinkNest RX5 257 (yy 61) "SealedProcesses") := ⟨rfl, wc_X4_settle, wi_SealedProcesses_Ends, ⟨by decide, by decide⟩, fun sig h => by cases h; rfl, by decide, wt0 1332 (by decide +kernel) rfl, Or.inr ⟨_, rfl⟩⟩
set_option maxRecDepth 100000 in
theorem wm_X4_settle : tbw (.instanceMethod (yy 61)) := wt0 1334 (by decide +kernel) rfl
set_option maxRecDepth 100000 in
theorem wse_X4_settle : tbw (.selects RX4 (yy 61) (yy 61)) := wp0 160 (by decide +kernel) rfl
set_option maxRecDepth 100000 in
theorem wc_X5_performMove : tbw (cwd 79) := wt0 1116 (by decide +kernel) rfl
set_option maxRecDepth 100000 in
theorem mw_X5_260 : clw RX5 79 260 4 (.methodLink RX5 260 (yy 79)) := ⟨rfl, wc_X5_performMove, wi_SealedProcesses_Machine, ⟨by decide, by decide⟩, fun sig h => by cases h; rfl, by decide, wt0 1113 (by decide +kernel) rfl, Or.inl rfl⟩
set_option maxRecDepth 100000 in
theorem wm_X5_performMove : tbw (.instanceMethod (yy 79)) := wt0 1115 (by decide +kernel) rfl
set_option maxRecDepth 100000 in
theorem wse_X5_performMove : tbw (.selects RX5 (yy 79) (yy 79)) := wp0 112 (by decide +kernel) rfl
set_option maxRecDepth 100000 in
theorem wc_X5_performInts : tbw (cwd 80) := wt0 1133 (by decide +kernel) rfl
set_option maxRecDepth 100000 in
theorem mw_X5_264 : clw RX5 80 264 2 (.methodLink RX5 264 (yy 80)) := ⟨rfl, wc_X5_performInts, wi_SealedProcesses_Machine, ⟨by decide, by decide⟩, fun sig h => by cases h; rfl, by decide, wt0 1130 (by decide +kernel) rfl, Or.inl rfl⟩
set_option maxRecDepth 100000 in
theorem wm_X5_performInts : tbw (.instanceMethod (yy 80)) := wt0 1132 (by decide +kernel) rfl
set_option maxRecDepth 100000 in
theorem wse_X5_performInts : tbw (.selects RX5 (yy 80) (yy 80)) := wp0 116 (by decide +kernel) rfl
set_option maxRecDepth 100000 in
theorem wc_X5_performBlock : tbw (cwd 93) := wt0 1140 (by decide +kernel) rfl
set_option maxRecDepth 100000 in
theorem mw_X5_267 : clw RX5 93 267 3 (.methodLink RX5 267 (yy 93)) := ⟨rfl, wc_X5_performBlock, wi_SealedProcesses_Machine, ⟨by decide, by decide⟩, fun sig h => by cases h; rfl, by decide, wt0 1137 (by decide +kernel) rfl, Or.inl rfl⟩
set_option maxRecDepth 100000 in
theorem wm_X5_performBlock : tbw (.instanceMethod (yy 93)) := wt0 1139 (by decide +kernel) rfl
set_option maxRecDepth 100000 in
theorem wse_X5_performBlock : tbw (.selects RX5 (yy 93) (yy 93)) := wp0 117 (by decide +kernel) rfl
set_option maxRecDepth 100000 in
theorem wc_X9_sizeOfRecord : tbw (cwd 152) := wt0 451 (by decide +kernel) rfl
set_option maxRecDepth 100000 in
theorem mw_X5_270 : clw RX5 152 270 1 (.methodLinkNest RX5 270 (yy 152) "SealedProcesses") := ⟨rfl, wc_X9_sizeOfRecord, wi_SealedProcesses_TypedModule, ⟨by decide, by decide⟩, fun sig h => by cases h; rfl, by decide, wt0 1141 (by decide +kernel) rfl, Or.inr ⟨_, rfl⟩⟩
set_option maxRecDepth 100000 in
theorem wm_X9_sizeOfRecord : tbw (.instanceMethod (yy 152)) := wt0 450 (by decide +kernel) rfl
set_option maxRecDepth 100000 in
theorem wse_X9_sizeOfRecord : tbw (.selects RX9 (yy 152) (yy 152)) := wp0 14 (by decide +kernel) rfl
set_option maxRecDepth 100000 in
theorem wc_X5_layInHeap : tbw (cwd 90) := wt0 1165 (by decide +kernel) rfl
set_option maxRecDepth 100000 in
theorem mw_X5_273 : clw RX5 90 273 3 (.methodLink RX5 273 (yy 90)) := ⟨rfl, wc_X5_layInHeap, wi_SealedProcesses_Machine, ⟨by decide, by decide⟩, fun sig h => by cases h; rfl, by decide, wt0 1162 (by decide +kernel) rfl, Or.inl rfl⟩
set_option maxRecDepth 100000 in
theorem wm_X5_layInHeap : tbw (.instanceMethod (yy 90)) := wt0 1164 (by decide +kernel) rfl
set_option maxRecDepth 100000 in
theorem wse_X5_layInHeap : tbw (.selects RX5 (yy 90) (yy 90)) := wp0 123 (by decide +kernel) rfl
set_option maxRecDepth 100000 in
theorem wk_X5_276 : tbw (.constant RX5 276 (Int32.ofInt 524288)) := wt0 1201 (by decide +kernel) rfl
set_option maxRecDepth 100000 in
theorem wc_X8_pop : tbw (cwd 128) := wt0 1129 (by decide +kernel) rfl
set_option maxRecDepth 100000 in
theorem mw_X5_277 : clw RX5 128 277 0 (.methodLinkNest RX5 277 (yy 128) "SealedProcesses") := ⟨rfl, wc_X8_pop, wi_SealedProcesses_Task, ⟨by decide, by decide⟩, fun sig h => by cases h; rfl, by decide, wt0 1126 (by decide +kernel) rfl, Or.inr ⟨_, rfl⟩⟩
set_option maxRecDepth 100000 in
theorem wm_X8_pop : tbw (.instanceMethod (yy 128)) := wt0 1128 (by decide +kernel) rfl
set_option maxRecDepth 100000 in
theorem wse_X8_pop : tbw (.selects RX8 (yy 128) (yy 128)) := wp0 115 (by decide +kernel) rfl
set_option maxRecDepth 100000 in
theorem wk_X5_280 : tbw (.constant RX5 280 (Int32.ofInt 589824)) := wt0 1202 (by decide +kernel) rfl
set_option maxRecDepth 100000 in
theorem wc_X5_performNode : tbw (cwd 91) := wt0 1206 (by decide +kernel) rfl
set_option maxRecDepth 100000 in
theorem mw_X5_281 : clw RX5 91 281 3 (.methodLink RX5 281 (yy 91)) := ⟨rfl, wc_X5_performNode, wi_SealedProcesses_Machine, ⟨by decide, by decide⟩, fun sig h => by cases h; rfl, by decide, wt0 1203 (by decide +kernel) rfl, Or.inl rfl⟩
set_option maxRecDepth 100000 in
theorem wm_X5_performNode : tbw (.instanceMethod (yy 91)) := wt0 1205 (by decide +kernel) rfl
set_option maxRecDepth 100000 in
theorem wse_X5_performNode : tbw (.selects RX5 (yy 91) (yy 91)) := wp0 131 (by decide +kernel) rfl
set_option maxRecDepth 100000 in
theorem wc_X5_performRow : tbw (cwd 92) := wt0 1220 (by decide +kernel) rfl
set_option maxRecDepth 100000 in
theorem mw_X5_284 : clw RX5 92 284 2 (.methodLink RX5 284 (yy 92)) := ⟨rfl, wc_X5_performRow, wi_SealedProcesses_Machine, ⟨by decide, by decide⟩, fun sig h => by cases h; rfl, by decide, wt0 1217 (by decide +kernel) rfl, Or.inl rfl⟩
set_option maxRecDepth 100000 in
theorem wm_X5_performRow : tbw (.instanceMethod (yy 92)) := wt0 1219 (by decide +kernel) rfl
set_option maxRecDepth 100000 in
theorem wse_X5_performRow : tbw (.selects RX5 (yy 92) (yy 92)) := wp0 134 (by decide +kernel) rfl
set_option maxRecDepth 100000 in
theorem wc_X5_call : tbw (cwd 83) := wt0 1232 (by decide +kernel) rfl
set_option maxRecDepth 100000 in
theorem mw_X5_287 : clw RX5 83 287 2 (.methodLink RX5 287 (yy 83)) := ⟨rfl, wc_X5_call, wi_SealedProcesses_Machine, ⟨by decide, by decide⟩, fun sig h => by cases h; rfl, by decide, wt0 1229 (by decide +kernel) rfl, Or.inl rfl⟩
set_option maxRecDepth 100000 in
theorem wm_X5_call : tbw (.instanceMethod (yy 83)) := wt0 1231 (by decide +kernel) rfl
set_option maxRecDepth 100000 in
theorem wse_X5_call : tbw (.selects RX5 (yy 83) (yy 83)) := wp0 137 (by decide +kernel) rfl
set_option maxRecDepth 100000 in
theorem wc_X5_send : tbw (cwd 95) := wt0 1249 (by decide +kernel) rfl
set_option maxRecDepth 100000 in
theorem mw_X5_290 : clw RX5 95 290 2 (.methodLink RX5 290 (yy 95)) := ⟨rfl, wc_X5_send, wi_SealedProcesses_Machine, ⟨by decide, by decide⟩, fun sig h => by cases h; rfl, by decide, wt0 1246 (by decide +kernel) rfl, Or.inl rfl⟩
set_option maxRecDepth 100000 in
theorem wm_X5_send : tbw (.instanceMethod (yy 95)) := wt0 1248 (by decide +kernel) rfl
set_option maxRecDepth 100000 in
theorem wse_X5_send : tbw (.selects RX5 (yy 95) (yy 95)) := wp0 140 (by decide +kernel) rfl
set_option maxRecDepth 100000 in
theorem wc_X5_receive : tbw (cwd 96) := wt0 1275 (by decide +kernel) rfl
set_option maxRecDepth 100000 in
theorem mw_X5_293 : clw RX5 96 293 2 (.methodLink RX5 293 (yy 96)) := ⟨rfl, wc_X5_receive, wi_SealedProcesses_Machine, ⟨by decide, by decide⟩, fun sig h => by cases h; rfl, by decide, wt0 1272 (by decide +kernel) rfl, Or.inl rfl⟩
set_option maxRecDepth 100000 in
theorem wm_X5_receive : tbw (.instanceMethod (yy 96)) := wt0 1274 (by decide +kernel) rfl
set_option maxRecDepth 100000 in
theorem wse_X5_receive : tbw (.selects RX5 (yy 96) (yy 96)) := wp0 146 (by decide +kernel) rfl
set_option maxRecDepth 100000 in
theorem wc_X5_spawn : tbw (cwd 88) := wt0 1296 (by decide +kernel) rfl
set_option maxRecDepth 100000 in
theorem mw_X5_296 : clw RX5 88 296 2 (.methodLink RX5 296 (yy 88)) := ⟨rfl, wc_X5_spawn, wi_SealedProcesses_Machine, ⟨by decide, by decide⟩, fun sig h => by cases h; rfl, by decide, wt0 1293 (by decide +kernel) rfl, Or.inl rfl⟩
set_option maxRecDepth 100000 in
theorem wm_X5_spawn : tbw (.instanceMethod (yy 88)) := wt0 1295 (by decide +kernel) rfl
set_option maxRecDepth 100000 in
theorem wse_X5_spawn : tbw (.selects RX5 (yy 88) (yy 88)) := wp0 151 (by decide +kernel) rfl
set_option maxRecDepth 100000 in
theorem wc_X5_performFlow : tbw (cwd 82) := wt0 1300 (by decide +kernel) rfl
set_option maxRecDepth 100000 in
theorem mw_X5_299 : clw RX5 82 299 3 (.methodLink RX5 299 (yy 82)) := ⟨rfl, wc_X5_performFlow, wi_SealedProcesses_Machine, ⟨by decide, by decide⟩, fun sig h => by cases h; rfl, by decide, wt0 1297 (by decide +kernel) rfl, Or.inl rfl⟩
set_option maxRecDepth 100000 in
theorem wm_X5_performFlow : tbw (.instanceMethod (yy 82)) := wt0 1299 (by decide +kernel) rfl
set_option maxRecDepth 100000 in
theorem wse_X5_performFlow : tbw (.selects RX5 (yy 82) (yy 82)) := wp0 152 (by decide +kernel) rfl
set_option maxRecDepth 100000 in
theorem wc_X9_wordAt : tbw (cwd 146) := wt0 1120 (by decide +kernel) rfl
set_option maxRecDepth 100000 in
theorem mw_X5_302 : clw RX5 146 302 1 (.methodLinkNest RX5 302 (yy 146) "SealedProcesses") := ⟨rfl, wc_X9_wordAt, wi_SealedProcesses_TypedModule, ⟨by decide, by decide⟩, fun sig h => by cases h; rfl, by decide, wt0 1117 (by decide +kernel) rfl, Or.inr ⟨_, rfl⟩⟩
set_option maxRecDepth 100000 in
theorem wm_X9_wordAt : tbw (.instanceMethod (yy 146)) := wt0 1119 (by decide +kernel) rfl
set_option maxRecDepth 100000 in
theorem wse_X9_wordAt : tbw (.selects RX9 (yy 146) (yy 146)) := wp0 113 (by decide +kernel) rfl
set_option maxRecDepth 100000 in
theorem wc_X8_push : tbw (cwd 127) := wt0 1124 (by decide +kernel) rfl
set_option maxRecDepth 100000 in
theorem mw_X5_305 : clw RX5 127 305 2 (.methodLinkNest RX5 305 (yy 127) "SealedProcesses") := ⟨rfl, wc_X8_push, wi_SealedProcesses_Task, ⟨by decide, by decide⟩, fun sig h => by cases h; rfl, by decide, wt0 1121 (by decide +kernel) rfl, Or.inr ⟨_, rfl⟩⟩
set_option maxRecDepth 100000 in
theorem wm_X8_push : tbw (.instanceMethod (yy 127)) := wt0 1123 (by decide +kernel) rfl
set_option maxRecDepth 100000 in
theorem wse_X8_push : tbw (.selects RX8 (yy 127) (yy 127)) := wp0 114 (by decide +kernel) rfl
set_option maxRecDepth 100000 in
theorem wc_X11_isLinear : tbw (cwd 211) := wt0 652 (by decide +kernel) rfl
set_option maxRecDepth 100000 in
theorem mw_X5_308 : clw RX5 211 308 1 (.methodLinkNest RX5 308 (yy 211) "SealedProcesses") := ⟨rfl, wc_X11_isLinear, wi_SealedProcesses, ⟨by decide, by decide⟩, fun sig h => by cases h; rfl, by decide, wt0 1125 (by decide +kernel) rfl, Or.inr ⟨_, rfl⟩⟩
set_option maxRecDepth 100000 in
theorem wt_X11_isLinear : tbw (.static (yy 211)) := wt0 651 (by decide +kernel) rfl
set_option maxRecDepth 100000 in
theorem fw_X5_311 : fdw RX5 9 14 311 17 RX8 TX8 (.fieldLinkNest RX5 311 RX8 (TX8 14).2.1 (TX8 14).2.2.1 "SealedProcesses") := ⟨rfl, by decide, rfl, by decide, rfl, cw_X8, wt0 945 (by decide +kernel) rfl, Or.inr ⟨_, rfl⟩⟩
set_option maxRecDepth 100000 in
theorem wc_X5_reckon : tbw (cwd 81) := wt0 1136 (by decide +kernel) rfl
set_option maxRecDepth 100000 in
theorem mw_X5_314 : clw RX5 81 314 3 (.methodLink RX5 314 (yy 81)) := ⟨rfl, wc_X5_reckon, wi_SealedProcesses_Machine, ⟨by decide, by decide⟩, fun sig h => by cases h; rfl, by decide, wt0 1134 (by decide +kernel) rfl, Or.inl rfl⟩
set_option maxRecDepth 100000 in
theorem wt_X5_reckon : tbw (.static (yy 81)) := wt0 1135 (by decide +kernel) rfl
set_option maxRecDepth 100000 in
theorem wc_X5_giveBack : tbw (cwd 87) := wt0 1304 (by decide +kernel) rfl
set_option maxRecDepth 100000 in
theorem mw_X5_318 : clw RX5 87 318 1 (.methodLink RX5 318 (yy 87)) := ⟨rfl, wc_X5_giveBack, wi_SealedProcesses_Machine, ⟨by decide, by decide⟩, fun sig h => by cases h; rfl, by decide, wt0 1301 (by decide +kernel) rfl, Or.inl rfl⟩
set_option maxRecDepth 100000 in
theorem wm_X5_giveBack : tbw (.instanceMethod (yy 87)) := wt0 1303 (by decide +kernel) rfl
set_option maxRecDepth 100000 in
theorem wse_X5_giveBack : tbw (.selects RX5 (yy 87) (yy 87)) := wp0 153 (by decide +kernel) rfl
set_option maxRecDepth 100000 in
theorem wc_X5_openChannel : tbw (cwd 94) := wt0 1313 (by decide +kernel) rfl
set_option maxRecDepth 100000 in
theorem mw_X5_321 : clw RX5 94 321 2 (.methodLink RX5 321 (yy 94)) := ⟨rfl, wc_X5_openChannel, wi_SealedProcesses_Machine, ⟨by decide, by decide⟩, fun sig h => by cases h; rfl, by decide, wt0 1310 (by decide +kernel) rfl, Or.inl rfl⟩
set_option maxRecDepth 100000 in
theorem wm_X5_openChannel : tbw (.instanceMethod (yy 94)) := wt0 1312 (by decide +kernel) rfl
set_option maxRecDepth 100000 in
theorem wse_X5_openChannel : tbw (.selects RX5 (yy 94) (yy 94)) := wp0 155 (by decide +kernel) rfl
set_option maxRecDepth 100000 in
theorem mw_X5_324 : clw RX5 58 324 1 (.methodLinkNest RX5 324 (yy 58) "SealedProcesses") := ⟨rfl, wc_X4_close, wi_SealedProcesses_Ends, ⟨by decide, by decide⟩, fun sig h => by cases h; rfl, by decide, wt0 1314 (by decide +kernel) rfl, Or.inr ⟨_, rfl⟩⟩
set_option maxRecDepth 100000 in
theorem wc_X5_out : tbw (cwd 89) := wt0 1321 (by decide +kernel) rfl
set_option maxRecDepth 100000 in
theorem mw_X5_327 : clw RX5 89 327 1 (.methodLink RX5 327 (yy 89)) := ⟨rfl, wc_X5_out, wi_SealedProcesses_Machine, ⟨by decide, by decide⟩, fun sig h => by cases h; rfl, by decide, wt0 1318 (by decide +kernel) rfl, Or.inl rfl⟩
set_option maxRecDepth 100000 in
theorem wm_X5_out : tbw (.instanceMethod (yy 89)) := wt0 1320 (by decide +kernel) rfl
set_option maxRecDepth 100000 in
theorem wse_X5_out : tbw (.selects RX5 (yy 89) (yy 89)) := wp0 157 (by decide +kernel) rfl
set_option maxRecDepth 100000 in
theorem wc_X5_parametersOf : tbw (cwd 84) := wt0 1235 (by decide +kernel) rfl
set_option maxRecDepth 100000 in
theorem mw_X5_330 : clw RX5 84 330 2 (.methodLink RX5 330 (yy 84)) := ⟨rfl, wc_X5_parametersOf, wi_SealedProcesses_Machine, ⟨by decide, by decide⟩, fun sig h => by cases h; rfl, by decide, wt0 1233 (by decide +kernel) rfl, Or.inl rfl⟩
set_option maxRecDepth 100000 in
theorem wt_X5_parametersOf : tbw (.static (yy 84)) := wt0 1234 (by decide +kernel) rfl
set_option maxRecDepth 100000 in
theorem wc_X5_takeParameters : tbw (cwd 85) := wt0 1240 (by decide +kernel) rfl
set_option maxRecDepth 100000 in
theorem mw_X5_333 : clw RX5 85 333 2 (.methodLink RX5 333 (yy 85)) := ⟨rfl, wc_X5_takeParameters, wi_SealedProcesses_Machine, ⟨by decide, by decide⟩, fun sig h => by cases h; rfl, by decide, wt0 1237 (by decide +kernel) rfl, Or.inl rfl⟩
set_option maxRecDepth 100000 in
theorem wm_X5_takeParameters : tbw (.instanceMethod (yy 85)) := wt0 1239 (by decide +kernel) rfl
set_option maxRecDepth 100000 in
theorem wse_X5_takeParameters : tbw (.selects RX5 (yy 85) (yy 85)) := wp0 138 (by decide +kernel) rfl
set_option maxRecDepth 100000 in
theorem wc_X8_enter : tbw (cwd 118) := wt0 993 (by decide +kernel) rfl
set_option maxRecDepth 100000 in
theorem mw_X5_337 : clw RX5 118 337 1 (.methodLinkNest RX5 337 (yy 118) "SealedProcesses") := ⟨rfl, wc_X8_enter, wi_SealedProcesses_Task, ⟨by decide, by decide⟩, fun sig h => by cases h; rfl, by decide, wt0 1241 (by decide +kernel) rfl, Or.inr ⟨_, rfl⟩⟩
set_option maxRecDepth 100000 in
theorem wm_X8_enter : tbw (.instanceMethod (yy 118)) := wt0 992 (by decide +kernel) rfl
set_option maxRecDepth 100000 in
theorem wse_X8_enter : tbw (.selects RX8 (yy 118) (yy 118)) := wp0 85 (by decide +kernel) rfl
set_option maxRecDepth 100000 in
theorem wc_X5_layParameters : tbw (cwd 86) := wt0 1245 (by decide +kernel) rfl
set_option maxRecDepth 100000 in
theorem mw_X5_340 : clw RX5 86 340 2 (.methodLink RX5 340 (yy 86)) := ⟨rfl, wc_X5_layParameters, wi_SealedProcesses_Machine, ⟨by decide, by decide⟩, fun sig h => by cases h; rfl, by decide, wt0 1242 (by decide +kernel) rfl, Or.inl rfl⟩
set_option maxRecDepth 100000 in
theorem wm_X5_layParameters : tbw (.instanceMethod (yy 86)) := wt0 1244 (by decide +kernel) rfl
set_option maxRecDepth 100000 in
theorem wse_X5_layParameters : tbw (.selects RX5 (yy 86) (yy 86)) := wp0 139 (by decide +kernel) rfl
set_option maxRecDepth 100000 in
theorem wq_X5_343 : tbw (.methodLink RX5 343 Lib.Math.min.name) := wt0 1236 (by decide +kernel) rfl
set_option maxRecDepth 100000 in
theorem wc_X8_routine : tbw (cwd 121) := wt0 1050 (by decide +kernel) rfl
set_option maxRecDepth 100000 in
theorem mw_X5_349 : clw RX5 121 349 0 (.methodLinkNest RX5 349 (yy 121) "SealedProcesses") := ⟨rfl, wc_X8_routine, wi_SealedProcesses_Task, ⟨by decide, by decide⟩, fun sig h => by cases h; rfl, by decide, wt0 1305 (by decide +kernel) rfl, Or.inr ⟨_, rfl⟩⟩
set_option maxRecDepth 100000 in
theorem wm_X8_routine : tbw (.instanceMethod (yy 121)) := wt0 1049 (by decide +kernel) rfl
set_option maxRecDepth 100000 in
theorem wse_X8_routine : tbw (.selects RX8 (yy 121) (yy 121)) := wp0 97 (by decide +kernel) rfl
set_option maxRecDepth 100000 in
theorem fw_X5_353 : fdw RX5 8 2 353 10 RX7 TX7 (.fieldLinkNest RX5 353 RX7 (TX7 2).2.1 (TX7 2).2.2.1 "SealedProcesses") := ⟨rfl, by decide, rfl, by decide, rfl, cw_X7, wt0 534 (by decide +kernel) rfl, Or.inr ⟨_, rfl⟩⟩
set_option maxRecDepth 100000 in
theorem fw_X5_356 : fdw RX5 9 7 356 17 RX8 TX8 (.fieldLinkNest RX5 356 RX8 (TX8 7).2.1 (TX8 7).2.2.1 "SealedProcesses") := ⟨rfl, by decide, rfl, by decide, rfl, cw_X8, wt0 937 (by decide +kernel) rfl, Or.inr ⟨_, rfl⟩⟩
set_option maxRecDepth 100000 in
theorem wc_X8_leave : tbw (cwd 119) := wt0 1309 (by decide +kernel) rfl
set_option maxRecDepth 100000 in
theorem mw_X5_359 : clw RX5 119 359 0 (.methodLinkNest RX5 359 (yy 119) "SealedProcesses") := ⟨rfl, wc_X8_leave, wi_SealedProcesses_Task, ⟨by decide, by decide⟩, fun sig h => by cases h; rfl, by decide, wt0 1306 (by decide +kernel) rfl, Or.inr ⟨_, rfl⟩⟩
set_option maxRecDepth 100000 in
theorem wm_X8_leave : tbw (.instanceMethod (yy 119)) := wt0 1308 (by decide +kernel) rfl
set_option maxRecDepth 100000 in
theorem wse_X8_leave : tbw (.selects RX8 (yy 119) (yy 119)) := wp0 154 (by decide +kernel) rfl
set_option maxRecDepth 100000 in
theorem fw_X5_362 : fdw RX5 9 2 362 17 RX8 TX8 (.fieldLinkNest RX5 362 RX8 (TX8 2).2.1 (TX8 2).2.2.1 "SealedProcesses") := ⟨rfl, by decide, rfl, by decide, rfl, cw_X8, wt0 922 (by decide +kernel) rfl, Or.inr ⟨_, rfl⟩⟩
set_option maxRecDepth 100000 in
theorem fw_X5_365 : fdw RX5 9 3 365 17 RX8 TX8 (.fieldLinkNest RX5 365 RX8 (TX8 3).2.1 (TX8 3).2.2.1 "SealedProcesses") := ⟨rfl, by decide, rfl, by decide, rfl, cw_X8, wt0 925 (by decide +kernel) rfl, Or.inr ⟨_, rfl⟩⟩
set_option maxRecDepth 100000 in
theorem mw_X5_368 : clw RX5 57 368 3 (.methodLinkNest RX5 368 (yy 57) "SealedProcesses") := ⟨rfl, wc_X4_hand, wi_SealedProcesses_Ends, ⟨by decide, by decide⟩, fun sig h => by cases h; rfl, by decide, wt0 1292 (by decide +kernel) rfl, Or.inr ⟨_, rfl⟩⟩
set_option maxRecDepth 100000 in
theorem wc_X8_room : tbw (cwd 136) := wt0 1169 (by decide +kernel) rfl
set_option maxRecDepth 100000 in
theorem mw_X5_371 : clw RX5 136 371 0 (.methodLinkNest RX5 371 (yy 136) "SealedProcesses") := ⟨rfl, wc_X8_room, wi_SealedProcesses_Task, ⟨by decide, by decide⟩, fun sig h => by cases h; rfl, by decide, wt0 1166 (by decide +kernel) rfl, Or.inr ⟨_, rfl⟩⟩
set_option maxRecDepth 100000 in
theorem wm_X8_room : tbw (.instanceMethod (yy 136)) := wt0 1168 (by decide +kernel) rfl
set_option maxRecDepth 100000 in
theorem wse_X8_room : tbw (.selects RX8 (yy 136) (yy 136)) := wp0 124 (by decide +kernel) rfl
set_option maxRecDepth 100000 in
theorem wc_X8_make : tbw (cwd 137) := wt0 1195 (by decide +kernel) rfl
set_option maxRecDepth 100000 in
theorem mw_X5_374 : clw RX5 137 374 1 (.methodLinkNest RX5 374 (yy 137) "SealedProcesses") := ⟨rfl, wc_X8_make, wi_SealedProcesses_Task, ⟨by decide, by decide⟩, fun sig h => by cases h; rfl, by decide, wt0 1192 (by decide +kernel) rfl, Or.inr ⟨_, rfl⟩⟩
set_option maxRecDepth 100000 in
theorem wm_X8_make : tbw (.instanceMethod (yy 137)) := wt0 1194 (by decide +kernel) rfl
set_option maxRecDepth 100000 in
theorem wse_X8_make : tbw (.selects RX8 (yy 137) (yy 137)) := wp0 129 (by decide +kernel) rfl
set_option maxRecDepth 100000 in
theorem wc_X8_setCell : tbw (cwd 135) := wt0 1200 (by decide +kernel) rfl
set_option maxRecDepth 100000 in
theorem mw_X5_376 : clw RX5 135 376 2 (.methodLinkNest RX5 376 (yy 135) "SealedProcesses") := ⟨rfl, wc_X8_setCell, wi_SealedProcesses_Task, ⟨by decide, by decide⟩, fun sig h => by cases h; rfl, by decide, wt0 1207 (by decide +kernel) rfl, Or.inr ⟨_, rfl⟩⟩
set_option maxRecDepth 100000 in
theorem wm_X8_setCell : tbw (.instanceMethod (yy 135)) := wt0 1199 (by decide +kernel) rfl
set_option maxRecDepth 100000 in
theorem wse_X8_setCell : tbw (.selects RX8 (yy 135) (yy 135)) := wp0 130 (by decide +kernel) rfl
set_option maxRecDepth 100000 in
theorem wc_X8_kindOfField : tbw (cwd 140) := wt0 1211 (by decide +kernel) rfl
set_option maxRecDepth 100000 in
theorem mw_X5_379 : clw RX5 140 379 2 (.methodLinkNest RX5 379 (yy 140) "SealedProcesses") := ⟨rfl, wc_X8_kindOfField, wi_SealedProcesses_Task, ⟨by decide, by decide⟩, fun sig h => by cases h; rfl, by decide, wt0 1208 (by decide +kernel) rfl, Or.inr ⟨_, rfl⟩⟩
set_option maxRecDepth 100000 in
theorem wm_X8_kindOfField : tbw (.instanceMethod (yy 140)) := wt0 1210 (by decide +kernel) rfl
set_option maxRecDepth 100000 in
theorem wse_X8_kindOfField : tbw (.selects RX8 (yy 140) (yy 140)) := wp0 132 (by decide +kernel) rfl
set_option maxRecDepth 100000 in
theorem wc_X8_cellAt : tbw (cwd 134) := wt0 1215 (by decide +kernel) rfl
set_option maxRecDepth 100000 in
theorem mw_X5_382 : clw RX5 134 382 1 (.methodLinkNest RX5 382 (yy 134) "SealedProcesses") := ⟨rfl, wc_X8_cellAt, wi_SealedProcesses_Task, ⟨by decide, by decide⟩, fun sig h => by cases h; rfl, by decide, wt0 1216 (by decide +kernel) rfl, Or.inr ⟨_, rfl⟩⟩
set_option maxRecDepth 100000 in
theorem wm_X8_cellAt : tbw (.instanceMethod (yy 134)) := wt0 1214 (by decide +kernel) rfl
set_option maxRecDepth 100000 in
theorem wse_X8_cellAt : tbw (.selects RX8 (yy 134) (yy 134)) := wp0 133 (by decide +kernel) rfl
set_option maxRecDepth 100000 in
theorem wc_X8_lengthOf : tbw (cwd 138) := wt0 1224 (by decide +kernel) rfl
set_option maxRecDepth 100000 in
theorem mw_X5_385 : clw RX5 138 385 1 (.methodLinkNest RX5 385 (yy 138) "SealedProcesses") := ⟨rfl, wc_X8_lengthOf, wi_SealedProcesses_Task, ⟨by decide, by decide⟩, fun sig h => by cases h; rfl, by decide, wt0 1221 (by decide +kernel) rfl, Or.inr ⟨_, rfl⟩⟩
set_option maxRecDepth 100000 in
theorem wm_X8_lengthOf : tbw (.instanceMethod (yy 138)) := wt0 1223 (by decide +kernel) rfl
set_option maxRecDepth 100000 in
theorem wse_X8_lengthOf : tbw (.selects RX8 (yy 138) (yy 138)) := wp0 135 (by decide +kernel) rfl
set_option maxRecDepth 100000 in
theorem wc_X8_kindOfItem : tbw (cwd 139) := wt0 1228 (by decide +kernel) rfl
set_option maxRecDepth 100000 in
theorem mw_X5_388 : clw RX5 139 388 1 (.methodLinkNest RX5 388 (yy 139) "SealedProcesses") := ⟨rfl, wc_X8_kindOfItem, wi_SealedProcesses_Task, ⟨by decide, by decide⟩, fun sig h => by cases h; rfl, by decide, wt0 1225 (by decide +kernel) rfl, Or.inr ⟨_, rfl⟩⟩
set_option maxRecDepth 100000 in
theorem wm_X8_kindOfItem : tbw (.instanceMethod (yy 139)) := wt0 1227 (by decide +kernel) rfl
set_option maxRecDepth 100000 in
theorem wse_X8_kindOfItem : tbw (.selects RX8 (yy 139) (yy 139)) := wp0 136 (by decide +kernel) rfl
set_option maxRecDepth 100000 in
theorem wc_X0_make : tbw (cwd 2) := wt0 1145 (by decide +kernel) rfl
set_option maxRecDepth 100000 in
theorem mw_X5_391 : clw RX5 2 391 2 (.methodLinkNest RX5 391 (yy 2) "SealedProcesses") := ⟨rfl, wc_X0_make, wi_SealedProcesses_Blocks, ⟨by decide, by decide⟩, fun sig h => by cases h; rfl, by decide, wt0 1142 (by decide +kernel) rfl, Or.inr ⟨_, rfl⟩⟩
set_option maxRecDepth 100000 in
theorem wm_X0_make : tbw (.instanceMethod (yy 2)) := wt0 1144 (by decide +kernel) rfl
set_option maxRecDepth 100000 in
theorem wse_X0_make : tbw (.selects RX0 (yy 2) (yy 2)) := wp0 118 (by decide +kernel) rfl
set_option maxRecDepth 100000 in
theorem wc_X0_see : tbw (cwd 6) := wt0 1149 (by decide +kernel) rfl
set_option maxRecDepth 100000 in
theorem mw_X5_393 : clw RX5 6 393 2 (.methodLinkNest RX5 393 (yy 6) "SealedProcesses") := ⟨rfl, wc_X0_see, wi_SealedProcesses_Blocks, ⟨by decide, by decide⟩, fun sig h => by cases h; rfl, by decide, wt0 1146 (by decide +kernel) rfl, Or.inr ⟨_, rfl⟩⟩
set_option maxRecDepth 100000 in
theorem wm_X0_see : tbw (.instanceMethod (yy 6)) := wt0 1148 (by decide +kernel) rfl
set_option maxRecDepth 100000 in
theorem wse_X0_see : tbw (.selects RX0 (yy 6) (yy 6)) := wp0 119 (by decide +kernel) rfl
set_option maxRecDepth 100000 in
theorem wc_X0_set : tbw (cwd 7) := wt0 1157 (by decide +kernel) rfl
set_option maxRecDepth 100000 in
theorem mw_X5_396 : clw RX5 7 396 3 (.methodLinkNest RX5 396 (yy 7) "SealedProcesses") := ⟨rfl, wc_X0_set, wi_SealedProcesses_Blocks, ⟨by decide, by decide⟩, fun sig h => by cases h; rfl, by decide, wt0 1154 (by decide +kernel) rfl, Or.inr ⟨_, rfl⟩⟩
set_option maxRecDepth 100000 in
theorem wm_X0_set : tbw (.instanceMethod (yy 7)) := wt0 1156 (by decide +kernel) rfl
set_option maxRecDepth 100000 in
theorem wse_X0_set : tbw (.selects RX0 (yy 7) (yy 7)) := wp0 121 (by decide +kernel) rfl
set_option maxRecDepth 100000 in
theorem mw_X5_399 : clw RX5 8 399 1 (.methodLinkNest RX5 399 (yy 8) "SealedProcesses") := ⟨rfl, wc_X0_free, wi_SealedProcesses_Blocks, ⟨by decide, by decide⟩, fun sig h => by cases h; rfl, by decide, wt0 1158 (by decide +kernel) rfl, Or.inr ⟨_, rfl⟩⟩
set_option maxRecDepth 100000 in
theorem wc_X4_moveOn : tbw (cwd 51) := wt0 1253 (by decide +kernel) rfl
set_option maxRecDepth 100000 in
theorem mw_X5_401 : clw RX5 51 401 2 (.methodLinkNest RX5 401 (yy 51) "SealedProcesses") := ⟨rfl, wc_X4_moveOn, wi_SealedProcesses_Ends, ⟨by decide, by decide⟩, fun sig h => by cases h; rfl, by decide, wt0 1250 (by decide +kernel) rfl, Or.inr ⟨_, rfl⟩⟩
set_option maxRecDepth 100000 in
theorem wm_X4_moveOn : tbw (.instanceMethod (yy 51)) := wt0 1252 (by decide +kernel) rfl
set_option maxRecDepth 100000 in
theorem wse_X4_moveOn : tbw (.selects RX4 (yy 51) (yy 51)) := wp0 141 (by decide +kernel) rfl
set_option maxRecDepth 100000 in
theorem wc_X4_send : tbw (cwd 52) := wt0 1258 (by decide +kernel) rfl
set_option maxRecDepth 100000 in
theorem mw_X5_404 : clw RX5 52 404 4 (.methodLinkNest RX5 404 (yy 52) "SealedProcesses") := ⟨rfl, wc_X4_send, wi_SealedProcesses_Ends, ⟨by decide, by decide⟩, fun sig h => by cases h; rfl, by decide, wt0 1255 (by decide +kernel) rfl, Or.inr ⟨_, rfl⟩⟩
set_option maxRecDepth 100000 in
theorem wm_X4_send : tbw (.instanceMethod (yy 52)) := wt0 1257 (by decide +kernel) rfl
set_option maxRecDepth 100000 in
theorem wse_X4_send : tbw (.selects RX4 (yy 52) (yy 52)) := wp0 142 (by decide +kernel) rfl
set_option maxRecDepth 100000 in
theorem wc_X4_nextMessage : tbw (cwd 53) := wt0 1279 (by decide +kernel) rfl
set_option maxRecDepth 100000 in
theorem mw_X5_407 : clw RX5 53 407 1 (.methodLinkNest RX5 407 (yy 53) "SealedProcesses") := ⟨rfl, wc_X4_nextMessage, wi_SealedProcesses_Ends, ⟨by decide, by decide⟩, fun sig h => by cases h; rfl, by decide, wt0 1276 (by decide +kernel) rfl, Or.inr ⟨_, rfl⟩⟩
set_option maxRecDepth 100000 in
theorem wm_X4_nextMessage : tbw (.instanceMethod (yy 53)) := wt0 1278 (by decide +kernel) rfl
set_option maxRecDepth 100000 in
theorem wse_X4_nextMessage : tbw (.selects RX4 (yy 53) (yy 53)) := wp0 147 (by decide +kernel) rfl
set_option maxRecDepth 100000 in
theorem wc_X4_nextLoadKind : tbw (cwd 54) := wt0 1283 (by decide +kernel) rfl
set_option maxRecDepth 100000 in
theorem mw_X5_410 : clw RX5 54 410 1 (.methodLinkNest RX5 410 (yy 54) "SealedProcesses") := ⟨rfl, wc_X4_nextLoadKind, wi_SealedProcesses_Ends, ⟨by decide, by decide⟩, fun sig h => by cases h; rfl, by decide, wt0 1280 (by decide +kernel) rfl, Or.inr ⟨_, rfl⟩⟩
set_option maxRecDepth 100000 in
theorem wm_X4_nextLoadKind : tbw (.instanceMethod (yy 54)) := wt0 1282 (by decide +kernel) rfl
set_option maxRecDepth 100000 in
theorem wse_X4_nextLoadKind : tbw (.selects RX4 (yy 54) (yy 54)) := wp0 148 (by decide +kernel) rfl
set_option maxRecDepth 100000 in
theorem wc_X4_nextLoad : tbw (cwd 55) := wt0 1287 (by decide +kernel) rfl
set_option maxRecDepth 100000 in
theorem mw_X5_413 : clw RX5 55 413 1 (.methodLinkNest RX5 413 (yy 55) "SealedProcesses") := ⟨rfl, wc_X4_nextLoad, wi_SealedProcesses_Ends, ⟨by decide, by decide⟩, fun sig h => by cases h; rfl, by decide, wt0 1284 (by decide +kernel) rfl, Or.inr ⟨_, rfl⟩⟩
set_option maxRecDepth 100000 in
theorem wm_X4_nextLoad : tbw (.instanceMethod (yy 55)) := wt0 1286 (by decide +kernel) rfl
set_option maxRecDepth 100000 in
theorem wse_X4_nextLoad : tbw (.selects RX4 (yy 55) (yy 55)) := wp0 149 (by decide +kernel) rfl
set_option maxRecDepth 100000 in
theorem wc_X4_removeNext : tbw (cwd 56) := wt0 1291 (by decide +kernel) rfl
set_option maxRecDepth 100000 in
theorem mw_X5_416 : clw RX5 56 416 1 (.methodLinkNest RX5 416 (yy 56) "SealedProcesses") := ⟨rfl, wc_X4_removeNext, wi_SealedProcesses_Ends, ⟨by decide, by decide⟩, fun sig h => by cases h; rfl, by decide, wt0 1288 (by decide +kernel) rfl, Or.inr ⟨_, rfl⟩⟩
set_option maxRecDepth 100000 in
theorem wm_X4_removeNext : tbw (.instanceMethod (yy 56)) := wt0 1290 (by decide +kernel) rfl
set_option maxRecDepth 100000 in
theorem wse_X4_removeNext : tbw (.selects RX4 (yy 56) (yy 56)) := wp0 150 (by decide +kernel) rfl
set_option maxRecDepth 100000 in
theorem wq_X6_3 : tbw (.methodLink RX6 3 Lib.objectInit) := wt0 117 (by decide +kernel) rfl
set_option maxRecDepth 100000 in
theorem wl_X6_9 : tbw (.classLink RX6 9 RX1) := wt0 118 (by decide +kernel) rfl
set_option maxRecDepth 100000 in
theorem mw_X6_11 : clw RX6 10 11 0 (.methodLinkNest RX6 11 (yy 10) "SealedProcesses") := ⟨rfl, wc_X1_init, wi_SealedProcesses_Bytes, ⟨by decide, by decide⟩, fun sig h => by cases h; rfl, by decide, wt0 119 (by decide +kernel) rfl, Or.inr ⟨_, rfl⟩⟩
set_option maxRecDepth 100000 in
theorem fw_X6_12 : fdw RX6 7 0 12 12 RX6 TX6 (.fieldLink RX6 12 RX6 (TX6 0).2.1 (TX6 0).2.2.1) := ⟨rfl, by decide, rfl, by decide, rfl, cw_X6, wt0 121 (by decide +kernel) rfl, Or.inl rfl⟩
set_option maxRecDepth 100000 in
theorem fw_X6_18 : fdw RX6 7 1 18 12 RX6 TX6 (.fieldLink RX6 18 RX6 (TX6 1).2.1 (TX6 1).2.2.1) := ⟨rfl, by decide, rfl, by decide, rfl, cw_X6, wt0 122 (by decide +kernel) rfl, Or.inl rfl⟩
set_option maxRecDepth 100000 in
theorem wl_X6_22 : tbw (.classLink RX6 22 "SealedProcesses$TypedModule") := wt0 120 (by decide +kernel) rfl
set_option maxRecDepth 100000 in
theorem wo_X9 : tbw (.arrayOver (.object "SealedProcesses$TypedModule")) := wt0 29 (by decide +kernel) rfl
set_option maxRecDepth 100000 in
theorem fw_X6_24 : fdw RX6 7 2 24 12 RX6 TX6 (.fieldLink RX6 24 RX6 (TX6 2).2.1 (TX6 2).2.2.1) := ⟨rfl, by decide, rfl, by decide, rfl, cw_X6, wt0 125 (by decide +kernel) rfl, Or.inl rfl⟩
set_option maxRecDepth 100000 in
theorem fw_X6_28 : fdw RX6 7 3 28 12 RX6 TX6 (.fieldLink RX6 28 RX6 (TX6 3).2.1 (TX6 3).2.2.1) := ⟨rfl, by decide, rfl, by decide, rfl, cw_X6, wt0 127 (by decide +kernel) rfl, Or.inl rfl⟩
set_option maxRecDepth 100000 in
theorem fw_X6_32 : fdw RX6 7 4 32 12 RX6 TX6 (.fieldLink RX6 32 RX6 (TX6 4).2.1 (TX6 4).2.2.1) := ⟨rfl, by decide, rfl, by decide, rfl, cw_X6, wt0 129 (by decide +kernel) rfl, Or.inl rfl⟩
set_option maxRecDepth 100000 in
theorem fw_X6_35 : fdw RX6 7 5 35 12 RX6 TX6 (.fieldLink RX6 35 RX6 (TX6 5).2.1 (TX6 5).2.2.1) := ⟨rfl, by decide, rfl, by decide, rfl, cw_X6, wt0 131 (by decide +kernel) rfl, Or.inl rfl⟩
set_option maxRecDepth 100000 in
theorem fw_X6_38 : fdw RX6 7 6 38 12 RX6 TX6 (.fieldLink RX6 38 RX6 (TX6 6).2.1 (TX6 6).2.2.1) := ⟨rfl, by decide, rfl, by decide, rfl, cw_X6, wt0 133 (by decide +kernel) rfl, Or.inl rfl⟩
set_option maxRecDepth 100000 in
theorem fw_X6_41 : fdw RX6 7 7 41 12 RX6 TX6 (.fieldLink RX6 41 RX6 (TX6 7).2.1 (TX6 7).2.2.1) := ⟨rfl, by decide, rfl, by decide, rfl, cw_X6, wt0 135 (by decide +kernel) rfl, Or.inl rfl⟩
set_option maxRecDepth 100000 in
theorem fw_X6_44 : fdw RX6 7 8 44 12 RX6 TX6 (.fieldLink RX6 44 RX6 (TX6 8).2.1 (TX6 8).2.2.1) := ⟨rfl, by decide, rfl, by decide, rfl, cw_X6, wt0 136 (by decide +kernel) rfl, Or.inl rfl⟩
set_option maxRecDepth 100000 in
theorem fw_X6_47 : fdw RX6 7 9 47 12 RX6 TX6 (.fieldLink RX6 47 RX6 (TX6 9).2.1 (TX6 9).2.2.1) := ⟨rfl, by decide, rfl, by decide, rfl, cw_X6, wt0 137 (by decide +kernel) rfl, Or.inl rfl⟩
set_option maxRecDepth 100000 in
theorem fw_X6_50 : fdw RX6 7 10 50 12 RX6 TX6 (.fieldLink RX6 50 RX6 (TX6 10).2.1 (TX6 10).2.2.1) := ⟨rfl, by decide, rfl, by decide, rfl, cw_X6, wt0 138 (by decide +kernel) rfl, Or.inl rfl⟩
set_option maxRecDepth 100000 in
theorem fw_X6_53 : fdw RX6 7 11 53 12 RX6 TX6 (.fieldLink RX6 53 RX6 (TX6 11).2.1 (TX6 11).2.2.1) := ⟨rfl, by decide, rfl, by decide, rfl, cw_X6, wt0 139 (by decide +kernel) rfl, Or.inl rfl⟩
set_option maxRecDepth 100000 in
theorem mw_X6_56 : clw RX6 11 56 2 (.methodLinkNest RX6 56 (yy 11) "SealedProcesses") := ⟨rfl, wc_X1_startOver, wi_SealedProcesses_Bytes, ⟨by decide, by decide⟩, fun sig h => by cases h; rfl, by decide, wt0 844 (by decide +kernel) rfl, Or.inr ⟨_, rfl⟩⟩
set_option maxRecDepth 100000 in
theorem mw_X6_60 : clw RX6 16 60 2 (.methodLinkNest RX6 60 (yy 16) "SealedProcesses") := ⟨rfl, wc_X1_takeWithin, wi_SealedProcesses_Bytes, ⟨by decide, by decide⟩, fun sig h => by cases h; rfl, by decide, wt0 845 (by decide +kernel) rfl, Or.inr ⟨_, rfl⟩⟩
set_option maxRecDepth 100000 in
theorem mw_X6_64 : clw RX6 12 64 0 (.methodLinkNest RX6 64 (yy 12) "SealedProcesses") := ⟨rfl, wc_X1_isRight, wi_SealedProcesses_Bytes, ⟨by decide, by decide⟩, fun sig h => by cases h; rfl, by decide, wt0 846 (by decide +kernel) rfl, Or.inr ⟨_, rfl⟩⟩
set_option maxRecDepth 100000 in
theorem wc_X6_readProcess : tbw (cwd 99) := wt0 850 (by decide +kernel) rfl
set_option maxRecDepth 100000 in
theorem wi_SealedProcesses_Manifest : tbw (.initialized RX6) := wt0 5 (by decide +kernel) rfl
set_option maxRecDepth 100000 in
theorem mw_X6_68 : clw RX6 99 68 2 (.methodLink RX6 68 (yy 99)) := ⟨rfl, wc_X6_readProcess, wi_SealedProcesses_Manifest, ⟨by decide, by decide⟩, fun sig h => by cases h; rfl, by decide, wt0 847 (by decide +kernel) rfl, Or.inl rfl⟩
set_option maxRecDepth 100000 in
theorem wm_X6_readProcess : tbw (.instanceMethod (yy 99)) := wt0 849 (by decide +kernel) rfl
set_option maxRecDepth 100000 in
theorem wse_X6_readProcess : tbw (.selects RX6 (yy 99) (yy 99)) := wp0 73 (by decide +kernel) rfl
set_option maxRecDepth 100000 in
theorem mw_X6_72 : clw RX6 18 72 0 (.methodLinkNest RX6 72 (yy 18) "SealedProcesses") := ⟨rfl, wc_X1_expectEnd, wi_SealedProcesses_Bytes, ⟨by decide, by decide⟩, fun sig h => by cases h; rfl, by decide, wt0 889 (by decide +kernel) rfl, Or.inr ⟨_, rfl⟩⟩
set_option maxRecDepth 100000 in
theorem fw_X6_75 : fdw RX6 2 3 75 6 RX1 TX1 (.fieldLinkNest RX6 75 RX1 (TX1 3).2.1 (TX1 3).2.2.1 "SealedProcesses") := ⟨rfl, by decide, rfl, by decide, rfl, cw_X1, wt0 48 (by decide +kernel) rfl, Or.inr ⟨_, rfl⟩⟩
set_option maxRecDepth 100000 in
theorem mw_X6_78 : clw RX6 13 78 2 (.methodLinkNest RX6 78 (yy 13) "SealedProcesses") := ⟨rfl, wc_X1_fail, wi_SealedProcesses_Bytes, ⟨by decide, by decide⟩, fun sig h => by cases h; rfl, by decide, wt0 852 (by decide +kernel) rfl, Or.inr ⟨_, rfl⟩⟩
set_option maxRecDepth 100000 in
theorem mw_X6_82 : clw RX6 15 82 0 (.methodLinkNest RX6 82 (yy 15) "SealedProcesses") := ⟨rfl, wc_X1_take, wi_SealedProcesses_Bytes, ⟨by decide, by decide⟩, fun sig h => by cases h; rfl, by decide, wt0 851 (by decide +kernel) rfl, Or.inr ⟨_, rfl⟩⟩
set_option maxRecDepth 100000 in
theorem mw_X6_86 : clw RX6 149 86 1 (.methodLinkNest RX6 86 (yy 149) "SealedProcesses") := ⟨rfl, wc_X9_routineAt, wi_SealedProcesses_TypedModule, ⟨by decide, by decide⟩, fun sig h => by cases h; rfl, by decide, wt0 853 (by decide +kernel) rfl, Or.inr ⟨_, rfl⟩⟩
set_option maxRecDepth 100000 in
theorem wc_X6_isBootable : tbw (cwd 100) := wt0 856 (by decide +kernel) rfl
set_option maxRecDepth 100000 in
theorem mw_X6_90 : clw RX6 100 90 1 (.methodLink RX6 90 (yy 100)) := ⟨rfl, wc_X6_isBootable, wi_SealedProcesses_Manifest, ⟨by decide, by decide⟩, fun sig h => by cases h; rfl, by decide, wt0 854 (by decide +kernel) rfl, Or.inl rfl⟩
set_option maxRecDepth 100000 in
theorem wt_X6_isBootable : tbw (.static (yy 100)) := wt0 855 (by decide +kernel) rfl
set_option maxRecDepth 100000 in
theorem fw_X6_94 : fdw RX6 8 0 94 10 RX7 TX7 (.fieldLinkNest RX6 94 RX7 (TX7 0).2.1 (TX7 0).2.2.1 "SealedProcesses") := ⟨rfl, by decide, rfl, by decide, rfl, cw_X7, wt0 528 (by decide +kernel) rfl, Or.inr ⟨_, rfl⟩⟩
set_option maxRecDepth 100000 in
theorem mw_X6_99 : clw RX6 107 99 1 (.methodLinkNest RX6 99 (yy 107) "SealedProcesses") := ⟨rfl, wc_X7_typeOfParameter, wi_SealedProcesses_Routine, ⟨by decide, by decide⟩, fun sig h => by cases h; rfl, by decide, wt0 857 (by decide +kernel) rfl, Or.inr ⟨_, rfl⟩⟩
set_option maxRecDepth 100000 in
theorem mw_X6_103 : clw RX6 17 103 0 (.methodLinkNest RX6 103 (yy 17) "SealedProcesses") := ⟨rfl, wc_X1_takeWord, wi_SealedProcesses_Bytes, ⟨by decide, by decide⟩, fun sig h => by cases h; rfl, by decide, wt0 860 (by decide +kernel) rfl, Or.inr ⟨_, rfl⟩⟩
set_option maxRecDepth 100000 in
theorem wc_X6_readEnd : tbw (cwd 101) := wt0 864 (by decide +kernel) rfl
set_option maxRecDepth 100000 in
theorem mw_X6_106 : clw RX6 101 106 2 (.methodLink RX6 106 (yy 101)) := ⟨rfl, wc_X6_readEnd, wi_SealedProcesses_Manifest, ⟨by decide, by decide⟩, fun sig h => by cases h; rfl, by decide, wt0 861 (by decide +kernel) rfl, Or.inl rfl⟩
set_option maxRecDepth 100000 in
theorem wm_X6_readEnd : tbw (.instanceMethod (yy 101)) := wt0 863 (by decide +kernel) rfl
set_option maxRecDepth 100000 in
theorem wse_X6_readEnd : tbw (.selects RX6 (yy 101) (yy 101)) := wp0 74 (by decide +kernel) rfl
set_option maxRecDepth 100000 in
theorem mw_X6_110 : clw RX6 207 110 1 (.methodLinkNest RX6 110 (yy 207) "SealedProcesses") := ⟨rfl, wc_X11_kindOf, wi_SealedProcesses, ⟨by decide, by decide⟩, fun sig h => by cases h; rfl, by decide, wt0 858 (by decide +kernel) rfl, Or.inr ⟨_, rfl⟩⟩
set_option maxRecDepth 100000 in
theorem wc_X11_stateOfEnd : tbw (cwd 209) := wt0 768 (by decide +kernel) rfl
set_option maxRecDepth 100000 in
theorem mw_X6_113 : clw RX6 209 113 1 (.methodLinkNest RX6 113 (yy 209) "SealedProcesses") := ⟨rfl, wc_X11_stateOfEnd, wi_SealedProcesses, ⟨by decide, by decide⟩, fun sig h => by cases h; rfl, by decide, wt0 859 (by decide +kernel) rfl, Or.inr ⟨_, rfl⟩⟩
set_option maxRecDepth 100000 in
theorem wt_X11_stateOfEnd : tbw (.static (yy 209)) := wt0 767 (by decide +kernel) rfl
set_option maxRecDepth 100000 in
theorem fw_X6_116 : fdw RX6 8 2 116 10 RX7 TX7 (.fieldLinkNest RX6 116 RX7 (TX7 2).2.1 (TX7 2).2.2.1 "SealedProcesses") := ⟨rfl, by decide, rfl, by decide, rfl, cw_X7, wt0 532 (by decide +kernel) rfl, Or.inr ⟨_, rfl⟩⟩
set_option maxRecDepth 100000 in
theorem mw_X6_119 : clw RX6 210 119 1 (.methodLinkNest RX6 119 (yy 210) "SealedProcesses") := ⟨rfl, wc_X11_sideOfEnd, wi_SealedProcesses, ⟨by decide, by decide⟩, fun sig h => by cases h; rfl, by decide, wt0 865 (by decide +kernel) rfl, Or.inr ⟨_, rfl⟩⟩
set_option maxRecDepth 100000 in
theorem mw_X6_122 : clw RX6 208 122 1 (.methodLinkNest RX6 122 (yy 208) "SealedProcesses") := ⟨rfl, wc_X11_namedBy, wi_SealedProcesses, ⟨by decide, by decide⟩, fun sig h => by cases h; rfl, by decide, wt0 866 (by decide +kernel) rfl, Or.inr ⟨_, rfl⟩⟩
set_option maxRecDepth 100000 in
theorem wc_X6_areAlike : tbw (cwd 102) := wt0 870 (by decide +kernel) rfl
set_option maxRecDepth 100000 in
theorem mw_X6_125 : clw RX6 102 125 4 (.methodLink RX6 125 (yy 102)) := ⟨rfl, wc_X6_areAlike, wi_SealedProcesses_Manifest, ⟨by decide, by decide⟩, fun sig h => by cases h; rfl, by decide, wt0 867 (by decide +kernel) rfl, Or.inl rfl⟩
set_option maxRecDepth 100000 in
theorem wm_X6_areAlike : tbw (.instanceMethod (yy 102)) := wt0 869 (by decide +kernel) rfl
set_option maxRecDepth 100000 in
theorem wse_X6_areAlike : tbw (.selects RX6 (yy 102) (yy 102)) := wp0 75 (by decide +kernel) rfl
set_option maxRecDepth 100000 in
theorem wc_X6_addPair : tbw (cwd 103) := wt0 874 (by decide +kernel) rfl
set_option maxRecDepth 100000 in
theorem mw_X6_129 : clw RX6 103 129 2 (.methodLink RX6 129 (yy 103)) := ⟨rfl, wc_X6_addPair, wi_SealedProcesses_Manifest, ⟨by decide, by decide⟩, fun sig h => by cases h; rfl, by decide, wt0 871 (by decide +kernel) rfl, Or.inl rfl⟩
set_option maxRecDepth 100000 in
theorem wm_X6_addPair : tbw (.instanceMethod (yy 103)) := wt0 873 (by decide +kernel) rfl
set_option maxRecDepth 100000 in
theorem wse_X6_addPair : tbw (.selects RX6 (yy 103) (yy 103)) := wp0 76 (by decide +kernel) rfl
set_option maxRecDepth 100000 in
theorem mw_X6_132 : clw RX6 148 132 1 (.methodLinkNest RX6 132 (yy 148) "SealedProcesses") := ⟨rfl, wc_X9_contractAt, wi_SealedProcesses_TypedModule, ⟨by decide, by decide⟩, fun sig h => by cases h; rfl, by decide, wt0 875 (by decide +kernel) rfl, Or.inr ⟨_, rfl⟩⟩
set_option maxRecDepth 100000 in
theorem wc_X6_isPairAlike : tbw (cwd 104) := wt0 879 (by decide +kernel) rfl
set_option maxRecDepth 100000 in
theorem mw_X6_136 : clw RX6 104 136 4 (.methodLink RX6 136 (yy 104)) := ⟨rfl, wc_X6_isPairAlike, wi_SealedProcesses_Manifest, ⟨by decide, by decide⟩, fun sig h => by cases h; rfl, by decide, wt0 876 (by decide +kernel) rfl, Or.inl rfl⟩
set_option maxRecDepth 100000 in
theorem wm_X6_isPairAlike : tbw (.instanceMethod (yy 104)) := wt0 878 (by decide +kernel) rfl
set_option maxRecDepth 100000 in
theorem wse_X6_isPairAlike : tbw (.selects RX6 (yy 104) (yy 104)) := wp0 77 (by decide +kernel) rfl
set_option maxRecDepth 100000 in
theorem fw_X6_140 : fdw RX6 3 0 140 5 RX2 TX2 (.fieldLinkNest RX6 140 RX2 (TX2 0).2.1 (TX2 0).2.2.1 "SealedProcesses") := ⟨rfl, by decide, rfl, by decide, rfl, cw_X2, wt0 482 (by decide +kernel) rfl, Or.inr ⟨_, rfl⟩⟩
set_option maxRecDepth 100000 in
theorem wc_X2_turnAt : tbw (cwd 20) := wt0 779 (by decide +kernel) rfl
set_option maxRecDepth 100000 in
theorem mw_X6_145 : clw RX6 20 145 1 (.methodLinkNest RX6 145 (yy 20) "SealedProcesses") := ⟨rfl, wc_X2_turnAt, wi_SealedProcesses_Contract, ⟨by decide, by decide⟩, fun sig h => by cases h; rfl, by decide, wt0 880 (by decide +kernel) rfl, Or.inr ⟨_, rfl⟩⟩
set_option maxRecDepth 100000 in
theorem wm_X2_turnAt : tbw (.instanceMethod (yy 20)) := wt0 778 (by decide +kernel) rfl
set_option maxRecDepth 100000 in
theorem wse_X2_turnAt : tbw (.selects RX2 (yy 20) (yy 20)) := wp0 64 (by decide +kernel) rfl
set_option maxRecDepth 100000 in
theorem wc_X2_countAt : tbw (cwd 21) := wt0 802 (by decide +kernel) rfl
set_option maxRecDepth 100000 in
theorem mw_X6_148 : clw RX6 21 148 1 (.methodLinkNest RX6 148 (yy 21) "SealedProcesses") := ⟨rfl, wc_X2_countAt, wi_SealedProcesses_Contract, ⟨by decide, by decide⟩, fun sig h => by cases h; rfl, by decide, wt0 881 (by decide +kernel) rfl, Or.inr ⟨_, rfl⟩⟩
set_option maxRecDepth 100000 in
theorem wm_X2_countAt : tbw (.instanceMethod (yy 21)) := wt0 801 (by decide +kernel) rfl
set_option maxRecDepth 100000 in
theorem wse_X2_countAt : tbw (.selects RX2 (yy 21) (yy 21)) := wp0 69 (by decide +kernel) rfl
set_option maxRecDepth 100000 in
theorem mw_X6_151 : clw RX6 25 151 2 (.methodLinkNest RX6 151 (yy 25) "SealedProcesses") := ⟨rfl, wc_X2_nextOf, wi_SealedProcesses_Contract, ⟨by decide, by decide⟩, fun sig h => by cases h; rfl, by decide, wt0 882 (by decide +kernel) rfl, Or.inr ⟨_, rfl⟩⟩
set_option maxRecDepth 100000 in
theorem wc_X2_loadOf : tbw (cwd 24) := wt0 790 (by decide +kernel) rfl
set_option maxRecDepth 100000 in
theorem mw_X6_154 : clw RX6 24 154 2 (.methodLinkNest RX6 154 (yy 24) "SealedProcesses") := ⟨rfl, wc_X2_loadOf, wi_SealedProcesses_Contract, ⟨by decide, by decide⟩, fun sig h => by cases h; rfl, by decide, wt0 883 (by decide +kernel) rfl, Or.inr ⟨_, rfl⟩⟩
set_option maxRecDepth 100000 in
theorem wm_X2_loadOf : tbw (.instanceMethod (yy 24)) := wt0 789 (by decide +kernel) rfl
set_option maxRecDepth 100000 in
theorem wse_X2_loadOf : tbw (.selects RX2 (yy 24) (yy 24)) := wp0 66 (by decide +kernel) rfl
set_option maxRecDepth 100000 in
theorem wc_X6_isLoadAlike : tbw (cwd 105) := wt0 887 (by decide +kernel) rfl
set_option maxRecDepth 100000 in
theorem mw_X6_157 : clw RX6 105 157 4 (.methodLink RX6 157 (yy 105)) := ⟨rfl, wc_X6_isLoadAlike, wi_SealedProcesses_Manifest, ⟨by decide, by decide⟩, fun sig h => by cases h; rfl, by decide, wt0 884 (by decide +kernel) rfl, Or.inl rfl⟩
set_option maxRecDepth 100000 in
theorem wm_X6_isLoadAlike : tbw (.instanceMethod (yy 105)) := wt0 886 (by decide +kernel) rfl
set_option maxRecDepth 100000 in
theorem wse_X6_isLoadAlike : tbw (.selects RX6 (yy 105) (yy 105)) := wp0 78 (by decide +kernel) rfl
set_option maxRecDepth 100000 in
theorem mw_X6_160 : clw RX6 152 160 1 (.methodLinkNest RX6 160 (yy 152) "SealedProcesses") := ⟨rfl, wc_X9_sizeOfRecord, wi_SealedProcesses_TypedModule, ⟨by decide, by decide⟩, fun sig h => by cases h; rfl, by decide, wt0 888 (by decide +kernel) rfl, Or.inr ⟨_, rfl⟩⟩
set_option maxRecDepth 100000 in
theorem wq_X7_3 : tbw (.methodLink RX7 3 Lib.objectInit) := wt0 523 (by decide +kernel) rfl
set_option maxRecDepth 100000 in
theorem fw_X7_9 : fdw RX7 8 6 9 10 RX7 TX7 (.fieldLink RX7 9 RX7 (TX7 6).2.1 (TX7 6).2.2.1) := ⟨rfl, by decide, rfl, by decide, rfl, cw_X7, wt0 548 (by decide +kernel) rfl, Or.inl rfl⟩
set_option maxRecDepth 100000 in
theorem fw_X7_15 : fdw RX7 8 8 15 10 RX7 TX7 (.fieldLink RX7 15 RX7 (TX7 8).2.1 (TX7 8).2.2.1) := ⟨rfl, by decide, rfl, by decide, rfl, cw_X7, wt0 551 (by decide +kernel) rfl, Or.inl rfl⟩
set_option maxRecDepth 100000 in
theorem fw_X7_19 : fdw RX7 8 9 19 10 RX7 TX7 (.fieldLink RX7 19 RX7 (TX7 9).2.1 (TX7 9).2.2.1) := ⟨rfl, by decide, rfl, by decide, rfl, cw_X7, wt0 552 (by decide +kernel) rfl, Or.inl rfl⟩
set_option maxRecDepth 100000 in
theorem fw_X7_22 : fdw RX7 8 1 22 10 RX7 TX7 (.fieldLink RX7 22 RX7 (TX7 1).2.1 (TX7 1).2.2.1) := ⟨rfl, by decide, rfl, by decide, rfl, cw_X7, wt0 530 (by decide +kernel) rfl, Or.inl rfl⟩
set_option maxRecDepth 100000 in
theorem fw_X7_25 : fdw RX7 8 0 25 10 RX7 TX7 (.fieldLink RX7 25 RX7 (TX7 0).2.1 (TX7 0).2.2.1) := ⟨rfl, by decide, rfl, by decide, rfl, cw_X7, wt0 525 (by decide +kernel) rfl, Or.inl rfl⟩
set_option maxRecDepth 100000 in
theorem fw_X7_28 : fdw RX7 8 2 28 10 RX7 TX7 (.fieldLink RX7 28 RX7 (TX7 2).2.1 (TX7 2).2.2.1) := ⟨rfl, by decide, rfl, by decide, rfl, cw_X7, wt0 531 (by decide +kernel) rfl, Or.inl rfl⟩
set_option maxRecDepth 100000 in
theorem fw_X7_31 : fdw RX7 8 3 31 10 RX7 TX7 (.fieldLink RX7 31 RX7 (TX7 3).2.1 (TX7 3).2.2.1) := ⟨rfl, by decide, rfl, by decide, rfl, cw_X7, wt0 535 (by decide +kernel) rfl, Or.inl rfl⟩
set_option maxRecDepth 100000 in
theorem fw_X7_34 : fdw RX7 8 4 34 10 RX7 TX7 (.fieldLink RX7 34 RX7 (TX7 4).2.1 (TX7 4).2.2.1) := ⟨rfl, by decide, rfl, by decide, rfl, cw_X7, wt0 539 (by decide +kernel) rfl, Or.inl rfl⟩
set_option maxRecDepth 100000 in
theorem fw_X7_37 : fdw RX7 8 5 37 10 RX7 TX7 (.fieldLink RX7 37 RX7 (TX7 5).2.1 (TX7 5).2.2.1) := ⟨rfl, by decide, rfl, by decide, rfl, cw_X7, wt0 543 (by decide +kernel) rfl, Or.inl rfl⟩
set_option maxRecDepth 100000 in
theorem wq_X7_40 : tbw (.methodLink RX7 40 Lib.Math.max.name) := wt0 524 (by decide +kernel) rfl
set_option maxRecDepth 100000 in
theorem fw_X7_46 : fdw RX7 8 7 46 10 RX7 TX7 (.fieldLink RX7 46 RX7 (TX7 7).2.1 (TX7 7).2.2.1) := ⟨rfl, by decide, rfl, by decide, rfl, cw_X7, wt0 550 (by decide +kernel) rfl, Or.inl rfl⟩
set_option maxRecDepth 100000 in
theorem wq_X8_5 : tbw (.methodLink RX8 5 Lib.objectInit) := wt0 915 (by decide +kernel) rfl
set_option maxRecDepth 100000 in
theorem fw_X8_11 : fdw RX8 9 2 11 17 RX8 TX8 (.fieldLink RX8 11 RX8 (TX8 2).2.1 (TX8 2).2.2.1) := ⟨rfl, by decide, rfl, by decide, rfl, cw_X8, wt0 920 (by decide +kernel) rfl, Or.inl rfl⟩
set_option maxRecDepth 100000 in
theorem fw_X8_15 : fdw RX8 9 3 15 17 RX8 TX8 (.fieldLink RX8 15 RX8 (TX8 3).2.1 (TX8 3).2.2.1) := ⟨rfl, by decide, rfl, by decide, rfl, cw_X8, wt0 923 (by decide +kernel) rfl, Or.inl rfl⟩
set_option maxRecDepth 100000 in
theorem fw_X8_18 : fdw RX8 9 4 18 17 RX8 TX8 (.fieldLink RX8 18 RX8 (TX8 4).2.1 (TX8 4).2.2.1) := ⟨rfl, by decide, rfl, by decide, rfl, cw_X8, wt0 926 (by decide +kernel) rfl, Or.inl rfl⟩
set_option maxRecDepth 100000 in
theorem fw_X8_21 : fdw RX8 9 5 21 17 RX8 TX8 (.fieldLink RX8 21 RX8 (TX8 5).2.1 (TX8 5).2.2.1) := ⟨rfl, by decide, rfl, by decide, rfl, cw_X8, wt0 929 (by decide +kernel) rfl, Or.inl rfl⟩
set_option maxRecDepth 100000 in
theorem fw_X8_24 : fdw RX8 9 6 24 17 RX8 TX8 (.fieldLink RX8 24 RX8 (TX8 6).2.1 (TX8 6).2.2.1) := ⟨rfl, by decide, rfl, by decide, rfl, cw_X8, wt0 932 (by decide +kernel) rfl, Or.inl rfl⟩
set_option maxRecDepth 100000 in
theorem fw_X8_27 : fdw RX8 9 7 27 17 RX8 TX8 (.fieldLink RX8 27 RX8 (TX8 7).2.1 (TX8 7).2.2.1) := ⟨rfl, by decide, rfl, by decide, rfl, cw_X8, wt0 935 (by decide +kernel) rfl, Or.inl rfl⟩
set_option maxRecDepth 100000 in
theorem fw_X8_30 : fdw RX8 9 8 30 17 RX8 TX8 (.fieldLink RX8 30 RX8 (TX8 8).2.1 (TX8 8).2.2.1) := ⟨rfl, by decide, rfl, by decide, rfl, cw_X8, wt0 938 (by decide +kernel) rfl, Or.inl rfl⟩
set_option maxRecDepth 100000 in
theorem fw_X8_33 : fdw RX8 9 9 33 17 RX8 TX8 (.fieldLink RX8 33 RX8 (TX8 9).2.1 (TX8 9).2.2.1) := ⟨rfl, by decide, rfl, by decide, rfl, cw_X8, wt0 939 (by decide +kernel) rfl, Or.inl rfl⟩
set_option maxRecDepth 100000 in
theorem fw_X8_37 : fdw RX8 9 10 37 17 RX8 TX8 (.fieldLink RX8 37 RX8 (TX8 10).2.1 (TX8 10).2.2.1) := ⟨rfl, by decide, rfl, by decide, rfl, cw_X8, wt0 940 (by decide +kernel) rfl, Or.inl rfl⟩
set_option maxRecDepth 100000 in
theorem fw_X8_40 : fdw RX8 9 11 40 17 RX8 TX8 (.fieldLink RX8 40 RX8 (TX8 11).2.1 (TX8 11).2.2.1) := ⟨rfl, by decide, rfl, by decide, rfl, cw_X8, wt0 941 (by decide +kernel) rfl, Or.inl rfl⟩
set_option maxRecDepth 100000 in
theorem fw_X8_43 : fdw RX8 9 12 43 17 RX8 TX8 (.fieldLink RX8 43 RX8 (TX8 12).2.1 (TX8 12).2.2.1) := ⟨rfl, by decide, rfl, by decide, rfl, cw_X8, wt0 942 (by decide +kernel) rfl, Or.inl rfl⟩
set_option maxRecDepth 100000 in
theorem fw_X8_46 : fdw RX8 9 13 46 17 RX8 TX8 (.fieldLink RX8 46 RX8 (TX8 13).2.1 (TX8 13).2.2.1) := ⟨rfl, by decide, rfl, by decide, rfl, cw_X8, wt0 943 (by decide +kernel) rfl, Or.inl rfl⟩
set_option maxRecDepth 100000 in
theorem fw_X8_49 : fdw RX8 9 14 49 17 RX8 TX8 (.fieldLink RX8 49 RX8 (TX8 14).2.1 (TX8 14).2.2.1) := ⟨rfl, by decide, rfl, by decide, rfl, cw_X8, wt0 944 (by decide +kernel) rfl, Or.inl rfl⟩
set_option maxRecDepth 100000 in
theorem fw_X8_52 : fdw RX8 9 15 52 17 RX8 TX8 (.fieldLink RX8 52 RX8 (TX8 15).2.1 (TX8 15).2.2.1) := ⟨rfl, by decide, rfl, by decide, rfl, cw_X8, wt0 946 (by decide +kernel) rfl, Or.inl rfl⟩
set_option maxRecDepth 100000 in
theorem fw_X8_55 : fdw RX8 9 16 55 17 RX8 TX8 (.fieldLink RX8 55 RX8 (TX8 16).2.1 (TX8 16).2.2.1) := ⟨rfl, by decide, rfl, by decide, rfl, cw_X8, wt0 947 (by decide +kernel) rfl, Or.inl rfl⟩
set_option maxRecDepth 100000 in
theorem fw_X8_58 : fdw RX8 9 0 58 17 RX8 TX8 (.fieldLink RX8 58 RX8 (TX8 0).2.1 (TX8 0).2.2.1) := ⟨rfl, by decide, rfl, by decide, rfl, cw_X8, wt0 916 (by decide +kernel) rfl, Or.inl rfl⟩
set_option maxRecDepth 100000 in
theorem fw_X8_61 : fdw RX8 9 1 61 17 RX8 TX8 (.fieldLink RX8 61 RX8 (TX8 1).2.1 (TX8 1).2.2.1) := ⟨rfl, by decide, rfl, by decide, rfl, cw_X8, wt0 918 (by decide +kernel) rfl, Or.inl rfl⟩
set_option maxRecDepth 100000 in
theorem wq_X8_65 : tbw (.methodLink RX8 65 Lib.Math.min.name) := wt0 988 (by decide +kernel) rfl
set_option maxRecDepth 100000 in
theorem wq_X8_71 : tbw (.methodLink RX8 71 Lib.Math.max.name) := wt0 989 (by decide +kernel) rfl
set_option maxRecDepth 100000 in
theorem mw_X8_74 : clw RX8 118 74 1 (.methodLink RX8 74 (yy 118)) := ⟨rfl, wc_X8_enter, wi_SealedProcesses_Task, ⟨by decide, by decide⟩, fun sig h => by cases h; rfl, by decide, wt0 990 (by decide +kernel) rfl, Or.inl rfl⟩
set_option maxRecDepth 100000 in
theorem mw_X8_78 : clw RX8 149 78 1 (.methodLinkNest RX8 78 (yy 149) "SealedProcesses") := ⟨rfl, wc_X9_routineAt, wi_SealedProcesses_TypedModule, ⟨by decide, by decide⟩, fun sig h => by cases h; rfl, by decide, wt0 1051 (by decide +kernel) rfl, Or.inr ⟨_, rfl⟩⟩
set_option maxRecDepth 100000 in
theorem mw_X8_84 : clw RX8 121 84 0 (.methodLink RX8 84 (yy 121)) := ⟨rfl, wc_X8_routine, wi_SealedProcesses_Task, ⟨by decide, by decide⟩, fun sig h => by cases h; rfl, by decide, wt0 1047 (by decide +kernel) rfl, Or.inl rfl⟩
set_option maxRecDepth 100000 in
theorem fw_X8_88 : fdw RX8 8 3 88 10 RX7 TX7 (.fieldLinkNest RX8 88 RX7 (TX7 3).2.1 (TX7 3).2.2.1 "SealedProcesses") := ⟨rfl, by decide, rfl, by decide, rfl, cw_X7, wt0 538 (by decide +kernel) rfl, Or.inr ⟨_, rfl⟩⟩
set_option maxRecDepth 100000 in
theorem fw_X8_93 : fdw RX8 8 5 93 10 RX7 TX7 (.fieldLinkNest RX8 93 RX7 (TX7 5).2.1 (TX7 5).2.2.1 "SealedProcesses") := ⟨rfl, by decide, rfl, by decide, rfl, cw_X7, wt0 546 (by decide +kernel) rfl, Or.inr ⟨_, rfl⟩⟩
set_option maxRecDepth 100000 in
theorem mw_X8_96 : clw RX8 131 96 1 (.methodLink RX8 96 (yy 131)) := ⟨rfl, wc_X8_numberIn, wi_SealedProcesses_Task, ⟨by decide, by decide⟩, fun sig h => by cases h; rfl, by decide, wt0 1057 (by decide +kernel) rfl, Or.inl rfl⟩
set_option maxRecDepth 100000 in
theorem mw_X8_100 : clw RX8 130 100 1 (.methodLink RX8 100 (yy 130)) := ⟨rfl, wc_X8_kindIn, wi_SealedProcesses_Task, ⟨by decide, by decide⟩, fun sig h => by cases h; rfl, by decide, wt0 1386 (by decide +kernel) rfl, Or.inl rfl⟩
set_option maxRecDepth 100000 in
theorem wk_X8_103 : tbw (.constant RX8 103 (Int32.ofInt 65535)) := wt0 1178 (by decide +kernel) rfl
set_option maxRecDepth 100000 in
theorem mw_X8_104 : clw RX8 136 104 0 (.methodLink RX8 104 (yy 136)) := ⟨rfl, wc_X8_room, wi_SealedProcesses_Task, ⟨by decide, by decide⟩, fun sig h => by cases h; rfl, by decide, wt0 1196 (by decide +kernel) rfl, Or.inl rfl⟩
set_option maxRecDepth 100000 in
theorem mw_X8_108 : clw RX8 135 108 2 (.methodLink RX8 108 (yy 135)) := ⟨rfl, wc_X8_setCell, wi_SealedProcesses_Task, ⟨by decide, by decide⟩, fun sig h => by cases h; rfl, by decide, wt0 1197 (by decide +kernel) rfl, Or.inl rfl⟩
set_option maxRecDepth 100000 in
theorem mw_X8_112 : clw RX8 134 112 1 (.methodLink RX8 112 (yy 134)) := ⟨rfl, wc_X8_cellAt, wi_SealedProcesses_Task, ⟨by decide, by decide⟩, fun sig h => by cases h; rfl, by decide, wt0 1212 (by decide +kernel) rfl, Or.inl rfl⟩
set_option maxRecDepth 100000 in
theorem wk_X8_115 : tbw (.constant RX8 115 (Int32.ofInt 589824)) := wt0 1191 (by decide +kernel) rfl
set_option maxRecDepth 100000 in
theorem wc_X9_pointersOf : tbw (cwd 154) := wt0 1190 (by decide +kernel) rfl
set_option maxRecDepth 100000 in
theorem mw_X8_116 : clw RX8 154 116 1 (.methodLinkNest RX8 116 (yy 154) "SealedProcesses") := ⟨rfl, wc_X9_pointersOf, wi_SealedProcesses_TypedModule, ⟨by decide, by decide⟩, fun sig h => by cases h; rfl, by decide, wt0 1187 (by decide +kernel) rfl, Or.inr ⟨_, rfl⟩⟩
set_option maxRecDepth 100000 in
theorem wm_X9_pointersOf : tbw (.instanceMethod (yy 154)) := wt0 1189 (by decide +kernel) rfl
set_option maxRecDepth 100000 in
theorem wse_X9_pointersOf : tbw (.selects RX9 (yy 154) (yy 154)) := wp0 128 (by decide +kernel) rfl
set_option maxRecDepth 100000 in
theorem wc_X8_moved : tbw (cwd 142) := wt0 1177 (by decide +kernel) rfl
set_option maxRecDepth 100000 in
theorem mw_X8_119 : clw RX8 142 119 2 (.methodLink RX8 119 (yy 142)) := ⟨rfl, wc_X8_moved, wi_SealedProcesses_Task, ⟨by decide, by decide⟩, fun sig h => by cases h; rfl, by decide, wt0 1174 (by decide +kernel) rfl, Or.inl rfl⟩
set_option maxRecDepth 100000 in
theorem wm_X8_moved : tbw (.instanceMethod (yy 142)) := wt0 1176 (by decide +kernel) rfl
set_option maxRecDepth 100000 in
theorem wse_X8_moved : tbw (.selects RX8 (yy 142) (yy 142)) := wp0 126 (by decide +kernel) rfl
set_option maxRecDepth 100000 in
theorem wc_X8_movePartsOf : tbw (cwd 143) := wt0 1185 (by decide +kernel) rfl
set_option maxRecDepth 100000 in
theorem mw_X8_123 : clw RX8 143 123 2 (.methodLink RX8 123 (yy 143)) := ⟨rfl, wc_X8_movePartsOf, wi_SealedProcesses_Task, ⟨by decide, by decide⟩, fun sig h => by cases h; rfl, by decide, wt0 1182 (by decide +kernel) rfl, Or.inl rfl⟩
set_option maxRecDepth 100000 in
theorem wm_X8_movePartsOf : tbw (.instanceMethod (yy 143)) := wt0 1184 (by decide +kernel) rfl
set_option maxRecDepth 100000 in
theorem wse_X8_movePartsOf : tbw (.selects RX8 (yy 143) (yy 143)) := wp0 127 (by decide +kernel) rfl
set_option maxRecDepth 100000 in
theorem wq_X8_126 : tbw (.methodLink RX8 126 arraycopyName) := wt0 1179 (by decide +kernel) rfl
set_option maxRecDepth 100000 in
theorem wq_na : tbw (.native arraycopyName) := wt0 1181 (by decide +kernel) rfl
set_option maxRecDepth 100000 in
theorem wq_sa : tbw (.static arraycopyName) := wt0 1180 (by decide +kernel) rfl
set_option maxRecDepth 100000 in
theorem wq_is : tbw (.initialized "java/lang/System") := wt0 19 (by decide +kernel) rfl
set_option maxRecDepth 100000 in
theorem wk_X8_132 : tbw (.constant RX8 132 (Int32.ofInt 524288)) := wt0 1186 (by decide +kernel) rfl
set_option maxRecDepth 100000 in
theorem wq_X9_3 : tbw (.methodLink RX9 3 Lib.objectInit) := wt0 336 (by decide +kernel) rfl
set_option maxRecDepth 100000 in
theorem fw_X9_9 : fdw RX9 10 2 9 10 RX9 TX9 (.fieldLink RX9 9 RX9 (TX9 2).2.1 (TX9 2).2.2.1) := ⟨rfl, by decide, rfl, by decide, rfl, cw_X9, wt0 353 (by decide +kernel) rfl, Or.inl rfl⟩
set_option maxRecDepth 100000 in
theorem fw_X9_15 : fdw RX9 10 3 15 10 RX9 TX9 (.fieldLink RX9 15 RX9 (TX9 3).2.1 (TX9 3).2.2.1) := ⟨rfl, by decide, rfl, by decide, rfl, cw_X9, wt0 356 (by decide +kernel) rfl, Or.inl rfl⟩
set_option maxRecDepth 100000 in
theorem fw_X9_19 : fdw RX9 10 4 19 10 RX9 TX9 (.fieldLink RX9 19 RX9 (TX9 4).2.1 (TX9 4).2.2.1) := ⟨rfl, by decide, rfl, by decide, rfl, cw_X9, wt0 357 (by decide +kernel) rfl, Or.inl rfl⟩
set_option maxRecDepth 100000 in
theorem fw_X9_22 : fdw RX9 10 5 22 10 RX9 TX9 (.fieldLink RX9 22 RX9 (TX9 5).2.1 (TX9 5).2.2.1) := ⟨rfl, by decide, rfl, by decide, rfl, cw_X9, wt0 358 (by decide +kernel) rfl, Or.inl rfl⟩
set_option maxRecDepth 100000 in
theorem fw_X9_25 : fdw RX9 10 6 25 10 RX9 TX9 (.fieldLink RX9 25 RX9 (TX9 6).2.1 (TX9 6).2.2.1) := ⟨rfl, by decide, rfl, by decide, rfl, cw_X9, wt0 359 (by decide +kernel) rfl, Or.inl rfl⟩
set_option maxRecDepth 100000 in
theorem wl_X9_28 : tbw (.classLink RX9 28 "SealedProcesses$Contract") := wt0 337 (by decide +kernel) rfl
set_option maxRecDepth 100000 in
theorem fw_X9_30 : fdw RX9 10 7 30 10 RX9 TX9 (.fieldLink RX9 30 RX9 (TX9 7).2.1 (TX9 7).2.2.1) := ⟨rfl, by decide, rfl, by decide, rfl, cw_X9, wt0 362 (by decide +kernel) rfl, Or.inl rfl⟩
set_option maxRecDepth 100000 in
theorem fw_X9_34 : fdw RX9 10 8 34 10 RX9 TX9 (.fieldLink RX9 34 RX9 (TX9 8).2.1 (TX9 8).2.2.1) := ⟨rfl, by decide, rfl, by decide, rfl, cw_X9, wt0 363 (by decide +kernel) rfl, Or.inl rfl⟩
set_option maxRecDepth 100000 in
theorem wl_X9_37 : tbw (.classLink RX9 37 "SealedProcesses$Routine") := wt0 338 (by decide +kernel) rfl
set_option maxRecDepth 100000 in
theorem wo_X7 : tbw (.arrayOver (.object "SealedProcesses$Routine")) := wt0 339 (by decide +kernel) rfl
set_option maxRecDepth 100000 in
theorem fw_X9_39 : fdw RX9 10 9 39 10 RX9 TX9 (.fieldLink RX9 39 RX9 (TX9 9).2.1 (TX9 9).2.2.1) := ⟨rfl, by decide, rfl, by decide, rfl, cw_X9, wt0 367 (by decide +kernel) rfl, Or.inl rfl⟩
set_option maxRecDepth 100000 in
theorem wq_X9_43 : tbw (.methodLink RX9 43 Lib.Math.min.name) := wt0 340 (by decide +kernel) rfl
set_option maxRecDepth 100000 in
theorem wq_X9_49 : tbw (.methodLink RX9 49 Lib.Math.max.name) := wt0 343 (by decide +kernel) rfl
set_option maxRecDepth 100000 in
theorem fw_X9_52 : fdw RX9 10 1 52 10 RX9 TX9 (.fieldLink RX9 52 RX9 (TX9 1).2.1 (TX9 1).2.2.1) := ⟨rfl, by decide, rfl, by decide, rfl, cw_X9, wt0 349 (by decide +kernel) rfl, Or.inl rfl⟩
set_option maxRecDepth 100000 in
theorem fw_X9_55 : fdw RX9 10 0 55 10 RX9 TX9 (.fieldLink RX9 55 RX9 (TX9 0).2.1 (TX9 0).2.2.1) := ⟨rfl, by decide, rfl, by decide, rfl, cw_X9, wt0 346 (by decide +kernel) rfl, Or.inl rfl⟩
set_option maxRecDepth 100000 in
theorem mw_X9_58 : clw RX9 145 58 1 (.methodLink RX9 58 (yy 145)) := ⟨rfl, wc_X9_byteAt, wi_SealedProcesses_TypedModule, ⟨by decide, by decide⟩, fun sig h => by cases h; rfl, by decide, wt0 807 (by decide +kernel) rfl, Or.inl rfl⟩
set_option maxRecDepth 100000 in
theorem ws_X9_62 : tbw (.fieldLinkNest RX9 62 "SealedProcesses" "OPERANDS" "[I" "SealedProcesses") := wt0 808 (by decide +kernel) rfl
set_option maxRecDepth 100000 in
theorem mw_X9_65 : clw RX9 152 65 1 (.methodLink RX9 65 (yy 152)) := ⟨rfl, wc_X9_sizeOfRecord, wi_SealedProcesses_TypedModule, ⟨by decide, by decide⟩, fun sig h => by cases h; rfl, by decide, wt0 448 (by decide +kernel) rfl, Or.inl rfl⟩
set_option maxRecDepth 100000 in
theorem wc_X11_isPointer : tbw (cwd 212) := wt0 469 (by decide +kernel) rfl
set_option maxRecDepth 100000 in
theorem mw_X9_68 : clw RX9 212 68 1 (.methodLinkNest RX9 68 (yy 212) "SealedProcesses") := ⟨rfl, wc_X11_isPointer, wi_SealedProcesses, ⟨by decide, by decide⟩, fun sig h => by cases h; rfl, by decide, wt0 467 (by decide +kernel) rfl, Or.inr ⟨_, rfl⟩⟩
set_option maxRecDepth 100000 in
theorem wt_X11_isPointer : tbw (.static (yy 212)) := wt0 468 (by decide +kernel) rfl
set_option maxRecDepth 100000 in
theorem wc_X9_typeOfField : tbw (cwd 153) := wt0 455 (by decide +kernel) rfl
set_option maxRecDepth 100000 in
theorem mw_X9_72 : clw RX9 153 72 2 (.methodLink RX9 72 (yy 153)) := ⟨rfl, wc_X9_typeOfField, wi_SealedProcesses_TypedModule, ⟨by decide, by decide⟩, fun sig h => by cases h; rfl, by decide, wt0 452 (by decide +kernel) rfl, Or.inl rfl⟩
set_option maxRecDepth 100000 in
theorem wm_X9_typeOfField : tbw (.instanceMethod (yy 153)) := wt0 454 (by decide +kernel) rfl
set_option maxRecDepth 100000 in
theorem wse_X9_typeOfField : tbw (.selects RX9 (yy 153) (yy 153)) := wp0 15 (by decide +kernel) rfl
set_option maxRecDepth 100000 in
theorem wq_X10_3 : tbw (.methodLink RX10 3 Lib.objectInit) := wt0 80 (by decide +kernel) rfl
set_option maxRecDepth 100000 in
theorem wl_X10_9 : tbw (.classLink RX10 9 RX1) := wt0 81 (by decide +kernel) rfl
set_option maxRecDepth 100000 in
theorem mw_X10_11 : clw RX10 10 11 0 (.methodLinkNest RX10 11 (yy 10) "SealedProcesses") := ⟨rfl, wc_X1_init, wi_SealedProcesses_Bytes, ⟨by decide, by decide⟩, fun sig h => by cases h; rfl, by decide, wt0 82 (by decide +kernel) rfl, Or.inr ⟨_, rfl⟩⟩
set_option maxRecDepth 100000 in
theorem fw_X10_12 : fdw RX10 11 0 12 9 RX10 TX10 (.fieldLink RX10 12 RX10 (TX10 0).2.1 (TX10 0).2.2.1) := ⟨rfl, by decide, rfl, by decide, rfl, cw_X10, wt0 83 (by decide +kernel) rfl, Or.inl rfl⟩
set_option maxRecDepth 100000 in
theorem fw_X10_18 : fdw RX10 11 1 18 9 RX10 TX10 (.fieldLink RX10 18 RX10 (TX10 1).2.1 (TX10 1).2.2.1) := ⟨rfl, by decide, rfl, by decide, rfl, cw_X10, wt0 84 (by decide +kernel) rfl, Or.inl rfl⟩
set_option maxRecDepth 100000 in
theorem fw_X10_22 : fdw RX10 11 2 22 9 RX10 TX10 (.fieldLink RX10 22 RX10 (TX10 2).2.1 (TX10 2).2.2.1) := ⟨rfl, by decide, rfl, by decide, rfl, cw_X10, wt0 85 (by decide +kernel) rfl, Or.inl rfl⟩
set_option maxRecDepth 100000 in
theorem fw_X10_25 : fdw RX10 11 3 25 9 RX10 TX10 (.fieldLink RX10 25 RX10 (TX10 3).2.1 (TX10 3).2.2.1) := ⟨rfl, by decide, rfl, by decide, rfl, cw_X10, wt0 86 (by decide +kernel) rfl, Or.inl rfl⟩
set_option maxRecDepth 100000 in
theorem fw_X10_29 : fdw RX10 11 4 29 9 RX10 TX10 (.fieldLink RX10 29 RX10 (TX10 4).2.1 (TX10 4).2.2.1) := ⟨rfl, by decide, rfl, by decide, rfl, cw_X10, wt0 87 (by decide +kernel) rfl, Or.inl rfl⟩
set_option maxRecDepth 100000 in
theorem fw_X10_33 : fdw RX10 11 5 33 9 RX10 TX10 (.fieldLink RX10 33 RX10 (TX10 5).2.1 (TX10 5).2.2.1) := ⟨rfl, by decide, rfl, by decide, rfl, cw_X10, wt0 88 (by decide +kernel) rfl, Or.inl rfl⟩
set_option maxRecDepth 100000 in
theorem fw_X10_37 : fdw RX10 11 6 37 9 RX10 TX10 (.fieldLink RX10 37 RX10 (TX10 6).2.1 (TX10 6).2.2.1) := ⟨rfl, by decide, rfl, by decide, rfl, cw_X10, wt0 89 (by decide +kernel) rfl, Or.inl rfl⟩
set_option maxRecDepth 100000 in
theorem fw_X10_40 : fdw RX10 11 7 40 9 RX10 TX10 (.fieldLink RX10 40 RX10 (TX10 7).2.1 (TX10 7).2.2.1) := ⟨rfl, by decide, rfl, by decide, rfl, cw_X10, wt0 90 (by decide +kernel) rfl, Or.inl rfl⟩
set_option maxRecDepth 100000 in
theorem fw_X10_44 : fdw RX10 11 8 44 9 RX10 TX10 (.fieldLink RX10 44 RX10 (TX10 8).2.1 (TX10 8).2.2.1) := ⟨rfl, by decide, rfl, by decide, rfl, cw_X10, wt0 91 (by decide +kernel) rfl, Or.inl rfl⟩
set_option maxRecDepth 100000 in
theorem fw_X10_48 : fdw RX10 10 0 48 10 RX9 TX9 (.fieldLinkNest RX10 48 RX9 (TX9 0).2.1 (TX9 0).2.2.1 "SealedProcesses") := ⟨rfl, by decide, rfl, by decide, rfl, cw_X9, wt0 348 (by decide +kernel) rfl, Or.inr ⟨_, rfl⟩⟩
set_option maxRecDepth 100000 in
theorem fw_X10_53 : fdw RX10 10 1 53 10 RX9 TX9 (.fieldLinkNest RX10 53 RX9 (TX9 1).2.1 (TX9 1).2.2.1 "SealedProcesses") := ⟨rfl, by decide, rfl, by decide, rfl, cw_X9, wt0 351 (by decide +kernel) rfl, Or.inr ⟨_, rfl⟩⟩
set_option maxRecDepth 100000 in
theorem mw_X10_56 : clw RX10 11 56 2 (.methodLinkNest RX10 56 (yy 11) "SealedProcesses") := ⟨rfl, wc_X1_startOver, wi_SealedProcesses_Bytes, ⟨by decide, by decide⟩, fun sig h => by cases h; rfl, by decide, wt0 616 (by decide +kernel) rfl, Or.inr ⟨_, rfl⟩⟩
set_option maxRecDepth 100000 in
theorem fw_X10_60 : fdw RX10 10 8 60 10 RX9 TX9 (.fieldLinkNest RX10 60 RX9 (TX9 8).2.1 (TX9 8).2.2.1 "SealedProcesses") := ⟨rfl, by decide, rfl, by decide, rfl, cw_X9, wt0 364 (by decide +kernel) rfl, Or.inr ⟨_, rfl⟩⟩
set_option maxRecDepth 100000 in
theorem mw_X10_63 : clw RX10 12 63 0 (.methodLinkNest RX10 63 (yy 12) "SealedProcesses") := ⟨rfl, wc_X1_isRight, wi_SealedProcesses_Bytes, ⟨by decide, by decide⟩, fun sig h => by cases h; rfl, by decide, wt0 617 (by decide +kernel) rfl, Or.inr ⟨_, rfl⟩⟩
set_option maxRecDepth 100000 in
theorem mw_X10_67 : clw RX10 149 67 1 (.methodLinkNest RX10 67 (yy 149) "SealedProcesses") := ⟨rfl, wc_X9_routineAt, wi_SealedProcesses_TypedModule, ⟨by decide, by decide⟩, fun sig h => by cases h; rfl, by decide, wt0 618 (by decide +kernel) rfl, Or.inr ⟨_, rfl⟩⟩
set_option maxRecDepth 100000 in
theorem wc_X10_isRoutineRight : tbw (cwd 160) := wt0 622 (by decide +kernel) rfl
set_option maxRecDepth 100000 in
theorem wi_SealedProcesses_Verifier : tbw (.initialized RX10) := wt0 4 (by decide +kernel) rfl
set_option maxRecDepth 100000 in
theorem mw_X10_71 : clw RX10 160 71 0 (.methodLink RX10 71 (yy 160)) := ⟨rfl, wc_X10_isRoutineRight, wi_SealedProcesses_Verifier, ⟨by decide, by decide⟩, fun sig h => by cases h; rfl, by decide, wt0 619 (by decide +kernel) rfl, Or.inl rfl⟩
set_option maxRecDepth 100000 in
theorem wm_X10_isRoutineRight : tbw (.instanceMethod (yy 160)) := wt0 621 (by decide +kernel) rfl
set_option maxRecDepth 100000 in
theorem wse_X10_isRoutineRight : tbw (.selects RX10 (yy 160) (yy 160)) := wp0 34 (by decide +kernel) rfl
set_option maxRecDepth 100000 in
theorem fw_X10_74 : fdw RX10 8 5 74 10 RX7 TX7 (.fieldLinkNest RX10 74 RX7 (TX7 5).2.1 (TX7 5).2.2.1 "SealedProcesses") := ⟨rfl, by decide, rfl, by decide, rfl, cw_X7, wt0 544 (by decide +kernel) rfl, Or.inr ⟨_, rfl⟩⟩
set_option maxRecDepth 100000 in
theorem mw_X10_79 : clw RX10 13 79 2 (.methodLinkNest RX10 79 (yy 13) "SealedProcesses") := ⟨rfl, wc_X1_fail, wi_SealedProcesses_Bytes, ⟨by decide, by decide⟩, fun sig h => by cases h; rfl, by decide, wt0 809 (by decide +kernel) rfl, Or.inr ⟨_, rfl⟩⟩
set_option maxRecDepth 100000 in
theorem wc_X7_prepare : tbw (cwd 110) := wt0 626 (by decide +kernel) rfl
set_option maxRecDepth 100000 in
theorem mw_X10_83 : clw RX10 110 83 0 (.methodLinkNest RX10 83 (yy 110) "SealedProcesses") := ⟨rfl, wc_X7_prepare, wi_SealedProcesses_Routine, ⟨by decide, by decide⟩, fun sig h => by cases h; rfl, by decide, wt0 623 (by decide +kernel) rfl, Or.inr ⟨_, rfl⟩⟩
set_option maxRecDepth 100000 in
theorem wm_X7_prepare : tbw (.instanceMethod (yy 110)) := wt0 625 (by decide +kernel) rfl
set_option maxRecDepth 100000 in
theorem wse_X7_prepare : tbw (.selects RX7 (yy 110) (yy 110)) := wp0 35 (by decide +kernel) rfl
set_option maxRecDepth 100000 in
theorem fw_X10_86 : fdw RX10 8 0 86 10 RX7 TX7 (.fieldLinkNest RX10 86 RX7 (TX7 0).2.1 (TX7 0).2.2.1 "SealedProcesses") := ⟨rfl, by decide, rfl, by decide, rfl, cw_X7, wt0 526 (by decide +kernel) rfl, Or.inr ⟨_, rfl⟩⟩
set_option maxRecDepth 100000 in
theorem mw_X10_89 : clw RX10 107 89 1 (.methodLinkNest RX10 89 (yy 107) "SealedProcesses") := ⟨rfl, wc_X7_typeOfParameter, wi_SealedProcesses_Routine, ⟨by decide, by decide⟩, fun sig h => by cases h; rfl, by decide, wt0 627 (by decide +kernel) rfl, Or.inr ⟨_, rfl⟩⟩
set_option maxRecDepth 100000 in
theorem wc_X10_arriveAt : tbw (cwd 162) := wt0 634 (by decide +kernel) rfl
set_option maxRecDepth 100000 in
theorem mw_X10_93 : clw RX10 162 93 1 (.methodLink RX10 93 (yy 162)) := ⟨rfl, wc_X10_arriveAt, wi_SealedProcesses_Verifier, ⟨by decide, by decide⟩, fun sig h => by cases h; rfl, by decide, wt0 631 (by decide +kernel) rfl, Or.inl rfl⟩
set_option maxRecDepth 100000 in
theorem wm_X10_arriveAt : tbw (.instanceMethod (yy 162)) := wt0 633 (by decide +kernel) rfl
set_option maxRecDepth 100000 in
theorem wse_X10_arriveAt : tbw (.selects RX10 (yy 162) (yy 162)) := wp0 37 (by decide +kernel) rfl
set_option maxRecDepth 100000 in
theorem fw_X10_97 : fdw RX10 8 4 97 10 RX7 TX7 (.fieldLinkNest RX10 97 RX7 (TX7 4).2.1 (TX7 4).2.2.1 "SealedProcesses") := ⟨rfl, by decide, rfl, by decide, rfl, cw_X7, wt0 540 (by decide +kernel) rfl, Or.inr ⟨_, rfl⟩⟩
set_option maxRecDepth 100000 in
theorem wc_X10_takeUp : tbw (cwd 161) := wt0 664 (by decide +kernel) rfl
set_option maxRecDepth 100000 in
theorem mw_X10_98 : clw RX10 161 98 1 (.methodLink RX10 98 (yy 161)) := ⟨rfl, wc_X10_takeUp, wi_SealedProcesses_Verifier, ⟨by decide, by decide⟩, fun sig h => by cases h; rfl, by decide, wt0 661 (by decide +kernel) rfl, Or.inl rfl⟩
set_option maxRecDepth 100000 in
theorem wm_X10_takeUp : tbw (.instanceMethod (yy 161)) := wt0 663 (by decide +kernel) rfl
set_option maxRecDepth 100000 in
theorem wse_X10_takeUp : tbw (.selects RX10 (yy 161) (yy 161)) := wp0 43 (by decide +kernel) rfl
set_option maxRecDepth 100000 in
theorem wc_X10_follow : tbw (cwd 169) := wt0 670 (by decide +kernel) rfl
set_option maxRecDepth 100000 in
theorem mw_X10_101 : clw RX10 169 101 1 (.methodLink RX10 101 (yy 169)) := ⟨rfl, wc_X10_follow, wi_SealedProcesses_Verifier, ⟨by decide, by decide⟩, fun sig h => by cases h; rfl, by decide, wt0 667 (by decide +kernel) rfl, Or.inl rfl⟩
set_option maxRecDepth 100000 in
theorem wm_X10_follow : tbw (.instanceMethod (yy 169)) := wt0 669 (by decide +kernel) rfl
set_option maxRecDepth 100000 in
theorem wse_X10_follow : tbw (.selects RX10 (yy 169) (yy 169)) := wp0 44 (by decide +kernel) rfl
set_option maxRecDepth 100000 in
theorem wc_X7_heightAt : tbw (cwd 111) := wt0 638 (by decide +kernel) rfl
set_option maxRecDepth 100000 in
theorem mw_X10_104 : clw RX10 111 104 1 (.methodLinkNest RX10 104 (yy 111) "SealedProcesses") := ⟨rfl, wc_X7_heightAt, wi_SealedProcesses_Routine, ⟨by decide, by decide⟩, fun sig h => by cases h; rfl, by decide, wt0 635 (by decide +kernel) rfl, Or.inr ⟨_, rfl⟩⟩
set_option maxRecDepth 100000 in
theorem wm_X7_heightAt : tbw (.instanceMethod (yy 111)) := wt0 637 (by decide +kernel) rfl
set_option maxRecDepth 100000 in
theorem wse_X7_heightAt : tbw (.selects RX7 (yy 111) (yy 111)) := wp0 38 (by decide +kernel) rfl
set_option maxRecDepth 100000 in
theorem wq_X10_107 : tbw (.methodLink RX10 107 Lib.Math.min.name) := wt0 665 (by decide +kernel) rfl
set_option maxRecDepth 100000 in
theorem wq_X10_113 : tbw (.methodLink RX10 113 Lib.Math.max.name) := wt0 666 (by decide +kernel) rfl
set_option maxRecDepth 100000 in
theorem wc_X7_typeComing : tbw (cwd 113) := wt0 646 (by decide +kernel) rfl
set_option maxRecDepth 100000 in
theorem mw_X10_116 : clw RX10 113 116 2 (.methodLinkNest RX10 116 (yy 113) "SealedProcesses") := ⟨rfl, wc_X7_typeComing, wi_SealedProcesses_Routine, ⟨by decide, by decide⟩, fun sig h => by cases h; rfl, by decide, wt0 643 (by decide +kernel) rfl, Or.inr ⟨_, rfl⟩⟩
set_option maxRecDepth 100000 in
theorem wm_X7_typeComing : tbw (.instanceMethod (yy 113)) := wt0 645 (by decide +kernel) rfl
set_option maxRecDepth 100000 in
theorem wse_X7_typeComing : tbw (.selects RX7 (yy 113) (yy 113)) := wp0 40 (by decide +kernel) rfl
set_option maxRecDepth 100000 in
theorem wc_X7_setHeight : tbw (cwd 112) := wt0 642 (by decide +kernel) rfl
set_option maxRecDepth 100000 in
theorem mw_X10_119 : clw RX10 112 119 2 (.methodLinkNest RX10 119 (yy 112) "SealedProcesses") := ⟨rfl, wc_X7_setHeight, wi_SealedProcesses_Routine, ⟨by decide, by decide⟩, fun sig h => by cases h; rfl, by decide, wt0 639 (by decide +kernel) rfl, Or.inr ⟨_, rfl⟩⟩
set_option maxRecDepth 100000 in
theorem wm_X7_setHeight : tbw (.instanceMethod (yy 112)) := wt0 641 (by decide +kernel) rfl
set_option maxRecDepth 100000 in
theorem wse_X7_setHeight : tbw (.selects RX7 (yy 112) (yy 112)) := wp0 39 (by decide +kernel) rfl
set_option maxRecDepth 100000 in
theorem wc_X10_join : tbw (cwd 163) := wt0 649 (by decide +kernel) rfl
set_option maxRecDepth 100000 in
theorem mw_X10_122 : clw RX10 163 122 2 (.methodLink RX10 122 (yy 163)) := ⟨rfl, wc_X10_join, wi_SealedProcesses_Verifier, ⟨by decide, by decide⟩, fun sig h => by cases h; rfl, by decide, wt0 647 (by decide +kernel) rfl, Or.inl rfl⟩
set_option maxRecDepth 100000 in
theorem wt_X10_join : tbw (.static (yy 163)) := wt0 648 (by decide +kernel) rfl
set_option maxRecDepth 100000 in
theorem mw_X10_125 : clw RX10 211 125 1 (.methodLinkNest RX10 125 (yy 211) "SealedProcesses") := ⟨rfl, wc_X11_isLinear, wi_SealedProcesses, ⟨by decide, by decide⟩, fun sig h => by cases h; rfl, by decide, wt0 650 (by decide +kernel) rfl, Or.inr ⟨_, rfl⟩⟩
set_option maxRecDepth 100000 in
theorem wc_X10_want : tbw (cwd 166) := wt0 656 (by decide +kernel) rfl
set_option maxRecDepth 100000 in
theorem mw_X10_129 : clw RX10 166 129 1 (.methodLink RX10 129 (yy 166)) := ⟨rfl, wc_X10_want, wi_SealedProcesses_Verifier, ⟨by decide, by decide⟩, fun sig h => by cases h; rfl, by decide, wt0 653 (by decide +kernel) rfl, Or.inl rfl⟩
set_option maxRecDepth 100000 in
theorem wm_X10_want : tbw (.instanceMethod (yy 166)) := wt0 655 (by decide +kernel) rfl
set_option maxRecDepth 100000 in
theorem wse_X10_want : tbw (.selects RX10 (yy 166) (yy 166)) := wp0 41 (by decide +kernel) rfl
set_option maxRecDepth 100000 in
theorem wc_X7_setComing : tbw (cwd 114) := wt0 660 (by decide +kernel) rfl
set_option maxRecDepth 100000 in
theorem mw_X10_133 : clw RX10 114 133 3 (.methodLinkNest RX10 133 (yy 114) "SealedProcesses") := ⟨rfl, wc_X7_setComing, wi_SealedProcesses_Routine, ⟨by decide, by decide⟩, fun sig h => by cases h; rfl, by decide, wt0 657 (by decide +kernel) rfl, Or.inr ⟨_, rfl⟩⟩
set_option maxRecDepth 100000 in
theorem wm_X7_setComing : tbw (.instanceMethod (yy 114)) := wt0 659 (by decide +kernel) rfl
set_option maxRecDepth 100000 in
theorem wse_X7_setComing : tbw (.selects RX7 (yy 114) (yy 114)) := wp0 42 (by decide +kernel) rfl
set_option maxRecDepth 100000 in
theorem wc_X10_pop : tbw (cwd 165) := wt0 694 (by decide +kernel) rfl
set_option maxRecDepth 100000 in
theorem mw_X10_137 : clw RX10 165 137 0 (.methodLink RX10 137 (yy 165)) := ⟨rfl, wc_X10_pop, wi_SealedProcesses_Verifier, ⟨by decide, by decide⟩, fun sig h => by cases h; rfl, by decide, wt0 691 (by decide +kernel) rfl, Or.inl rfl⟩
set_option maxRecDepth 100000 in
theorem wm_X10_pop : tbw (.instanceMethod (yy 165)) := wt0 693 (by decide +kernel) rfl
set_option maxRecDepth 100000 in
theorem wse_X10_pop : tbw (.selects RX10 (yy 165) (yy 165)) := wp0 50 (by decide +kernel) rfl
set_option maxRecDepth 100000 in
theorem mw_X10_141 : clw RX10 145 141 1 (.methodLinkNest RX10 141 (yy 145) "SealedProcesses") := ⟨rfl, wc_X9_byteAt, wi_SealedProcesses_TypedModule, ⟨by decide, by decide⟩, fun sig h => by cases h; rfl, by decide, wt0 671 (by decide +kernel) rfl, Or.inr ⟨_, rfl⟩⟩
set_option maxRecDepth 100000 in
theorem wc_X10_operandOf : tbw (cwd 168) := wt0 678 (by decide +kernel) rfl
set_option maxRecDepth 100000 in
theorem mw_X10_144 : clw RX10 168 144 1 (.methodLink RX10 144 (yy 168)) := ⟨rfl, wc_X10_operandOf, wi_SealedProcesses_Verifier, ⟨by decide, by decide⟩, fun sig h => by cases h; rfl, by decide, wt0 675 (by decide +kernel) rfl, Or.inl rfl⟩
set_option maxRecDepth 100000 in
theorem wm_X10_operandOf : tbw (.instanceMethod (yy 168)) := wt0 677 (by decide +kernel) rfl
set_option maxRecDepth 100000 in
theorem wse_X10_operandOf : tbw (.selects RX10 (yy 168) (yy 168)) := wp0 46 (by decide +kernel) rfl
set_option maxRecDepth 100000 in
theorem wc_X10_followMove : tbw (cwd 170) := wt0 682 (by decide +kernel) rfl
set_option maxRecDepth 100000 in
theorem mw_X10_147 : clw RX10 170 147 2 (.methodLink RX10 147 (yy 170)) := ⟨rfl, wc_X10_followMove, wi_SealedProcesses_Verifier, ⟨by decide, by decide⟩, fun sig h => by cases h; rfl, by decide, wt0 679 (by decide +kernel) rfl, Or.inl rfl⟩
set_option maxRecDepth 100000 in
theorem wm_X10_followMove : tbw (.instanceMethod (yy 170)) := wt0 681 (by decide +kernel) rfl
set_option maxRecDepth 100000 in
theorem wse_X10_followMove : tbw (.selects RX10 (yy 170) (yy 170)) := wp0 47 (by decide +kernel) rfl
set_option maxRecDepth 100000 in
theorem wc_X10_followInts : tbw (cwd 172) := wt0 698 (by decide +kernel) rfl
set_option maxRecDepth 100000 in
theorem mw_X10_151 : clw RX10 172 151 2 (.methodLink RX10 151 (yy 172)) := ⟨rfl, wc_X10_followInts, wi_SealedProcesses_Verifier, ⟨by decide, by decide⟩, fun sig h => by cases h; rfl, by decide, wt0 695 (by decide +kernel) rfl, Or.inl rfl⟩
set_option maxRecDepth 100000 in
theorem wm_X10_followInts : tbw (.instanceMethod (yy 172)) := wt0 697 (by decide +kernel) rfl
set_option maxRecDepth 100000 in
theorem wse_X10_followInts : tbw (.selects RX10 (yy 172) (yy 172)) := wp0 51 (by decide +kernel) rfl
set_option maxRecDepth 100000 in
theorem wc_X10_followHeap : tbw (cwd 173) := wt0 713 (by decide +kernel) rfl
set_option maxRecDepth 100000 in
theorem mw_X10_154 : clw RX10 173 154 2 (.methodLink RX10 154 (yy 173)) := ⟨rfl, wc_X10_followHeap, wi_SealedProcesses_Verifier, ⟨by decide, by decide⟩, fun sig h => by cases h; rfl, by decide, wt0 710 (by decide +kernel) rfl, Or.inl rfl⟩
set_option maxRecDepth 100000 in
theorem wm_X10_followHeap : tbw (.instanceMethod (yy 173)) := wt0 712 (by decide +kernel) rfl
set_option maxRecDepth 100000 in
theorem wse_X10_followHeap : tbw (.selects RX10 (yy 173) (yy 173)) := wp0 53 (by decide +kernel) rfl
set_option maxRecDepth 100000 in
theorem wc_X10_followFlow : tbw (cwd 176) := wt0 734 (by decide +kernel) rfl
set_option maxRecDepth 100000 in
theorem mw_X10_157 : clw RX10 176 157 2 (.methodLink RX10 157 (yy 176)) := ⟨rfl, wc_X10_followFlow, wi_SealedProcesses_Verifier, ⟨by decide, by decide⟩, fun sig h => by cases h; rfl, by decide, wt0 731 (by decide +kernel) rfl, Or.inl rfl⟩
set_option maxRecDepth 100000 in
theorem wm_X10_followFlow : tbw (.instanceMethod (yy 176)) := wt0 733 (by decide +kernel) rfl
set_option maxRecDepth 100000 in
theorem wse_X10_followFlow : tbw (.selects RX10 (yy 176) (yy 176)) := wp0 56 (by decide +kernel) rfl
set_option maxRecDepth 100000 in
theorem wc_X10_followBlock : tbw (cwd 180) := wt0 750 (by decide +kernel) rfl
set_option maxRecDepth 100000 in
theorem mw_X10_160 : clw RX10 180 160 2 (.methodLink RX10 160 (yy 180)) := ⟨rfl, wc_X10_followBlock, wi_SealedProcesses_Verifier, ⟨by decide, by decide⟩, fun sig h => by cases h; rfl, by decide, wt0 747 (by decide +kernel) rfl, Or.inl rfl⟩
set_option maxRecDepth 100000 in
theorem wm_X10_followBlock : tbw (.instanceMethod (yy 180)) := wt0 749 (by decide +kernel) rfl
set_option maxRecDepth 100000 in
theorem wse_X10_followBlock : tbw (.selects RX10 (yy 180) (yy 180)) := wp0 59 (by decide +kernel) rfl
set_option maxRecDepth 100000 in
theorem wc_X10_followEnd : tbw (cwd 181) := wt0 755 (by decide +kernel) rfl
set_option maxRecDepth 100000 in
theorem mw_X10_163 : clw RX10 181 163 2 (.methodLink RX10 163 (yy 181)) := ⟨rfl, wc_X10_followEnd, wi_SealedProcesses_Verifier, ⟨by decide, by decide⟩, fun sig h => by cases h; rfl, by decide, wt0 752 (by decide +kernel) rfl, Or.inl rfl⟩
set_option maxRecDepth 100000 in
theorem wm_X10_followEnd : tbw (.instanceMethod (yy 181)) := wt0 754 (by decide +kernel) rfl
set_option maxRecDepth 100000 in
theorem wse_X10_followEnd : tbw (.selects RX10 (yy 181) (yy 181)) := wp0 60 (by decide +kernel) rfl
set_option maxRecDepth 100000 in
theorem mw_X10_166 : clw RX10 147 166 1 (.methodLinkNest RX10 166 (yy 147) "SealedProcesses") := ⟨rfl, wc_X9_lengthOfInstruction, wi_SealedProcesses_TypedModule, ⟨by decide, by decide⟩, fun sig h => by cases h; rfl, by decide, wt0 803 (by decide +kernel) rfl, Or.inr ⟨_, rfl⟩⟩
set_option maxRecDepth 100000 in
theorem wc_X10_push : tbw (cwd 164) := wt0 686 (by decide +kernel) rfl
set_option maxRecDepth 100000 in
theorem mw_X10_169 : clw RX10 164 169 1 (.methodLink RX10 169 (yy 164)) := ⟨rfl, wc_X10_push, wi_SealedProcesses_Verifier, ⟨by decide, by decide⟩, fun sig h => by cases h; rfl, by decide, wt0 683 (by decide +kernel) rfl, Or.inl rfl⟩
set_option maxRecDepth 100000 in
theorem wm_X10_push : tbw (.instanceMethod (yy 164)) := wt0 685 (by decide +kernel) rfl
set_option maxRecDepth 100000 in
theorem wse_X10_push : tbw (.selects RX10 (yy 164) (yy 164)) := wp0 48 (by decide +kernel) rfl
set_option maxRecDepth 100000 in
theorem wc_X10_followLoad : tbw (cwd 171) := wt0 690 (by decide +kernel) rfl
set_option maxRecDepth 100000 in
theorem mw_X10_172 : clw RX10 171 172 1 (.methodLink RX10 172 (yy 171)) := ⟨rfl, wc_X10_followLoad, wi_SealedProcesses_Verifier, ⟨by decide, by decide⟩, fun sig h => by cases h; rfl, by decide, wt0 687 (by decide +kernel) rfl, Or.inl rfl⟩
set_option maxRecDepth 100000 in
theorem wm_X10_followLoad : tbw (.instanceMethod (yy 171)) := wt0 689 (by decide +kernel) rfl
set_option maxRecDepth 100000 in
theorem wse_X10_followLoad : tbw (.selects RX10 (yy 171) (yy 171)) := wp0 49 (by decide +kernel) rfl
set_option maxRecDepth 100000 in
theorem wc_X11_isPointerOrNil : tbw (cwd 213) := wt0 701 (by decide +kernel) rfl
set_option maxRecDepth 100000 in
theorem mw_X10_175 : clw RX10 213 175 1 (.methodLinkNest RX10 175 (yy 213) "SealedProcesses") := ⟨rfl, wc_X11_isPointerOrNil, wi_SealedProcesses, ⟨by decide, by decide⟩, fun sig h => by cases h; rfl, by decide, wt0 699 (by decide +kernel) rfl, Or.inr ⟨_, rfl⟩⟩
set_option maxRecDepth 100000 in
theorem wt_X11_isPointerOrNil : tbw (.static (yy 213)) := wt0 700 (by decide +kernel) rfl
set_option maxRecDepth 100000 in
theorem wc_X10_popInt : tbw (cwd 167) := wt0 709 (by decide +kernel) rfl
set_option maxRecDepth 100000 in
theorem mw_X10_178 : clw RX10 167 178 0 (.methodLink RX10 178 (yy 167)) := ⟨rfl, wc_X10_popInt, wi_SealedProcesses_Verifier, ⟨by decide, by decide⟩, fun sig h => by cases h; rfl, by decide, wt0 706 (by decide +kernel) rfl, Or.inl rfl⟩
set_option maxRecDepth 100000 in
theorem wm_X10_popInt : tbw (.instanceMethod (yy 167)) := wt0 708 (by decide +kernel) rfl
set_option maxRecDepth 100000 in
theorem wse_X10_popInt : tbw (.selects RX10 (yy 167) (yy 167)) := wp0 52 (by decide +kernel) rfl
set_option maxRecDepth 100000 in
theorem mw_X10_181 : clw RX10 205 181 2 (.methodLinkNest RX10 181 (yy 205) "SealedProcesses") := ⟨rfl, wc_X11_typeOf, wi_SealedProcesses, ⟨by decide, by decide⟩, fun sig h => by cases h; rfl, by decide, wt0 714 (by decide +kernel) rfl, Or.inr ⟨_, rfl⟩⟩
set_option maxRecDepth 100000 in
theorem wc_X10_followNode : tbw (cwd 174) := wt0 718 (by decide +kernel) rfl
set_option maxRecDepth 100000 in
theorem mw_X10_184 : clw RX10 174 184 2 (.methodLink RX10 184 (yy 174)) := ⟨rfl, wc_X10_followNode, wi_SealedProcesses_Verifier, ⟨by decide, by decide⟩, fun sig h => by cases h; rfl, by decide, wt0 715 (by decide +kernel) rfl, Or.inl rfl⟩
set_option maxRecDepth 100000 in
theorem wm_X10_followNode : tbw (.instanceMethod (yy 174)) := wt0 717 (by decide +kernel) rfl
set_option maxRecDepth 100000 in
theorem wse_X10_followNode : tbw (.selects RX10 (yy 174) (yy 174)) := wp0 54 (by decide +kernel) rfl
set_option maxRecDepth 100000 in
theorem wc_X10_followRow : tbw (cwd 175) := wt0 730 (by decide +kernel) rfl
set_option maxRecDepth 100000 in
theorem mw_X10_187 : clw RX10 175 187 1 (.methodLink RX10 187 (yy 175)) := ⟨rfl, wc_X10_followRow, wi_SealedProcesses_Verifier, ⟨by decide, by decide⟩, fun sig h => by cases h; rfl, by decide, wt0 727 (by decide +kernel) rfl, Or.inl rfl⟩
set_option maxRecDepth 100000 in
theorem wm_X10_followRow : tbw (.instanceMethod (yy 175)) := wt0 729 (by decide +kernel) rfl
set_option maxRecDepth 100000 in
theorem wse_X10_followRow : tbw (.selects RX10 (yy 175) (yy 175)) := wp0 55 (by decide +kernel) rfl
set_option maxRecDepth 100000 in
theorem mw_X10_190 : clw RX10 207 190 1 (.methodLinkNest RX10 190 (yy 207) "SealedProcesses") := ⟨rfl, wc_X11_kindOf, wi_SealedProcesses, ⟨by decide, by decide⟩, fun sig h => by cases h; rfl, by decide, wt0 719 (by decide +kernel) rfl, Or.inr ⟨_, rfl⟩⟩
set_option maxRecDepth 100000 in
theorem mw_X10_193 : clw RX10 208 193 1 (.methodLinkNest RX10 193 (yy 208) "SealedProcesses") := ⟨rfl, wc_X11_namedBy, wi_SealedProcesses, ⟨by decide, by decide⟩, fun sig h => by cases h; rfl, by decide, wt0 720 (by decide +kernel) rfl, Or.inr ⟨_, rfl⟩⟩
set_option maxRecDepth 100000 in
theorem mw_X10_196 : clw RX10 153 196 2 (.methodLinkNest RX10 196 (yy 153) "SealedProcesses") := ⟨rfl, wc_X9_typeOfField, wi_SealedProcesses_TypedModule, ⟨by decide, by decide⟩, fun sig h => by cases h; rfl, by decide, wt0 723 (by decide +kernel) rfl, Or.inr ⟨_, rfl⟩⟩
set_option maxRecDepth 100000 in
theorem wc_X11_fits : tbw (cwd 214) := wt0 726 (by decide +kernel) rfl
set_option maxRecDepth 100000 in
theorem mw_X10_199 : clw RX10 214 199 2 (.methodLinkNest RX10 199 (yy 214) "SealedProcesses") := ⟨rfl, wc_X11_fits, wi_SealedProcesses, ⟨by decide, by decide⟩, fun sig h => by cases h; rfl, by decide, wt0 724 (by decide +kernel) rfl, Or.inr ⟨_, rfl⟩⟩
set_option maxRecDepth 100000 in
theorem wt_X11_fits : tbw (.static (yy 214)) := wt0 725 (by decide +kernel) rfl
set_option maxRecDepth 100000 in
theorem wc_X10_popParameters : tbw (cwd 177) := wt0 738 (by decide +kernel) rfl
set_option maxRecDepth 100000 in
theorem mw_X10_202 : clw RX10 177 202 1 (.methodLink RX10 202 (yy 177)) := ⟨rfl, wc_X10_popParameters, wi_SealedProcesses_Verifier, ⟨by decide, by decide⟩, fun sig h => by cases h; rfl, by decide, wt0 735 (by decide +kernel) rfl, Or.inl rfl⟩
set_option maxRecDepth 100000 in
theorem wm_X10_popParameters : tbw (.instanceMethod (yy 177)) := wt0 737 (by decide +kernel) rfl
set_option maxRecDepth 100000 in
theorem wse_X10_popParameters : tbw (.selects RX10 (yy 177) (yy 177)) := wp0 57 (by decide +kernel) rfl
set_option maxRecDepth 100000 in
theorem fw_X10_206 : fdw RX10 8 2 206 10 RX7 TX7 (.fieldLinkNest RX10 206 RX7 (TX7 2).2.1 (TX7 2).2.2.1 "SealedProcesses") := ⟨rfl, by decide, rfl, by decide, rfl, cw_X7, wt0 533 (by decide +kernel) rfl, Or.inr ⟨_, rfl⟩⟩
set_option maxRecDepth 100000 in
theorem wc_X10_followReturn : tbw (cwd 179) := wt0 742 (by decide +kernel) rfl
set_option maxRecDepth 100000 in
theorem mw_X10_209 : clw RX10 179 209 0 (.methodLink RX10 209 (yy 179)) := ⟨rfl, wc_X10_followReturn, wi_SealedProcesses_Verifier, ⟨by decide, by decide⟩, fun sig h => by cases h; rfl, by decide, wt0 739 (by decide +kernel) rfl, Or.inl rfl⟩
set_option maxRecDepth 100000 in
theorem wm_X10_followReturn : tbw (.instanceMethod (yy 179)) := wt0 741 (by decide +kernel) rfl
set_option maxRecDepth 100000 in
theorem wse_X10_followReturn : tbw (.selects RX10 (yy 179) (yy 179)) := wp0 58 (by decide +kernel) rfl
set_option maxRecDepth 100000 in
theorem wc_X10_takesPointers : tbw (cwd 178) := wt0 745 (by decide +kernel) rfl
set_option maxRecDepth 100000 in
theorem mw_X10_212 : clw RX10 178 212 1 (.methodLink RX10 212 (yy 178)) := ⟨rfl, wc_X10_takesPointers, wi_SealedProcesses_Verifier, ⟨by decide, by decide⟩, fun sig h => by cases h; rfl, by decide, wt0 743 (by decide +kernel) rfl, Or.inl rfl⟩
set_option maxRecDepth 100000 in
theorem wt_X10_takesPointers : tbw (.static (yy 178)) := wt0 744 (by decide +kernel) rfl
set_option maxRecDepth 100000 in
theorem mw_X10_216 : clw RX10 212 216 1 (.methodLinkNest RX10 216 (yy 212) "SealedProcesses") := ⟨rfl, wc_X11_isPointer, wi_SealedProcesses, ⟨by decide, by decide⟩, fun sig h => by cases h; rfl, by decide, wt0 746 (by decide +kernel) rfl, Or.inr ⟨_, rfl⟩⟩
set_option maxRecDepth 100000 in
theorem mw_X10_219 : clw RX10 152 219 1 (.methodLinkNest RX10 219 (yy 152) "SealedProcesses") := ⟨rfl, wc_X9_sizeOfRecord, wi_SealedProcesses_TypedModule, ⟨by decide, by decide⟩, fun sig h => by cases h; rfl, by decide, wt0 751 (by decide +kernel) rfl, Or.inr ⟨_, rfl⟩⟩
set_option maxRecDepth 100000 in
theorem mw_X10_222 : clw RX10 206 222 3 (.methodLinkNest RX10 222 (yy 206) "SealedProcesses") := ⟨rfl, wc_X11_endType, wi_SealedProcesses, ⟨by decide, by decide⟩, fun sig h => by cases h; rfl, by decide, wt0 756 (by decide +kernel) rfl, Or.inr ⟨_, rfl⟩⟩
set_option maxRecDepth 100000 in
theorem wc_X10_followSend : tbw (cwd 183) := wt0 760 (by decide +kernel) rfl
set_option maxRecDepth 100000 in
theorem mw_X10_226 : clw RX10 183 226 1 (.methodLink RX10 226 (yy 183)) := ⟨rfl, wc_X10_followSend, wi_SealedProcesses_Verifier, ⟨by decide, by decide⟩, fun sig h => by cases h; rfl, by decide, wt0 757 (by decide +kernel) rfl, Or.inl rfl⟩
set_option maxRecDepth 100000 in
theorem wm_X10_followSend : tbw (.instanceMethod (yy 183)) := wt0 759 (by decide +kernel) rfl
set_option maxRecDepth 100000 in
theorem wse_X10_followSend : tbw (.selects RX10 (yy 183) (yy 183)) := wp0 61 (by decide +kernel) rfl
set_option maxRecDepth 100000 in
theorem wc_X10_followReceive : tbw (cwd 184) := wt0 798 (by decide +kernel) rfl
set_option maxRecDepth 100000 in
theorem mw_X10_229 : clw RX10 184 229 1 (.methodLink RX10 229 (yy 184)) := ⟨rfl, wc_X10_followReceive, wi_SealedProcesses_Verifier, ⟨by decide, by decide⟩, fun sig h => by cases h; rfl, by decide, wt0 795 (by decide +kernel) rfl, Or.inl rfl⟩
set_option maxRecDepth 100000 in
theorem wm_X10_followReceive : tbw (.instanceMethod (yy 184)) := wt0 797 (by decide +kernel) rfl
set_option maxRecDepth 100000 in
theorem wse_X10_followReceive : tbw (.selects RX10 (yy 184) (yy 184)) := wp0 68 (by decide +kernel) rfl
set_option maxRecDepth 100000 in
theorem wc_X10_contractOf : tbw (cwd 182) := wt0 764 (by decide +kernel) rfl
set_option maxRecDepth 100000 in
theorem mw_X10_232 : clw RX10 182 232 1 (.methodLink RX10 232 (yy 182)) := ⟨rfl, wc_X10_contractOf, wi_SealedProcesses_Verifier, ⟨by decide, by decide⟩, fun sig h => by cases h; rfl, by decide, wt0 761 (by decide +kernel) rfl, Or.inl rfl⟩
set_option maxRecDepth 100000 in
theorem wm_X10_contractOf : tbw (.instanceMethod (yy 182)) := wt0 763 (by decide +kernel) rfl
set_option maxRecDepth 100000 in
theorem wse_X10_contractOf : tbw (.selects RX10 (yy 182) (yy 182)) := wp0 62 (by decide +kernel) rfl
set_option maxRecDepth 100000 in
theorem mw_X10_236 : clw RX10 209 236 1 (.methodLinkNest RX10 236 (yy 209) "SealedProcesses") := ⟨rfl, wc_X11_stateOfEnd, wi_SealedProcesses, ⟨by decide, by decide⟩, fun sig h => by cases h; rfl, by decide, wt0 766 (by decide +kernel) rfl, Or.inr ⟨_, rfl⟩⟩
set_option maxRecDepth 100000 in
theorem mw_X10_239 : clw RX10 20 239 1 (.methodLinkNest RX10 239 (yy 20) "SealedProcesses") := ⟨rfl, wc_X2_turnAt, wi_SealedProcesses_Contract, ⟨by decide, by decide⟩, fun sig h => by cases h; rfl, by decide, wt0 776 (by decide +kernel) rfl, Or.inr ⟨_, rfl⟩⟩
set_option maxRecDepth 100000 in
theorem mw_X10_244 : clw RX10 148 244 1 (.methodLinkNest RX10 244 (yy 148) "SealedProcesses") := ⟨rfl, wc_X9_contractAt, wi_SealedProcesses_TypedModule, ⟨by decide, by decide⟩, fun sig h => by cases h; rfl, by decide, wt0 765 (by decide +kernel) rfl, Or.inr ⟨_, rfl⟩⟩
set_option maxRecDepth 100000 in
theorem mw_X10_247 : clw RX10 210 247 1 (.methodLinkNest RX10 247 (yy 210) "SealedProcesses") := ⟨rfl, wc_X11_sideOfEnd, wi_SealedProcesses, ⟨by decide, by decide⟩, fun sig h => by cases h; rfl, by decide, wt0 769 (by decide +kernel) rfl, Or.inr ⟨_, rfl⟩⟩
set_option maxRecDepth 100000 in
theorem mw_X10_250 : clw RX10 28 250 3 (.methodLinkNest RX10 250 (yy 28) "SealedProcesses") := ⟨rfl, wc_X2_sendsBare, wi_SealedProcesses_Contract, ⟨by decide, by decide⟩, fun sig h => by cases h; rfl, by decide, wt0 772 (by decide +kernel) rfl, Or.inr ⟨_, rfl⟩⟩
set_option maxRecDepth 100000 in
theorem wc_X11_turnOfSide : tbw (cwd 215) := wt0 782 (by decide +kernel) rfl
set_option maxRecDepth 100000 in
theorem mw_X10_254 : clw RX10 215 254 1 (.methodLinkNest RX10 254 (yy 215) "SealedProcesses") := ⟨rfl, wc_X11_turnOfSide, wi_SealedProcesses, ⟨by decide, by decide⟩, fun sig h => by cases h; rfl, by decide, wt0 780 (by decide +kernel) rfl, Or.inr ⟨_, rfl⟩⟩
set_option maxRecDepth 100000 in
theorem wt_X11_turnOfSide : tbw (.static (yy 215)) := wt0 781 (by decide +kernel) rfl
set_option maxRecDepth 100000 in
theorem wc_X2_has : tbw (cwd 23) := wt0 786 (by decide +kernel) rfl
set_option maxRecDepth 100000 in
theorem mw_X10_257 : clw RX10 23 257 2 (.methodLinkNest RX10 257 (yy 23) "SealedProcesses") := ⟨rfl, wc_X2_has, wi_SealedProcesses_Contract, ⟨by decide, by decide⟩, fun sig h => by cases h; rfl, by decide, wt0 783 (by decide +kernel) rfl, Or.inr ⟨_, rfl⟩⟩
set_option maxRecDepth 100000 in
theorem wm_X2_has : tbw (.instanceMethod (yy 23)) := wt0 785 (by decide +kernel) rfl
set_option maxRecDepth 100000 in
theorem wse_X2_has : tbw (.selects RX2 (yy 23) (yy 23)) := wp0 65 (by decide +kernel) rfl
set_option maxRecDepth 100000 in
theorem mw_X10_260 : clw RX10 24 260 2 (.methodLinkNest RX10 260 (yy 24) "SealedProcesses") := ⟨rfl, wc_X2_loadOf, wi_SealedProcesses_Contract, ⟨by decide, by decide⟩, fun sig h => by cases h; rfl, by decide, wt0 787 (by decide +kernel) rfl, Or.inr ⟨_, rfl⟩⟩
set_option maxRecDepth 100000 in
theorem mw_X10_263 : clw RX10 25 263 2 (.methodLinkNest RX10 263 (yy 25) "SealedProcesses") := ⟨rfl, wc_X2_nextOf, wi_SealedProcesses_Contract, ⟨by decide, by decide⟩, fun sig h => by cases h; rfl, by decide, wt0 791 (by decide +kernel) rfl, Or.inr ⟨_, rfl⟩⟩
set_option maxRecDepth 100000 in
theorem mw_X10_266 : clw RX10 21 266 1 (.methodLinkNest RX10 266 (yy 21) "SealedProcesses") := ⟨rfl, wc_X2_countAt, wi_SealedProcesses_Contract, ⟨by decide, by decide⟩, fun sig h => by cases h; rfl, by decide, wt0 799 (by decide +kernel) rfl, Or.inr ⟨_, rfl⟩⟩
set_option maxRecDepth 100000 in
theorem wq_X11_3 : tbw (.methodLink RX11 3 Lib.objectInit) := wt0 25 (by decide +kernel) rfl
set_option maxRecDepth 100000 in
theorem fw_X11_9 : fdw RX11 12 0 9 9 RX11 TX11 (.fieldLink RX11 9 RX11 (TX11 0).2.1 (TX11 0).2.2.1) := ⟨rfl, by decide, rfl, by decide, rfl, cw_X11, wt0 292 (by decide +kernel) rfl, Or.inl rfl⟩
set_option maxRecDepth 100000 in
theorem fw_X11_13 : fdw RX11 12 1 13 9 RX11 TX11 (.fieldLink RX11 13 RX11 (TX11 1).2.1 (TX11 1).2.2.1) := ⟨rfl, by decide, rfl, by decide, rfl, cw_X11, wt0 293 (by decide +kernel) rfl, Or.inl rfl⟩
set_option maxRecDepth 100000 in
theorem wl_X11_17 : tbw (.classLink RX11 17 "SealedProcesses$TypedModule") := wt0 28 (by decide +kernel) rfl
set_option maxRecDepth 100000 in
theorem fw_X11_19 : fdw RX11 12 2 19 9 RX11 TX11 (.fieldLink RX11 19 RX11 (TX11 2).2.1 (TX11 2).2.2.1) := ⟨rfl, by decide, rfl, by decide, rfl, cw_X11, wt0 294 (by decide +kernel) rfl, Or.inl rfl⟩
set_option maxRecDepth 100000 in
theorem fw_X11_23 : fdw RX11 12 3 23 9 RX11 TX11 (.fieldLink RX11 23 RX11 (TX11 3).2.1 (TX11 3).2.2.1) := ⟨rfl, by decide, rfl, by decide, rfl, cw_X11, wt0 295 (by decide +kernel) rfl, Or.inl rfl⟩
set_option maxRecDepth 100000 in
theorem fw_X11_26 : fdw RX11 12 4 26 9 RX11 TX11 (.fieldLink RX11 26 RX11 (TX11 4).2.1 (TX11 4).2.2.1) := ⟨rfl, by decide, rfl, by decide, rfl, cw_X11, wt0 296 (by decide +kernel) rfl, Or.inl rfl⟩
set_option maxRecDepth 100000 in
theorem wl_X11_29 : tbw (.classLink RX11 29 RX3) := wt0 30 (by decide +kernel) rfl
set_option maxRecDepth 100000 in
theorem wn_X3 : tbw (.instantiable RX3 2) := wt0 31 (by decide +kernel) rfl
set_option maxRecDepth 100000 in
theorem wc_X3_init : tbw (cwd 29) := wt0 34 (by decide +kernel) rfl
set_option maxRecDepth 100000 in
theorem mw_X11_31 : clw RX11 29 31 0 (.methodLinkNest RX11 31 (yy 29) "SealedProcesses") := ⟨rfl, wc_X3_init, wi_SealedProcesses_Decoder, ⟨by decide, by decide⟩, fun sig h => by cases h; rfl, by decide, wt0 32 (by decide +kernel) rfl, Or.inr ⟨_, rfl⟩⟩
set_option maxRecDepth 100000 in
theorem wm_X3_init : tbw (.instanceMethod (yy 29)) := wt0 33 (by decide +kernel) rfl
set_option maxRecDepth 100000 in
theorem fw_X11_32 : fdw RX11 12 5 32 9 RX11 TX11 (.fieldLink RX11 32 RX11 (TX11 5).2.1 (TX11 5).2.2.1) := ⟨rfl, by decide, rfl, by decide, rfl, cw_X11, wt0 297 (by decide +kernel) rfl, Or.inl rfl⟩
set_option maxRecDepth 100000 in
theorem wl_X11_36 : tbw (.classLink RX11 36 RX10) := wt0 75 (by decide +kernel) rfl
set_option maxRecDepth 100000 in
theorem wn_X10 : tbw (.instantiable RX10 9) := wt0 76 (by decide +kernel) rfl
set_option maxRecDepth 100000 in
theorem wc_X10_init : tbw (cwd 158) := wt0 79 (by decide +kernel) rfl
set_option maxRecDepth 100000 in
theorem mw_X11_38 : clw RX11 158 38 0 (.methodLinkNest RX11 38 (yy 158) "SealedProcesses") := ⟨rfl, wc_X10_init, wi_SealedProcesses_Verifier, ⟨by decide, by decide⟩, fun sig h => by cases h; rfl, by decide, wt0 77 (by decide +kernel) rfl, Or.inr ⟨_, rfl⟩⟩
set_option maxRecDepth 100000 in
theorem wm_X10_init : tbw (.instanceMethod (yy 158)) := wt0 78 (by decide +kernel) rfl
set_option maxRecDepth 100000 in
theorem fw_X11_39 : fdw RX11 12 6 39 9 RX11 TX11 (.fieldLink RX11 39 RX11 (TX11 6).2.1 (TX11 6).2.2.1) := ⟨rfl, by decide, rfl, by decide, rfl, cw_X11, wt0 298 (by decide +kernel) rfl, Or.inl rfl⟩
set_option maxRecDepth 100000 in
theorem wl_X11_43 : tbw (.classLink RX11 43 RX6) := wt0 112 (by decide +kernel) rfl
set_option maxRecDepth 100000 in
theorem wn_X6 : tbw (.instantiable RX6 12) := wt0 113 (by decide +kernel) rfl
set_option maxRecDepth 100000 in
theorem wc_X6_init : tbw (cwd 97) := wt0 116 (by decide +kernel) rfl
set_option maxRecDepth 100000 in
theorem mw_X11_45 : clw RX11 97 45 0 (.methodLinkNest RX11 45 (yy 97) "SealedProcesses") := ⟨rfl, wc_X6_init, wi_SealedProcesses_Manifest, ⟨by decide, by decide⟩, fun sig h => by cases h; rfl, by decide, wt0 114 (by decide +kernel) rfl, Or.inr ⟨_, rfl⟩⟩
set_option maxRecDepth 100000 in
theorem wm_X6_init : tbw (.instanceMethod (yy 97)) := wt0 115 (by decide +kernel) rfl
set_option maxRecDepth 100000 in
theorem fw_X11_46 : fdw RX11 12 7 46 9 RX11 TX11 (.fieldLink RX11 46 RX11 (TX11 7).2.1 (TX11 7).2.2.1) := ⟨rfl, by decide, rfl, by decide, rfl, cw_X11, wt0 299 (by decide +kernel) rfl, Or.inl rfl⟩
set_option maxRecDepth 100000 in
theorem wl_X11_50 : tbw (.classLink RX11 50 RX5) := wt0 165 (by decide +kernel) rfl
set_option maxRecDepth 100000 in
theorem wn_X5 : tbw (.instantiable RX5 15) := wt0 166 (by decide +kernel) rfl
set_option maxRecDepth 100000 in
theorem wc_X5_init : tbw (cwd 62) := wt0 169 (by decide +kernel) rfl
set_option maxRecDepth 100000 in
theorem mw_X11_52 : clw RX11 62 52 0 (.methodLinkNest RX11 52 (yy 62) "SealedProcesses") := ⟨rfl, wc_X5_init, wi_SealedProcesses_Machine, ⟨by decide, by decide⟩, fun sig h => by cases h; rfl, by decide, wt0 167 (by decide +kernel) rfl, Or.inr ⟨_, rfl⟩⟩
set_option maxRecDepth 100000 in
theorem wm_X5_init : tbw (.instanceMethod (yy 62)) := wt0 168 (by decide +kernel) rfl
set_option maxRecDepth 100000 in
theorem fw_X11_53 : fdw RX11 12 8 53 9 RX11 TX11 (.fieldLink RX11 53 RX11 (TX11 8).2.1 (TX11 8).2.2.1) := ⟨rfl, by decide, rfl, by decide, rfl, cw_X11, wt0 300 (by decide +kernel) rfl, Or.inl rfl⟩
set_option maxRecDepth 100000 in
theorem wc_X11_tapeNumber : tbw (cwd 200) := wt0 327 (by decide +kernel) rfl
set_option maxRecDepth 100000 in
theorem mw_X11_57 : clw RX11 200 57 1 (.methodLink RX11 57 (yy 200)) := ⟨rfl, wc_X11_tapeNumber, wi_SealedProcesses, ⟨by decide, by decide⟩, fun sig h => by cases h; rfl, by decide, wt0 324 (by decide +kernel) rfl, Or.inl rfl⟩
set_option maxRecDepth 100000 in
theorem wm_X11_tapeNumber : tbw (.instanceMethod (yy 200)) := wt0 326 (by decide +kernel) rfl
set_option maxRecDepth 100000 in
theorem wse_X11_tapeNumber : tbw (.selects RX11 (yy 200) (yy 200)) := wp0 0 (by decide +kernel) rfl
set_option maxRecDepth 100000 in
theorem wn_X9 : tbw (.instantiable RX9 10) := wt0 332 (by decide +kernel) rfl
set_option maxRecDepth 100000 in
theorem wc_X9_init : tbw (cwd 144) := wt0 335 (by decide +kernel) rfl
set_option maxRecDepth 100000 in
theorem mw_X11_61 : clw RX11 144 61 2 (.methodLinkNest RX11 61 (yy 144) "SealedProcesses") := ⟨rfl, wc_X9_init, wi_SealedProcesses_TypedModule, ⟨by decide, by decide⟩, fun sig h => by cases h; rfl, by decide, wt0 333 (by decide +kernel) rfl, Or.inr ⟨_, rfl⟩⟩
set_option maxRecDepth 100000 in
theorem wm_X9_init : tbw (.instanceMethod (yy 144)) := wt0 334 (by decide +kernel) rfl
set_option maxRecDepth 100000 in
theorem wc_X3_decode : tbw (cwd 30) := wt0 392 (by decide +kernel) rfl
set_option maxRecDepth 100000 in
theorem mw_X11_64 : clw RX11 30 64 1 (.methodLinkNest RX11 64 (yy 30) "SealedProcesses") := ⟨rfl, wc_X3_decode, wi_SealedProcesses_Decoder, ⟨by decide, by decide⟩, fun sig h => by cases h; rfl, by decide, wt0 389 (by decide +kernel) rfl, Or.inr ⟨_, rfl⟩⟩
set_option maxRecDepth 100000 in
theorem wm_X3_decode : tbw (.instanceMethod (yy 30)) := wt0 391 (by decide +kernel) rfl
set_option maxRecDepth 100000 in
theorem wse_X3_decode : tbw (.selects RX3 (yy 30) (yy 30)) := wp0 1 (by decide +kernel) rfl
set_option maxRecDepth 100000 in
theorem wc_X11_tell : tbw (cwd 201) := wt0 611 (by decide +kernel) rfl
set_option maxRecDepth 100000 in
theorem mw_X11_68 : clw RX11 201 68 1 (.methodLink RX11 68 (yy 201)) := ⟨rfl, wc_X11_tell, wi_SealedProcesses, ⟨by decide, by decide⟩, fun sig h => by cases h; rfl, by decide, wt0 608 (by decide +kernel) rfl, Or.inl rfl⟩
set_option maxRecDepth 100000 in
theorem wm_X11_tell : tbw (.instanceMethod (yy 201)) := wt0 610 (by decide +kernel) rfl
set_option maxRecDepth 100000 in
theorem wse_X11_tell : tbw (.selects RX11 (yy 201) (yy 201)) := wp0 32 (by decide +kernel) rfl
set_option maxRecDepth 100000 in
theorem wc_X10_verify : tbw (cwd 159) := wt0 615 (by decide +kernel) rfl
set_option maxRecDepth 100000 in
theorem mw_X11_72 : clw RX11 159 72 1 (.methodLinkNest RX11 72 (yy 159) "SealedProcesses") := ⟨rfl, wc_X10_verify, wi_SealedProcesses_Verifier, ⟨by decide, by decide⟩, fun sig h => by cases h; rfl, by decide, wt0 612 (by decide +kernel) rfl, Or.inr ⟨_, rfl⟩⟩
set_option maxRecDepth 100000 in
theorem wm_X10_verify : tbw (.instanceMethod (yy 159)) := wt0 614 (by decide +kernel) rfl
set_option maxRecDepth 100000 in
theorem wse_X10_verify : tbw (.selects RX10 (yy 159) (yy 159)) := wp0 33 (by decide +kernel) rfl
set_option maxRecDepth 100000 in
theorem wc_X11_onShelf : tbw (cwd 202) := wt0 821 (by decide +kernel) rfl
set_option maxRecDepth 100000 in
theorem mw_X11_75 : clw RX11 202 75 1 (.methodLink RX11 75 (yy 202)) := ⟨rfl, wc_X11_onShelf, wi_SealedProcesses, ⟨by decide, by decide⟩, fun sig h => by cases h; rfl, by decide, wt0 818 (by decide +kernel) rfl, Or.inl rfl⟩
set_option maxRecDepth 100000 in
theorem wm_X11_onShelf : tbw (.instanceMethod (yy 202)) := wt0 820 (by decide +kernel) rfl
set_option maxRecDepth 100000 in
theorem wse_X11_onShelf : tbw (.selects RX11 (yy 202) (yy 202)) := wp0 71 (by decide +kernel) rfl
set_option maxRecDepth 100000 in
theorem fw_X11_79 : fdw RX11 10 2 79 10 RX9 TX9 (.fieldLinkNest RX11 79 RX9 (TX9 2).2.1 (TX9 2).2.2.1 "SealedProcesses") := ⟨rfl, by decide, rfl, by decide, rfl, cw_X9, wt0 355 (by decide +kernel) rfl, Or.inr ⟨_, rfl⟩⟩
set_option maxRecDepth 100000 in
theorem fw_X11_82 : fdw RX11 10 6 82 10 RX9 TX9 (.fieldLinkNest RX11 82 RX9 (TX9 6).2.1 (TX9 6).2.2.1 "SealedProcesses") := ⟨rfl, by decide, rfl, by decide, rfl, cw_X9, wt0 361 (by decide +kernel) rfl, Or.inr ⟨_, rfl⟩⟩
set_option maxRecDepth 100000 in
theorem fw_X11_85 : fdw RX11 10 8 85 10 RX9 TX9 (.fieldLinkNest RX11 85 RX9 (TX9 8).2.1 (TX9 8).2.2.1 "SealedProcesses") := ⟨rfl, by decide, rfl, by decide, rfl, cw_X9, wt0 366 (by decide +kernel) rfl, Or.inr ⟨_, rfl⟩⟩
set_option maxRecDepth 100000 in
theorem fw_X11_88 : fdw RX11 10 1 88 10 RX9 TX9 (.fieldLinkNest RX11 88 RX9 (TX9 1).2.1 (TX9 1).2.2.1 "SealedProcesses") := ⟨rfl, by decide, rfl, by decide, rfl, cw_X9, wt0 352 (by decide +kernel) rfl, Or.inr ⟨_, rfl⟩⟩
set_option maxRecDepth 100000 in
theorem mw_X11_91 : clw RX11 149 91 1 (.methodLinkNest RX11 91 (yy 149) "SealedProcesses") := ⟨rfl, wc_X9_routineAt, wi_SealedProcesses_TypedModule, ⟨by decide, by decide⟩, fun sig h => by cases h; rfl, by decide, wt0 826 (by decide +kernel) rfl, Or.inr ⟨_, rfl⟩⟩
set_option maxRecDepth 100000 in
theorem wc_X11_ofRoutine : tbw (cwd 204) := wt0 829 (by decide +kernel) rfl
set_option maxRecDepth 100000 in
theorem mw_X11_95 : clw RX11 204 95 2 (.methodLink RX11 95 (yy 204)) := ⟨rfl, wc_X11_ofRoutine, wi_SealedProcesses, ⟨by decide, by decide⟩, fun sig h => by cases h; rfl, by decide, wt0 827 (by decide +kernel) rfl, Or.inl rfl⟩
set_option maxRecDepth 100000 in
theorem wt_X11_ofRoutine : tbw (.static (yy 204)) := wt0 828 (by decide +kernel) rfl
set_option maxRecDepth 100000 in
theorem mw_X11_99 : clw RX11 111 99 1 (.methodLinkNest RX11 99 (yy 111) "SealedProcesses") := ⟨rfl, wc_X7_heightAt, wi_SealedProcesses_Routine, ⟨by decide, by decide⟩, fun sig h => by cases h; rfl, by decide, wt0 834 (by decide +kernel) rfl, Or.inr ⟨_, rfl⟩⟩
set_option maxRecDepth 100000 in
theorem mw_X11_105 : clw RX11 113 105 2 (.methodLinkNest RX11 105 (yy 113) "SealedProcesses") := ⟨rfl, wc_X7_typeComing, wi_SealedProcesses_Routine, ⟨by decide, by decide⟩, fun sig h => by cases h; rfl, by decide, wt0 835 (by decide +kernel) rfl, Or.inr ⟨_, rfl⟩⟩
set_option maxRecDepth 100000 in
theorem mw_X11_109 : clw RX11 207 109 1 (.methodLink RX11 109 (yy 207)) := ⟨rfl, wc_X11_kindOf, wi_SealedProcesses, ⟨by decide, by decide⟩, fun sig h => by cases h; rfl, by decide, wt0 703 (by decide +kernel) rfl, Or.inl rfl⟩
set_option maxRecDepth 100000 in
theorem fw_X11_112 : fdw RX11 8 3 112 10 RX7 TX7 (.fieldLinkNest RX11 112 RX7 (TX7 3).2.1 (TX7 3).2.2.1 "SealedProcesses") := ⟨rfl, by decide, rfl, by decide, rfl, cw_X7, wt0 537 (by decide +kernel) rfl, Or.inr ⟨_, rfl⟩⟩
set_option maxRecDepth 100000 in
theorem wc_X6_read : tbw (cwd 98) := wt0 843 (by decide +kernel) rfl
set_option maxRecDepth 100000 in
theorem mw_X11_115 : clw RX11 98 115 3 (.methodLinkNest RX11 115 (yy 98) "SealedProcesses") := ⟨rfl, wc_X6_read, wi_SealedProcesses_Manifest, ⟨by decide, by decide⟩, fun sig h => by cases h; rfl, by decide, wt0 840 (by decide +kernel) rfl, Or.inr ⟨_, rfl⟩⟩
set_option maxRecDepth 100000 in
theorem wm_X6_read : tbw (.instanceMethod (yy 98)) := wt0 842 (by decide +kernel) rfl
set_option maxRecDepth 100000 in
theorem wse_X6_read : tbw (.selects RX6 (yy 98) (yy 98)) := wp0 72 (by decide +kernel) rfl
set_option maxRecDepth 100000 in
theorem wc_X5_start : tbw (cwd 63) := wt0 893 (by decide +kernel) rfl
set_option maxRecDepth 100000 in
theorem mw_X11_119 : clw RX11 63 119 1 (.methodLinkNest RX11 119 (yy 63) "SealedProcesses") := ⟨rfl, wc_X5_start, wi_SealedProcesses_Machine, ⟨by decide, by decide⟩, fun sig h => by cases h; rfl, by decide, wt0 890 (by decide +kernel) rfl, Or.inr ⟨_, rfl⟩⟩
set_option maxRecDepth 100000 in
theorem wm_X5_start : tbw (.instanceMethod (yy 63)) := wt0 892 (by decide +kernel) rfl
set_option maxRecDepth 100000 in
theorem wse_X5_start : tbw (.selects RX5 (yy 63) (yy 63)) := wp0 79 (by decide +kernel) rfl
set_option maxRecDepth 100000 in
theorem fw_X11_123 : fdw RX11 7 1 123 12 RX6 TX6 (.fieldLinkNest RX11 123 RX6 (TX6 1).2.1 (TX6 1).2.2.1 "SealedProcesses") := ⟨rfl, by decide, rfl, by decide, rfl, cw_X6, wt0 124 (by decide +kernel) rfl, Or.inr ⟨_, rfl⟩⟩
set_option maxRecDepth 100000 in
theorem fw_X11_126 : fdw RX11 6 0 126 15 RX5 TX5 (.fieldLinkNest RX11 126 RX5 (TX5 0).2.1 (TX5 0).2.2.1 "SealedProcesses") := ⟨rfl, by decide, rfl, by decide, rfl, cw_X5, wt0 240 (by decide +kernel) rfl, Or.inr ⟨_, rfl⟩⟩
set_option maxRecDepth 100000 in
theorem wc_X5_goOn : tbw (cwd 72) := wt0 1026 (by decide +kernel) rfl
set_option maxRecDepth 100000 in
theorem mw_X11_130 : clw RX11 72 130 1 (.methodLinkNest RX11 130 (yy 72) "SealedProcesses") := ⟨rfl, wc_X5_goOn, wi_SealedProcesses_Machine, ⟨by decide, by decide⟩, fun sig h => by cases h; rfl, by decide, wt0 1023 (by decide +kernel) rfl, Or.inr ⟨_, rfl⟩⟩
set_option maxRecDepth 100000 in
theorem wm_X5_goOn : tbw (.instanceMethod (yy 72)) := wt0 1025 (by decide +kernel) rfl
set_option maxRecDepth 100000 in
theorem wse_X5_goOn : tbw (.selects RX5 (yy 72) (yy 72)) := wp0 91 (by decide +kernel) rfl
set_option maxRecDepth 100000 in
theorem fw_X11_133 : fdw RX11 6 9 133 15 RX5 TX5 (.fieldLinkNest RX11 133 RX5 (TX5 9).2.1 (TX5 9).2.2.1 "SealedProcesses") := ⟨rfl, by decide, rfl, by decide, rfl, cw_X5, wt0 255 (by decide +kernel) rfl, Or.inr ⟨_, rfl⟩⟩
set_option maxRecDepth 100000 in
theorem wc_X5_isStill : tbw (cwd 70) := wt0 1348 (by decide +kernel) rfl
set_option maxRecDepth 100000 in
theorem mw_X11_136 : clw RX11 70 136 0 (.methodLinkNest RX11 136 (yy 70) "SealedProcesses") := ⟨rfl, wc_X5_isStill, wi_SealedProcesses_Machine, ⟨by decide, by decide⟩, fun sig h => by cases h; rfl, by decide, wt0 1345 (by decide +kernel) rfl, Or.inr ⟨_, rfl⟩⟩
set_option maxRecDepth 100000 in
theorem wm_X5_isStill : tbw (.instanceMethod (yy 70)) := wt0 1347 (by decide +kernel) rfl
set_option maxRecDepth 100000 in
theorem wse_X5_isStill : tbw (.selects RX5 (yy 70) (yy 70)) := wp0 162 (by decide +kernel) rfl
set_option maxRecDepth 100000 in
theorem wc_X5_living : tbw (cwd 69) := wt0 1352 (by decide +kernel) rfl
set_option maxRecDepth 100000 in
theorem mw_X11_140 : clw RX11 69 140 0 (.methodLinkNest RX11 140 (yy 69) "SealedProcesses") := ⟨rfl, wc_X5_living, wi_SealedProcesses_Machine, ⟨by decide, by decide⟩, fun sig h => by cases h; rfl, by decide, wt0 1349 (by decide +kernel) rfl, Or.inr ⟨_, rfl⟩⟩
set_option maxRecDepth 100000 in
theorem wm_X5_living : tbw (.instanceMethod (yy 69)) := wt0 1351 (by decide +kernel) rfl
set_option maxRecDepth 100000 in
theorem wse_X5_living : tbw (.selects RX5 (yy 69) (yy 69)) := wp0 163 (by decide +kernel) rfl
set_option maxRecDepth 100000 in
theorem fw_X11_144 : fdw RX11 6 4 144 15 RX5 TX5 (.fieldLinkNest RX11 144 RX5 (TX5 4).2.1 (TX5 4).2.2.1 "SealedProcesses") := ⟨rfl, by decide, rfl, by decide, rfl, cw_X5, wt0 246 (by decide +kernel) rfl, Or.inr ⟨_, rfl⟩⟩
set_option maxRecDepth 100000 in
theorem wc_X4_channels : tbw (cwd 42) := wt0 1356 (by decide +kernel) rfl
set_option maxRecDepth 100000 in
theorem mw_X11_148 : clw RX11 42 148 0 (.methodLinkNest RX11 148 (yy 42) "SealedProcesses") := ⟨rfl, wc_X4_channels, wi_SealedProcesses_Ends, ⟨by decide, by decide⟩, fun sig h => by cases h; rfl, by decide, wt0 1353 (by decide +kernel) rfl, Or.inr ⟨_, rfl⟩⟩
set_option maxRecDepth 100000 in
theorem wm_X4_channels : tbw (.instanceMethod (yy 42)) := wt0 1355 (by decide +kernel) rfl
set_option maxRecDepth 100000 in
theorem wse_X4_channels : tbw (.selects RX4 (yy 42) (yy 42)) := wp0 164 (by decide +kernel) rfl
set_option maxRecDepth 100000 in
theorem fw_X11_153 : fdw RX11 6 3 153 15 RX5 TX5 (.fieldLinkNest RX11 153 RX5 (TX5 3).2.1 (TX5 3).2.2.1 "SealedProcesses") := ⟨rfl, by decide, rfl, by decide, rfl, cw_X5, wt0 244 (by decide +kernel) rfl, Or.inr ⟨_, rfl⟩⟩
set_option maxRecDepth 100000 in
theorem fw_X11_157 : fdw RX11 1 3 157 5 RX0 TX0 (.fieldLinkNest RX11 157 RX0 (TX0 3).2.1 (TX0 3).2.2.1 "SealedProcesses") := ⟨rfl, by decide, rfl, by decide, rfl, cw_X0, wt0 183 (by decide +kernel) rfl, Or.inr ⟨_, rfl⟩⟩
set_option maxRecDepth 100000 in
theorem fw_X11_160 : fdw RX11 1 4 160 5 RX0 TX0 (.fieldLinkNest RX11 160 RX0 (TX0 4).2.1 (TX0 4).2.2.1 "SealedProcesses") := ⟨rfl, by decide, rfl, by decide, rfl, cw_X0, wt0 185 (by decide +kernel) rfl, Or.inr ⟨_, rfl⟩⟩
set_option maxRecDepth 100000 in
theorem fw_X11_163 : fdw RX11 6 8 163 15 RX5 TX5 (.fieldLinkNest RX11 163 RX5 (TX5 8).2.1 (TX5 8).2.2.1 "SealedProcesses") := ⟨rfl, by decide, rfl, by decide, rfl, cw_X5, wt0 253 (by decide +kernel) rfl, Or.inr ⟨_, rfl⟩⟩
set_option maxRecDepth 100000 in
theorem mw_X11_166 : clw RX11 67 166 1 (.methodLinkNest RX11 166 (yy 67) "SealedProcesses") := ⟨rfl, wc_X5_taskAt, wi_SealedProcesses_Machine, ⟨by decide, by decide⟩, fun sig h => by cases h; rfl, by decide, wt0 1361 (by decide +kernel) rfl, Or.inr ⟨_, rfl⟩⟩
set_option maxRecDepth 100000 in
theorem fw_X11_170 : fdw RX11 9 4 170 17 RX8 TX8 (.fieldLinkNest RX11 170 RX8 (TX8 4).2.1 (TX8 4).2.2.1 "SealedProcesses") := ⟨rfl, by decide, rfl, by decide, rfl, cw_X8, wt0 928 (by decide +kernel) rfl, Or.inr ⟨_, rfl⟩⟩
set_option maxRecDepth 100000 in
theorem fw_X11_175 : fdw RX11 9 5 175 17 RX8 TX8 (.fieldLinkNest RX11 175 RX8 (TX8 5).2.1 (TX8 5).2.2.1 "SealedProcesses") := ⟨rfl, by decide, rfl, by decide, rfl, cw_X8, wt0 930 (by decide +kernel) rfl, Or.inr ⟨_, rfl⟩⟩
set_option maxRecDepth 100000 in
theorem fw_X11_178 : fdw RX11 9 2 178 17 RX8 TX8 (.fieldLinkNest RX11 178 RX8 (TX8 2).2.1 (TX8 2).2.2.1 "SealedProcesses") := ⟨rfl, by decide, rfl, by decide, rfl, cw_X8, wt0 921 (by decide +kernel) rfl, Or.inr ⟨_, rfl⟩⟩
set_option maxRecDepth 100000 in
theorem mw_X11_181 : clw RX11 117 181 0 (.methodLinkNest RX11 181 (yy 117) "SealedProcesses") := ⟨rfl, wc_X8_isOver, wi_SealedProcesses_Task, ⟨by decide, by decide⟩, fun sig h => by cases h; rfl, by decide, wt0 1362 (by decide +kernel) rfl, Or.inr ⟨_, rfl⟩⟩
set_option maxRecDepth 100000 in
theorem wc_X11_ofLivingTask : tbw (cwd 203) := wt0 1366 (by decide +kernel) rfl
set_option maxRecDepth 100000 in
theorem mw_X11_184 : clw RX11 203 184 2 (.methodLink RX11 184 (yy 203)) := ⟨rfl, wc_X11_ofLivingTask, wi_SealedProcesses, ⟨by decide, by decide⟩, fun sig h => by cases h; rfl, by decide, wt0 1363 (by decide +kernel) rfl, Or.inl rfl⟩
set_option maxRecDepth 100000 in
theorem wm_X11_ofLivingTask : tbw (.instanceMethod (yy 203)) := wt0 1365 (by decide +kernel) rfl
set_option maxRecDepth 100000 in
theorem wse_X11_ofLivingTask : tbw (.selects RX11 (yy 203) (yy 203)) := wp0 165 (by decide +kernel) rfl
set_option maxRecDepth 100000 in
theorem fw_X11_188 : fdw RX11 9 3 188 17 RX8 TX8 (.fieldLinkNest RX11 188 RX8 (TX8 3).2.1 (TX8 3).2.2.1 "SealedProcesses") := ⟨rfl, by decide, rfl, by decide, rfl, cw_X8, wt0 924 (by decide +kernel) rfl, Or.inr ⟨_, rfl⟩⟩
set_option maxRecDepth 100000 in
theorem fw_X11_191 : fdw RX11 9 6 191 17 RX8 TX8 (.fieldLinkNest RX11 191 RX8 (TX8 6).2.1 (TX8 6).2.2.1 "SealedProcesses") := ⟨rfl, by decide, rfl, by decide, rfl, cw_X8, wt0 933 (by decide +kernel) rfl, Or.inr ⟨_, rfl⟩⟩
set_option maxRecDepth 100000 in
theorem wk_X11_194 : tbw (.constant RX11 194 (Int32.ofInt (-2147483648))) := wt0 1381 (by decide +kernel) rfl
set_option maxRecDepth 100000 in
theorem mw_X11_195 : clw RX11 125 195 0 (.methodLinkNest RX11 195 (yy 125) "SealedProcesses") := ⟨rfl, wc_X8_height, wi_SealedProcesses_Task, ⟨by decide, by decide⟩, fun sig h => by cases h; rfl, by decide, wt0 1372 (by decide +kernel) rfl, Or.inr ⟨_, rfl⟩⟩
set_option maxRecDepth 100000 in
theorem wc_X8_shown : tbw (cwd 133) := wt0 1385 (by decide +kernel) rfl
set_option maxRecDepth 100000 in
theorem mw_X11_198 : clw RX11 133 198 1 (.methodLinkNest RX11 198 (yy 133) "SealedProcesses") := ⟨rfl, wc_X8_shown, wi_SealedProcesses_Task, ⟨by decide, by decide⟩, fun sig h => by cases h; rfl, by decide, wt0 1382 (by decide +kernel) rfl, Or.inr ⟨_, rfl⟩⟩
set_option maxRecDepth 100000 in
theorem wm_X8_shown : tbw (.instanceMethod (yy 133)) := wt0 1384 (by decide +kernel) rfl
set_option maxRecDepth 100000 in
theorem wse_X8_shown : tbw (.selects RX8 (yy 133) (yy 133)) := wp0 168 (by decide +kernel) rfl
set_option maxRecDepth 100000 in
theorem wc_X8_localCount : tbw (cwd 122) := wt0 1390 (by decide +kernel) rfl
set_option maxRecDepth 100000 in
theorem mw_X11_201 : clw RX11 122 201 0 (.methodLinkNest RX11 201 (yy 122) "SealedProcesses") := ⟨rfl, wc_X8_localCount, wi_SealedProcesses_Task, ⟨by decide, by decide⟩, fun sig h => by cases h; rfl, by decide, wt0 1387 (by decide +kernel) rfl, Or.inr ⟨_, rfl⟩⟩
set_option maxRecDepth 100000 in
theorem wm_X8_localCount : tbw (.instanceMethod (yy 122)) := wt0 1389 (by decide +kernel) rfl
set_option maxRecDepth 100000 in
theorem wse_X8_localCount : tbw (.selects RX8 (yy 122) (yy 122)) := wp0 169 (by decide +kernel) rfl
set_option maxRecDepth 100000 in
theorem mw_X11_204 : clw RX11 3 204 1 (.methodLinkNest RX11 204 (yy 3) "SealedProcesses") := ⟨rfl, wc_X0_sizeOf, wi_SealedProcesses_Blocks, ⟨by decide, by decide⟩, fun sig h => by cases h; rfl, by decide, wt0 1395 (by decide +kernel) rfl, Or.inr ⟨_, rfl⟩⟩
set_option maxRecDepth 100000 in
theorem wc_X0_ownerOf : tbw (cwd 4) := wt0 1399 (by decide +kernel) rfl
set_option maxRecDepth 100000 in
theorem mw_X11_207 : clw RX11 4 207 1 (.methodLinkNest RX11 207 (yy 4) "SealedProcesses") := ⟨rfl, wc_X0_ownerOf, wi_SealedProcesses_Blocks, ⟨by decide, by decide⟩, fun sig h => by cases h; rfl, by decide, wt0 1396 (by decide +kernel) rfl, Or.inr ⟨_, rfl⟩⟩
set_option maxRecDepth 100000 in
theorem wm_X0_ownerOf : tbw (.instanceMethod (yy 4)) := wt0 1398 (by decide +kernel) rfl
set_option maxRecDepth 100000 in
theorem wse_X0_ownerOf : tbw (.selects RX0 (yy 4) (yy 4)) := wp0 170 (by decide +kernel) rfl
set_option maxRecDepth 100000 in
theorem mw_X11_210 : clw RX11 6 210 2 (.methodLinkNest RX11 210 (yy 6) "SealedProcesses") := ⟨rfl, wc_X0_see, wi_SealedProcesses_Blocks, ⟨by decide, by decide⟩, fun sig h => by cases h; rfl, by decide, wt0 1400 (by decide +kernel) rfl, Or.inr ⟨_, rfl⟩⟩
set_option maxRecDepth 100000 in
theorem mw_X11_213 : clw RX11 41 213 1 (.methodLinkNest RX11 213 (yy 41) "SealedProcesses") := ⟨rfl, wc_X4_isOpen, wi_SealedProcesses_Ends, ⟨by decide, by decide⟩, fun sig h => by cases h; rfl, by decide, wt0 1405 (by decide +kernel) rfl, Or.inr ⟨_, rfl⟩⟩
set_option maxRecDepth 100000 in
theorem wc_X4_stateOf : tbw (cwd 45) := wt0 1409 (by decide +kernel) rfl
set_option maxRecDepth 100000 in
theorem mw_X11_217 : clw RX11 45 217 1 (.methodLinkNest RX11 217 (yy 45) "SealedProcesses") := ⟨rfl, wc_X4_stateOf, wi_SealedProcesses_Ends, ⟨by decide, by decide⟩, fun sig h => by cases h; rfl, by decide, wt0 1406 (by decide +kernel) rfl, Or.inr ⟨_, rfl⟩⟩
set_option maxRecDepth 100000 in
theorem wm_X4_stateOf : tbw (.instanceMethod (yy 45)) := wt0 1408 (by decide +kernel) rfl
set_option maxRecDepth 100000 in
theorem wse_X4_stateOf : tbw (.selects RX4 (yy 45) (yy 45)) := wp0 171 (by decide +kernel) rfl
set_option maxRecDepth 100000 in
theorem wc_X4_ownerOf : tbw (cwd 46) := wt0 1413 (by decide +kernel) rfl
set_option maxRecDepth 100000 in
theorem mw_X11_220 : clw RX11 46 220 1 (.methodLinkNest RX11 220 (yy 46) "SealedProcesses") := ⟨rfl, wc_X4_ownerOf, wi_SealedProcesses_Ends, ⟨by decide, by decide⟩, fun sig h => by cases h; rfl, by decide, wt0 1410 (by decide +kernel) rfl, Or.inr ⟨_, rfl⟩⟩
set_option maxRecDepth 100000 in
theorem wm_X4_ownerOf : tbw (.instanceMethod (yy 46)) := wt0 1412 (by decide +kernel) rfl
set_option maxRecDepth 100000 in
theorem wse_X4_ownerOf : tbw (.selects RX4 (yy 46) (yy 46)) := wp0 172 (by decide +kernel) rfl
set_option maxRecDepth 100000 in
theorem mw_X11_221 : clw RX11 48 221 1 (.methodLinkNest RX11 221 (yy 48) "SealedProcesses") := ⟨rfl, wc_X4_waitingFor, wi_SealedProcesses_Ends, ⟨by decide, by decide⟩, fun sig h => by cases h; rfl, by decide, wt0 1414 (by decide +kernel) rfl, Or.inr ⟨_, rfl⟩⟩
set_option maxRecDepth 100000 in
theorem fw_X11_224 : fdw RX11 6 6 224 15 RX5 TX5 (.fieldLinkNest RX11 224 RX5 (TX5 6).2.1 (TX5 6).2.2.1 "SealedProcesses") := ⟨rfl, by decide, rfl, by decide, rfl, cw_X5, wt0 249 (by decide +kernel) rfl, Or.inr ⟨_, rfl⟩⟩
set_option maxRecDepth 100000 in
theorem fw_X11_227 : fdw RX11 6 7 227 15 RX5 TX5 (.fieldLinkNest RX11 227 RX5 (TX5 7).2.1 (TX5 7).2.2.1 "SealedProcesses") := ⟨rfl, by decide, rfl, by decide, rfl, cw_X5, wt0 251 (by decide +kernel) rfl, Or.inr ⟨_, rfl⟩⟩
set_option maxRecDepth 100000 in
theorem fw_X11_230 : fdw RX11 2 4 230 6 RX1 TX1 (.fieldLinkNest RX11 230 RX1 (TX1 4).2.1 (TX1 4).2.2.1 "SealedProcesses") := ⟨rfl, by decide, rfl, by decide, rfl, cw_X1, wt0 51 (by decide +kernel) rfl, Or.inr ⟨_, rfl⟩⟩
set_option maxRecDepth 100000 in
theorem fw_X11_235 : fdw RX11 2 5 235 6 RX1 TX1 (.fieldLinkNest RX11 235 RX1 (TX1 5).2.1 (TX1 5).2.2.1 "SealedProcesses") := ⟨rfl, by decide, rfl, by decide, rfl, cw_X1, wt0 53 (by decide +kernel) rfl, Or.inr ⟨_, rfl⟩⟩
set_option maxRecDepth 100000 in
theorem wc_X8_function : tbw (cwd 120) := wt0 1370 (by decide +kernel) rfl
set_option maxRecDepth 100000 in
theorem mw_X11_238 : clw RX11 120 238 0 (.methodLinkNest RX11 238 (yy 120) "SealedProcesses") := ⟨rfl, wc_X8_function, wi_SealedProcesses_Task, ⟨by decide, by decide⟩, fun sig h => by cases h; rfl, by decide, wt0 1367 (by decide +kernel) rfl, Or.inr ⟨_, rfl⟩⟩
set_option maxRecDepth 100000 in
theorem wm_X8_function : tbw (.instanceMethod (yy 120)) := wt0 1369 (by decide +kernel) rfl
set_option maxRecDepth 100000 in
theorem wse_X8_function : tbw (.selects RX8 (yy 120) (yy 120)) := wp0 166 (by decide +kernel) rfl
set_option maxRecDepth 100000 in
theorem mw_X11_241 : clw RX11 123 241 0 (.methodLinkNest RX11 241 (yy 123) "SealedProcesses") := ⟨rfl, wc_X8_place, wi_SealedProcesses_Task, ⟨by decide, by decide⟩, fun sig h => by cases h; rfl, by decide, wt0 1371 (by decide +kernel) rfl, Or.inr ⟨_, rfl⟩⟩
set_option maxRecDepth 100000 in
theorem fw_X11_243 : fdw RX11 9 7 243 17 RX8 TX8 (.fieldLinkNest RX11 243 RX8 (TX8 7).2.1 (TX8 7).2.2.1 "SealedProcesses") := ⟨rfl, by decide, rfl, by decide, rfl, cw_X8, wt0 936 (by decide +kernel) rfl, Or.inr ⟨_, rfl⟩⟩
set_option maxRecDepth 100000 in
theorem wc_X5_reachedBy : tbw (cwd 71) := wt0 1376 (by decide +kernel) rfl
set_option maxRecDepth 100000 in
theorem mw_X11_246 : clw RX11 71 246 1 (.methodLinkNest RX11 246 (yy 71) "SealedProcesses") := ⟨rfl, wc_X5_reachedBy, wi_SealedProcesses_Machine, ⟨by decide, by decide⟩, fun sig h => by cases h; rfl, by decide, wt0 1373 (by decide +kernel) rfl, Or.inr ⟨_, rfl⟩⟩
set_option maxRecDepth 100000 in
theorem wm_X5_reachedBy : tbw (.instanceMethod (yy 71)) := wt0 1375 (by decide +kernel) rfl
set_option maxRecDepth 100000 in
theorem wse_X5_reachedBy : tbw (.selects RX5 (yy 71) (yy 71)) := wp0 167 (by decide +kernel) rfl
set_option maxRecDepth 100000 in
theorem fw_X11_250 : fdw RX11 8 0 250 10 RX7 TX7 (.fieldLinkNest RX11 250 RX7 (TX7 0).2.1 (TX7 0).2.2.1 "SealedProcesses") := ⟨rfl, by decide, rfl, by decide, rfl, cw_X7, wt0 529 (by decide +kernel) rfl, Or.inr ⟨_, rfl⟩⟩
set_option maxRecDepth 100000 in
theorem fw_X11_253 : fdw RX11 8 4 253 10 RX7 TX7 (.fieldLinkNest RX11 253 RX7 (TX7 4).2.1 (TX7 4).2.2.1 "SealedProcesses") := ⟨rfl, by decide, rfl, by decide, rfl, cw_X7, wt0 542 (by decide +kernel) rfl, Or.inr ⟨_, rfl⟩⟩
set_option maxRecDepth 100000 in
theorem fw_X11_254 : fdw RX11 8 5 254 10 RX7 TX7 (.fieldLinkNest RX11 254 RX7 (TX7 5).2.1 (TX7 5).2.2.1 "SealedProcesses") := ⟨rfl, by decide, rfl, by decide, rfl, cw_X7, wt0 547 (by decide +kernel) rfl, Or.inr ⟨_, rfl⟩⟩
set_option maxRecDepth 100000 in
theorem fw_X11_256 : fdw RX11 8 6 256 10 RX7 TX7 (.fieldLinkNest RX11 256 RX7 (TX7 6).2.1 (TX7 6).2.2.1 "SealedProcesses") := ⟨rfl, by decide, rfl, by decide, rfl, cw_X7, wt0 549 (by decide +kernel) rfl, Or.inr ⟨_, rfl⟩⟩
set_option maxRecDepth 100000 in
theorem mw_X11_259 : clw RX11 212 259 1 (.methodLink RX11 259 (yy 212)) := ⟨rfl, wc_X11_isPointer, wi_SealedProcesses, ⟨by decide, by decide⟩, fun sig h => by cases h; rfl, by decide, wt0 702 (by decide +kernel) rfl, Or.inl rfl⟩
set_option maxRecDepth 100000 in
theorem wq_X12_1 : tbw (.methodLink RX12 1 Lib.objectInit) := wt0 1424 (by decide +kernel) rfl
set_option maxRecDepth 100000 in
theorem wa_byte : tbw (.arrayClass .byte) := wt0 1486 (by decide +kernel) rfl
set_option maxRecDepth 100000 in
theorem fw_X12_7 : fdw RX12 13 1 7 90 RX12 TX12 (.fieldLink RX12 7 RX12 (TX12 1).2.1 (TX12 1).2.2.1) := ⟨rfl, by decide, rfl, by decide, rfl, cw_X12, wt0 1488 (by decide +kernel) rfl, Or.inl rfl⟩
set_option maxRecDepth 100000 in
theorem fw_X12_13 : fdw RX12 13 3 13 90 RX12 TX12 (.fieldLink RX12 13 RX12 (TX12 3).2.1 (TX12 3).2.2.1) := ⟨rfl, by decide, rfl, by decide, rfl, cw_X12, wt0 1490 (by decide +kernel) rfl, Or.inl rfl⟩
set_option maxRecDepth 100000 in
theorem fw_X12_16 : fdw RX12 13 4 16 90 RX12 TX12 (.fieldLink RX12 16 RX12 (TX12 4).2.1 (TX12 4).2.2.1) := ⟨rfl, by decide, rfl, by decide, rfl, cw_X12, wt0 1491 (by decide +kernel) rfl, Or.inl rfl⟩
set_option maxRecDepth 100000 in
theorem fw_X12_20 : fdw RX12 13 5 20 90 RX12 TX12 (.fieldLink RX12 20 RX12 (TX12 5).2.1 (TX12 5).2.2.1) := ⟨rfl, by decide, rfl, by decide, rfl, cw_X12, wt0 1492 (by decide +kernel) rfl, Or.inl rfl⟩
set_option maxRecDepth 100000 in
theorem fw_X12_23 : fdw RX12 13 6 23 90 RX12 TX12 (.fieldLink RX12 23 RX12 (TX12 6).2.1 (TX12 6).2.2.1) := ⟨rfl, by decide, rfl, by decide, rfl, cw_X12, wt0 1493 (by decide +kernel) rfl, Or.inl rfl⟩
set_option maxRecDepth 100000 in
theorem fw_X12_26 : fdw RX12 13 7 26 90 RX12 TX12 (.fieldLink RX12 26 RX12 (TX12 7).2.1 (TX12 7).2.2.1) := ⟨rfl, by decide, rfl, by decide, rfl, cw_X12, wt0 1494 (by decide +kernel) rfl, Or.inl rfl⟩
set_option maxRecDepth 100000 in
theorem fw_X12_29 : fdw RX12 13 8 29 90 RX12 TX12 (.fieldLink RX12 29 RX12 (TX12 8).2.1 (TX12 8).2.2.1) := ⟨rfl, by decide, rfl, by decide, rfl, cw_X12, wt0 1495 (by decide +kernel) rfl, Or.inl rfl⟩
set_option maxRecDepth 100000 in
theorem fw_X12_33 : fdw RX12 13 9 33 90 RX12 TX12 (.fieldLink RX12 33 RX12 (TX12 9).2.1 (TX12 9).2.2.1) := ⟨rfl, by decide, rfl, by decide, rfl, cw_X12, wt0 1496 (by decide +kernel) rfl, Or.inl rfl⟩
set_option maxRecDepth 100000 in
theorem fw_X12_36 : fdw RX12 13 10 36 90 RX12 TX12 (.fieldLink RX12 36 RX12 (TX12 10).2.1 (TX12 10).2.2.1) := ⟨rfl, by decide, rfl, by decide, rfl, cw_X12, wt0 1497 (by decide +kernel) rfl, Or.inl rfl⟩
set_option maxRecDepth 100000 in
theorem fw_X12_39 : fdw RX12 13 11 39 90 RX12 TX12 (.fieldLink RX12 39 RX12 (TX12 11).2.1 (TX12 11).2.2.1) := ⟨rfl, by decide, rfl, by decide, rfl, cw_X12, wt0 1498 (by decide +kernel) rfl, Or.inl rfl⟩
set_option maxRecDepth 100000 in
theorem fw_X12_42 : fdw RX12 13 12 42 90 RX12 TX12 (.fieldLink RX12 42 RX12 (TX12 12).2.1 (TX12 12).2.2.1) := ⟨rfl, by decide, rfl, by decide, rfl, cw_X12, wt0 1499 (by decide +kernel) rfl, Or.inl rfl⟩
set_option maxRecDepth 100000 in
theorem fw_X12_45 : fdw RX12 13 13 45 90 RX12 TX12 (.fieldLink RX12 45 RX12 (TX12 13).2.1 (TX12 13).2.2.1) := ⟨rfl, by decide, rfl, by decide, rfl, cw_X12, wt0 1500 (by decide +kernel) rfl, Or.inl rfl⟩
set_option maxRecDepth 100000 in
theorem fw_X12_48 : fdw RX12 13 14 48 90 RX12 TX12 (.fieldLink RX12 48 RX12 (TX12 14).2.1 (TX12 14).2.2.1) := ⟨rfl, by decide, rfl, by decide, rfl, cw_X12, wt0 1501 (by decide +kernel) rfl, Or.inl rfl⟩
set_option maxRecDepth 100000 in
theorem fw_X12_51 : fdw RX12 13 15 51 90 RX12 TX12 (.fieldLink RX12 51 RX12 (TX12 15).2.1 (TX12 15).2.2.1) := ⟨rfl, by decide, rfl, by decide, rfl, cw_X12, wt0 1502 (by decide +kernel) rfl, Or.inl rfl⟩
set_option maxRecDepth 100000 in
theorem fw_X12_54 : fdw RX12 13 16 54 90 RX12 TX12 (.fieldLink RX12 54 RX12 (TX12 16).2.1 (TX12 16).2.2.1) := ⟨rfl, by decide, rfl, by decide, rfl, cw_X12, wt0 1503 (by decide +kernel) rfl, Or.inl rfl⟩
set_option maxRecDepth 100000 in
theorem fw_X12_57 : fdw RX12 13 17 57 90 RX12 TX12 (.fieldLink RX12 57 RX12 (TX12 17).2.1 (TX12 17).2.2.1) := ⟨rfl, by decide, rfl, by decide, rfl, cw_X12, wt0 1504 (by decide +kernel) rfl, Or.inl rfl⟩
set_option maxRecDepth 100000 in
theorem fw_X12_60 : fdw RX12 13 18 60 90 RX12 TX12 (.fieldLink RX12 60 RX12 (TX12 18).2.1 (TX12 18).2.2.1) := ⟨rfl, by decide, rfl, by decide, rfl, cw_X12, wt0 1505 (by decide +kernel) rfl, Or.inl rfl⟩
set_option maxRecDepth 100000 in
theorem fw_X12_63 : fdw RX12 13 19 63 90 RX12 TX12 (.fieldLink RX12 63 RX12 (TX12 19).2.1 (TX12 19).2.2.1) := ⟨rfl, by decide, rfl, by decide, rfl, cw_X12, wt0 1506 (by decide +kernel) rfl, Or.inl rfl⟩
set_option maxRecDepth 100000 in
theorem fw_X12_66 : fdw RX12 13 20 66 90 RX12 TX12 (.fieldLink RX12 66 RX12 (TX12 20).2.1 (TX12 20).2.2.1) := ⟨rfl, by decide, rfl, by decide, rfl, cw_X12, wt0 1507 (by decide +kernel) rfl, Or.inl rfl⟩
set_option maxRecDepth 100000 in
theorem fw_X12_69 : fdw RX12 13 21 69 90 RX12 TX12 (.fieldLink RX12 69 RX12 (TX12 21).2.1 (TX12 21).2.2.1) := ⟨rfl, by decide, rfl, by decide, rfl, cw_X12, wt0 1508 (by decide +kernel) rfl, Or.inl rfl⟩
set_option maxRecDepth 100000 in
theorem fw_X12_72 : fdw RX12 13 23 72 90 RX12 TX12 (.fieldLink RX12 72 RX12 (TX12 23).2.1 (TX12 23).2.2.1) := ⟨rfl, by decide, rfl, by decide, rfl, cw_X12, wt0 1510 (by decide +kernel) rfl, Or.inl rfl⟩
set_option maxRecDepth 100000 in
theorem fw_X12_79 : fdw RX12 13 25 79 90 RX12 TX12 (.fieldLink RX12 79 RX12 (TX12 25).2.1 (TX12 25).2.2.1) := ⟨rfl, by decide, rfl, by decide, rfl, cw_X12, wt0 1512 (by decide +kernel) rfl, Or.inl rfl⟩
set_option maxRecDepth 100000 in
theorem fw_X12_83 : fdw RX12 13 29 83 90 RX12 TX12 (.fieldLink RX12 83 RX12 (TX12 29).2.1 (TX12 29).2.2.1) := ⟨rfl, by decide, rfl, by decide, rfl, cw_X12, wt0 1516 (by decide +kernel) rfl, Or.inl rfl⟩
set_option maxRecDepth 100000 in
theorem fw_X12_86 : fdw RX12 13 30 86 90 RX12 TX12 (.fieldLink RX12 86 RX12 (TX12 30).2.1 (TX12 30).2.2.1) := ⟨rfl, by decide, rfl, by decide, rfl, cw_X12, wt0 1517 (by decide +kernel) rfl, Or.inl rfl⟩
set_option maxRecDepth 100000 in
theorem fw_X12_89 : fdw RX12 13 31 89 90 RX12 TX12 (.fieldLink RX12 89 RX12 (TX12 31).2.1 (TX12 31).2.2.1) := ⟨rfl, by decide, rfl, by decide, rfl, cw_X12, wt0 1518 (by decide +kernel) rfl, Or.inl rfl⟩
set_option maxRecDepth 100000 in
theorem fw_X12_92 : fdw RX12 13 32 92 90 RX12 TX12 (.fieldLink RX12 92 RX12 (TX12 32).2.1 (TX12 32).2.2.1) := ⟨rfl, by decide, rfl, by decide, rfl, cw_X12, wt0 1519 (by decide +kernel) rfl, Or.inl rfl⟩
set_option maxRecDepth 100000 in
theorem fw_X12_95 : fdw RX12 13 33 95 90 RX12 TX12 (.fieldLink RX12 95 RX12 (TX12 33).2.1 (TX12 33).2.2.1) := ⟨rfl, by decide, rfl, by decide, rfl, cw_X12, wt0 1520 (by decide +kernel) rfl, Or.inl rfl⟩
set_option maxRecDepth 100000 in
theorem fw_X12_98 : fdw RX12 13 34 98 90 RX12 TX12 (.fieldLink RX12 98 RX12 (TX12 34).2.1 (TX12 34).2.2.1) := ⟨rfl, by decide, rfl, by decide, rfl, cw_X12, wt0 1521 (by decide +kernel) rfl, Or.inl rfl⟩
set_option maxRecDepth 100000 in
theorem fw_X12_101 : fdw RX12 13 39 101 90 RX12 TX12 (.fieldLink RX12 101 RX12 (TX12 39).2.1 (TX12 39).2.2.1) := ⟨rfl, by decide, rfl, by decide, rfl, cw_X12, wt0 1526 (by decide +kernel) rfl, Or.inl rfl⟩
set_option maxRecDepth 100000 in
theorem fw_X12_104 : fdw RX12 13 40 104 90 RX12 TX12 (.fieldLink RX12 104 RX12 (TX12 40).2.1 (TX12 40).2.2.1) := ⟨rfl, by decide, rfl, by decide, rfl, cw_X12, wt0 1527 (by decide +kernel) rfl, Or.inl rfl⟩
set_option maxRecDepth 100000 in
theorem fw_X12_107 : fdw RX12 13 41 107 90 RX12 TX12 (.fieldLink RX12 107 RX12 (TX12 41).2.1 (TX12 41).2.2.1) := ⟨rfl, by decide, rfl, by decide, rfl, cw_X12, wt0 1528 (by decide +kernel) rfl, Or.inl rfl⟩
set_option maxRecDepth 100000 in
theorem fw_X12_110 : fdw RX12 13 42 110 90 RX12 TX12 (.fieldLink RX12 110 RX12 (TX12 42).2.1 (TX12 42).2.2.1) := ⟨rfl, by decide, rfl, by decide, rfl, cw_X12, wt0 1529 (by decide +kernel) rfl, Or.inl rfl⟩
set_option maxRecDepth 100000 in
theorem fw_X12_113 : fdw RX12 13 43 113 90 RX12 TX12 (.fieldLink RX12 113 RX12 (TX12 43).2.1 (TX12 43).2.2.1) := ⟨rfl, by decide, rfl, by decide, rfl, cw_X12, wt0 1530 (by decide +kernel) rfl, Or.inl rfl⟩
set_option maxRecDepth 100000 in
theorem fw_X12_116 : fdw RX12 13 44 116 90 RX12 TX12 (.fieldLink RX12 116 RX12 (TX12 44).2.1 (TX12 44).2.2.1) := ⟨rfl, by decide, rfl, by decide, rfl, cw_X12, wt0 1531 (by decide +kernel) rfl, Or.inl rfl⟩
set_option maxRecDepth 100000 in
theorem fw_X12_119 : fdw RX12 13 45 119 90 RX12 TX12 (.fieldLink RX12 119 RX12 (TX12 45).2.1 (TX12 45).2.2.1) := ⟨rfl, by decide, rfl, by decide, rfl, cw_X12, wt0 1532 (by decide +kernel) rfl, Or.inl rfl⟩
set_option maxRecDepth 100000 in
theorem fw_X12_122 : fdw RX12 13 46 122 90 RX12 TX12 (.fieldLink RX12 122 RX12 (TX12 46).2.1 (TX12 46).2.2.1) := ⟨rfl, by decide, rfl, by decide, rfl, cw_X12, wt0 1533 (by decide +kernel) rfl, Or.inl rfl⟩
set_option maxRecDepth 100000 in
theorem fw_X12_125 : fdw RX12 13 47 125 90 RX12 TX12 (.fieldLink RX12 125 RX12 (TX12 47).2.1 (TX12 47).2.2.1) := ⟨rfl, by decide, rfl, by decide, rfl, cw_X12, wt0 1534 (by decide +kernel) rfl, Or.inl rfl⟩
set_option maxRecDepth 100000 in
theorem fw_X12_128 : fdw RX12 13 50 128 90 RX12 TX12 (.fieldLink RX12 128 RX12 (TX12 50).2.1 (TX12 50).2.2.1) := ⟨rfl, by decide, rfl, by decide, rfl, cw_X12, wt0 1537 (by decide +kernel) rfl, Or.inl rfl⟩
set_option maxRecDepth 100000 in
theorem fw_X12_131 : fdw RX12 13 57 131 90 RX12 TX12 (.fieldLink RX12 131 RX12 (TX12 57).2.1 (TX12 57).2.2.1) := ⟨rfl, by decide, rfl, by decide, rfl, cw_X12, wt0 1544 (by decide +kernel) rfl, Or.inl rfl⟩
set_option maxRecDepth 100000 in
theorem fw_X12_134 : fdw RX12 13 58 134 90 RX12 TX12 (.fieldLink RX12 134 RX12 (TX12 58).2.1 (TX12 58).2.2.1) := ⟨rfl, by decide, rfl, by decide, rfl, cw_X12, wt0 1545 (by decide +kernel) rfl, Or.inl rfl⟩
set_option maxRecDepth 100000 in
theorem fw_X12_137 : fdw RX12 13 59 137 90 RX12 TX12 (.fieldLink RX12 137 RX12 (TX12 59).2.1 (TX12 59).2.2.1) := ⟨rfl, by decide, rfl, by decide, rfl, cw_X12, wt0 1546 (by decide +kernel) rfl, Or.inl rfl⟩
set_option maxRecDepth 100000 in
theorem fw_X12_140 : fdw RX12 13 60 140 90 RX12 TX12 (.fieldLink RX12 140 RX12 (TX12 60).2.1 (TX12 60).2.2.1) := ⟨rfl, by decide, rfl, by decide, rfl, cw_X12, wt0 1547 (by decide +kernel) rfl, Or.inl rfl⟩
set_option maxRecDepth 100000 in
theorem fw_X12_143 : fdw RX12 13 61 143 90 RX12 TX12 (.fieldLink RX12 143 RX12 (TX12 61).2.1 (TX12 61).2.2.1) := ⟨rfl, by decide, rfl, by decide, rfl, cw_X12, wt0 1548 (by decide +kernel) rfl, Or.inl rfl⟩
set_option maxRecDepth 100000 in
theorem fw_X12_146 : fdw RX12 13 62 146 90 RX12 TX12 (.fieldLink RX12 146 RX12 (TX12 62).2.1 (TX12 62).2.2.1) := ⟨rfl, by decide, rfl, by decide, rfl, cw_X12, wt0 1549 (by decide +kernel) rfl, Or.inl rfl⟩
set_option maxRecDepth 100000 in
theorem fw_X12_149 : fdw RX12 13 63 149 90 RX12 TX12 (.fieldLink RX12 149 RX12 (TX12 63).2.1 (TX12 63).2.2.1) := ⟨rfl, by decide, rfl, by decide, rfl, cw_X12, wt0 1550 (by decide +kernel) rfl, Or.inl rfl⟩
set_option maxRecDepth 100000 in
theorem fw_X12_152 : fdw RX12 13 64 152 90 RX12 TX12 (.fieldLink RX12 152 RX12 (TX12 64).2.1 (TX12 64).2.2.1) := ⟨rfl, by decide, rfl, by decide, rfl, cw_X12, wt0 1551 (by decide +kernel) rfl, Or.inl rfl⟩
set_option maxRecDepth 100000 in
theorem fw_X12_155 : fdw RX12 13 65 155 90 RX12 TX12 (.fieldLink RX12 155 RX12 (TX12 65).2.1 (TX12 65).2.2.1) := ⟨rfl, by decide, rfl, by decide, rfl, cw_X12, wt0 1552 (by decide +kernel) rfl, Or.inl rfl⟩
set_option maxRecDepth 100000 in
theorem fw_X12_158 : fdw RX12 13 66 158 90 RX12 TX12 (.fieldLink RX12 158 RX12 (TX12 66).2.1 (TX12 66).2.2.1) := ⟨rfl, by decide, rfl, by decide, rfl, cw_X12, wt0 1553 (by decide +kernel) rfl, Or.inl rfl⟩
set_option maxRecDepth 100000 in
theorem fw_X12_161 : fdw RX12 13 67 161 90 RX12 TX12 (.fieldLink RX12 161 RX12 (TX12 67).2.1 (TX12 67).2.2.1) := ⟨rfl, by decide, rfl, by decide, rfl, cw_X12, wt0 1554 (by decide +kernel) rfl, Or.inl rfl⟩
set_option maxRecDepth 100000 in
theorem fw_X12_164 : fdw RX12 13 68 164 90 RX12 TX12 (.fieldLink RX12 164 RX12 (TX12 68).2.1 (TX12 68).2.2.1) := ⟨rfl, by decide, rfl, by decide, rfl, cw_X12, wt0 1555 (by decide +kernel) rfl, Or.inl rfl⟩
set_option maxRecDepth 100000 in
theorem fw_X12_167 : fdw RX12 13 69 167 90 RX12 TX12 (.fieldLink RX12 167 RX12 (TX12 69).2.1 (TX12 69).2.2.1) := ⟨rfl, by decide, rfl, by decide, rfl, cw_X12, wt0 1556 (by decide +kernel) rfl, Or.inl rfl⟩
set_option maxRecDepth 100000 in
theorem fw_X12_170 : fdw RX12 13 70 170 90 RX12 TX12 (.fieldLink RX12 170 RX12 (TX12 70).2.1 (TX12 70).2.2.1) := ⟨rfl, by decide, rfl, by decide, rfl, cw_X12, wt0 1557 (by decide +kernel) rfl, Or.inl rfl⟩
set_option maxRecDepth 100000 in
theorem fw_X12_173 : fdw RX12 13 71 173 90 RX12 TX12 (.fieldLink RX12 173 RX12 (TX12 71).2.1 (TX12 71).2.2.1) := ⟨rfl, by decide, rfl, by decide, rfl, cw_X12, wt0 1558 (by decide +kernel) rfl, Or.inl rfl⟩
set_option maxRecDepth 100000 in
theorem fw_X12_176 : fdw RX12 13 72 176 90 RX12 TX12 (.fieldLink RX12 176 RX12 (TX12 72).2.1 (TX12 72).2.2.1) := ⟨rfl, by decide, rfl, by decide, rfl, cw_X12, wt0 1559 (by decide +kernel) rfl, Or.inl rfl⟩
set_option maxRecDepth 100000 in
theorem fw_X12_179 : fdw RX12 13 73 179 90 RX12 TX12 (.fieldLink RX12 179 RX12 (TX12 73).2.1 (TX12 73).2.2.1) := ⟨rfl, by decide, rfl, by decide, rfl, cw_X12, wt0 1560 (by decide +kernel) rfl, Or.inl rfl⟩
set_option maxRecDepth 100000 in
theorem fw_X12_182 : fdw RX12 13 74 182 90 RX12 TX12 (.fieldLink RX12 182 RX12 (TX12 74).2.1 (TX12 74).2.2.1) := ⟨rfl, by decide, rfl, by decide, rfl, cw_X12, wt0 1561 (by decide +kernel) rfl, Or.inl rfl⟩
set_option maxRecDepth 100000 in
theorem fw_X12_185 : fdw RX12 13 75 185 90 RX12 TX12 (.fieldLink RX12 185 RX12 (TX12 75).2.1 (TX12 75).2.2.1) := ⟨rfl, by decide, rfl, by decide, rfl, cw_X12, wt0 1562 (by decide +kernel) rfl, Or.inl rfl⟩
set_option maxRecDepth 100000 in
theorem fw_X12_188 : fdw RX12 13 76 188 90 RX12 TX12 (.fieldLink RX12 188 RX12 (TX12 76).2.1 (TX12 76).2.2.1) := ⟨rfl, by decide, rfl, by decide, rfl, cw_X12, wt0 1563 (by decide +kernel) rfl, Or.inl rfl⟩
set_option maxRecDepth 100000 in
theorem fw_X12_191 : fdw RX12 13 77 191 90 RX12 TX12 (.fieldLink RX12 191 RX12 (TX12 77).2.1 (TX12 77).2.2.1) := ⟨rfl, by decide, rfl, by decide, rfl, cw_X12, wt0 1564 (by decide +kernel) rfl, Or.inl rfl⟩
set_option maxRecDepth 100000 in
theorem fw_X12_194 : fdw RX12 13 78 194 90 RX12 TX12 (.fieldLink RX12 194 RX12 (TX12 78).2.1 (TX12 78).2.2.1) := ⟨rfl, by decide, rfl, by decide, rfl, cw_X12, wt0 1565 (by decide +kernel) rfl, Or.inl rfl⟩
set_option maxRecDepth 100000 in
theorem fw_X12_197 : fdw RX12 13 79 197 90 RX12 TX12 (.fieldLink RX12 197 RX12 (TX12 79).2.1 (TX12 79).2.2.1) := ⟨rfl, by decide, rfl, by decide, rfl, cw_X12, wt0 1566 (by decide +kernel) rfl, Or.inl rfl⟩
set_option maxRecDepth 100000 in
theorem fw_X12_200 : fdw RX12 13 80 200 90 RX12 TX12 (.fieldLink RX12 200 RX12 (TX12 80).2.1 (TX12 80).2.2.1) := ⟨rfl, by decide, rfl, by decide, rfl, cw_X12, wt0 1567 (by decide +kernel) rfl, Or.inl rfl⟩
set_option maxRecDepth 100000 in
theorem fw_X12_203 : fdw RX12 13 81 203 90 RX12 TX12 (.fieldLink RX12 203 RX12 (TX12 81).2.1 (TX12 81).2.2.1) := ⟨rfl, by decide, rfl, by decide, rfl, cw_X12, wt0 1568 (by decide +kernel) rfl, Or.inl rfl⟩
set_option maxRecDepth 100000 in
theorem fw_X12_206 : fdw RX12 13 82 206 90 RX12 TX12 (.fieldLink RX12 206 RX12 (TX12 82).2.1 (TX12 82).2.2.1) := ⟨rfl, by decide, rfl, by decide, rfl, cw_X12, wt0 1569 (by decide +kernel) rfl, Or.inl rfl⟩
set_option maxRecDepth 100000 in
theorem fw_X12_209 : fdw RX12 13 83 209 90 RX12 TX12 (.fieldLink RX12 209 RX12 (TX12 83).2.1 (TX12 83).2.2.1) := ⟨rfl, by decide, rfl, by decide, rfl, cw_X12, wt0 1570 (by decide +kernel) rfl, Or.inl rfl⟩
set_option maxRecDepth 100000 in
theorem fw_X12_212 : fdw RX12 13 84 212 90 RX12 TX12 (.fieldLink RX12 212 RX12 (TX12 84).2.1 (TX12 84).2.2.1) := ⟨rfl, by decide, rfl, by decide, rfl, cw_X12, wt0 1571 (by decide +kernel) rfl, Or.inl rfl⟩
set_option maxRecDepth 100000 in
theorem fw_X12_215 : fdw RX12 13 85 215 90 RX12 TX12 (.fieldLink RX12 215 RX12 (TX12 85).2.1 (TX12 85).2.2.1) := ⟨rfl, by decide, rfl, by decide, rfl, cw_X12, wt0 1572 (by decide +kernel) rfl, Or.inl rfl⟩
set_option maxRecDepth 100000 in
theorem fw_X12_218 : fdw RX12 13 86 218 90 RX12 TX12 (.fieldLink RX12 218 RX12 (TX12 86).2.1 (TX12 86).2.2.1) := ⟨rfl, by decide, rfl, by decide, rfl, cw_X12, wt0 1573 (by decide +kernel) rfl, Or.inl rfl⟩
set_option maxRecDepth 100000 in
theorem fw_X12_221 : fdw RX12 13 87 221 90 RX12 TX12 (.fieldLink RX12 221 RX12 (TX12 87).2.1 (TX12 87).2.2.1) := ⟨rfl, by decide, rfl, by decide, rfl, cw_X12, wt0 1574 (by decide +kernel) rfl, Or.inl rfl⟩
set_option maxRecDepth 100000 in
theorem fw_X12_224 : fdw RX12 13 88 224 90 RX12 TX12 (.fieldLink RX12 224 RX12 (TX12 88).2.1 (TX12 88).2.2.1) := ⟨rfl, by decide, rfl, by decide, rfl, cw_X12, wt0 1575 (by decide +kernel) rfl, Or.inl rfl⟩
set_option maxRecDepth 100000 in
theorem fw_X12_227 : fdw RX12 13 0 227 90 RX12 TX12 (.fieldLink RX12 227 RX12 (TX12 0).2.1 (TX12 0).2.2.1) := ⟨rfl, by decide, rfl, by decide, rfl, cw_X12, wt0 1487 (by decide +kernel) rfl, Or.inl rfl⟩
set_option maxRecDepth 100000 in
theorem fw_X12_230 : fdw RX12 13 2 230 90 RX12 TX12 (.fieldLink RX12 230 RX12 (TX12 2).2.1 (TX12 2).2.2.1) := ⟨rfl, by decide, rfl, by decide, rfl, cw_X12, wt0 1489 (by decide +kernel) rfl, Or.inl rfl⟩
set_option maxRecDepth 100000 in
theorem fw_X12_233 : fdw RX12 13 22 233 90 RX12 TX12 (.fieldLink RX12 233 RX12 (TX12 22).2.1 (TX12 22).2.2.1) := ⟨rfl, by decide, rfl, by decide, rfl, cw_X12, wt0 1509 (by decide +kernel) rfl, Or.inl rfl⟩
set_option maxRecDepth 100000 in
theorem fw_X12_236 : fdw RX12 13 24 236 90 RX12 TX12 (.fieldLink RX12 236 RX12 (TX12 24).2.1 (TX12 24).2.2.1) := ⟨rfl, by decide, rfl, by decide, rfl, cw_X12, wt0 1511 (by decide +kernel) rfl, Or.inl rfl⟩
set_option maxRecDepth 100000 in
theorem fw_X12_240 : fdw RX12 13 27 240 90 RX12 TX12 (.fieldLink RX12 240 RX12 (TX12 27).2.1 (TX12 27).2.2.1) := ⟨rfl, by decide, rfl, by decide, rfl, cw_X12, wt0 1514 (by decide +kernel) rfl, Or.inl rfl⟩
set_option maxRecDepth 100000 in
theorem fw_X12_243 : fdw RX12 13 26 243 90 RX12 TX12 (.fieldLink RX12 243 RX12 (TX12 26).2.1 (TX12 26).2.2.1) := ⟨rfl, by decide, rfl, by decide, rfl, cw_X12, wt0 1513 (by decide +kernel) rfl, Or.inl rfl⟩
set_option maxRecDepth 100000 in
theorem wc_X12_byteAt : tbw (cwd 220) := wt0 1789 (by decide +kernel) rfl
set_option maxRecDepth 100000 in
theorem wi_SealedProcessesModel : tbw (.initialized RX12) := wt0 9 (by decide +kernel) rfl
set_option maxRecDepth 100000 in
theorem mw_X12_246 : clw RX12 220 246 2 (.methodLink RX12 246 (yy 220)) := ⟨rfl, wc_X12_byteAt, wi_SealedProcessesModel, ⟨by decide, by decide⟩, fun sig h => by cases h; rfl, by decide, wt0 1786 (by decide +kernel) rfl, Or.inl rfl⟩
set_option maxRecDepth 100000 in
theorem wm_X12_byteAt : tbw (.instanceMethod (yy 220)) := wt0 1788 (by decide +kernel) rfl
set_option maxRecDepth 100000 in
theorem wse_X12_byteAt : tbw (.selects RX12 (yy 220) (yy 220)) := wp0 178 (by decide +kernel) rfl
set_option maxRecDepth 100000 in
theorem wc_X12_fails : tbw (cwd 218) := wt0 1793 (by decide +kernel) rfl
set_option maxRecDepth 100000 in
theorem mw_X12_250 : clw RX12 218 250 2 (.methodLink RX12 250 (yy 218)) := ⟨rfl, wc_X12_fails, wi_SealedProcessesModel, ⟨by decide, by decide⟩, fun sig h => by cases h; rfl, by decide, wt0 1790 (by decide +kernel) rfl, Or.inl rfl⟩
set_option maxRecDepth 100000 in
theorem wm_X12_fails : tbw (.instanceMethod (yy 218)) := wt0 1792 (by decide +kernel) rfl
set_option maxRecDepth 100000 in
theorem wse_X12_fails : tbw (.selects RX12 (yy 218) (yy 218)) := wp0 179 (by decide +kernel) rfl
set_option maxRecDepth 100000 in
theorem wc_X12_number : tbw (cwd 221) := wt0 1785 (by decide +kernel) rfl
set_option maxRecDepth 100000 in
theorem mw_X12_254 : clw RX12 221 254 2 (.methodLink RX12 254 (yy 221)) := ⟨rfl, wc_X12_number, wi_SealedProcessesModel, ⟨by decide, by decide⟩, fun sig h => by cases h; rfl, by decide, wt0 1782 (by decide +kernel) rfl, Or.inl rfl⟩
set_option maxRecDepth 100000 in
theorem wm_X12_number : tbw (.instanceMethod (yy 221)) := wt0 1784 (by decide +kernel) rfl
set_option maxRecDepth 100000 in
theorem wse_X12_number : tbw (.selects RX12 (yy 221) (yy 221)) := wp0 177 (by decide +kernel) rfl
set_option maxRecDepth 100000 in
theorem wk_X12_257 : tbw (.constant RX12 257 (Int32.ofInt 524288)) := wt0 1798 (by decide +kernel) rfl
set_option maxRecDepth 100000 in
theorem wc_X12_kind : tbw (cwd 224) := wt0 1867 (by decide +kernel) rfl
set_option maxRecDepth 100000 in
theorem mw_X12_258 : clw RX12 224 258 1 (.methodLink RX12 258 (yy 224)) := ⟨rfl, wc_X12_kind, wi_SealedProcessesModel, ⟨by decide, by decide⟩, fun sig h => by cases h; rfl, by decide, wt0 1865 (by decide +kernel) rfl, Or.inl rfl⟩
set_option maxRecDepth 100000 in
theorem wt_X12_kind : tbw (.static (yy 224)) := wt0 1866 (by decide +kernel) rfl
set_option maxRecDepth 100000 in
theorem wc_X12_must : tbw (cwd 222) := wt0 1781 (by decide +kernel) rfl
set_option maxRecDepth 100000 in
theorem mw_X12_262 : clw RX12 222 262 1 (.methodLink RX12 262 (yy 222)) := ⟨rfl, wc_X12_must, wi_SealedProcessesModel, ⟨by decide, by decide⟩, fun sig h => by cases h; rfl, by decide, wt0 1778 (by decide +kernel) rfl, Or.inl rfl⟩
set_option maxRecDepth 100000 in
theorem wm_X12_must : tbw (.instanceMethod (yy 222)) := wt0 1780 (by decide +kernel) rfl
set_option maxRecDepth 100000 in
theorem wse_X12_must : tbw (.selects RX12 (yy 222) (yy 222)) := wp0 176 (by decide +kernel) rfl
set_option maxRecDepth 100000 in
theorem wc_X12_type : tbw (cwd 223) := wt0 1797 (by decide +kernel) rfl
set_option maxRecDepth 100000 in
theorem mw_X12_266 : clw RX12 223 266 2 (.methodLink RX12 266 (yy 223)) := ⟨rfl, wc_X12_type, wi_SealedProcessesModel, ⟨by decide, by decide⟩, fun sig h => by cases h; rfl, by decide, wt0 1794 (by decide +kernel) rfl, Or.inl rfl⟩
set_option maxRecDepth 100000 in
theorem wm_X12_type : tbw (.instanceMethod (yy 223)) := wt0 1796 (by decide +kernel) rfl
set_option maxRecDepth 100000 in
theorem wse_X12_type : tbw (.selects RX12 (yy 223) (yy 223)) := wp0 180 (by decide +kernel) rfl
set_option maxRecDepth 100000 in
theorem wc_X12_contract : tbw (cwd 231) := wt0 1802 (by decide +kernel) rfl
set_option maxRecDepth 100000 in
theorem mw_X12_270 : clw RX12 231 270 1 (.methodLink RX12 270 (yy 231)) := ⟨rfl, wc_X12_contract, wi_SealedProcessesModel, ⟨by decide, by decide⟩, fun sig h => by cases h; rfl, by decide, wt0 1799 (by decide +kernel) rfl, Or.inl rfl⟩
set_option maxRecDepth 100000 in
theorem wm_X12_contract : tbw (.instanceMethod (yy 231)) := wt0 1801 (by decide +kernel) rfl
set_option maxRecDepth 100000 in
theorem wse_X12_contract : tbw (.selects RX12 (yy 231) (yy 231)) := wp0 181 (by decide +kernel) rfl
set_option maxRecDepth 100000 in
theorem wc_X12_functionText : tbw (cwd 232) := wt0 1806 (by decide +kernel) rfl
set_option maxRecDepth 100000 in
theorem mw_X12_273 : clw RX12 232 273 1 (.methodLink RX12 273 (yy 232)) := ⟨rfl, wc_X12_functionText, wi_SealedProcessesModel, ⟨by decide, by decide⟩, fun sig h => by cases h; rfl, by decide, wt0 1803 (by decide +kernel) rfl, Or.inl rfl⟩
set_option maxRecDepth 100000 in
theorem wm_X12_functionText : tbw (.instanceMethod (yy 232)) := wt0 1805 (by decide +kernel) rfl
set_option maxRecDepth 100000 in
theorem wse_X12_functionText : tbw (.selects RX12 (yy 232) (yy 232)) := wp0 182 (by decide +kernel) rfl
set_option maxRecDepth 100000 in
theorem wc_X12_instruction : tbw (cwd 234) := wt0 1810 (by decide +kernel) rfl
set_option maxRecDepth 100000 in
theorem mw_X12_276 : clw RX12 234 276 2 (.methodLink RX12 276 (yy 234)) := ⟨rfl, wc_X12_instruction, wi_SealedProcessesModel, ⟨by decide, by decide⟩, fun sig h => by cases h; rfl, by decide, wt0 1807 (by decide +kernel) rfl, Or.inl rfl⟩
set_option maxRecDepth 100000 in
theorem wm_X12_instruction : tbw (.instanceMethod (yy 234)) := wt0 1809 (by decide +kernel) rfl
set_option maxRecDepth 100000 in
theorem wse_X12_instruction : tbw (.selects RX12 (yy 234) (yy 234)) := wp0 183 (by decide +kernel) rfl
set_option maxRecDepth 100000 in
theorem wc_X12_part : tbw (cwd 233) := wt0 1814 (by decide +kernel) rfl
set_option maxRecDepth 100000 in
theorem mw_X12_279 : clw RX12 233 279 3 (.methodLink RX12 279 (yy 233)) := ⟨rfl, wc_X12_part, wi_SealedProcessesModel, ⟨by decide, by decide⟩, fun sig h => by cases h; rfl, by decide, wt0 1811 (by decide +kernel) rfl, Or.inl rfl⟩
set_option maxRecDepth 100000 in
theorem wm_X12_part : tbw (.instanceMethod (yy 233)) := wt0 1813 (by decide +kernel) rfl
set_option maxRecDepth 100000 in
theorem wse_X12_part : tbw (.selects RX12 (yy 233) (yy 233)) := wp0 184 (by decide +kernel) rfl
set_option maxRecDepth 100000 in
theorem wc_X12_noLocal : tbw (cwd 235) := wt0 1818 (by decide +kernel) rfl
set_option maxRecDepth 100000 in
theorem mw_X12_283 : clw RX12 235 283 1 (.methodLink RX12 283 (yy 235)) := ⟨rfl, wc_X12_noLocal, wi_SealedProcessesModel, ⟨by decide, by decide⟩, fun sig h => by cases h; rfl, by decide, wt0 1815 (by decide +kernel) rfl, Or.inl rfl⟩
set_option maxRecDepth 100000 in
theorem wm_X12_noLocal : tbw (.instanceMethod (yy 235)) := wt0 1817 (by decide +kernel) rfl
set_option maxRecDepth 100000 in
theorem wse_X12_noLocal : tbw (.selects RX12 (yy 235) (yy 235)) := wp0 185 (by decide +kernel) rfl
set_option maxRecDepth 100000 in
theorem fw_X12_286 : fdw RX12 13 28 286 90 RX12 TX12 (.fieldLink RX12 286 RX12 (TX12 28).2.1 (TX12 28).2.2.1) := ⟨rfl, by decide, rfl, by decide, rfl, cw_X12, wt0 1515 (by decide +kernel) rfl, Or.inl rfl⟩
set_option maxRecDepth 100000 in
theorem wc_X12_isPlain : tbw (cwd 238) := wt0 1830 (by decide +kernel) rfl
set_option maxRecDepth 100000 in
theorem mw_X12_289 : clw RX12 238 289 2 (.methodLink RX12 289 (yy 238)) := ⟨rfl, wc_X12_isPlain, wi_SealedProcessesModel, ⟨by decide, by decide⟩, fun sig h => by cases h; rfl, by decide, wt0 1827 (by decide +kernel) rfl, Or.inl rfl⟩
set_option maxRecDepth 100000 in
theorem wm_X12_isPlain : tbw (.instanceMethod (yy 238)) := wt0 1829 (by decide +kernel) rfl
set_option maxRecDepth 100000 in
theorem wse_X12_isPlain : tbw (.selects RX12 (yy 238) (yy 238)) := wp0 188 (by decide +kernel) rfl
set_option maxRecDepth 100000 in
theorem wc_X12_missing : tbw (cwd 236) := wt0 1834 (by decide +kernel) rfl
set_option maxRecDepth 100000 in
theorem mw_X12_293 : clw RX12 236 293 1 (.methodLink RX12 293 (yy 236)) := ⟨rfl, wc_X12_missing, wi_SealedProcessesModel, ⟨by decide, by decide⟩, fun sig h => by cases h; rfl, by decide, wt0 1831 (by decide +kernel) rfl, Or.inl rfl⟩
set_option maxRecDepth 100000 in
theorem wm_X12_missing : tbw (.instanceMethod (yy 236)) := wt0 1833 (by decide +kernel) rfl
set_option maxRecDepth 100000 in
theorem wse_X12_missing : tbw (.selects RX12 (yy 236) (yy 236)) := wp0 189 (by decide +kernel) rfl
set_option maxRecDepth 100000 in
theorem wc_X12_names : tbw (cwd 237) := wt0 1826 (by decide +kernel) rfl
set_option maxRecDepth 100000 in
theorem mw_X12_296 : clw RX12 237 296 2 (.methodLink RX12 296 (yy 237)) := ⟨rfl, wc_X12_names, wi_SealedProcessesModel, ⟨by decide, by decide⟩, fun sig h => by cases h; rfl, by decide, wt0 1823 (by decide +kernel) rfl, Or.inl rfl⟩
set_option maxRecDepth 100000 in
theorem wm_X12_names : tbw (.instanceMethod (yy 237)) := wt0 1825 (by decide +kernel) rfl
set_option maxRecDepth 100000 in
theorem wse_X12_names : tbw (.selects RX12 (yy 237) (yy 237)) := wp0 187 (by decide +kernel) rfl
set_option maxRecDepth 100000 in
theorem wc_X12_looksAtCode : tbw (cwd 242) := wt0 1838 (by decide +kernel) rfl
set_option maxRecDepth 100000 in
theorem mw_X12_299 : clw RX12 242 299 2 (.methodLink RX12 299 (yy 242)) := ⟨rfl, wc_X12_looksAtCode, wi_SealedProcessesModel, ⟨by decide, by decide⟩, fun sig h => by cases h; rfl, by decide, wt0 1835 (by decide +kernel) rfl, Or.inl rfl⟩
set_option maxRecDepth 100000 in
theorem wm_X12_looksAtCode : tbw (.instanceMethod (yy 242)) := wt0 1837 (by decide +kernel) rfl
set_option maxRecDepth 100000 in
theorem wse_X12_looksAtCode : tbw (.selects RX12 (yy 242) (yy 242)) := wp0 190 (by decide +kernel) rfl
set_option maxRecDepth 100000 in
theorem wc_X12_length : tbw (cwd 240) := wt0 1846 (by decide +kernel) rfl
set_option maxRecDepth 100000 in
theorem mw_X12_302 : clw RX12 240 302 2 (.methodLink RX12 302 (yy 240)) := ⟨rfl, wc_X12_length, wi_SealedProcessesModel, ⟨by decide, by decide⟩, fun sig h => by cases h; rfl, by decide, wt0 1843 (by decide +kernel) rfl, Or.inl rfl⟩
set_option maxRecDepth 100000 in
theorem wm_X12_length : tbw (.instanceMethod (yy 240)) := wt0 1845 (by decide +kernel) rfl
set_option maxRecDepth 100000 in
theorem wse_X12_length : tbw (.selects RX12 (yy 240) (yy 240)) := wp0 192 (by decide +kernel) rfl
set_option maxRecDepth 100000 in
theorem wc_X12_begins : tbw (cwd 241) := wt0 1842 (by decide +kernel) rfl
set_option maxRecDepth 100000 in
theorem mw_X12_305 : clw RX12 241 305 3 (.methodLink RX12 305 (yy 241)) := ⟨rfl, wc_X12_begins, wi_SealedProcessesModel, ⟨by decide, by decide⟩, fun sig h => by cases h; rfl, by decide, wt0 1839 (by decide +kernel) rfl, Or.inl rfl⟩
set_option maxRecDepth 100000 in
theorem wm_X12_begins : tbw (.instanceMethod (yy 241)) := wt0 1841 (by decide +kernel) rfl
set_option maxRecDepth 100000 in
theorem wse_X12_begins : tbw (.selects RX12 (yy 241) (yy 241)) := wp0 191 (by decide +kernel) rfl
set_option maxRecDepth 100000 in
theorem fw_X12_309 : fdw RX12 13 36 309 90 RX12 TX12 (.fieldLink RX12 309 RX12 (TX12 36).2.1 (TX12 36).2.2.1) := ⟨rfl, by decide, rfl, by decide, rfl, cw_X12, wt0 1523 (by decide +kernel) rfl, Or.inl rfl⟩
set_option maxRecDepth 100000 in
theorem fw_X12_312 : fdw RX12 13 37 312 90 RX12 TX12 (.fieldLink RX12 312 RX12 (TX12 37).2.1 (TX12 37).2.2.1) := ⟨rfl, by decide, rfl, by decide, rfl, cw_X12, wt0 1524 (by decide +kernel) rfl, Or.inl rfl⟩
set_option maxRecDepth 100000 in
theorem fw_X12_315 : fdw RX12 13 35 315 90 RX12 TX12 (.fieldLink RX12 315 RX12 (TX12 35).2.1 (TX12 35).2.2.1) := ⟨rfl, by decide, rfl, by decide, rfl, cw_X12, wt0 1522 (by decide +kernel) rfl, Or.inl rfl⟩
set_option maxRecDepth 100000 in
theorem wc_X12_flow : tbw (cwd 245) := wt0 1854 (by decide +kernel) rfl
set_option maxRecDepth 100000 in
theorem mw_X12_318 : clw RX12 245 318 2 (.methodLink RX12 318 (yy 245)) := ⟨rfl, wc_X12_flow, wi_SealedProcessesModel, ⟨by decide, by decide⟩, fun sig h => by cases h; rfl, by decide, wt0 1851 (by decide +kernel) rfl, Or.inl rfl⟩
set_option maxRecDepth 100000 in
theorem wm_X12_flow : tbw (.instanceMethod (yy 245)) := wt0 1853 (by decide +kernel) rfl
set_option maxRecDepth 100000 in
theorem wse_X12_flow : tbw (.selects RX12 (yy 245) (yy 245)) := wp0 194 (by decide +kernel) rfl
set_option maxRecDepth 100000 in
theorem wc_X12_step : tbw (cwd 253) := wt0 1874 (by decide +kernel) rfl
set_option maxRecDepth 100000 in
theorem mw_X12_321 : clw RX12 253 321 3 (.methodLink RX12 321 (yy 253)) := ⟨rfl, wc_X12_step, wi_SealedProcessesModel, ⟨by decide, by decide⟩, fun sig h => by cases h; rfl, by decide, wt0 1871 (by decide +kernel) rfl, Or.inl rfl⟩
set_option maxRecDepth 100000 in
theorem wm_X12_step : tbw (.instanceMethod (yy 253)) := wt0 1873 (by decide +kernel) rfl
set_option maxRecDepth 100000 in
theorem wse_X12_step : tbw (.selects RX12 (yy 253) (yy 253)) := wp0 196 (by decide +kernel) rfl
set_option maxRecDepth 100000 in
theorem wc_X12_wants : tbw (cwd 244) := wt0 1858 (by decide +kernel) rfl
set_option maxRecDepth 100000 in
theorem mw_X12_325 : clw RX12 244 325 1 (.methodLink RX12 325 (yy 244)) := ⟨rfl, wc_X12_wants, wi_SealedProcessesModel, ⟨by decide, by decide⟩, fun sig h => by cases h; rfl, by decide, wt0 1855 (by decide +kernel) rfl, Or.inl rfl⟩
set_option maxRecDepth 100000 in
theorem wm_X12_wants : tbw (.instanceMethod (yy 244)) := wt0 1857 (by decide +kernel) rfl
set_option maxRecDepth 100000 in
theorem wse_X12_wants : tbw (.selects RX12 (yy 244) (yy 244)) := wp0 195 (by decide +kernel) rfl
set_option maxRecDepth 100000 in
theorem wc_X12_both : tbw (cwd 246) := wt0 1861 (by decide +kernel) rfl
set_option maxRecDepth 100000 in
theorem mw_X12_329 : clw RX12 246 329 2 (.methodLink RX12 329 (yy 246)) := ⟨rfl, wc_X12_both, wi_SealedProcessesModel, ⟨by decide, by decide⟩, fun sig h => by cases h; rfl, by decide, wt0 1859 (by decide +kernel) rfl, Or.inl rfl⟩
set_option maxRecDepth 100000 in
theorem wt_X12_both : tbw (.static (yy 246)) := wt0 1860 (by decide +kernel) rfl
set_option maxRecDepth 100000 in
theorem wc_X12_isLinear : tbw (cwd 228) := wt0 1870 (by decide +kernel) rfl
set_option maxRecDepth 100000 in
theorem mw_X12_332 : clw RX12 228 332 1 (.methodLink RX12 332 (yy 228)) := ⟨rfl, wc_X12_isLinear, wi_SealedProcessesModel, ⟨by decide, by decide⟩, fun sig h => by cases h; rfl, by decide, wt0 1868 (by decide +kernel) rfl, Or.inl rfl⟩
set_option maxRecDepth 100000 in
theorem wt_X12_isLinear : tbw (.static (yy 228)) := wt0 1869 (by decide +kernel) rfl
set_option maxRecDepth 100000 in
theorem wc_X12_isHeap : tbw (cwd 229) := wt0 1864 (by decide +kernel) rfl
set_option maxRecDepth 100000 in
theorem mw_X12_336 : clw RX12 229 336 1 (.methodLink RX12 336 (yy 229)) := ⟨rfl, wc_X12_isHeap, wi_SealedProcessesModel, ⟨by decide, by decide⟩, fun sig h => by cases h; rfl, by decide, wt0 1862 (by decide +kernel) rfl, Or.inl rfl⟩
set_option maxRecDepth 100000 in
theorem wt_X12_isHeap : tbw (.static (yy 229)) := wt0 1863 (by decide +kernel) rfl
set_option maxRecDepth 100000 in
theorem wc_X12_pop : tbw (cwd 247) := wt0 1886 (by decide +kernel) rfl
set_option maxRecDepth 100000 in
theorem mw_X12_339 : clw RX12 247 339 0 (.methodLink RX12 339 (yy 247)) := ⟨rfl, wc_X12_pop, wi_SealedProcessesModel, ⟨by decide, by decide⟩, fun sig h => by cases h; rfl, by decide, wt0 1883 (by decide +kernel) rfl, Or.inl rfl⟩
set_option maxRecDepth 100000 in
theorem wm_X12_pop : tbw (.instanceMethod (yy 247)) := wt0 1885 (by decide +kernel) rfl
set_option maxRecDepth 100000 in
theorem wse_X12_pop : tbw (.selects RX12 (yy 247) (yy 247)) := wp0 199 (by decide +kernel) rfl
set_option maxRecDepth 100000 in
theorem fw_X12_343 : fdw RX12 13 38 343 90 RX12 TX12 (.fieldLink RX12 343 RX12 (TX12 38).2.1 (TX12 38).2.2.1) := ⟨rfl, by decide, rfl, by decide, rfl, cw_X12, wt0 1525 (by decide +kernel) rfl, Or.inl rfl⟩
set_option maxRecDepth 100000 in
theorem wc_X12_receives : tbw (cwd 263) := wt0 1878 (by decide +kernel) rfl
set_option maxRecDepth 100000 in
theorem mw_X12_346 : clw RX12 263 346 4 (.methodLink RX12 346 (yy 263)) := ⟨rfl, wc_X12_receives, wi_SealedProcessesModel, ⟨by decide, by decide⟩, fun sig h => by cases h; rfl, by decide, wt0 1875 (by decide +kernel) rfl, Or.inl rfl⟩
set_option maxRecDepth 100000 in
theorem wm_X12_receives : tbw (.instanceMethod (yy 263)) := wt0 1877 (by decide +kernel) rfl
set_option maxRecDepth 100000 in
theorem wse_X12_receives : tbw (.selects RX12 (yy 263) (yy 263)) := wp0 197 (by decide +kernel) rfl
set_option maxRecDepth 100000 in
theorem wc_X12_plain : tbw (cwd 254) := wt0 1910 (by decide +kernel) rfl
set_option maxRecDepth 100000 in
theorem mw_X12_350 : clw RX12 254 350 2 (.methodLink RX12 350 (yy 254)) := ⟨rfl, wc_X12_plain, wi_SealedProcessesModel, ⟨by decide, by decide⟩, fun sig h => by cases h; rfl, by decide, wt0 1907 (by decide +kernel) rfl, Or.inl rfl⟩
set_option maxRecDepth 100000 in
theorem wm_X12_plain : tbw (.instanceMethod (yy 254)) := wt0 1909 (by decide +kernel) rfl
set_option maxRecDepth 100000 in
theorem wse_X12_plain : tbw (.selects RX12 (yy 254) (yy 254)) := wp0 201 (by decide +kernel) rfl
set_option maxRecDepth 100000 in
theorem wc_X12_heaps : tbw (cwd 255) := wt0 1918 (by decide +kernel) rfl
set_option maxRecDepth 100000 in
theorem mw_X12_353 : clw RX12 255 353 4 (.methodLink RX12 353 (yy 255)) := ⟨rfl, wc_X12_heaps, wi_SealedProcessesModel, ⟨by decide, by decide⟩, fun sig h => by cases h; rfl, by decide, wt0 1915 (by decide +kernel) rfl, Or.inl rfl⟩
set_option maxRecDepth 100000 in
theorem wm_X12_heaps : tbw (.instanceMethod (yy 255)) := wt0 1917 (by decide +kernel) rfl
set_option maxRecDepth 100000 in
theorem wse_X12_heaps : tbw (.selects RX12 (yy 255) (yy 255)) := wp0 203 (by decide +kernel) rfl
set_option maxRecDepth 100000 in
theorem wc_X12_linear : tbw (cwd 258) := wt0 1938 (by decide +kernel) rfl
set_option maxRecDepth 100000 in
theorem mw_X12_356 : clw RX12 258 356 4 (.methodLink RX12 356 (yy 258)) := ⟨rfl, wc_X12_linear, wi_SealedProcessesModel, ⟨by decide, by decide⟩, fun sig h => by cases h; rfl, by decide, wt0 1935 (by decide +kernel) rfl, Or.inl rfl⟩
set_option maxRecDepth 100000 in
theorem wm_X12_linear : tbw (.instanceMethod (yy 258)) := wt0 1937 (by decide +kernel) rfl
set_option maxRecDepth 100000 in
theorem wse_X12_linear : tbw (.selects RX12 (yy 258) (yy 258)) := wp0 208 (by decide +kernel) rfl
set_option maxRecDepth 100000 in
theorem wc_X12_push : tbw (cwd 248) := wt0 1906 (by decide +kernel) rfl
set_option maxRecDepth 100000 in
theorem mw_X12_359 : clw RX12 248 359 1 (.methodLink RX12 359 (yy 248)) := ⟨rfl, wc_X12_push, wi_SealedProcessesModel, ⟨by decide, by decide⟩, fun sig h => by cases h; rfl, by decide, wt0 1903 (by decide +kernel) rfl, Or.inl rfl⟩
set_option maxRecDepth 100000 in
theorem wm_X12_push : tbw (.instanceMethod (yy 248)) := wt0 1905 (by decide +kernel) rfl
set_option maxRecDepth 100000 in
theorem wse_X12_push : tbw (.selects RX12 (yy 248) (yy 248)) := wp0 200 (by decide +kernel) rfl
set_option maxRecDepth 100000 in
theorem wc_X12_popFor : tbw (cwd 249) := wt0 1914 (by decide +kernel) rfl
set_option maxRecDepth 100000 in
theorem mw_X12_362 : clw RX12 249 362 1 (.methodLink RX12 362 (yy 249)) := ⟨rfl, wc_X12_popFor, wi_SealedProcessesModel, ⟨by decide, by decide⟩, fun sig h => by cases h; rfl, by decide, wt0 1911 (by decide +kernel) rfl, Or.inl rfl⟩
set_option maxRecDepth 100000 in
theorem wm_X12_popFor : tbw (.instanceMethod (yy 249)) := wt0 1913 (by decide +kernel) rfl
set_option maxRecDepth 100000 in
theorem wse_X12_popFor : tbw (.selects RX12 (yy 249) (yy 249)) := wp0 202 (by decide +kernel) rfl
set_option maxRecDepth 100000 in
theorem wc_X12_popNode : tbw (cwd 251) := wt0 1922 (by decide +kernel) rfl
set_option maxRecDepth 100000 in
theorem mw_X12_365 : clw RX12 251 365 0 (.methodLink RX12 365 (yy 251)) := ⟨rfl, wc_X12_popNode, wi_SealedProcessesModel, ⟨by decide, by decide⟩, fun sig h => by cases h; rfl, by decide, wt0 1919 (by decide +kernel) rfl, Or.inl rfl⟩
set_option maxRecDepth 100000 in
theorem wm_X12_popNode : tbw (.instanceMethod (yy 251)) := wt0 1921 (by decide +kernel) rfl
set_option maxRecDepth 100000 in
theorem wse_X12_popNode : tbw (.selects RX12 (yy 251) (yy 251)) := wp0 204 (by decide +kernel) rfl
set_option maxRecDepth 100000 in
theorem wc_X12_which : tbw (cwd 225) := wt0 1892 (by decide +kernel) rfl
set_option maxRecDepth 100000 in
theorem mw_X12_368 : clw RX12 225 368 1 (.methodLink RX12 368 (yy 225)) := ⟨rfl, wc_X12_which, wi_SealedProcessesModel, ⟨by decide, by decide⟩, fun sig h => by cases h; rfl, by decide, wt0 1890 (by decide +kernel) rfl, Or.inl rfl⟩
set_option maxRecDepth 100000 in
theorem wt_X12_which : tbw (.static (yy 225)) := wt0 1891 (by decide +kernel) rfl
set_option maxRecDepth 100000 in
theorem wc_X12_fits : tbw (cwd 256) := wt0 1926 (by decide +kernel) rfl
set_option maxRecDepth 100000 in
theorem mw_X12_371 : clw RX12 256 371 2 (.methodLink RX12 371 (yy 256)) := ⟨rfl, wc_X12_fits, wi_SealedProcessesModel, ⟨by decide, by decide⟩, fun sig h => by cases h; rfl, by decide, wt0 1923 (by decide +kernel) rfl, Or.inl rfl⟩
set_option maxRecDepth 100000 in
theorem wm_X12_fits : tbw (.instanceMethod (yy 256)) := wt0 1925 (by decide +kernel) rfl
set_option maxRecDepth 100000 in
theorem wse_X12_fits : tbw (.selects RX12 (yy 256) (yy 256)) := wp0 205 (by decide +kernel) rfl
set_option maxRecDepth 100000 in
theorem wc_X12_popRow : tbw (cwd 252) := wt0 1930 (by decide +kernel) rfl
set_option maxRecDepth 100000 in
theorem mw_X12_374 : clw RX12 252 374 0 (.methodLink RX12 374 (yy 252)) := ⟨rfl, wc_X12_popRow, wi_SealedProcessesModel, ⟨by decide, by decide⟩, fun sig h => by cases h; rfl, by decide, wt0 1927 (by decide +kernel) rfl, Or.inl rfl⟩
set_option maxRecDepth 100000 in
theorem wm_X12_popRow : tbw (.instanceMethod (yy 252)) := wt0 1929 (by decide +kernel) rfl
set_option maxRecDepth 100000 in
theorem wse_X12_popRow : tbw (.selects RX12 (yy 252) (yy 252)) := wp0 206 (by decide +kernel) rfl
set_option maxRecDepth 100000 in
theorem wc_X12_takes : tbw (cwd 257) := wt0 1934 (by decide +kernel) rfl
set_option maxRecDepth 100000 in
theorem mw_X12_377 : clw RX12 257 377 1 (.methodLink RX12 377 (yy 257)) := ⟨rfl, wc_X12_takes, wi_SealedProcessesModel, ⟨by decide, by decide⟩, fun sig h => by cases h; rfl, by decide, wt0 1931 (by decide +kernel) rfl, Or.inl rfl⟩
set_option maxRecDepth 100000 in
theorem wm_X12_takes : tbw (.instanceMethod (yy 257)) := wt0 1933 (by decide +kernel) rfl
set_option maxRecDepth 100000 in
theorem wse_X12_takes : tbw (.selects RX12 (yy 257) (yy 257)) := wp0 207 (by decide +kernel) rfl
set_option maxRecDepth 100000 in
theorem wc_X12_popKind : tbw (cwd 250) := wt0 1882 (by decide +kernel) rfl
set_option maxRecDepth 100000 in
theorem mw_X12_380 : clw RX12 250 380 1 (.methodLink RX12 380 (yy 250)) := ⟨rfl, wc_X12_popKind, wi_SealedProcessesModel, ⟨by decide, by decide⟩, fun sig h => by cases h; rfl, by decide, wt0 1879 (by decide +kernel) rfl, Or.inl rfl⟩
set_option maxRecDepth 100000 in
theorem wm_X12_popKind : tbw (.instanceMethod (yy 250)) := wt0 1881 (by decide +kernel) rfl
set_option maxRecDepth 100000 in
theorem wse_X12_popKind : tbw (.selects RX12 (yy 250) (yy 250)) := wp0 198 (by decide +kernel) rfl
set_option maxRecDepth 100000 in
theorem wc_X12_sends : tbw (cwd 260) := wt0 1942 (by decide +kernel) rfl
set_option maxRecDepth 100000 in
theorem mw_X12_383 : clw RX12 260 383 2 (.methodLink RX12 383 (yy 260)) := ⟨rfl, wc_X12_sends, wi_SealedProcessesModel, ⟨by decide, by decide⟩, fun sig h => by cases h; rfl, by decide, wt0 1939 (by decide +kernel) rfl, Or.inl rfl⟩
set_option maxRecDepth 100000 in
theorem wm_X12_sends : tbw (.instanceMethod (yy 260)) := wt0 1941 (by decide +kernel) rfl
set_option maxRecDepth 100000 in
theorem wse_X12_sends : tbw (.selects RX12 (yy 260) (yy 260)) := wp0 209 (by decide +kernel) rfl
set_option maxRecDepth 100000 in
theorem wc_X12_state : tbw (cwd 226) := wt0 1895 (by decide +kernel) rfl
set_option maxRecDepth 100000 in
theorem mw_X12_386 : clw RX12 226 386 1 (.methodLink RX12 386 (yy 226)) := ⟨rfl, wc_X12_state, wi_SealedProcessesModel, ⟨by decide, by decide⟩, fun sig h => by cases h; rfl, by decide, wt0 1893 (by decide +kernel) rfl, Or.inl rfl⟩
set_option maxRecDepth 100000 in
theorem wt_X12_state : tbw (.static (yy 226)) := wt0 1894 (by decide +kernel) rfl
set_option maxRecDepth 100000 in
theorem wk_X12_389 : tbw (.constant RX12 389 (Int32.ofInt (-522241))) := wt0 1902 (by decide +kernel) rfl
set_option maxRecDepth 100000 in
theorem wc_X12_isTurn : tbw (cwd 262) := wt0 1946 (by decide +kernel) rfl
set_option maxRecDepth 100000 in
theorem mw_X12_390 : clw RX12 262 390 3 (.methodLink RX12 390 (yy 262)) := ⟨rfl, wc_X12_isTurn, wi_SealedProcessesModel, ⟨by decide, by decide⟩, fun sig h => by cases h; rfl, by decide, wt0 1943 (by decide +kernel) rfl, Or.inl rfl⟩
set_option maxRecDepth 100000 in
theorem wm_X12_isTurn : tbw (.instanceMethod (yy 262)) := wt0 1945 (by decide +kernel) rfl
set_option maxRecDepth 100000 in
theorem wse_X12_isTurn : tbw (.selects RX12 (yy 262) (yy 262)) := wp0 210 (by decide +kernel) rfl
set_option maxRecDepth 100000 in
theorem wc_X12_stateOf : tbw (cwd 261) := wt0 1889 (by decide +kernel) rfl
set_option maxRecDepth 100000 in
theorem mw_X12_393 : clw RX12 261 393 2 (.methodLink RX12 393 (yy 261)) := ⟨rfl, wc_X12_stateOf, wi_SealedProcessesModel, ⟨by decide, by decide⟩, fun sig h => by cases h; rfl, by decide, wt0 1887 (by decide +kernel) rfl, Or.inl rfl⟩
set_option maxRecDepth 100000 in
theorem wt_X12_stateOf : tbw (.static (yy 261)) := wt0 1888 (by decide +kernel) rfl
set_option maxRecDepth 100000 in
theorem wc_X12_inState : tbw (cwd 259) := wt0 1901 (by decide +kernel) rfl
set_option maxRecDepth 100000 in
theorem mw_X12_396 : clw RX12 259 396 2 (.methodLink RX12 396 (yy 259)) := ⟨rfl, wc_X12_inState, wi_SealedProcessesModel, ⟨by decide, by decide⟩, fun sig h => by cases h; rfl, by decide, wt0 1899 (by decide +kernel) rfl, Or.inl rfl⟩
set_option maxRecDepth 100000 in
theorem wt_X12_inState : tbw (.static (yy 259)) := wt0 1900 (by decide +kernel) rfl
set_option maxRecDepth 100000 in
theorem wc_X12_side : tbw (cwd 227) := wt0 1898 (by decide +kernel) rfl
set_option maxRecDepth 100000 in
theorem mw_X12_399 : clw RX12 227 399 1 (.methodLink RX12 399 (yy 227)) := ⟨rfl, wc_X12_side, wi_SealedProcessesModel, ⟨by decide, by decide⟩, fun sig h => by cases h; rfl, by decide, wt0 1896 (by decide +kernel) rfl, Or.inl rfl⟩
set_option maxRecDepth 100000 in
theorem wt_X12_side : tbw (.static (yy 227)) := wt0 1897 (by decide +kernel) rfl
set_option maxRecDepth 100000 in
theorem wc_X12_take : tbw (cwd 265) := wt0 1773 (by decide +kernel) rfl
set_option maxRecDepth 100000 in
theorem mw_X12_402 : clw RX12 265 402 1 (.methodLink RX12 402 (yy 265)) := ⟨rfl, wc_X12_take, wi_SealedProcessesModel, ⟨by decide, by decide⟩, fun sig h => by cases h; rfl, by decide, wt0 1770 (by decide +kernel) rfl, Or.inl rfl⟩
set_option maxRecDepth 100000 in
theorem wm_X12_take : tbw (.instanceMethod (yy 265)) := wt0 1772 (by decide +kernel) rfl
set_option maxRecDepth 100000 in
theorem wse_X12_take : tbw (.selects RX12 (yy 265) (yy 265)) := wp0 174 (by decide +kernel) rfl
set_option maxRecDepth 100000 in
theorem wc_X12_module : tbw (cwd 230) := wt0 1777 (by decide +kernel) rfl
set_option maxRecDepth 100000 in
theorem mw_X12_405 : clw RX12 230 405 0 (.methodLink RX12 405 (yy 230)) := ⟨rfl, wc_X12_module, wi_SealedProcessesModel, ⟨by decide, by decide⟩, fun sig h => by cases h; rfl, by decide, wt0 1774 (by decide +kernel) rfl, Or.inl rfl⟩
set_option maxRecDepth 100000 in
theorem wm_X12_module : tbw (.instanceMethod (yy 230)) := wt0 1776 (by decide +kernel) rfl
set_option maxRecDepth 100000 in
theorem wse_X12_module : tbw (.selects RX12 (yy 230) (yy 230)) := wp0 175 (by decide +kernel) rfl
set_option maxRecDepth 100000 in
theorem wc_X12_looksAt : tbw (cwd 239) := wt0 1822 (by decide +kernel) rfl
set_option maxRecDepth 100000 in
theorem mw_X12_408 : clw RX12 239 408 1 (.methodLink RX12 408 (yy 239)) := ⟨rfl, wc_X12_looksAt, wi_SealedProcessesModel, ⟨by decide, by decide⟩, fun sig h => by cases h; rfl, by decide, wt0 1819 (by decide +kernel) rfl, Or.inl rfl⟩
set_option maxRecDepth 100000 in
theorem wm_X12_looksAt : tbw (.instanceMethod (yy 239)) := wt0 1821 (by decide +kernel) rfl
set_option maxRecDepth 100000 in
theorem wse_X12_looksAt : tbw (.selects RX12 (yy 239) (yy 239)) := wp0 186 (by decide +kernel) rfl
set_option maxRecDepth 100000 in
theorem wc_X12_right : tbw (cwd 243) := wt0 1850 (by decide +kernel) rfl
set_option maxRecDepth 100000 in
theorem mw_X12_411 : clw RX12 243 411 2 (.methodLink RX12 411 (yy 243)) := ⟨rfl, wc_X12_right, wi_SealedProcessesModel, ⟨by decide, by decide⟩, fun sig h => by cases h; rfl, by decide, wt0 1847 (by decide +kernel) rfl, Or.inl rfl⟩
set_option maxRecDepth 100000 in
theorem wm_X12_right : tbw (.instanceMethod (yy 243)) := wt0 1849 (by decide +kernel) rfl
set_option maxRecDepth 100000 in
theorem wse_X12_right : tbw (.selects RX12 (yy 243) (yy 243)) := wp0 193 (by decide +kernel) rfl
set_option maxRecDepth 100000 in
theorem wc_X12_copy : tbw (cwd 267) := wt0 1950 (by decide +kernel) rfl
set_option maxRecDepth 100000 in
theorem mw_X12_414 : clw RX12 267 414 2 (.methodLink RX12 414 (yy 267)) := ⟨rfl, wc_X12_copy, wi_SealedProcessesModel, ⟨by decide, by decide⟩, fun sig h => by cases h; rfl, by decide, wt0 1947 (by decide +kernel) rfl, Or.inl rfl⟩
set_option maxRecDepth 100000 in
theorem wm_X12_copy : tbw (.instanceMethod (yy 267)) := wt0 1949 (by decide +kernel) rfl
set_option maxRecDepth 100000 in
theorem wse_X12_copy : tbw (.selects RX12 (yy 267) (yy 267)) := wp0 211 (by decide +kernel) rfl
set_option maxRecDepth 100000 in
theorem wc_X12_move : tbw (cwd 266) := wt0 1953 (by decide +kernel) rfl
set_option maxRecDepth 100000 in
theorem mw_X12_417 : clw RX12 266 417 4 (.methodLink RX12 417 (yy 266)) := ⟨rfl, wc_X12_move, wi_SealedProcessesModel, ⟨by decide, by decide⟩, fun sig h => by cases h; rfl, by decide, wt0 1951 (by decide +kernel) rfl, Or.inl rfl⟩
set_option maxRecDepth 100000 in
theorem wt_X12_move : tbw (.static (yy 266)) := wt0 1952 (by decide +kernel) rfl
set_option maxRecDepth 100000 in
theorem wc_X12_isModule : tbw (cwd 268) := wt0 1961 (by decide +kernel) rfl
set_option maxRecDepth 100000 in
theorem mw_X12_421 : clw RX12 268 421 1 (.methodLink RX12 421 (yy 268)) := ⟨rfl, wc_X12_isModule, wi_SealedProcessesModel, ⟨by decide, by decide⟩, fun sig h => by cases h; rfl, by decide, wt0 1958 (by decide +kernel) rfl, Or.inl rfl⟩
set_option maxRecDepth 100000 in
theorem wm_X12_isModule : tbw (.instanceMethod (yy 268)) := wt0 1960 (by decide +kernel) rfl
set_option maxRecDepth 100000 in
theorem wse_X12_isModule : tbw (.selects RX12 (yy 268) (yy 268)) := wp0 212 (by decide +kernel) rfl
set_option maxRecDepth 100000 in
theorem wc_X12_highest : tbw (cwd 271) := wt0 1969 (by decide +kernel) rfl
set_option maxRecDepth 100000 in
theorem mw_X12_424 : clw RX12 271 424 2 (.methodLink RX12 424 (yy 271)) := ⟨rfl, wc_X12_highest, wi_SealedProcessesModel, ⟨by decide, by decide⟩, fun sig h => by cases h; rfl, by decide, wt0 1966 (by decide +kernel) rfl, Or.inl rfl⟩
set_option maxRecDepth 100000 in
theorem wm_X12_highest : tbw (.instanceMethod (yy 271)) := wt0 1968 (by decide +kernel) rfl
set_option maxRecDepth 100000 in
theorem wse_X12_highest : tbw (.selects RX12 (yy 271) (yy 271)) := wp0 213 (by decide +kernel) rfl
set_option maxRecDepth 100000 in
theorem wq_X12_427 : tbw (.methodLink RX12 427 Lib.Math.max.name) := wt0 1970 (by decide +kernel) rfl
set_option maxRecDepth 100000 in
theorem fw_X12_432 : fdw RX12 13 48 432 90 RX12 TX12 (.fieldLink RX12 432 RX12 (TX12 48).2.1 (TX12 48).2.2.1) := ⟨rfl, by decide, rfl, by decide, rfl, cw_X12, wt0 1535 (by decide +kernel) rfl, Or.inl rfl⟩
set_option maxRecDepth 100000 in
theorem fw_X12_435 : fdw RX12 13 49 435 90 RX12 TX12 (.fieldLink RX12 435 RX12 (TX12 49).2.1 (TX12 49).2.2.1) := ⟨rfl, by decide, rfl, by decide, rfl, cw_X12, wt0 1536 (by decide +kernel) rfl, Or.inl rfl⟩
set_option maxRecDepth 100000 in
theorem wc_X12_canBoot : tbw (cwd 274) := wt0 1986 (by decide +kernel) rfl
set_option maxRecDepth 100000 in
theorem mw_X12_438 : clw RX12 274 438 2 (.methodLink RX12 438 (yy 274)) := ⟨rfl, wc_X12_canBoot, wi_SealedProcessesModel, ⟨by decide, by decide⟩, fun sig h => by cases h; rfl, by decide, wt0 1983 (by decide +kernel) rfl, Or.inl rfl⟩
set_option maxRecDepth 100000 in
theorem wm_X12_canBoot : tbw (.instanceMethod (yy 274)) := wt0 1985 (by decide +kernel) rfl
set_option maxRecDepth 100000 in
theorem wse_X12_canBoot : tbw (.selects RX12 (yy 274) (yy 274)) := wp0 215 (by decide +kernel) rfl
set_option maxRecDepth 100000 in
theorem wc_X12_parameter : tbw (cwd 275) := wt0 1990 (by decide +kernel) rfl
set_option maxRecDepth 100000 in
theorem mw_X12_441 : clw RX12 275 441 4 (.methodLink RX12 441 (yy 275)) := ⟨rfl, wc_X12_parameter, wi_SealedProcessesModel, ⟨by decide, by decide⟩, fun sig h => by cases h; rfl, by decide, wt0 1987 (by decide +kernel) rfl, Or.inl rfl⟩
set_option maxRecDepth 100000 in
theorem wm_X12_parameter : tbw (.instanceMethod (yy 275)) := wt0 1989 (by decide +kernel) rfl
set_option maxRecDepth 100000 in
theorem wse_X12_parameter : tbw (.selects RX12 (yy 275) (yy 275)) := wp0 216 (by decide +kernel) rfl
set_option maxRecDepth 100000 in
theorem wc_X12_alike : tbw (cwd 276) := wt0 1994 (by decide +kernel) rfl
set_option maxRecDepth 100000 in
theorem mw_X12_444 : clw RX12 276 444 2 (.methodLink RX12 444 (yy 276)) := ⟨rfl, wc_X12_alike, wi_SealedProcessesModel, ⟨by decide, by decide⟩, fun sig h => by cases h; rfl, by decide, wt0 1991 (by decide +kernel) rfl, Or.inl rfl⟩
set_option maxRecDepth 100000 in
theorem wm_X12_alike : tbw (.instanceMethod (yy 276)) := wt0 1993 (by decide +kernel) rfl
set_option maxRecDepth 100000 in
theorem wse_X12_alike : tbw (.selects RX12 (yy 276) (yy 276)) := wp0 217 (by decide +kernel) rfl
set_option maxRecDepth 100000 in
theorem wc_X12_alikeLoads : tbw (cwd 277) := wt0 1998 (by decide +kernel) rfl
set_option maxRecDepth 100000 in
theorem mw_X12_447 : clw RX12 277 447 4 (.methodLink RX12 447 (yy 277)) := ⟨rfl, wc_X12_alikeLoads, wi_SealedProcessesModel, ⟨by decide, by decide⟩, fun sig h => by cases h; rfl, by decide, wt0 1995 (by decide +kernel) rfl, Or.inl rfl⟩
set_option maxRecDepth 100000 in
theorem wm_X12_alikeLoads : tbw (.instanceMethod (yy 277)) := wt0 1997 (by decide +kernel) rfl
set_option maxRecDepth 100000 in
theorem wse_X12_alikeLoads : tbw (.selects RX12 (yy 277) (yy 277)) := wp0 218 (by decide +kernel) rfl
set_option maxRecDepth 100000 in
theorem wc_X12_manifest : tbw (cwd 273) := wt0 1982 (by decide +kernel) rfl
set_option maxRecDepth 100000 in
theorem mw_X12_451 : clw RX12 273 451 0 (.methodLink RX12 451 (yy 273)) := ⟨rfl, wc_X12_manifest, wi_SealedProcessesModel, ⟨by decide, by decide⟩, fun sig h => by cases h; rfl, by decide, wt0 1979 (by decide +kernel) rfl, Or.inl rfl⟩
set_option maxRecDepth 100000 in
theorem wm_X12_manifest : tbw (.instanceMethod (yy 273)) := wt0 1981 (by decide +kernel) rfl
set_option maxRecDepth 100000 in
theorem wse_X12_manifest : tbw (.selects RX12 (yy 273) (yy 273)) := wp0 214 (by decide +kernel) rfl
set_option maxRecDepth 100000 in
theorem wc_X12_begin : tbw (cwd 279) := wt0 2002 (by decide +kernel) rfl
set_option maxRecDepth 100000 in
theorem mw_X12_454 : clw RX12 279 454 0 (.methodLink RX12 454 (yy 279)) := ⟨rfl, wc_X12_begin, wi_SealedProcessesModel, ⟨by decide, by decide⟩, fun sig h => by cases h; rfl, by decide, wt0 1999 (by decide +kernel) rfl, Or.inl rfl⟩
set_option maxRecDepth 100000 in
theorem wm_X12_begin : tbw (.instanceMethod (yy 279)) := wt0 2001 (by decide +kernel) rfl
set_option maxRecDepth 100000 in
theorem wse_X12_begin : tbw (.selects RX12 (yy 279) (yy 279)) := wp0 219 (by decide +kernel) rfl
set_option maxRecDepth 100000 in
theorem fw_X12_457 : fdw RX12 13 51 457 90 RX12 TX12 (.fieldLink RX12 457 RX12 (TX12 51).2.1 (TX12 51).2.2.1) := ⟨rfl, by decide, rfl, by decide, rfl, cw_X12, wt0 1538 (by decide +kernel) rfl, Or.inl rfl⟩
set_option maxRecDepth 100000 in
theorem fw_X12_460 : fdw RX12 13 52 460 90 RX12 TX12 (.fieldLink RX12 460 RX12 (TX12 52).2.1 (TX12 52).2.2.1) := ⟨rfl, by decide, rfl, by decide, rfl, cw_X12, wt0 1539 (by decide +kernel) rfl, Or.inl rfl⟩
set_option maxRecDepth 100000 in
theorem fw_X12_463 : fdw RX12 13 53 463 90 RX12 TX12 (.fieldLink RX12 463 RX12 (TX12 53).2.1 (TX12 53).2.2.1) := ⟨rfl, by decide, rfl, by decide, rfl, cw_X12, wt0 1540 (by decide +kernel) rfl, Or.inl rfl⟩
set_option maxRecDepth 100000 in
theorem fw_X12_466 : fdw RX12 13 54 466 90 RX12 TX12 (.fieldLink RX12 466 RX12 (TX12 54).2.1 (TX12 54).2.2.1) := ⟨rfl, by decide, rfl, by decide, rfl, cw_X12, wt0 1541 (by decide +kernel) rfl, Or.inl rfl⟩
set_option maxRecDepth 100000 in
theorem fw_X12_469 : fdw RX12 13 55 469 90 RX12 TX12 (.fieldLink RX12 469 RX12 (TX12 55).2.1 (TX12 55).2.2.1) := ⟨rfl, by decide, rfl, by decide, rfl, cw_X12, wt0 1542 (by decide +kernel) rfl, Or.inl rfl⟩
set_option maxRecDepth 100000 in
theorem fw_X12_472 : fdw RX12 13 56 472 90 RX12 TX12 (.fieldLink RX12 472 RX12 (TX12 56).2.1 (TX12 56).2.2.1) := ⟨rfl, by decide, rfl, by decide, rfl, cw_X12, wt0 1543 (by decide +kernel) rfl, Or.inl rfl⟩
set_option maxRecDepth 100000 in
theorem wc_X12_start : tbw (cwd 280) := wt0 2006 (by decide +kernel) rfl
set_option maxRecDepth 100000 in
theorem mw_X12_475 : clw RX12 280 475 4 (.methodLink RX12 475 (yy 280)) := ⟨rfl, wc_X12_start, wi_SealedProcessesModel, ⟨by decide, by decide⟩, fun sig h => by cases h; rfl, by decide, wt0 2003 (by decide +kernel) rfl, Or.inl rfl⟩
set_option maxRecDepth 100000 in
theorem wm_X12_start : tbw (.instanceMethod (yy 280)) := wt0 2005 (by decide +kernel) rfl
set_option maxRecDepth 100000 in
theorem wse_X12_start : tbw (.selects RX12 (yy 280) (yy 280)) := wp0 220 (by decide +kernel) rfl
set_option maxRecDepth 100000 in
theorem wc_X12_local : tbw (cwd 283) := wt0 2017 (by decide +kernel) rfl
set_option maxRecDepth 100000 in
theorem mw_X12_478 : clw RX12 283 478 3 (.methodLink RX12 478 (yy 283)) := ⟨rfl, wc_X12_local, wi_SealedProcessesModel, ⟨by decide, by decide⟩, fun sig h => by cases h; rfl, by decide, wt0 2015 (by decide +kernel) rfl, Or.inl rfl⟩
set_option maxRecDepth 100000 in
theorem wt_X12_local : tbw (.static (yy 283)) := wt0 2016 (by decide +kernel) rfl
set_option maxRecDepth 100000 in
theorem wc_X12_set : tbw (cwd 285) := wt0 2014 (by decide +kernel) rfl
set_option maxRecDepth 100000 in
theorem mw_X12_481 : clw RX12 285 481 3 (.methodLink RX12 481 (yy 285)) := ⟨rfl, wc_X12_set, wi_SealedProcessesModel, ⟨by decide, by decide⟩, fun sig h => by cases h; rfl, by decide, wt0 2011 (by decide +kernel) rfl, Or.inl rfl⟩
set_option maxRecDepth 100000 in
theorem wm_X12_set : tbw (.instanceMethod (yy 285)) := wt0 2013 (by decide +kernel) rfl
set_option maxRecDepth 100000 in
theorem wse_X12_set : tbw (.selects RX12 (yy 285) (yy 285)) := wp0 222 (by decide +kernel) rfl
set_option maxRecDepth 100000 in
theorem wc_X12_activate : tbw (cwd 281) := wt0 2010 (by decide +kernel) rfl
set_option maxRecDepth 100000 in
theorem mw_X12_484 : clw RX12 281 484 2 (.methodLink RX12 484 (yy 281)) := ⟨rfl, wc_X12_activate, wi_SealedProcessesModel, ⟨by decide, by decide⟩, fun sig h => by cases h; rfl, by decide, wt0 2007 (by decide +kernel) rfl, Or.inl rfl⟩
set_option maxRecDepth 100000 in
theorem wm_X12_activate : tbw (.instanceMethod (yy 281)) := wt0 2009 (by decide +kernel) rfl
set_option maxRecDepth 100000 in
theorem wse_X12_activate : tbw (.selects RX12 (yy 281) (yy 281)) := wp0 221 (by decide +kernel) rfl
set_option maxRecDepth 100000 in
theorem wc_X12_act : tbw (cwd 282) := wt0 2041 (by decide +kernel) rfl
set_option maxRecDepth 100000 in
theorem mw_X12_487 : clw RX12 282 487 1 (.methodLink RX12 487 (yy 282)) := ⟨rfl, wc_X12_act, wi_SealedProcessesModel, ⟨by decide, by decide⟩, fun sig h => by cases h; rfl, by decide, wt0 2038 (by decide +kernel) rfl, Or.inl rfl⟩
set_option maxRecDepth 100000 in
theorem wm_X12_act : tbw (.instanceMethod (yy 282)) := wt0 2040 (by decide +kernel) rfl
set_option maxRecDepth 100000 in
theorem wse_X12_act : tbw (.selects RX12 (yy 282) (yy 282)) := wp0 227 (by decide +kernel) rfl
set_option maxRecDepth 100000 in
theorem wc_X12_stack : tbw (cwd 284) := wt0 2045 (by decide +kernel) rfl
set_option maxRecDepth 100000 in
theorem mw_X12_490 : clw RX12 284 490 2 (.methodLink RX12 490 (yy 284)) := ⟨rfl, wc_X12_stack, wi_SealedProcessesModel, ⟨by decide, by decide⟩, fun sig h => by cases h; rfl, by decide, wt0 2042 (by decide +kernel) rfl, Or.inl rfl⟩
set_option maxRecDepth 100000 in
theorem wm_X12_stack : tbw (.instanceMethod (yy 284)) := wt0 2044 (by decide +kernel) rfl
set_option maxRecDepth 100000 in
theorem wse_X12_stack : tbw (.selects RX12 (yy 284) (yy 284)) := wp0 228 (by decide +kernel) rfl
set_option maxRecDepth 100000 in
theorem wc_X12_pop_ : tbw (cwd 287) := wt0 2073 (by decide +kernel) rfl
set_option maxRecDepth 100000 in
theorem mw_X12_493 : clw RX12 287 493 1 (.methodLink RX12 493 (yy 287)) := ⟨rfl, wc_X12_pop_, wi_SealedProcessesModel, ⟨by decide, by decide⟩, fun sig h => by cases h; rfl, by decide, wt0 2070 (by decide +kernel) rfl, Or.inl rfl⟩
set_option maxRecDepth 100000 in
theorem wm_X12_pop_ : tbw (.instanceMethod (yy 287)) := wt0 2072 (by decide +kernel) rfl
set_option maxRecDepth 100000 in
theorem wse_X12_pop_ : tbw (.selects RX12 (yy 287) (yy 287)) := wp0 235 (by decide +kernel) rfl
set_option maxRecDepth 100000 in
theorem wc_X12_note : tbw (cwd 290) := wt0 2112 (by decide +kernel) rfl
set_option maxRecDepth 100000 in
theorem mw_X12_495 : clw RX12 290 495 2 (.methodLink RX12 495 (yy 290)) := ⟨rfl, wc_X12_note, wi_SealedProcessesModel, ⟨by decide, by decide⟩, fun sig h => by cases h; rfl, by decide, wt0 2109 (by decide +kernel) rfl, Or.inl rfl⟩
set_option maxRecDepth 100000 in
theorem wm_X12_note : tbw (.instanceMethod (yy 290)) := wt0 2111 (by decide +kernel) rfl
set_option maxRecDepth 100000 in
theorem wse_X12_note : tbw (.selects RX12 (yy 290) (yy 290)) := wp0 244 (by decide +kernel) rfl
set_option maxRecDepth 100000 in
theorem wc_X12_reach : tbw (cwd 289) := wt0 2108 (by decide +kernel) rfl
set_option maxRecDepth 100000 in
theorem mw_X12_498 : clw RX12 289 498 1 (.methodLink RX12 498 (yy 289)) := ⟨rfl, wc_X12_reach, wi_SealedProcessesModel, ⟨by decide, by decide⟩, fun sig h => by cases h; rfl, by decide, wt0 2105 (by decide +kernel) rfl, Or.inl rfl⟩
set_option maxRecDepth 100000 in
theorem wm_X12_reach : tbw (.instanceMethod (yy 289)) := wt0 2107 (by decide +kernel) rfl
set_option maxRecDepth 100000 in
theorem wse_X12_reach : tbw (.selects RX12 (yy 289) (yy 289)) := wp0 243 (by decide +kernel) rfl
set_option maxRecDepth 100000 in
theorem wc_X12_lose : tbw (cwd 296) := wt0 2093 (by decide +kernel) rfl
set_option maxRecDepth 100000 in
theorem mw_X12_501 : clw RX12 296 501 2 (.methodLink RX12 501 (yy 296)) := ⟨rfl, wc_X12_lose, wi_SealedProcessesModel, ⟨by decide, by decide⟩, fun sig h => by cases h; rfl, by decide, wt0 2090 (by decide +kernel) rfl, Or.inl rfl⟩
set_option maxRecDepth 100000 in
theorem wm_X12_lose : tbw (.instanceMethod (yy 296)) := wt0 2092 (by decide +kernel) rfl
set_option maxRecDepth 100000 in
theorem wse_X12_lose : tbw (.selects RX12 (yy 296) (yy 296)) := wp0 240 (by decide +kernel) rfl
set_option maxRecDepth 100000 in
theorem wc_X12_close : tbw (cwd 295) := wt0 2089 (by decide +kernel) rfl
set_option maxRecDepth 100000 in
theorem mw_X12_504 : clw RX12 295 504 1 (.methodLink RX12 504 (yy 295)) := ⟨rfl, wc_X12_close, wi_SealedProcessesModel, ⟨by decide, by decide⟩, fun sig h => by cases h; rfl, by decide, wt0 2086 (by decide +kernel) rfl, Or.inl rfl⟩
set_option maxRecDepth 100000 in
theorem wm_X12_close : tbw (.instanceMethod (yy 295)) := wt0 2088 (by decide +kernel) rfl
set_option maxRecDepth 100000 in
theorem wse_X12_close : tbw (.selects RX12 (yy 295) (yy 295)) := wp0 239 (by decide +kernel) rfl
set_option maxRecDepth 100000 in
theorem wc_X12_canGo : tbw (cwd 306) := wt0 2025 (by decide +kernel) rfl
set_option maxRecDepth 100000 in
theorem mw_X12_507 : clw RX12 306 507 1 (.methodLink RX12 507 (yy 306)) := ⟨rfl, wc_X12_canGo, wi_SealedProcessesModel, ⟨by decide, by decide⟩, fun sig h => by cases h; rfl, by decide, wt0 2022 (by decide +kernel) rfl, Or.inl rfl⟩
set_option maxRecDepth 100000 in
theorem wm_X12_canGo : tbw (.instanceMethod (yy 306)) := wt0 2024 (by decide +kernel) rfl
set_option maxRecDepth 100000 in
theorem wse_X12_canGo : tbw (.selects RX12 (yy 306) (yy 306)) := wp0 223 (by decide +kernel) rfl
set_option maxRecDepth 100000 in
theorem fw_X12_510 : fdw RX12 13 89 510 90 RX12 TX12 (.fieldLink RX12 510 RX12 (TX12 89).2.1 (TX12 89).2.2.1) := ⟨rfl, by decide, rfl, by decide, rfl, cw_X12, wt0 1576 (by decide +kernel) rfl, Or.inl rfl⟩
set_option maxRecDepth 100000 in
theorem wc_X12_act1 : tbw (cwd 309) := wt0 2057 (by decide +kernel) rfl
set_option maxRecDepth 100000 in
theorem mw_X12_513 : clw RX12 309 513 1 (.methodLink RX12 513 (yy 309)) := ⟨rfl, wc_X12_act1, wi_SealedProcessesModel, ⟨by decide, by decide⟩, fun sig h => by cases h; rfl, by decide, wt0 2054 (by decide +kernel) rfl, Or.inl rfl⟩
set_option maxRecDepth 100000 in
theorem wm_X12_act1 : tbw (.instanceMethod (yy 309)) := wt0 2056 (by decide +kernel) rfl
set_option maxRecDepth 100000 in
theorem wse_X12_act1 : tbw (.selects RX12 (yy 309) (yy 309)) := wp0 231 (by decide +kernel) rfl
set_option maxRecDepth 100000 in
theorem wc_X12_nextTurn : tbw (cwd 300) := wt0 2168 (by decide +kernel) rfl
set_option maxRecDepth 100000 in
theorem mw_X12_516 : clw RX12 300 516 0 (.methodLink RX12 516 (yy 300)) := ⟨rfl, wc_X12_nextTurn, wi_SealedProcessesModel, ⟨by decide, by decide⟩, fun sig h => by cases h; rfl, by decide, wt0 2165 (by decide +kernel) rfl, Or.inl rfl⟩
set_option maxRecDepth 100000 in
theorem wm_X12_nextTurn : tbw (.instanceMethod (yy 300)) := wt0 2167 (by decide +kernel) rfl
set_option maxRecDepth 100000 in
theorem wse_X12_nextTurn : tbw (.selects RX12 (yy 300) (yy 300)) := wp0 258 (by decide +kernel) rfl
set_option maxRecDepth 100000 in
theorem wc_X12_op : tbw (cwd 303) := wt0 2029 (by decide +kernel) rfl
set_option maxRecDepth 100000 in
theorem mw_X12_519 : clw RX12 303 519 1 (.methodLink RX12 519 (yy 303)) := ⟨rfl, wc_X12_op, wi_SealedProcessesModel, ⟨by decide, by decide⟩, fun sig h => by cases h; rfl, by decide, wt0 2026 (by decide +kernel) rfl, Or.inl rfl⟩
set_option maxRecDepth 100000 in
theorem wm_X12_op : tbw (.instanceMethod (yy 303)) := wt0 2028 (by decide +kernel) rfl
set_option maxRecDepth 100000 in
theorem wse_X12_op : tbw (.selects RX12 (yy 303) (yy 303)) := wp0 224 (by decide +kernel) rfl
set_option maxRecDepth 100000 in
theorem wc_X12_function : tbw (cwd 301) := wt0 2037 (by decide +kernel) rfl
set_option maxRecDepth 100000 in
theorem mw_X12_522 : clw RX12 301 522 1 (.methodLink RX12 522 (yy 301)) := ⟨rfl, wc_X12_function, wi_SealedProcessesModel, ⟨by decide, by decide⟩, fun sig h => by cases h; rfl, by decide, wt0 2034 (by decide +kernel) rfl, Or.inl rfl⟩
set_option maxRecDepth 100000 in
theorem wm_X12_function : tbw (.instanceMethod (yy 301)) := wt0 2036 (by decide +kernel) rfl
set_option maxRecDepth 100000 in
theorem wse_X12_function : tbw (.selects RX12 (yy 301) (yy 301)) := wp0 226 (by decide +kernel) rfl
set_option maxRecDepth 100000 in
theorem wc_X12_codePlace : tbw (cwd 302) := wt0 2033 (by decide +kernel) rfl
set_option maxRecDepth 100000 in
theorem mw_X12_525 : clw RX12 302 525 1 (.methodLink RX12 525 (yy 302)) := ⟨rfl, wc_X12_codePlace, wi_SealedProcessesModel, ⟨by decide, by decide⟩, fun sig h => by cases h; rfl, by decide, wt0 2030 (by decide +kernel) rfl, Or.inl rfl⟩
set_option maxRecDepth 100000 in
theorem wm_X12_codePlace : tbw (.instanceMethod (yy 302)) := wt0 2032 (by decide +kernel) rfl
set_option maxRecDepth 100000 in
theorem wse_X12_codePlace : tbw (.selects RX12 (yy 302) (yy 302)) := wp0 225 (by decide +kernel) rfl
set_option maxRecDepth 100000 in
theorem wc_X12_part_ : tbw (cwd 304) := wt0 2049 (by decide +kernel) rfl
set_option maxRecDepth 100000 in
theorem mw_X12_528 : clw RX12 304 528 2 (.methodLink RX12 528 (yy 304)) := ⟨rfl, wc_X12_part_, wi_SealedProcessesModel, ⟨by decide, by decide⟩, fun sig h => by cases h; rfl, by decide, wt0 2046 (by decide +kernel) rfl, Or.inl rfl⟩
set_option maxRecDepth 100000 in
theorem wm_X12_part_ : tbw (.instanceMethod (yy 304)) := wt0 2048 (by decide +kernel) rfl
set_option maxRecDepth 100000 in
theorem wse_X12_part_ : tbw (.selects RX12 (yy 304) (yy 304)) := wp0 229 (by decide +kernel) rfl
set_option maxRecDepth 100000 in
theorem wc_X12_depthOfEnd : tbw (cwd 305) := wt0 2053 (by decide +kernel) rfl
set_option maxRecDepth 100000 in
theorem mw_X12_530 : clw RX12 305 530 2 (.methodLink RX12 530 (yy 305)) := ⟨rfl, wc_X12_depthOfEnd, wi_SealedProcessesModel, ⟨by decide, by decide⟩, fun sig h => by cases h; rfl, by decide, wt0 2050 (by decide +kernel) rfl, Or.inl rfl⟩
set_option maxRecDepth 100000 in
theorem wm_X12_depthOfEnd : tbw (.instanceMethod (yy 305)) := wt0 2052 (by decide +kernel) rfl
set_option maxRecDepth 100000 in
theorem wse_X12_depthOfEnd : tbw (.selects RX12 (yy 305) (yy 305)) := wp0 230 (by decide +kernel) rfl
set_option maxRecDepth 100000 in
theorem wc_X12_over : tbw (cwd 298) := wt0 2085 (by decide +kernel) rfl
set_option maxRecDepth 100000 in
theorem mw_X12_533 : clw RX12 298 533 2 (.methodLink RX12 533 (yy 298)) := ⟨rfl, wc_X12_over, wi_SealedProcessesModel, ⟨by decide, by decide⟩, fun sig h => by cases h; rfl, by decide, wt0 2082 (by decide +kernel) rfl, Or.inl rfl⟩
set_option maxRecDepth 100000 in
theorem wm_X12_over : tbw (.instanceMethod (yy 298)) := wt0 2084 (by decide +kernel) rfl
set_option maxRecDepth 100000 in
theorem wse_X12_over : tbw (.selects RX12 (yy 298) (yy 298)) := wp0 238 (by decide +kernel) rfl
set_option maxRecDepth 100000 in
theorem wc_X12_goTo : tbw (cwd 308) := wt0 2061 (by decide +kernel) rfl
set_option maxRecDepth 100000 in
theorem mw_X12_536 : clw RX12 308 536 2 (.methodLink RX12 536 (yy 308)) := ⟨rfl, wc_X12_goTo, wi_SealedProcessesModel, ⟨by decide, by decide⟩, fun sig h => by cases h; rfl, by decide, wt0 2058 (by decide +kernel) rfl, Or.inl rfl⟩
set_option maxRecDepth 100000 in
theorem wm_X12_goTo : tbw (.instanceMethod (yy 308)) := wt0 2060 (by decide +kernel) rfl
set_option maxRecDepth 100000 in
theorem wse_X12_goTo : tbw (.selects RX12 (yy 308) (yy 308)) := wp0 232 (by decide +kernel) rfl
set_option maxRecDepth 100000 in
theorem wc_X12_plainly : tbw (cwd 310) := wt0 2065 (by decide +kernel) rfl
set_option maxRecDepth 100000 in
theorem mw_X12_539 : clw RX12 310 539 4 (.methodLink RX12 539 (yy 310)) := ⟨rfl, wc_X12_plainly, wi_SealedProcessesModel, ⟨by decide, by decide⟩, fun sig h => by cases h; rfl, by decide, wt0 2062 (by decide +kernel) rfl, Or.inl rfl⟩
set_option maxRecDepth 100000 in
theorem wm_X12_plainly : tbw (.instanceMethod (yy 310)) := wt0 2064 (by decide +kernel) rfl
set_option maxRecDepth 100000 in
theorem wse_X12_plainly : tbw (.selects RX12 (yy 310) (yy 310)) := wp0 233 (by decide +kernel) rfl
set_option maxRecDepth 100000 in
theorem wc_X12_withHeap : tbw (cwd 312) := wt0 2100 (by decide +kernel) rfl
set_option maxRecDepth 100000 in
theorem mw_X12_542 : clw RX12 312 542 3 (.methodLink RX12 542 (yy 312)) := ⟨rfl, wc_X12_withHeap, wi_SealedProcessesModel, ⟨by decide, by decide⟩, fun sig h => by cases h; rfl, by decide, wt0 2097 (by decide +kernel) rfl, Or.inl rfl⟩
set_option maxRecDepth 100000 in
theorem wm_X12_withHeap : tbw (.instanceMethod (yy 312)) := wt0 2099 (by decide +kernel) rfl
set_option maxRecDepth 100000 in
theorem wse_X12_withHeap : tbw (.selects RX12 (yy 312) (yy 312)) := wp0 241 (by decide +kernel) rfl
set_option maxRecDepth 100000 in
theorem wc_X12_linearly : tbw (cwd 316) := wt0 2132 (by decide +kernel) rfl
set_option maxRecDepth 100000 in
theorem mw_X12_545 : clw RX12 316 545 4 (.methodLink RX12 545 (yy 316)) := ⟨rfl, wc_X12_linearly, wi_SealedProcessesModel, ⟨by decide, by decide⟩, fun sig h => by cases h; rfl, by decide, wt0 2129 (by decide +kernel) rfl, Or.inl rfl⟩
set_option maxRecDepth 100000 in
theorem wm_X12_linearly : tbw (.instanceMethod (yy 316)) := wt0 2131 (by decide +kernel) rfl
set_option maxRecDepth 100000 in
theorem wse_X12_linearly : tbw (.selects RX12 (yy 316) (yy 316)) := wp0 249 (by decide +kernel) rfl
set_option maxRecDepth 100000 in
theorem wc_X12_push_ : tbw (cwd 286) := wt0 2069 (by decide +kernel) rfl
set_option maxRecDepth 100000 in
theorem mw_X12_548 : clw RX12 286 548 3 (.methodLink RX12 548 (yy 286)) := ⟨rfl, wc_X12_push_, wi_SealedProcessesModel, ⟨by decide, by decide⟩, fun sig h => by cases h; rfl, by decide, wt0 2066 (by decide +kernel) rfl, Or.inl rfl⟩
set_option maxRecDepth 100000 in
theorem wm_X12_push_ : tbw (.instanceMethod (yy 286)) := wt0 2068 (by decide +kernel) rfl
set_option maxRecDepth 100000 in
theorem wse_X12_push_ : tbw (.selects RX12 (yy 286) (yy 286)) := wp0 234 (by decide +kernel) rfl
set_option maxRecDepth 100000 in
theorem wc_X12_popValue : tbw (cwd 288) := wt0 2077 (by decide +kernel) rfl
set_option maxRecDepth 100000 in
theorem mw_X12_550 : clw RX12 288 550 1 (.methodLink RX12 550 (yy 288)) := ⟨rfl, wc_X12_popValue, wi_SealedProcessesModel, ⟨by decide, by decide⟩, fun sig h => by cases h; rfl, by decide, wt0 2074 (by decide +kernel) rfl, Or.inl rfl⟩
set_option maxRecDepth 100000 in
theorem wm_X12_popValue : tbw (.instanceMethod (yy 288)) := wt0 2076 (by decide +kernel) rfl
set_option maxRecDepth 100000 in
theorem wse_X12_popValue : tbw (.selects RX12 (yy 288) (yy 288)) := wp0 236 (by decide +kernel) rfl
set_option maxRecDepth 100000 in
theorem wc_X12_trap : tbw (cwd 307) := wt0 2081 (by decide +kernel) rfl
set_option maxRecDepth 100000 in
theorem mw_X12_553 : clw RX12 307 553 2 (.methodLink RX12 553 (yy 307)) := ⟨rfl, wc_X12_trap, wi_SealedProcessesModel, ⟨by decide, by decide⟩, fun sig h => by cases h; rfl, by decide, wt0 2078 (by decide +kernel) rfl, Or.inl rfl⟩
set_option maxRecDepth 100000 in
theorem wm_X12_trap : tbw (.instanceMethod (yy 307)) := wt0 2080 (by decide +kernel) rfl
set_option maxRecDepth 100000 in
theorem wse_X12_trap : tbw (.selects RX12 (yy 307) (yy 307)) := wp0 237 (by decide +kernel) rfl
set_option maxRecDepth 100000 in
theorem wc_X12_reckon : tbw (cwd 311) := wt0 2096 (by decide +kernel) rfl
set_option maxRecDepth 100000 in
theorem mw_X12_555 : clw RX12 311 555 3 (.methodLink RX12 555 (yy 311)) := ⟨rfl, wc_X12_reckon, wi_SealedProcessesModel, ⟨by decide, by decide⟩, fun sig h => by cases h; rfl, by decide, wt0 2094 (by decide +kernel) rfl, Or.inl rfl⟩
set_option maxRecDepth 100000 in
theorem wt_X12_reckon : tbw (.static (yy 311)) := wt0 2095 (by decide +kernel) rfl
set_option maxRecDepth 100000 in
theorem wc_X12_make : tbw (cwd 291) := wt0 2104 (by decide +kernel) rfl
set_option maxRecDepth 100000 in
theorem mw_X12_558 : clw RX12 291 558 3 (.methodLink RX12 558 (yy 291)) := ⟨rfl, wc_X12_make, wi_SealedProcessesModel, ⟨by decide, by decide⟩, fun sig h => by cases h; rfl, by decide, wt0 2101 (by decide +kernel) rfl, Or.inl rfl⟩
set_option maxRecDepth 100000 in
theorem wm_X12_make : tbw (.instanceMethod (yy 291)) := wt0 2103 (by decide +kernel) rfl
set_option maxRecDepth 100000 in
theorem wse_X12_make : tbw (.selects RX12 (yy 291) (yy 291)) := wp0 242 (by decide +kernel) rfl
set_option maxRecDepth 100000 in
theorem wc_X12_cell : tbw (cwd 292) := wt0 2116 (by decide +kernel) rfl
set_option maxRecDepth 100000 in
theorem mw_X12_562 : clw RX12 292 562 3 (.methodLink RX12 562 (yy 292)) := ⟨rfl, wc_X12_cell, wi_SealedProcessesModel, ⟨by decide, by decide⟩, fun sig h => by cases h; rfl, by decide, wt0 2113 (by decide +kernel) rfl, Or.inl rfl⟩
set_option maxRecDepth 100000 in
theorem wm_X12_cell : tbw (.instanceMethod (yy 292)) := wt0 2115 (by decide +kernel) rfl
set_option maxRecDepth 100000 in
theorem wse_X12_cell : tbw (.selects RX12 (yy 292) (yy 292)) := wp0 245 (by decide +kernel) rfl
set_option maxRecDepth 100000 in
theorem wc_X12_isAt : tbw (cwd 313) := wt0 2120 (by decide +kernel) rfl
set_option maxRecDepth 100000 in
theorem mw_X12_565 : clw RX12 313 565 3 (.methodLink RX12 565 (yy 313)) := ⟨rfl, wc_X12_isAt, wi_SealedProcessesModel, ⟨by decide, by decide⟩, fun sig h => by cases h; rfl, by decide, wt0 2117 (by decide +kernel) rfl, Or.inl rfl⟩
set_option maxRecDepth 100000 in
theorem wm_X12_isAt : tbw (.instanceMethod (yy 313)) := wt0 2119 (by decide +kernel) rfl
set_option maxRecDepth 100000 in
theorem wse_X12_isAt : tbw (.selects RX12 (yy 313) (yy 313)) := wp0 246 (by decide +kernel) rfl
set_option maxRecDepth 100000 in
theorem wc_X12_call : tbw (cwd 314) := wt0 2124 (by decide +kernel) rfl
set_option maxRecDepth 100000 in
theorem mw_X12_568 : clw RX12 314 568 2 (.methodLink RX12 568 (yy 314)) := ⟨rfl, wc_X12_call, wi_SealedProcessesModel, ⟨by decide, by decide⟩, fun sig h => by cases h; rfl, by decide, wt0 2121 (by decide +kernel) rfl, Or.inl rfl⟩
set_option maxRecDepth 100000 in
theorem wm_X12_call : tbw (.instanceMethod (yy 314)) := wt0 2123 (by decide +kernel) rfl
set_option maxRecDepth 100000 in
theorem wse_X12_call : tbw (.selects RX12 (yy 314) (yy 314)) := wp0 247 (by decide +kernel) rfl
set_option maxRecDepth 100000 in
theorem wc_X12_back : tbw (cwd 315) := wt0 2128 (by decide +kernel) rfl
set_option maxRecDepth 100000 in
theorem mw_X12_571 : clw RX12 315 571 1 (.methodLink RX12 571 (yy 315)) := ⟨rfl, wc_X12_back, wi_SealedProcessesModel, ⟨by decide, by decide⟩, fun sig h => by cases h; rfl, by decide, wt0 2125 (by decide +kernel) rfl, Or.inl rfl⟩
set_option maxRecDepth 100000 in
theorem wm_X12_back : tbw (.instanceMethod (yy 315)) := wt0 2127 (by decide +kernel) rfl
set_option maxRecDepth 100000 in
theorem wse_X12_back : tbw (.selects RX12 (yy 315) (yy 315)) := wp0 248 (by decide +kernel) rfl
set_option maxRecDepth 100000 in
theorem wc_X12_makeBlock : tbw (cwd 317) := wt0 2136 (by decide +kernel) rfl
set_option maxRecDepth 100000 in
theorem mw_X12_574 : clw RX12 317 574 2 (.methodLink RX12 574 (yy 317)) := ⟨rfl, wc_X12_makeBlock, wi_SealedProcessesModel, ⟨by decide, by decide⟩, fun sig h => by cases h; rfl, by decide, wt0 2133 (by decide +kernel) rfl, Or.inl rfl⟩
set_option maxRecDepth 100000 in
theorem wm_X12_makeBlock : tbw (.instanceMethod (yy 317)) := wt0 2135 (by decide +kernel) rfl
set_option maxRecDepth 100000 in
theorem wse_X12_makeBlock : tbw (.selects RX12 (yy 317) (yy 317)) := wp0 250 (by decide +kernel) rfl
set_option maxRecDepth 100000 in
theorem wc_X12_channel : tbw (cwd 318) := wt0 2144 (by decide +kernel) rfl
set_option maxRecDepth 100000 in
theorem mw_X12_577 : clw RX12 318 577 2 (.methodLink RX12 577 (yy 318)) := ⟨rfl, wc_X12_channel, wi_SealedProcessesModel, ⟨by decide, by decide⟩, fun sig h => by cases h; rfl, by decide, wt0 2141 (by decide +kernel) rfl, Or.inl rfl⟩
set_option maxRecDepth 100000 in
theorem wm_X12_channel : tbw (.instanceMethod (yy 318)) := wt0 2143 (by decide +kernel) rfl
set_option maxRecDepth 100000 in
theorem wse_X12_channel : tbw (.selects RX12 (yy 318) (yy 318)) := wp0 252 (by decide +kernel) rfl
set_option maxRecDepth 100000 in
theorem wc_X12_send : tbw (cwd 319) := wt0 2152 (by decide +kernel) rfl
set_option maxRecDepth 100000 in
theorem mw_X12_580 : clw RX12 319 580 2 (.methodLink RX12 580 (yy 319)) := ⟨rfl, wc_X12_send, wi_SealedProcessesModel, ⟨by decide, by decide⟩, fun sig h => by cases h; rfl, by decide, wt0 2149 (by decide +kernel) rfl, Or.inl rfl⟩
set_option maxRecDepth 100000 in
theorem wm_X12_send : tbw (.instanceMethod (yy 319)) := wt0 2151 (by decide +kernel) rfl
set_option maxRecDepth 100000 in
theorem wse_X12_send : tbw (.selects RX12 (yy 319) (yy 319)) := wp0 254 (by decide +kernel) rfl
set_option maxRecDepth 100000 in
theorem wc_X12_receive : tbw (cwd 320) := wt0 2160 (by decide +kernel) rfl
set_option maxRecDepth 100000 in
theorem mw_X12_583 : clw RX12 320 583 2 (.methodLink RX12 583 (yy 320)) := ⟨rfl, wc_X12_receive, wi_SealedProcessesModel, ⟨by decide, by decide⟩, fun sig h => by cases h; rfl, by decide, wt0 2157 (by decide +kernel) rfl, Or.inl rfl⟩
set_option maxRecDepth 100000 in
theorem wm_X12_receive : tbw (.instanceMethod (yy 320)) := wt0 2159 (by decide +kernel) rfl
set_option maxRecDepth 100000 in
theorem wse_X12_receive : tbw (.selects RX12 (yy 320) (yy 320)) := wp0 256 (by decide +kernel) rfl
set_option maxRecDepth 100000 in
theorem wc_X12_spawn : tbw (cwd 321) := wt0 2164 (by decide +kernel) rfl
set_option maxRecDepth 100000 in
theorem mw_X12_586 : clw RX12 321 586 2 (.methodLink RX12 586 (yy 321)) := ⟨rfl, wc_X12_spawn, wi_SealedProcessesModel, ⟨by decide, by decide⟩, fun sig h => by cases h; rfl, by decide, wt0 2161 (by decide +kernel) rfl, Or.inl rfl⟩
set_option maxRecDepth 100000 in
theorem wm_X12_spawn : tbw (.instanceMethod (yy 321)) := wt0 2163 (by decide +kernel) rfl
set_option maxRecDepth 100000 in
theorem wse_X12_spawn : tbw (.selects RX12 (yy 321) (yy 321)) := wp0 257 (by decide +kernel) rfl
set_option maxRecDepth 100000 in
theorem wc_X12_blockCells : tbw (cwd 293) := wt0 2140 (by decide +kernel) rfl
set_option maxRecDepth 100000 in
theorem mw_X12_589 : clw RX12 293 589 0 (.methodLink RX12 589 (yy 293)) := ⟨rfl, wc_X12_blockCells, wi_SealedProcessesModel, ⟨by decide, by decide⟩, fun sig h => by cases h; rfl, by decide, wt0 2137 (by decide +kernel) rfl, Or.inl rfl⟩
set_option maxRecDepth 100000 in
theorem wm_X12_blockCells : tbw (.instanceMethod (yy 293)) := wt0 2139 (by decide +kernel) rfl
set_option maxRecDepth 100000 in
theorem wse_X12_blockCells : tbw (.selects RX12 (yy 293) (yy 293)) := wp0 251 (by decide +kernel) rfl
set_option maxRecDepth 100000 in
theorem wc_X12_isChannel : tbw (cwd 294) := wt0 2148 (by decide +kernel) rfl
set_option maxRecDepth 100000 in
theorem mw_X12_592 : clw RX12 294 592 1 (.methodLink RX12 592 (yy 294)) := ⟨rfl, wc_X12_isChannel, wi_SealedProcessesModel, ⟨by decide, by decide⟩, fun sig h => by cases h; rfl, by decide, wt0 2145 (by decide +kernel) rfl, Or.inl rfl⟩
set_option maxRecDepth 100000 in
theorem wm_X12_isChannel : tbw (.instanceMethod (yy 294)) := wt0 2147 (by decide +kernel) rfl
set_option maxRecDepth 100000 in
theorem wse_X12_isChannel : tbw (.selects RX12 (yy 294) (yy 294)) := wp0 253 (by decide +kernel) rfl
set_option maxRecDepth 100000 in
theorem wc_X12_own : tbw (cwd 297) := wt0 2156 (by decide +kernel) rfl
set_option maxRecDepth 100000 in
theorem mw_X12_595 : clw RX12 297 595 3 (.methodLink RX12 595 (yy 297)) := ⟨rfl, wc_X12_own, wi_SealedProcessesModel, ⟨by decide, by decide⟩, fun sig h => by cases h; rfl, by decide, wt0 2153 (by decide +kernel) rfl, Or.inl rfl⟩
set_option maxRecDepth 100000 in
theorem wm_X12_own : tbw (.instanceMethod (yy 297)) := wt0 2155 (by decide +kernel) rfl
set_option maxRecDepth 100000 in
theorem wse_X12_own : tbw (.selects RX12 (yy 297) (yy 297)) := wp0 255 (by decide +kernel) rfl
set_option maxRecDepth 100000 in
theorem wk_X12_600 : tbw (.constant RX12 600 (Int32.ofInt (-2147483648))) := wt0 2181 (by decide +kernel) rfl
set_option maxRecDepth 100000 in
theorem wl_L_7 : tbw (.classLink RL 7 RX11) := wt0 20 (by decide +kernel) rfl
set_option maxRecDepth 100000 in
theorem wn_X11 : tbw (.instantiable RX11 9) := wt0 21 (by decide +kernel) rfl
set_option maxRecDepth 100000 in
theorem wc_X11_init : tbw (cwd 185) := wt0 24 (by decide +kernel) rfl
set_option maxRecDepth 100000 in
theorem mw_L_9 : clw RL 185 9 0 (.methodLink RL 9 (yy 185)) := ⟨rfl, wc_X11_init, wi_SealedProcesses, ⟨by decide, by decide⟩, fun sig h => by cases h; rfl, by decide, wt0 22 (by decide +kernel) rfl, Or.inl rfl⟩
set_option maxRecDepth 100000 in
theorem wm_X11_init : tbw (.instanceMethod (yy 185)) := wt0 23 (by decide +kernel) rfl
set_option maxRecDepth 100000 in
theorem wl_L_10 : tbw (.classLink RL 10 RX12) := wt0 1419 (by decide +kernel) rfl
set_option maxRecDepth 100000 in
theorem wn_X12 : tbw (.instantiable RX12 90) := wt0 1420 (by decide +kernel) rfl
set_option maxRecDepth 100000 in
theorem wc_X12_init : tbw (cwd 216) := wt0 1423 (by decide +kernel) rfl
set_option maxRecDepth 100000 in
theorem mw_L_12 : clw RL 216 12 0 (.methodLink RL 12 (yy 216)) := ⟨rfl, wc_X12_init, wi_SealedProcessesModel, ⟨by decide, by decide⟩, fun sig h => by cases h; rfl, by decide, wt0 1421 (by decide +kernel) rfl, Or.inl rfl⟩
set_option maxRecDepth 100000 in
theorem wm_X12_init : tbw (.instanceMethod (yy 216)) := wt0 1422 (by decide +kernel) rfl
set_option maxRecDepth 100000 in
theorem wc_X11_feed : tbw (cwd 186) := wt0 323 (by decide +kernel) rfl
set_option maxRecDepth 100000 in
theorem mw_L_13 : clw RL 186 13 5 (.methodLink RL 13 (yy 186)) := ⟨rfl, wc_X11_feed, wi_SealedProcesses, ⟨by decide, by decide⟩, fun sig h => by cases h; rfl, by decide, wt0 320 (by decide +kernel) rfl, Or.inl rfl⟩
set_option maxRecDepth 100000 in
theorem wm_X11_feed : tbw (.instanceMethod (yy 186)) := wt0 321 (by decide +kernel) rfl
set_option maxRecDepth 100000 in
theorem wse_X11_feed : tbw (.selects RX11 (yy 186) (yy 186)) := wt0 322 (by decide +kernel) rfl
set_option maxRecDepth 100000 in
theorem wc_X12_feed : tbw (cwd 217) := wt0 1761 (by decide +kernel) rfl
set_option maxRecDepth 100000 in
theorem mw_L_17 : clw RL 217 17 5 (.methodLink RL 17 (yy 217)) := ⟨rfl, wc_X12_feed, wi_SealedProcessesModel, ⟨by decide, by decide⟩, fun sig h => by cases h; rfl, by decide, wt0 1758 (by decide +kernel) rfl, Or.inl rfl⟩
set_option maxRecDepth 100000 in
theorem wm_X12_feed : tbw (.instanceMethod (yy 217)) := wt0 1759 (by decide +kernel) rfl
set_option maxRecDepth 100000 in
theorem wse_X12_feed : tbw (.selects RX12 (yy 217) (yy 217)) := wt0 1760 (by decide +kernel) rfl
set_option maxRecDepth 100000 in
theorem wc_X11_load : tbw (cwd 187) := wt0 331 (by decide +kernel) rfl
set_option maxRecDepth 100000 in
theorem mw_L_18 : clw RL 187 18 1 (.methodLink RL 18 (yy 187)) := ⟨rfl, wc_X11_load, wi_SealedProcesses, ⟨by decide, by decide⟩, fun sig h => by cases h; rfl, by decide, wt0 328 (by decide +kernel) rfl, Or.inl rfl⟩
set_option maxRecDepth 100000 in
theorem wm_X11_load : tbw (.instanceMethod (yy 187)) := wt0 329 (by decide +kernel) rfl
set_option maxRecDepth 100000 in
theorem wse_X11_load : tbw (.selects RX11 (yy 187) (yy 187)) := wt0 330 (by decide +kernel) rfl
set_option maxRecDepth 100000 in
theorem wc_X12_load : tbw (cwd 264) := wt0 1769 (by decide +kernel) rfl
set_option maxRecDepth 100000 in
theorem wq_L_22 : tbw (.methodLink RL 22 (yy 264)) := wt0 1766 (by decide +kernel) rfl
set_option maxRecDepth 100000 in
theorem wm_X12_load : tbw (.instanceMethod (yy 264)) := wt0 1767 (by decide +kernel) rfl
set_option maxRecDepth 100000 in
theorem wse_X12_load : tbw (.selects RX12 (yy 264) (yy 264)) := wt0 1768 (by decide +kernel) rfl
set_option maxRecDepth 100000 in
theorem wc_X11_fault : tbw (cwd 188) := wt0 813 (by decide +kernel) rfl
set_option maxRecDepth 100000 in
theorem mw_L_23 : clw RL 188 23 1 (.methodLink RL 23 (yy 188)) := ⟨rfl, wc_X11_fault, wi_SealedProcesses, ⟨by decide, by decide⟩, fun sig h => by cases h; rfl, by decide, wt0 810 (by decide +kernel) rfl, Or.inl rfl⟩
set_option maxRecDepth 100000 in
theorem wm_X11_fault : tbw (.instanceMethod (yy 188)) := wt0 811 (by decide +kernel) rfl
set_option maxRecDepth 100000 in
theorem wse_X11_fault : tbw (.selects RX11 (yy 188) (yy 188)) := wt0 812 (by decide +kernel) rfl
set_option maxRecDepth 100000 in
theorem wc_X12_fault : tbw (cwd 219) := wt0 1765 (by decide +kernel) rfl
set_option maxRecDepth 100000 in
theorem mw_L_26 : clw RL 219 26 1 (.methodLink RL 26 (yy 219)) := ⟨rfl, wc_X12_fault, wi_SealedProcessesModel, ⟨by decide, by decide⟩, fun sig h => by cases h; rfl, by decide, wt0 1762 (by decide +kernel) rfl, Or.inl rfl⟩
set_option maxRecDepth 100000 in
theorem wm_X12_fault : tbw (.instanceMethod (yy 219)) := wt0 1763 (by decide +kernel) rfl
set_option maxRecDepth 100000 in
theorem wse_X12_fault : tbw (.selects RX12 (yy 219) (yy 219)) := wt0 1764 (by decide +kernel) rfl
set_option maxRecDepth 100000 in
theorem wc_X11_discard : tbw (cwd 189) := wt0 817 (by decide +kernel) rfl
set_option maxRecDepth 100000 in
theorem mw_L_27 : clw RL 189 27 1 (.methodLink RL 27 (yy 189)) := ⟨rfl, wc_X11_discard, wi_SealedProcesses, ⟨by decide, by decide⟩, fun sig h => by cases h; rfl, by decide, wt0 814 (by decide +kernel) rfl, Or.inl rfl⟩
set_option maxRecDepth 100000 in
theorem wm_X11_discard : tbw (.instanceMethod (yy 189)) := wt0 815 (by decide +kernel) rfl
set_option maxRecDepth 100000 in
theorem wse_X11_discard : tbw (.selects RX11 (yy 189) (yy 189)) := wt0 816 (by decide +kernel) rfl
set_option maxRecDepth 100000 in
theorem wc_X12_discard : tbw (cwd 269) := wt0 1957 (by decide +kernel) rfl
set_option maxRecDepth 100000 in
theorem mw_L_31 : clw RL 269 31 1 (.methodLink RL 31 (yy 269)) := ⟨rfl, wc_X12_discard, wi_SealedProcessesModel, ⟨by decide, by decide⟩, fun sig h => by cases h; rfl, by decide, wt0 1954 (by decide +kernel) rfl, Or.inl rfl⟩
set_option maxRecDepth 100000 in
theorem wm_X12_discard : tbw (.instanceMethod (yy 269)) := wt0 1955 (by decide +kernel) rfl
set_option maxRecDepth 100000 in
theorem wse_X12_discard : tbw (.selects RX12 (yy 269) (yy 269)) := wt0 1956 (by decide +kernel) rfl
set_option maxRecDepth 100000 in
theorem wc_X11_module : tbw (cwd 190) := wt0 825 (by decide +kernel) rfl
set_option maxRecDepth 100000 in
theorem mw_L_32 : clw RL 190 32 3 (.methodLink RL 32 (yy 190)) := ⟨rfl, wc_X11_module, wi_SealedProcesses, ⟨by decide, by decide⟩, fun sig h => by cases h; rfl, by decide, wt0 822 (by decide +kernel) rfl, Or.inl rfl⟩
set_option maxRecDepth 100000 in
theorem wm_X11_module : tbw (.instanceMethod (yy 190)) := wt0 823 (by decide +kernel) rfl
set_option maxRecDepth 100000 in
theorem wse_X11_module : tbw (.selects RX11 (yy 190) (yy 190)) := wt0 824 (by decide +kernel) rfl
set_option maxRecDepth 100000 in
theorem wc_X12_module_ : tbw (cwd 270) := wt0 1965 (by decide +kernel) rfl
set_option maxRecDepth 100000 in
theorem mw_L_36 : clw RL 270 36 3 (.methodLink RL 36 (yy 270)) := ⟨rfl, wc_X12_module_, wi_SealedProcessesModel, ⟨by decide, by decide⟩, fun sig h => by cases h; rfl, by decide, wt0 1962 (by decide +kernel) rfl, Or.inl rfl⟩
set_option maxRecDepth 100000 in
theorem wm_X12_module_ : tbw (.instanceMethod (yy 270)) := wt0 1963 (by decide +kernel) rfl
set_option maxRecDepth 100000 in
theorem wse_X12_module_ : tbw (.selects RX12 (yy 270) (yy 270)) := wt0 1964 (by decide +kernel) rfl
set_option maxRecDepth 100000 in
theorem wc_X11_typeAt : tbw (cwd 191) := wt0 833 (by decide +kernel) rfl
set_option maxRecDepth 100000 in
theorem mw_L_37 : clw RL 191 37 5 (.methodLink RL 37 (yy 191)) := ⟨rfl, wc_X11_typeAt, wi_SealedProcesses, ⟨by decide, by decide⟩, fun sig h => by cases h; rfl, by decide, wt0 830 (by decide +kernel) rfl, Or.inl rfl⟩
set_option maxRecDepth 100000 in
theorem wm_X11_typeAt : tbw (.instanceMethod (yy 191)) := wt0 831 (by decide +kernel) rfl
set_option maxRecDepth 100000 in
theorem wse_X11_typeAt : tbw (.selects RX11 (yy 191) (yy 191)) := wt0 832 (by decide +kernel) rfl
set_option maxRecDepth 100000 in
theorem wc_X12_typeAt : tbw (cwd 272) := wt0 1974 (by decide +kernel) rfl
set_option maxRecDepth 100000 in
theorem mw_L_40 : clw RL 272 40 5 (.methodLink RL 40 (yy 272)) := ⟨rfl, wc_X12_typeAt, wi_SealedProcessesModel, ⟨by decide, by decide⟩, fun sig h => by cases h; rfl, by decide, wt0 1971 (by decide +kernel) rfl, Or.inl rfl⟩
set_option maxRecDepth 100000 in
theorem wm_X12_typeAt : tbw (.instanceMethod (yy 272)) := wt0 1972 (by decide +kernel) rfl
set_option maxRecDepth 100000 in
theorem wse_X12_typeAt : tbw (.selects RX12 (yy 272) (yy 272)) := wt0 1973 (by decide +kernel) rfl
set_option maxRecDepth 100000 in
theorem wc_X11_boot : tbw (cwd 192) := wt0 839 (by decide +kernel) rfl
set_option maxRecDepth 100000 in
theorem mw_L_41 : clw RL 192 41 1 (.methodLink RL 41 (yy 192)) := ⟨rfl, wc_X11_boot, wi_SealedProcesses, ⟨by decide, by decide⟩, fun sig h => by cases h; rfl, by decide, wt0 836 (by decide +kernel) rfl, Or.inl rfl⟩
set_option maxRecDepth 100000 in
theorem wm_X11_boot : tbw (.instanceMethod (yy 192)) := wt0 837 (by decide +kernel) rfl
set_option maxRecDepth 100000 in
theorem wse_X11_boot : tbw (.selects RX11 (yy 192) (yy 192)) := wt0 838 (by decide +kernel) rfl
set_option maxRecDepth 100000 in
theorem wc_X12_boot : tbw (cwd 278) := wt0 1978 (by decide +kernel) rfl
set_option maxRecDepth 100000 in
theorem wq_L_44 : tbw (.methodLink RL 44 (yy 278)) := wt0 1975 (by decide +kernel) rfl
set_option maxRecDepth 100000 in
theorem wm_X12_boot : tbw (.instanceMethod (yy 278)) := wt0 1976 (by decide +kernel) rfl
set_option maxRecDepth 100000 in
theorem wse_X12_boot : tbw (.selects RX12 (yy 278) (yy 278)) := wt0 1977 (by decide +kernel) rfl
set_option maxRecDepth 100000 in
theorem wc_X11_run : tbw (cwd 193) := wt0 1022 (by decide +kernel) rfl
set_option maxRecDepth 100000 in
theorem mw_L_45 : clw RL 193 45 1 (.methodLink RL 45 (yy 193)) := ⟨rfl, wc_X11_run, wi_SealedProcesses, ⟨by decide, by decide⟩, fun sig h => by cases h; rfl, by decide, wt0 1019 (by decide +kernel) rfl, Or.inl rfl⟩
set_option maxRecDepth 100000 in
theorem wm_X11_run : tbw (.instanceMethod (yy 193)) := wt0 1020 (by decide +kernel) rfl
set_option maxRecDepth 100000 in
theorem wse_X11_run : tbw (.selects RX11 (yy 193) (yy 193)) := wt0 1021 (by decide +kernel) rfl
set_option maxRecDepth 100000 in
theorem wc_X12_run : tbw (cwd 299) := wt0 2021 (by decide +kernel) rfl
set_option maxRecDepth 100000 in
theorem mw_L_48 : clw RL 299 48 1 (.methodLink RL 48 (yy 299)) := ⟨rfl, wc_X12_run, wi_SealedProcessesModel, ⟨by decide, by decide⟩, fun sig h => by cases h; rfl, by decide, wt0 2018 (by decide +kernel) rfl, Or.inl rfl⟩
set_option maxRecDepth 100000 in
theorem wm_X12_run : tbw (.instanceMethod (yy 299)) := wt0 2019 (by decide +kernel) rfl
set_option maxRecDepth 100000 in
theorem wse_X12_run : tbw (.selects RX12 (yy 299) (yy 299)) := wt0 2020 (by decide +kernel) rfl
set_option maxRecDepth 100000 in
theorem wc_X11_about : tbw (cwd 194) := wt0 1344 (by decide +kernel) rfl
set_option maxRecDepth 100000 in
theorem mw_L_49 : clw RL 194 49 1 (.methodLink RL 49 (yy 194)) := ⟨rfl, wc_X11_about, wi_SealedProcesses, ⟨by decide, by decide⟩, fun sig h => by cases h; rfl, by decide, wt0 1341 (by decide +kernel) rfl, Or.inl rfl⟩
set_option maxRecDepth 100000 in
theorem wm_X11_about : tbw (.instanceMethod (yy 194)) := wt0 1342 (by decide +kernel) rfl
set_option maxRecDepth 100000 in
theorem wse_X11_about : tbw (.selects RX11 (yy 194) (yy 194)) := wt0 1343 (by decide +kernel) rfl
set_option maxRecDepth 100000 in
theorem wc_X12_about : tbw (cwd 322) := wt0 2172 (by decide +kernel) rfl
set_option maxRecDepth 100000 in
theorem mw_L_52 : clw RL 322 52 1 (.methodLink RL 52 (yy 322)) := ⟨rfl, wc_X12_about, wi_SealedProcessesModel, ⟨by decide, by decide⟩, fun sig h => by cases h; rfl, by decide, wt0 2169 (by decide +kernel) rfl, Or.inl rfl⟩
set_option maxRecDepth 100000 in
theorem wm_X12_about : tbw (.instanceMethod (yy 322)) := wt0 2170 (by decide +kernel) rfl
set_option maxRecDepth 100000 in
theorem wse_X12_about : tbw (.selects RX12 (yy 322) (yy 322)) := wt0 2171 (by decide +kernel) rfl
set_option maxRecDepth 100000 in
theorem wc_X11_process : tbw (cwd 195) := wt0 1360 (by decide +kernel) rfl
set_option maxRecDepth 100000 in
theorem mw_L_53 : clw RL 195 53 2 (.methodLink RL 53 (yy 195)) := ⟨rfl, wc_X11_process, wi_SealedProcesses, ⟨by decide, by decide⟩, fun sig h => by cases h; rfl, by decide, wt0 1357 (by decide +kernel) rfl, Or.inl rfl⟩
set_option maxRecDepth 100000 in
theorem wm_X11_process : tbw (.instanceMethod (yy 195)) := wt0 1358 (by decide +kernel) rfl
set_option maxRecDepth 100000 in
theorem wse_X11_process : tbw (.selects RX11 (yy 195) (yy 195)) := wt0 1359 (by decide +kernel) rfl
set_option maxRecDepth 100000 in
theorem wc_X12_process : tbw (cwd 323) := wt0 2176 (by decide +kernel) rfl
set_option maxRecDepth 100000 in
theorem mw_L_57 : clw RL 323 57 2 (.methodLink RL 57 (yy 323)) := ⟨rfl, wc_X12_process, wi_SealedProcessesModel, ⟨by decide, by decide⟩, fun sig h => by cases h; rfl, by decide, wt0 2173 (by decide +kernel) rfl, Or.inl rfl⟩
set_option maxRecDepth 100000 in
theorem wm_X12_process : tbw (.instanceMethod (yy 323)) := wt0 2174 (by decide +kernel) rfl
set_option maxRecDepth 100000 in
theorem wse_X12_process : tbw (.selects RX12 (yy 323) (yy 323)) := wt0 2175 (by decide +kernel) rfl
set_option maxRecDepth 100000 in
theorem wc_X11_value : tbw (cwd 196) := wt0 1380 (by decide +kernel) rfl
set_option maxRecDepth 100000 in
theorem mw_L_58 : clw RL 196 58 3 (.methodLink RL 58 (yy 196)) := ⟨rfl, wc_X11_value, wi_SealedProcesses, ⟨by decide, by decide⟩, fun sig h => by cases h; rfl, by decide, wt0 1377 (by decide +kernel) rfl, Or.inl rfl⟩
set_option maxRecDepth 100000 in
theorem wm_X11_value : tbw (.instanceMethod (yy 196)) := wt0 1378 (by decide +kernel) rfl
set_option maxRecDepth 100000 in
theorem wse_X11_value : tbw (.selects RX11 (yy 196) (yy 196)) := wt0 1379 (by decide +kernel) rfl
set_option maxRecDepth 100000 in
theorem wc_X12_value : tbw (cwd 324) := wt0 2180 (by decide +kernel) rfl
set_option maxRecDepth 100000 in
theorem mw_L_61 : clw RL 324 61 3 (.methodLink RL 61 (yy 324)) := ⟨rfl, wc_X12_value, wi_SealedProcessesModel, ⟨by decide, by decide⟩, fun sig h => by cases h; rfl, by decide, wt0 2177 (by decide +kernel) rfl, Or.inl rfl⟩
set_option maxRecDepth 100000 in
theorem wm_X12_value : tbw (.instanceMethod (yy 324)) := wt0 2178 (by decide +kernel) rfl
set_option maxRecDepth 100000 in
theorem wse_X12_value : tbw (.selects RX12 (yy 324) (yy 324)) := wt0 2179 (by decide +kernel) rfl
set_option maxRecDepth 100000 in
theorem wc_X11_block : tbw (cwd 197) := wt0 1394 (by decide +kernel) rfl
set_option maxRecDepth 100000 in
theorem mw_L_62 : clw RL 197 62 2 (.methodLink RL 62 (yy 197)) := ⟨rfl, wc_X11_block, wi_SealedProcesses, ⟨by decide, by decide⟩, fun sig h => by cases h; rfl, by decide, wt0 1391 (by decide +kernel) rfl, Or.inl rfl⟩
set_option maxRecDepth 100000 in
theorem wm_X11_block : tbw (.instanceMethod (yy 197)) := wt0 1392 (by decide +kernel) rfl
set_option maxRecDepth 100000 in
theorem wse_X11_block : tbw (.selects RX11 (yy 197) (yy 197)) := wt0 1393 (by decide +kernel) rfl
set_option maxRecDepth 100000 in
theorem wc_X12_block : tbw (cwd 325) := wt0 2185 (by decide +kernel) rfl
set_option maxRecDepth 100000 in
theorem mw_L_65 : clw RL 325 65 2 (.methodLink RL 65 (yy 325)) := ⟨rfl, wc_X12_block, wi_SealedProcessesModel, ⟨by decide, by decide⟩, fun sig h => by cases h; rfl, by decide, wt0 2182 (by decide +kernel) rfl, Or.inl rfl⟩
set_option maxRecDepth 100000 in
theorem wm_X12_block : tbw (.instanceMethod (yy 325)) := wt0 2183 (by decide +kernel) rfl
set_option maxRecDepth 100000 in
theorem wse_X12_block : tbw (.selects RX12 (yy 325) (yy 325)) := wt0 2184 (by decide +kernel) rfl
set_option maxRecDepth 100000 in
theorem wc_X11_channel : tbw (cwd 198) := wt0 1404 (by decide +kernel) rfl
set_option maxRecDepth 100000 in
theorem mw_L_66 : clw RL 198 66 3 (.methodLink RL 66 (yy 198)) := ⟨rfl, wc_X11_channel, wi_SealedProcesses, ⟨by decide, by decide⟩, fun sig h => by cases h; rfl, by decide, wt0 1401 (by decide +kernel) rfl, Or.inl rfl⟩
set_option maxRecDepth 100000 in
theorem wm_X11_channel : tbw (.instanceMethod (yy 198)) := wt0 1402 (by decide +kernel) rfl
set_option maxRecDepth 100000 in
theorem wse_X11_channel : tbw (.selects RX11 (yy 198) (yy 198)) := wt0 1403 (by decide +kernel) rfl
set_option maxRecDepth 100000 in
theorem wc_X12_channel_ : tbw (cwd 326) := wt0 2189 (by decide +kernel) rfl
set_option maxRecDepth 100000 in
theorem mw_L_69 : clw RL 326 69 3 (.methodLink RL 69 (yy 326)) := ⟨rfl, wc_X12_channel_, wi_SealedProcessesModel, ⟨by decide, by decide⟩, fun sig h => by cases h; rfl, by decide, wt0 2186 (by decide +kernel) rfl, Or.inl rfl⟩
set_option maxRecDepth 100000 in
theorem wm_X12_channel_ : tbw (.instanceMethod (yy 326)) := wt0 2187 (by decide +kernel) rfl
set_option maxRecDepth 100000 in
theorem wse_X12_channel_ : tbw (.selects RX12 (yy 326) (yy 326)) := wt0 2188 (by decide +kernel) rfl
set_option maxRecDepth 100000 in
theorem wc_X11_output : tbw (cwd 199) := wt0 1418 (by decide +kernel) rfl
set_option maxRecDepth 100000 in
theorem mw_L_70 : clw RL 199 70 2 (.methodLink RL 70 (yy 199)) := ⟨rfl, wc_X11_output, wi_SealedProcesses, ⟨by decide, by decide⟩, fun sig h => by cases h; rfl, by decide, wt0 1415 (by decide +kernel) rfl, Or.inl rfl⟩
set_option maxRecDepth 100000 in
theorem wm_X11_output : tbw (.instanceMethod (yy 199)) := wt0 1416 (by decide +kernel) rfl
set_option maxRecDepth 100000 in
theorem wse_X11_output : tbw (.selects RX11 (yy 199) (yy 199)) := wt0 1417 (by decide +kernel) rfl
set_option maxRecDepth 100000 in
theorem wc_X12_output : tbw (cwd 327) := wt0 2193 (by decide +kernel) rfl
set_option maxRecDepth 100000 in
theorem mw_L_73 : clw RL 327 73 2 (.methodLink RL 73 (yy 327)) := ⟨rfl, wc_X12_output, wi_SealedProcessesModel, ⟨by decide, by decide⟩, fun sig h => by cases h; rfl, by decide, wt0 2190 (by decide +kernel) rfl, Or.inl rfl⟩
set_option maxRecDepth 100000 in
theorem wm_X12_output : tbw (.instanceMethod (yy 327)) := wt0 2191 (by decide +kernel) rfl
set_option maxRecDepth 100000 in
theorem wse_X12_output : tbw (.selects RX12 (yy 327) (yy 327)) := wt0 2192 (by decide +kernel) rfl
